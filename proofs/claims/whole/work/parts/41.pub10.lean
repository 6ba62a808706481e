def plF (bk : Nat → Option Nat) (rw : Nat → sRw) (bd b wy fr n : Int32) : Int32 := match bk b.toNatClampNeg with | none => -5 | some r => sInto (rw r).1 (rw r).2.1 bd wy fr n
abbrev vWy (nf : Nat) (wy f : Int32) : Prop := wy = 0 ∨ wy = 1 ∨ (wy = 2 ∧ vI nf f)
abbrev vPl (nn nf : Nat) (i wy f b : Int32) : Prop := vI nn i ∧ vWy nf wy f ∧ vB b
def plFu (fn : Nat → Int32 × Int32) (wy f : Int32) : fuT := if wy = 2 then some ((fn f.toNatClampNeg).1, FP.i2d (fn f.toNatClampNeg).2) else none
def plGo (ins : Nat → sIn) (rw : Nat → sRw) (fu : fuT) (j k : Nat) : Int32 × Nat := match ins j with | (ci, kf, pi, on, ph, le, tb) => sGo ci kf pi on (tb.map rw) ph le fu 0 k
def plIns (ins : Nat → sIn) (rw : Nat → sRw) (fu : fuT) (j k : Nat) : Nat → sIn := match ins j with | (ci, kf, pi, on, ph, le, tb) => va_up ins j (ci, kf, pi, on, (sSt ci kf pi on (tb.map rw) ph le (plGo ins rw fu j k).2).1, (sSt ci kf pi on (tb.map rw) ph le (plGo ins rw fu j k).2).2, tb)
def plSm (ins : Nat → sIn) (rw : Nat → sRw) (fu : fuT) (j q : Nat) : UInt64 := match ins j with | (ci, kf, pi, on, ph, le, tb) => psO fu (sSm ci kf pi on (tb.map rw) ph le q).2.1
def plRw (ins : Nat → sIn) (bk : Nat → Option Nat) (rw : Nat → sRw) (fu : fuT) (j k a jb : Nat) : Nat → sRw := match bk jb with | none => rw | some r => va_up rw r ((rw r).1, (rw r).2.1, dlv (rw r).2.2 a (fun q => sTurn (rw r).1 (if (plGo ins rw fu j k).1 = 0 then plSm ins rw fu j q else FP.dconst0)) k)
def aPlay (σ : Sg) (i wy f b fr n : Int32) : Int32 := match σ with | (nn, ins, nf, fn, bk, rw, bd, _) => if vPl nn nf i wy f b then (if plF bk rw bd b wy fr n = 0 then (if (plGo ins rw (plFu fn wy f) i.toNatClampNeg n.toNatClampNeg).1 = 0 then n else (plGo ins rw (plFu fn wy f) i.toNatClampNeg n.toNatClampNeg).1) else plF bk rw bd b wy fr n) else -1
def nPlay (σ : Sg) (i wy f b fr n : Int32) : Sg := match σ with | (nn, ins, nf, fn, bk, rw, bd, st, c2, c3, c4) => if vPl nn nf i wy f b then (if plF bk rw bd b wy fr n = 0 then (nn, plIns ins rw (plFu fn wy f) i.toNatClampNeg n.toNatClampNeg, nf, fn, bk, plRw ins bk rw (plFu fn wy f) i.toNatClampNeg n.toNatClampNeg fr.toNatClampNeg b.toNatClampNeg, bd, (plGo ins rw (plFu fn wy f) i.toNatClampNeg n.toNatClampNeg).1, (if (plGo ins rw (plFu fn wy f) i.toNatClampNeg n.toNatClampNeg).1 = 0 then c2 + 1 else c2), (if (plGo ins rw (plFu fn wy f) i.toNatClampNeg n.toNatClampNeg).1 = 0 then c3 else c3 + 1), c4 + nI (plGo ins rw (plFu fn wy f) i.toNatClampNeg n.toNatClampNeg).2) else (nn, ins, nf, fn, bk, rw, bd, plF bk rw bd b wy fr n, c2, c3 + 1, c4)) else (nn, ins, nf, fn, bk, rw, bd, -1, c2, c3, c4)
theorem sInto_0 {lane : Int32} {n : Nat} {bd wy fr k : Int32} (h : sInto lane n bd wy fr k = 0) : spn n fr k := by
  unfold sInto at h
  split at h
  · exact absurd h (by decide)
  · split at h
    · exact absurd h (by decide)
    · split at h
      · assumption
      · exact absurd h (by decide)
theorem plF_n {bk : Nat → Option Nat} {rw : Nat → sRw} {bd b wy fr n : Int32} {j : Nat} (hj : b.toNatClampNeg = j) (h : bk j = none) : plF bk rw bd b wy fr n = -5 := by
  unfold plF
  rw [hj, h]
theorem plF_s {bk : Nat → Option Nat} {rw : Nat → sRw} {bd b wy fr n lane : Int32} {j r m : Nat} {g : Nat → UInt64} (hj : b.toNatClampNeg = j) (h : bk j = some r) (hr : rw r = (lane, m, g)) : plF bk rw bd b wy fr n = sInto lane m bd wy fr n := by
  unfold plF
  rw [hj, h]
  show sInto (rw r).1 (rw r).2.1 bd wy fr n = _
  rw [hr]
theorem hA4_of {E : mEnv} {M : mMem} {nn j : Nat} {ins : Nat → sIn} {bk : Nat → Option Nat} {rw : Nat → sRw} {LV : Nat → Prop} {ra rb : Nat → Nat} {a4 : Nat} {tb : Option Nat} (hL : ∀ r, live nn ins bk r → LV r) (hR : pRow E M LV rw ra rb a4) (hj : j < nn) (ht : (ins j).2.2.2.2.2.2 = tb) : ∀ (t : Nat) (v : Int32 × Nat), tb.map ra = some t → M t = some (mO 5 [.int v.1, .ref v.2]) → v.2 ≠ a4 := by
  intro t v h1 h2
  cases tb with
  | none => cases h1
  | some r =>
    obtain ⟨k1, _, k3⟩ := hR r (hL r (Or.inr ⟨j, hj, ht⟩)) _ _ _ rfl
    have h1 : ra r = t := Option.some.inj h1
    rw [h1] at k1
    have := Option.some.inj (k1.symm.trans h2)
    simp at this
    rw [← this.2]
    exact k3
theorem in_X9_play_X9 : ∀ w ∈ wsX90, w ∈ wsX9_play := by decide +kernel
set_option maxHeartbeats 4000000 in
set_option maxRecDepth 100000 in
theorem c_X9_play (l : Launch) (E : mEnv) (M : mMem) (sz : Nat) (NO : Nat → Prop) (x nn nf : Nat) (ins : Nat → sIn) (fn : Nat → Int32 × Int32) (bk : Nat → Option Nat) (rw : Nat → sRw) (bd st c2 c3 c4 : Int32) (hV : Inv (nn, ins, nf, fn, bk, rw, bd, st, c2, c3, c4)) (hC : cRep E M NO x (nn, ins, nf, fn, bk, rw, bd, st, c2, c3, c4)) (hO : ∀ q, NO q → M q ≠ none) (i wy f b fr n : Int32)    : Met l yX9_play wsX9_play ({ frames := 5, cells := 0, slots := 0, locals := 114 }) (mPre E M sz [.ref x, .int i, .int wy, .int f, .int b, .int fr, .int n]) (mQi E M sz (fun r u => r = aPlay (nn, ins, nf, fn, bk, rw, bd, st, c2, c3, c4) i wy f b fr n ∧ cRep E u NO x (nPlay (nn, ins, nf, fn, bk, rw, bd, st, c2, c3, c4) i wy f b fr n) ∧ kept NO M u)) (0) (0) (mA M sz) := by
  refine m_met [.ref x, .int i, .int wy, .int f, .int b, .int fr, .int n] (by decide) rfl (Nat.le_of_ble_eq_true rfl) ?_
  intro p e s m below meth c ls H eH hx hb hr hts hown hlocks hnm hml hsz hE hM hS hA hl
  have hl : lv_has ls 12 [(0, .ref x), (1, .int i), (2, .int wy), (3, .int f), (4, .int b), (5, .int fr), (6, .int n)] := hl
  obtain ⟨a1, a2, a3, a4, fi, fb, ff, wt, ia, ib, fa, ra, rb, fl, LV, hC⟩ := hC
  have hC0 := hC.rep
  have hiK := hV.insK
  obtain ⟨hnn, hnf, hvI, hvD, hv24, hvR, hvF⟩ := id hV
  obtain ⟨⟨g_x, g_a1, g_a2, g_a3, g_a4⟩, hI, hF, hB, hL, hR, hJ, hN⟩ := id hC
  obtain ⟨⟨nx, n1, n2, n3, n4⟩, nI0, nF0, nR0⟩ := id hN
  have g_a20 := g_a2
  refine lv_aload_n hx hb dX9_play_0 rfl (lv_at hl 0 rfl) ?_
  refine lv_iload_n hx hb dX9_play_1 rfl (lv_at hl 1 rfl) ?_
  refine m_callq (va_runV (As := [.int i]) (rest := []) ⟨hx, hb, hml, hown, hts⟩ (c_X9_instrumentAt l E M H.size x a1 a2 a3 a4 nn nf bd st c2 c3 c4 fi fb ff wt i hnn g_x g_a1) (cwV 1 hts gX9_play_X9_instrumentAt rfl rfl rfl (by decide +kernel) ⟨Nat.le_of_ble_eq_true rfl, Nat.le_of_ble_eq_true rfl⟩) (m_preV hE hM g_x rfl) rfl rfl hl.1 rfl (lv_room (Nat.le_of_ble_eq_true rfl)) dX9_play_2 ⟨Nat.le_of_ble_eq_true rfl, Nat.le_of_ble_eq_true rfl⟩) hM hS hA (fun r1 u H locs hw hM hS => ?_)
  obtain ⟨e_r1, eu⟩ := hw
  rw [eu] at hM
  by_cases hv : ¬ i < 0 ∧ ¬ nI nn ≤ i
  · rw [if_pos hv] at e_r1
    obtain ⟨j, hj, hij, hjc⟩ := vI_ix hv hnn
    rw [hjc] at e_r1
    rcases hins : ins j with ⟨ci, kf, pi, on, ph, le, tb⟩
    obtain ⟨k1, g_p0, g_q0⟩ := hI j hj _ _ _ _ _ _ _ hins
    obtain ⟨hci, hle, hon⟩ := hvI j hj _ _ _ _ _ _ _ hins
    have hno := nI0 j hj
    obtain ⟨p0, ep0⟩ : ∃ z, z = ia j := ⟨_, rfl⟩
    obtain ⟨q0, eq0⟩ : ∃ z, z = ib j := ⟨_, rfl⟩
    obtain ⟨f0, ef0⟩ : ∃ z, z = fl j := ⟨_, rfl⟩
    rw [← ep0] at k1 g_p0
    rw [← eq0, ← ef0] at g_p0
    rw [← eq0] at g_q0
    rw [k1] at e_r1
    subst e_r1
    refine W.eq (g2 := F0 m 5 ls [.ref p0]) rfl ?_
    refine lv_astore (lv' := [(7, .ref p0), (0, .ref x), (1, .int i), (2, .int wy), (3, .int f), (4, .int b), (5, .int fr), (6, .int n)]) hx hb dX9_play_5 hl (by decide) rfl (fun ls hl => ?_)
    refine lv_iload_n hx hb dX9_play_7 rfl (lv_at hl 3 rfl) ?_
    refine lv_iconst (v := 2) hx hb dX9_play_8 (by decide) ?_
    refine lv_icmp_ne (tgt := 20) hx hb dX9_play_9 (by decide) (fun c_9 => ?_) (fun c_9 => ?_)
    · skip
      refine lv_null hx hb dX9_play_20 ?_
      refine lv_astoreN (lv' := [(8, .null), (7, .ref p0), (0, .ref x), (1, .int i), (2, .int wy), (3, .int f), (4, .int b), (5, .int fr), (6, .int n)]) hx hb dX9_play_21 hl (by decide) rfl (fun ls hl => ?_)
      refine lv_iload_n hx hb dX9_play_23 rfl (lv_at hl 4 rfl) ?_
      refine lv_if_eq (tgt := 37) hx hb dX9_play_24 (by decide) (fun c_24 => ?_) (fun c_24 => ?_)
      · skip
        refine lv_iconst (v := 1) hx hb dX9_play_37 (by decide) ?_
        refine lv_goto (tgt := 42) hx hb dX9_play_38 (by decide) ?_
        refine lv_istore (lv' := [(9, .int 1), (8, .null), (7, .ref p0), (0, .ref x), (1, .int i), (2, .int wy), (3, .int f), (4, .int b), (5, .int fr), (6, .int n)]) hx hb dX9_play_42 hl (by decide) rfl (fun ls hl => ?_)
        refine lv_aload hx hb dX9_play_44 (lv_at hl 2 rfl) ?_
        refine lv_ifnull hx hb dX9_play_46 ?_
        refine lv_iload hx hb dX9_play_49 (lv_at hl 0 rfl) ?_
        refine lv_if_eq (tgt := 62) hx hb dX9_play_51 (by decide) (fun h9 => False.elim (by revert h9; exact (fun h => absurd h (by decide)))) (fun _ => ?_)
        refine lv_iload hx hb dX9_play_54 (lv_at hl 7 rfl) ?_
        refine m_calli (va_runS (As := [.int b]) (rest := []) ⟨hx, hb, hml, hown, hts⟩ (c_X9_isBlock l E M H.size b) (va_cwS 1 hts gX9_play_X9_isBlock rfl rfl rfl (by decide +kernel) ⟨Nat.le_of_ble_eq_true rfl, Nat.le_of_ble_eq_true rfl⟩) (m_preS hE hM) rfl rfl hl.1 rfl (lv_room (Nat.le_of_ble_eq_true rfl)) dX9_play_56 ⟨Nat.le_of_ble_eq_true rfl, Nat.le_of_ble_eq_true rfl⟩) hM hS hA (fun r3 u H locs hw hM hS => ?_)
        obtain ⟨e_r3, eu⟩ := hw
        rw [eu] at hM
        subst e_r3
        refine lv_if_ne (tgt := 69) hx hb dX9_play_59 (by decide) (fun c_59 => ?_) (fun c_59 => ?_)
        · skip
          rw [bI_ne] at c_59
          refine lv_aload_n hx hb dX9_play_69 rfl (lv_at hl 3 rfl) ?_
          refine lv_iload hx hb dX9_play_70 (lv_at hl 7 rfl) ?_
          refine m_callq (va_runV (As := [.int b]) (rest := []) ⟨hx, hb, hml, hown, hts⟩ (c_X9_heldBy l E M H.size x a1 a2 a3 a4 nn nf bd st c2 c3 c4 fi fb ff wt b g_x g_a2) (cwV 1 hts gX9_play_X9_heldBy rfl rfl rfl (by decide +kernel) ⟨Nat.le_of_ble_eq_true rfl, Nat.le_of_ble_eq_true rfl⟩) (m_preV hE hM g_x rfl) rfl rfl hl.1 rfl (lv_room (Nat.le_of_ble_eq_true rfl)) dX9_play_72 ⟨Nat.le_of_ble_eq_true rfl, Nat.le_of_ble_eq_true rfl⟩) hM hS hA (fun r4 u H locs hw hM hS => ?_)
          obtain ⟨e_r4, eu⟩ := hw
          rw [eu] at hM
          rw [if_pos c_59] at e_r4
          obtain ⟨j1, hj1, hij1, hjc1⟩ := vB_ix c_59
          rw [hjc1, hB j1 hj1] at e_r4
          rcases hbk1 : bk j1 with _ | w1
          · rw [hbk1] at e_r4
            replace e_r4 : r4 = none := e_r4
            subst e_r4
            refine W.eq (g2 := F0 m 75 ls [.null]) rfl ?_
            refine lv_astoreN (lv' := [(10, .null), (9, .int 1), (8, .null), (7, .ref p0), (0, .ref x), (1, .int i), (2, .int wy), (3, .int f), (4, .int b), (5, .int fr), (6, .int n)]) hx hb dX9_play_75 hl (by decide) rfl (fun ls hl => ?_)
            refine lv_aload_n hx hb dX9_play_77 rfl (lv_at hl 4 rfl) ?_
            refine lv_aloadN hx hb dX9_play_78 (lv_at hl 0 rfl) ?_
            refine lv_iload_n hx hb dX9_play_80 rfl (lv_at hl 6 rfl) ?_
            refine lv_iload hx hb dX9_play_81 (lv_at hl 9 rfl) ?_
            refine lv_iload hx hb dX9_play_83 (lv_at hl 10 rfl) ?_
            refine m_calli (va_runV (As := [.null, .int wy, .int fr, .int n]) (rest := []) ⟨hx, hb, hml, hown, hts⟩ (c_X9_into_n l E M H.size x wy fr n) (cwV 4 hts gX9_play_X9_againstBlock rfl rfl rfl (by decide +kernel) ⟨Nat.le_of_ble_eq_true rfl, Nat.le_of_ble_eq_true rfl⟩) (m_preV hE hM g_x rfl) rfl rfl hl.1 rfl (lv_room (Nat.le_of_ble_eq_true rfl)) dX9_play_85 ⟨Nat.le_of_ble_eq_true rfl, Nat.le_of_ble_eq_true rfl⟩) hM hS hA (fun r5 u H locs hw hM hS => ?_)
            obtain ⟨e_r5, eu⟩ := hw
            rw [eu] at hM
            subst e_r5
            refine lv_istore (lv' := [(11, .int (-5)), (10, .null), (9, .int 1), (8, .null), (7, .ref p0), (0, .ref x), (1, .int i), (2, .int wy), (3, .int f), (4, .int b), (5, .int fr), (6, .int n)]) hx hb dX9_play_88 hl (by decide) rfl (fun ls hl => ?_)
            refine lv_iload hx hb dX9_play_90 (lv_at hl 0 rfl) ?_
            refine lv_if_ne (tgt := 119) hx hb dX9_play_92 (by decide) (fun _ => ?_) (fun h9 => False.elim (by revert h9; exact (fun h => absurd h (by decide))))
            refine lv_aload_n hx hb dX9_play_119 rfl (lv_at hl 5 rfl) ?_
            refine lv_iload hx hb dX9_play_120 (lv_at hl 0 rfl) ?_
            refine m_put (ci := 7) (v := .int (-5)) (ty := .int) (C := RX9) (T := TX9) (N := 11) hx hb hts in_X9_play_X9 tyX9 tyX9_ok nmX9 hown hE hM hS g_x rfl 7 (by decide) (hts (.fieldLink RX9 53 "CallWays2" "latest" "I") (by decide +kernel)) (fun _ h9 => h9) rfl (by decide +kernel) rfl rfl (Nat.le_of_ble_eq_true rfl) dX9_play_122 (fun H locs hM hS => ?_)
            have hM : mOK E.1 (mA M sz) (mUp M x (mO 7 [.ref a1, .ref a2, .ref a3, .ref a4, .int (nI nn), .int (nI nf), .int bd, .int (-5), .int c2, .int c3, .int c4])) H := hM
            obtain ⟨M1, eM1⟩ : ∃ z, z = mUp M x (mO 7 [.ref a1, .ref a2, .ref a3, .ref a4, .int (nI nn), .int (nI nf), .int bd, .int (-5), .int c2, .int c3, .int c4]) := ⟨_, rfl⟩
            rw [← eM1] at hM
            have g_a1_ : M1 a1 = some (mQ E 4 12 fi) := by rw [eM1]; exact mUp_at (m_ne g_a1 g_x (by simp)) g_a1
            have g_a2_ : M1 a2 = some (mQ E 5 10 fb) := by rw [eM1]; exact mUp_at (m_ne g_a2 g_x (by simp)) g_a2
            have g_a3_ : M1 a3 = some (mQ E 6 8 ff) := by rw [eM1]; exact mUp_at (m_ne g_a3 g_x (by simp)) g_a3
            have g_a4_ : M1 a4 = some (mDb E 40 wt) := by rw [eM1]; exact mUp_at (m_ne g_a4 g_x (by simp)) g_a4
            have g_p0_ : M1 p0 = some (mO ci [.ref q0, .int pi, .int on, .int ph, .double le, va_rf (tb.map ra), .int f0]) := by rw [eM1]; exact mUp_at (m_ne g_p0 g_x (by simp)) g_p0
            have g_q0_ : M1 q0 = some (mI E 4 kf) := by rw [eM1]; exact mUp_at (m_ne g_q0 g_x (by simp)) g_q0
            have g_a1 := g_a1_
            have g_a2 := g_a2_
            have g_a3 := g_a3_
            have g_a4 := g_a4_
            have g_p0 := g_p0_
            have g_q0 := g_q0_
            have g_x : M1 x = some (mO 7 [.ref a1, .ref a2, .ref a3, .ref a4, .int (nI nn), .int (nI nf), .int bd, .int (-5), .int c2, .int c3, .int c4]) := by rw [eM1]; exact mUp_self _ _ _
            refine lv_iload hx hb dX9_play_125 (lv_at hl 0 rfl) ?_
            refine lv_if_eq (tgt := 143) hx hb dX9_play_127 (by decide) (fun h9 => False.elim (by revert h9; exact (fun h => absurd h (by decide)))) (fun _ => ?_)
            refine lv_aload_n hx hb dX9_play_130 rfl (lv_at hl 5 rfl) ?_
            refine lv_dup hx hb dX9_play_131 rfl ?_
            refine m_get (ci := 7) (v := .int c3) (C := RX9) (T := TX9) (N := 11) hx hb hts in_X9_play_X9 hown hE hM g_x rfl 9 (by decide) (hts (.fieldLink RX9 135 "CallWays2" "playedFailed" "I") (by decide +kernel)) (fun _ h9 => h9) rfl dX9_play_132 ?_
            refine lv_iconst (v := 1) hx hb dX9_play_135 (by decide) ?_
            refine lv_iadd hx hb dX9_play_136 ?_
            refine m_put (ci := 7) (v := .int (c3 + 1)) (ty := .int) (C := RX9) (T := TX9) (N := 11) hx hb hts in_X9_play_X9 tyX9 tyX9_ok nmX9 hown hE hM hS g_x rfl 9 (by decide) (hts (.fieldLink RX9 135 "CallWays2" "playedFailed" "I") (by decide +kernel)) (fun _ h9 => h9) rfl (by decide +kernel) rfl rfl (Nat.le_of_ble_eq_true rfl) dX9_play_137 (fun H locs hM hS => ?_)
            have hM : mOK E.1 (mA M sz) (mUp M1 x (mO 7 [.ref a1, .ref a2, .ref a3, .ref a4, .int (nI nn), .int (nI nf), .int bd, .int (-5), .int c2, .int (c3 + 1), .int c4])) H := hM
            obtain ⟨M2, eM2⟩ : ∃ z, z = mUp M1 x (mO 7 [.ref a1, .ref a2, .ref a3, .ref a4, .int (nI nn), .int (nI nf), .int bd, .int (-5), .int c2, .int (c3 + 1), .int c4]) := ⟨_, rfl⟩
            rw [← eM2] at hM
            have g_a1_ : M2 a1 = some (mQ E 4 12 fi) := by rw [eM2]; exact mUp_at (m_ne g_a1 g_x (by simp)) g_a1
            have g_a2_ : M2 a2 = some (mQ E 5 10 fb) := by rw [eM2]; exact mUp_at (m_ne g_a2 g_x (by simp)) g_a2
            have g_a3_ : M2 a3 = some (mQ E 6 8 ff) := by rw [eM2]; exact mUp_at (m_ne g_a3 g_x (by simp)) g_a3
            have g_a4_ : M2 a4 = some (mDb E 40 wt) := by rw [eM2]; exact mUp_at (m_ne g_a4 g_x (by simp)) g_a4
            have g_p0_ : M2 p0 = some (mO ci [.ref q0, .int pi, .int on, .int ph, .double le, va_rf (tb.map ra), .int f0]) := by rw [eM2]; exact mUp_at (m_ne g_p0 g_x (by simp)) g_p0
            have g_q0_ : M2 q0 = some (mI E 4 kf) := by rw [eM2]; exact mUp_at (m_ne g_q0 g_x (by simp)) g_q0
            have g_a1 := g_a1_
            have g_a2 := g_a2_
            have g_a3 := g_a3_
            have g_a4 := g_a4_
            have g_p0 := g_p0_
            have g_q0 := g_q0_
            have g_x : M2 x = some (mO 7 [.ref a1, .ref a2, .ref a3, .ref a4, .int (nI nn), .int (nI nf), .int bd, .int (-5), .int c2, .int (c3 + 1), .int c4]) := by rw [eM2]; exact mUp_self _ _ _
            refine lv_iload hx hb dX9_play_140 (lv_at hl 0 rfl) ?_
            exact m_iret hx hb hr hlocks hM hS (Nat.le_refl _) (Nat.le_refl _) dX9_play_142 (by have hok : vPl nn nf i wy f b := ⟨hv, Or.inl c_24, c_59⟩; have hpf := (plF_n hjc1 hbk1 : plF bk rw bd b wy fr n = _); exact ⟨(by show _ = (if vPl nn nf i wy f b then (if plF bk rw bd b wy fr n = 0 then _ else _) else _); rw [if_pos hok, if_neg (by rw [hpf]; decide), hpf]), (by show cRep E _ NO x (if vPl nn nf i wy f b then (if plF bk rw bd b wy fr n = 0 then _ else _) else _); rw [if_pos hok, if_neg (by rw [hpf]; decide), hpf, eM2, eM1, mUp_up]; exact (hC.scal hiK).rep), (by rw [eM2, eM1]; exact (kept.rf.up nx).up nx)⟩)
          · rw [hbk1] at e_r4
            replace e_r4 : r4 = some (ra w1) := e_r4
            have hlv1 : live nn ins bk w1 := Or.inl ⟨j1, hj1, hbk1⟩
            rcases hrw1 : rw w1 with ⟨lane1, n1, f1⟩
            obtain ⟨g_s1, g_v1, hva1⟩ := hR w1 (hL w1 hlv1) _ _ _ hrw1
            obtain ⟨hn1, hlane1, hvo1⟩ := hvR w1 hlv1 _ _ _ hrw1
            have hnr1 := nR0 w1 (hL w1 hlv1)
            obtain ⟨s1, es1⟩ : ∃ z, z = ra w1 := ⟨_, rfl⟩
            obtain ⟨v1, ev1⟩ : ∃ z, z = rb w1 := ⟨_, rfl⟩
            rw [← es1, ← ev1] at g_s1
            rw [← ev1] at g_v1 hva1
            rw [← es1] at e_r4
            subst e_r4
            refine W.eq (g2 := F0 m 75 ls [.ref s1]) rfl ?_
            refine lv_astore (lv' := [(10, .ref s1), (9, .int 1), (8, .null), (7, .ref p0), (0, .ref x), (1, .int i), (2, .int wy), (3, .int f), (4, .int b), (5, .int fr), (6, .int n)]) hx hb dX9_play_75 hl (by decide) rfl (fun ls hl => ?_)
            refine lv_aload_n hx hb dX9_play_77 rfl (lv_at hl 4 rfl) ?_
            refine lv_aload hx hb dX9_play_78 (lv_at hl 0 rfl) ?_
            refine lv_iload_n hx hb dX9_play_80 rfl (lv_at hl 6 rfl) ?_
            refine lv_iload hx hb dX9_play_81 (lv_at hl 9 rfl) ?_
            refine lv_iload hx hb dX9_play_83 (lv_at hl 10 rfl) ?_
            refine m_calli (va_runV (As := [.ref s1, .int wy, .int fr, .int n]) (rest := []) ⟨hx, hb, hml, hown, hts⟩ (c_X9_into_s l E M H.size x a1 a2 a3 a4 nn nf bd st c2 c3 c4 fi fb ff wt s1 v1 n1 lane1 f1 wy fr n g_x g_s1 g_v1) (cwV 4 hts gX9_play_X9_againstBlock rfl rfl rfl (by decide +kernel) ⟨Nat.le_of_ble_eq_true rfl, Nat.le_of_ble_eq_true rfl⟩) (m_preV hE hM g_x rfl) rfl rfl hl.1 rfl (lv_room (Nat.le_of_ble_eq_true rfl)) dX9_play_85 ⟨Nat.le_of_ble_eq_true rfl, Nat.le_of_ble_eq_true rfl⟩) hM hS hA (fun r5 u H locs hw hM hS => ?_)
            obtain ⟨e_r5, eu⟩ := hw
            rw [eu] at hM
            subst e_r5
            refine lv_istore (lv' := [(11, .int (sInto lane1 n1 bd wy fr n)), (10, .ref s1), (9, .int 1), (8, .null), (7, .ref p0), (0, .ref x), (1, .int i), (2, .int wy), (3, .int f), (4, .int b), (5, .int fr), (6, .int n)]) hx hb dX9_play_88 hl (by decide) rfl (fun ls hl => ?_)
            refine lv_iload hx hb dX9_play_90 (lv_at hl 0 rfl) ?_
            refine lv_if_ne (tgt := 119) hx hb dX9_play_92 (by decide) (fun c_92 => ?_) (fun c_92 => ?_)
            · skip
              refine lv_aload_n hx hb dX9_play_119 rfl (lv_at hl 5 rfl) ?_
              refine lv_iload hx hb dX9_play_120 (lv_at hl 0 rfl) ?_
              refine m_put (ci := 7) (v := .int (sInto lane1 n1 bd wy fr n)) (ty := .int) (C := RX9) (T := TX9) (N := 11) hx hb hts in_X9_play_X9 tyX9 tyX9_ok nmX9 hown hE hM hS g_x rfl 7 (by decide) (hts (.fieldLink RX9 53 "CallWays2" "latest" "I") (by decide +kernel)) (fun _ h9 => h9) rfl (by decide +kernel) rfl rfl (Nat.le_of_ble_eq_true rfl) dX9_play_122 (fun H locs hM hS => ?_)
              have hM : mOK E.1 (mA M sz) (mUp M x (mO 7 [.ref a1, .ref a2, .ref a3, .ref a4, .int (nI nn), .int (nI nf), .int bd, .int (sInto lane1 n1 bd wy fr n), .int c2, .int c3, .int c4])) H := hM
              obtain ⟨M3, eM3⟩ : ∃ z, z = mUp M x (mO 7 [.ref a1, .ref a2, .ref a3, .ref a4, .int (nI nn), .int (nI nf), .int bd, .int (sInto lane1 n1 bd wy fr n), .int c2, .int c3, .int c4]) := ⟨_, rfl⟩
              rw [← eM3] at hM
              have g_a1_ : M3 a1 = some (mQ E 4 12 fi) := by rw [eM3]; exact mUp_at (m_ne g_a1 g_x (by simp)) g_a1
              have g_a2_ : M3 a2 = some (mQ E 5 10 fb) := by rw [eM3]; exact mUp_at (m_ne g_a2 g_x (by simp)) g_a2
              have g_a3_ : M3 a3 = some (mQ E 6 8 ff) := by rw [eM3]; exact mUp_at (m_ne g_a3 g_x (by simp)) g_a3
              have g_a4_ : M3 a4 = some (mDb E 40 wt) := by rw [eM3]; exact mUp_at (m_ne g_a4 g_x (by simp)) g_a4
              have g_p0_ : M3 p0 = some (mO ci [.ref q0, .int pi, .int on, .int ph, .double le, va_rf (tb.map ra), .int f0]) := by rw [eM3]; exact mUp_at (m_ne g_p0 g_x (by simp)) g_p0
              have g_q0_ : M3 q0 = some (mI E 4 kf) := by rw [eM3]; exact mUp_at (m_ne g_q0 g_x (by simp)) g_q0
              have g_s1_ : M3 s1 = some (mO 5 [.int lane1, .ref v1]) := by rw [eM3]; exact mUp_at (m_ne g_s1 g_x (by simp)) g_s1
              have g_v1_ : M3 v1 = some (mDb E n1 f1) := by rw [eM3]; exact mUp_at (m_ne g_v1 g_x (by simp)) g_v1
              have g_a1 := g_a1_
              have g_a2 := g_a2_
              have g_a3 := g_a3_
              have g_a4 := g_a4_
              have g_p0 := g_p0_
              have g_q0 := g_q0_
              have g_s1 := g_s1_
              have g_v1 := g_v1_
              have g_x : M3 x = some (mO 7 [.ref a1, .ref a2, .ref a3, .ref a4, .int (nI nn), .int (nI nf), .int bd, .int (sInto lane1 n1 bd wy fr n), .int c2, .int c3, .int c4]) := by rw [eM3]; exact mUp_self _ _ _
              refine lv_iload hx hb dX9_play_125 (lv_at hl 0 rfl) ?_
              refine lv_if_eq (tgt := 143) hx hb dX9_play_127 (by decide) (fun h9 => False.elim (by revert h9; exact (fun h => c_92 h))) (fun _ => ?_)
              refine lv_aload_n hx hb dX9_play_130 rfl (lv_at hl 5 rfl) ?_
              refine lv_dup hx hb dX9_play_131 rfl ?_
              refine m_get (ci := 7) (v := .int c3) (C := RX9) (T := TX9) (N := 11) hx hb hts in_X9_play_X9 hown hE hM g_x rfl 9 (by decide) (hts (.fieldLink RX9 135 "CallWays2" "playedFailed" "I") (by decide +kernel)) (fun _ h9 => h9) rfl dX9_play_132 ?_
              refine lv_iconst (v := 1) hx hb dX9_play_135 (by decide) ?_
              refine lv_iadd hx hb dX9_play_136 ?_
              refine m_put (ci := 7) (v := .int (c3 + 1)) (ty := .int) (C := RX9) (T := TX9) (N := 11) hx hb hts in_X9_play_X9 tyX9 tyX9_ok nmX9 hown hE hM hS g_x rfl 9 (by decide) (hts (.fieldLink RX9 135 "CallWays2" "playedFailed" "I") (by decide +kernel)) (fun _ h9 => h9) rfl (by decide +kernel) rfl rfl (Nat.le_of_ble_eq_true rfl) dX9_play_137 (fun H locs hM hS => ?_)
              have hM : mOK E.1 (mA M sz) (mUp M3 x (mO 7 [.ref a1, .ref a2, .ref a3, .ref a4, .int (nI nn), .int (nI nf), .int bd, .int (sInto lane1 n1 bd wy fr n), .int c2, .int (c3 + 1), .int c4])) H := hM
              obtain ⟨M4, eM4⟩ : ∃ z, z = mUp M3 x (mO 7 [.ref a1, .ref a2, .ref a3, .ref a4, .int (nI nn), .int (nI nf), .int bd, .int (sInto lane1 n1 bd wy fr n), .int c2, .int (c3 + 1), .int c4]) := ⟨_, rfl⟩
              rw [← eM4] at hM
              have g_a1_ : M4 a1 = some (mQ E 4 12 fi) := by rw [eM4]; exact mUp_at (m_ne g_a1 g_x (by simp)) g_a1
              have g_a2_ : M4 a2 = some (mQ E 5 10 fb) := by rw [eM4]; exact mUp_at (m_ne g_a2 g_x (by simp)) g_a2
              have g_a3_ : M4 a3 = some (mQ E 6 8 ff) := by rw [eM4]; exact mUp_at (m_ne g_a3 g_x (by simp)) g_a3
              have g_a4_ : M4 a4 = some (mDb E 40 wt) := by rw [eM4]; exact mUp_at (m_ne g_a4 g_x (by simp)) g_a4
              have g_p0_ : M4 p0 = some (mO ci [.ref q0, .int pi, .int on, .int ph, .double le, va_rf (tb.map ra), .int f0]) := by rw [eM4]; exact mUp_at (m_ne g_p0 g_x (by simp)) g_p0
              have g_q0_ : M4 q0 = some (mI E 4 kf) := by rw [eM4]; exact mUp_at (m_ne g_q0 g_x (by simp)) g_q0
              have g_s1_ : M4 s1 = some (mO 5 [.int lane1, .ref v1]) := by rw [eM4]; exact mUp_at (m_ne g_s1 g_x (by simp)) g_s1
              have g_v1_ : M4 v1 = some (mDb E n1 f1) := by rw [eM4]; exact mUp_at (m_ne g_v1 g_x (by simp)) g_v1
              have g_a1 := g_a1_
              have g_a2 := g_a2_
              have g_a3 := g_a3_
              have g_a4 := g_a4_
              have g_p0 := g_p0_
              have g_q0 := g_q0_
              have g_s1 := g_s1_
              have g_v1 := g_v1_
              have g_x : M4 x = some (mO 7 [.ref a1, .ref a2, .ref a3, .ref a4, .int (nI nn), .int (nI nf), .int bd, .int (sInto lane1 n1 bd wy fr n), .int c2, .int (c3 + 1), .int c4]) := by rw [eM4]; exact mUp_self _ _ _
              refine lv_iload hx hb dX9_play_140 (lv_at hl 0 rfl) ?_
              exact m_iret hx hb hr hlocks hM hS (Nat.le_refl _) (Nat.le_refl _) dX9_play_142 (by have hok : vPl nn nf i wy f b := ⟨hv, Or.inl c_24, c_59⟩; have hpf := (plF_s hjc1 hbk1 hrw1 : plF bk rw bd b wy fr n = _); exact ⟨(by show _ = (if vPl nn nf i wy f b then (if plF bk rw bd b wy fr n = 0 then _ else _) else _); rw [if_pos hok, if_neg (by rw [hpf]; exact c_92), hpf]), (by show cRep E _ NO x (if vPl nn nf i wy f b then (if plF bk rw bd b wy fr n = 0 then _ else _) else _); rw [if_pos hok, if_neg (by rw [hpf]; exact c_92), hpf, eM4, eM3, mUp_up]; exact (hC.scal hiK).rep), (by rw [eM4, eM3]; exact (kept.rf.up nx).up nx)⟩)
            · skip
              refine lv_aload_n hx hb dX9_play_95 rfl (lv_at hl 5 rfl) ?_
              refine lv_aload hx hb dX9_play_96 (lv_at hl 4 rfl) ?_
              refine lv_aloadN hx hb dX9_play_98 (lv_at hl 3 rfl) ?_
              refine lv_iload hx hb dX9_play_100 (lv_at hl 11 rfl) ?_
              have hspn := sInto_0 c_92
              obtain ⟨a, k, efr, ek, hak⟩ := spn_nat hn1 hspn
              have hpf : plF bk rw bd b wy fr n = 0 := (plF_s hjc1 hbk1 hrw1).trans c_92
              subst efr
              subst ek
              have htb := tbAt_of (E := E) (M := M) hL hR hj (by rw [hins])
              have hto := tbOK_of hvR hj (tb := tb) (by rw [hins])
              have hA4 := hA4_of (E := E) (M := M) hL hR hj (tb := tb) (by rw [hins])
              refine m_calli (va_runV (As := [.ref p0, .null, .int (nI k)]) (rest := []) ⟨hx, hb, hml, hown, hts⟩ (c_X9_gather_n l E M H.size ci hci x a1 a2 a3 a4 nn nf p0 q0 k bd st c2 c3 c4 wt kf pi on ph f0 le (tb.map ra) (tb.map rw) htb hto hle (by omega) g_x g_a4 g_p0 g_q0 hA4) (cwV 3 hts gX9_play_X9_gather rfl rfl rfl (by decide +kernel) ⟨Nat.le_of_ble_eq_true rfl, Nat.le_of_ble_eq_true rfl⟩) (m_preV hE hM g_x rfl) rfl rfl hl.1 rfl (lv_room (Nat.le_of_ble_eq_true rfl)) dX9_play_102 ⟨Nat.le_of_ble_eq_true rfl, Nat.le_of_ble_eq_true rfl⟩) hM hS hA (fun r6 M5 H locs hw hM hS => ?_)
              obtain ⟨e_r6, fl9, w9, eM5, hw9⟩ := hw
              subst e_r6
              have h_xp : x ≠ p0 := m_ne g_x g_p0 (by simp)
              have h_ap : a4 ≠ p0 := m_ne g_a4 g_p0 (by simp)
              have h_xa : x ≠ a4 := m_ne g_x g_a4 (by simp)
              have hh_s1 : M5 s1 = some (mO 5 [.int lane1, .ref v1]) := by rw [eM5]; exact tri_ne g_s1 (m_ne g_s1 g_p0 (fun z => by simp at z)) (m_ne g_s1 g_x (by simp)) (m_ne g_s1 g_a4 (by simp))
              have hh_v1 : M5 v1 = some (mDb E n1 f1) := by rw [eM5]; exact tri_ne g_v1 (m_ne g_v1 g_p0 (by simp)) (m_ne g_v1 g_x (by simp)) hva1
              have hh_q0 : M5 q0 = some (mI E 4 kf) := by rw [eM5]; exact tri_ne g_q0 (m_ne g_q0 g_p0 (by simp)) (m_ne g_q0 g_x (by simp)) (m_ne g_q0 g_a4 (by simp))
              replace g_p0 : M5 p0 = some (mO ci [.ref q0, .int pi, .int on, .int ((sSt ci kf pi on (tb.map rw) ph le (sGo ci kf pi on (tb.map rw) ph le none 0 k).2).1), .double ((sSt ci kf pi on (tb.map rw) ph le (sGo ci kf pi on (tb.map rw) ph le none 0 k).2).2), va_rf (tb.map ra), .int fl9]) := by rw [eM5]; exact tri_gp (Ne.symm h_xp) (Ne.symm h_ap)
              replace g_x : M5 x = some (mO 7 [.ref a1, .ref a2, .ref a3, .ref a4, .int (nI nn), .int (nI nf), .int bd, .int st, .int c2, .int c3, .int (c4 + nI (sGo ci kf pi on (tb.map rw) ph le none 0 k).2)]) := by rw [eM5]; exact tri_gx h_xa
              replace g_a4 : M5 a4 = some (mDb E 40 w9) := by rw [eM5]; exact tri_ga
              replace g_s1 := hh_s1
              replace g_v1 := hh_v1
              replace g_q0 := hh_q0
              refine lv_istore (lv' := [(11, .int ((sGo ci kf pi on (tb.map rw) ph le none 0 k).1)), (10, .ref s1), (9, .int 1), (8, .null), (7, .ref p0), (0, .ref x), (1, .int i), (2, .int wy), (3, .int f), (4, .int b), (5, .int (nI a)), (6, .int (nI k))]) hx hb dX9_play_105 hl (by decide) rfl (fun ls hl => ?_)
              refine lv_aload_n hx hb dX9_play_107 rfl (lv_at hl 5 rfl) ?_
              refine lv_aload hx hb dX9_play_108 (lv_at hl 1 rfl) ?_
              refine lv_iload hx hb dX9_play_110 (lv_at hl 10 rfl) ?_
              refine lv_iload hx hb dX9_play_112 (lv_at hl 11 rfl) ?_
              refine lv_iload hx hb dX9_play_114 (lv_at hl 0 rfl) ?_
              refine m_callv (va_runV (As := [.ref s1, .int (nI a), .int (nI k), .int ((sGo ci kf pi on (tb.map rw) ph le none 0 k).1)]) (rest := []) ⟨hx, hb, hml, hown, hts⟩ (c_X9_deliver l E M5 H.size x a1 a2 a3 a4 nn nf s1 v1 n1 a k bd st c2 c3 (c4 + nI (sGo ci kf pi on (tb.map rw) ph le none 0 k).2) lane1 (sGo ci kf pi on (tb.map rw) ph le none 0 k).1 w9 f1 hva1 (by omega) hn1 hak (fun hz j hj2 => by rw [hw9 hz j hj2]; exact (dB_give (dL_st hle j) hto).fin (by decide)) g_x g_a4 g_s1 g_v1) (cwV 4 hts gX9_play_X9_deliver rfl rfl rfl (by decide +kernel) ⟨Nat.le_of_ble_eq_true rfl, Nat.le_of_ble_eq_true rfl⟩) (m_preV hE hM g_x rfl) rfl rfl hl.1 rfl (lv_room (Nat.le_of_ble_eq_true rfl)) dX9_play_116 ⟨Nat.le_of_ble_eq_true rfl, Nat.le_of_ble_eq_true rfl⟩) hM hS hA (fun M7 H locs hw hM hS => ?_)
              have eM7 := hw
              have g_x_ : M7 x = some (mO 7 [.ref a1, .ref a2, .ref a3, .ref a4, .int (nI nn), .int (nI nf), .int bd, .int st, .int c2, .int c3, .int (c4 + nI (sGo ci kf pi on (tb.map rw) ph le none 0 k).2)]) := by rw [eM7]; exact mUp_at (m_ne g_x g_v1 (by simp)) g_x
              have g_a4_ : M7 a4 = some (mDb E 40 w9) := by rw [eM7]; exact mUp_at (Ne.symm hva1) g_a4
              have g_p0_ : M7 p0 = some (mO ci [.ref q0, .int pi, .int on, .int ((sSt ci kf pi on (tb.map rw) ph le (sGo ci kf pi on (tb.map rw) ph le none 0 k).2).1), .double ((sSt ci kf pi on (tb.map rw) ph le (sGo ci kf pi on (tb.map rw) ph le none 0 k).2).2), va_rf (tb.map ra), .int fl9]) := by rw [eM7]; exact mUp_at (m_ne g_p0 g_v1 (by simp)) g_p0
              have g_q0_ : M7 q0 = some (mI E 4 kf) := by rw [eM7]; exact mUp_at (m_ne g_q0 g_v1 (by simp)) g_q0
              have g_s1_ : M7 s1 = some (mO 5 [.int lane1, .ref v1]) := by rw [eM7]; exact mUp_at (m_ne g_s1 g_v1 (by simp)) g_s1
              have g_x := g_x_
              have g_a4 := g_a4_
              have g_p0 := g_p0_
              have g_q0 := g_q0_
              have g_s1 := g_s1_
              have g_v1 : M7 v1 = some (mDb E n1 (dlv f1 a (fun q => sTurn lane1 (if (sGo ci kf pi on (tb.map rw) ph le none 0 k).1 = 0 then w9 q else FP.dconst0)) k)) := by rw [eM7]; exact mUp_self _ _ _
              refine lv_aload_n hx hb dX9_play_119 rfl (lv_at hl 5 rfl) ?_
              refine lv_iload hx hb dX9_play_120 (lv_at hl 0 rfl) ?_
              refine m_put (ci := 7) (v := .int ((sGo ci kf pi on (tb.map rw) ph le none 0 k).1)) (ty := .int) (C := RX9) (T := TX9) (N := 11) hx hb hts in_X9_play_X9 tyX9 tyX9_ok nmX9 hown hE hM hS g_x rfl 7 (by decide) (hts (.fieldLink RX9 53 "CallWays2" "latest" "I") (by decide +kernel)) (fun _ h9 => h9) rfl (by decide +kernel) rfl rfl (Nat.le_of_ble_eq_true rfl) dX9_play_122 (fun H locs hM hS => ?_)
              have hM : mOK E.1 (mA M sz) (mUp M7 x (mO 7 [.ref a1, .ref a2, .ref a3, .ref a4, .int (nI nn), .int (nI nf), .int bd, .int ((sGo ci kf pi on (tb.map rw) ph le none 0 k).1), .int c2, .int c3, .int (c4 + nI (sGo ci kf pi on (tb.map rw) ph le none 0 k).2)])) H := hM
              obtain ⟨M8, eM8⟩ : ∃ z, z = mUp M7 x (mO 7 [.ref a1, .ref a2, .ref a3, .ref a4, .int (nI nn), .int (nI nf), .int bd, .int ((sGo ci kf pi on (tb.map rw) ph le none 0 k).1), .int c2, .int c3, .int (c4 + nI (sGo ci kf pi on (tb.map rw) ph le none 0 k).2)]) := ⟨_, rfl⟩
              rw [← eM8] at hM
              have g_a4_ : M8 a4 = some (mDb E 40 w9) := by rw [eM8]; exact mUp_at (m_ne g_a4 g_x (by simp)) g_a4
              have g_p0_ : M8 p0 = some (mO ci [.ref q0, .int pi, .int on, .int ((sSt ci kf pi on (tb.map rw) ph le (sGo ci kf pi on (tb.map rw) ph le none 0 k).2).1), .double ((sSt ci kf pi on (tb.map rw) ph le (sGo ci kf pi on (tb.map rw) ph le none 0 k).2).2), va_rf (tb.map ra), .int fl9]) := by rw [eM8]; exact mUp_at (m_ne g_p0 g_x (by simp)) g_p0
              have g_q0_ : M8 q0 = some (mI E 4 kf) := by rw [eM8]; exact mUp_at (m_ne g_q0 g_x (by simp)) g_q0
              have g_s1_ : M8 s1 = some (mO 5 [.int lane1, .ref v1]) := by rw [eM8]; exact mUp_at (m_ne g_s1 g_x (by simp)) g_s1
              have g_v1_ : M8 v1 = some (mDb E n1 (dlv f1 a (fun q => sTurn lane1 (if (sGo ci kf pi on (tb.map rw) ph le none 0 k).1 = 0 then w9 q else FP.dconst0)) k)) := by rw [eM8]; exact mUp_at (m_ne g_v1 g_x (by simp)) g_v1
              have g_a4 := g_a4_
              have g_p0 := g_p0_
              have g_q0 := g_q0_
              have g_s1 := g_s1_
              have g_v1 := g_v1_
              have g_x : M8 x = some (mO 7 [.ref a1, .ref a2, .ref a3, .ref a4, .int (nI nn), .int (nI nf), .int bd, .int ((sGo ci kf pi on (tb.map rw) ph le none 0 k).1), .int c2, .int c3, .int (c4 + nI (sGo ci kf pi on (tb.map rw) ph le none 0 k).2)]) := by rw [eM8]; exact mUp_self _ _ _
              refine lv_iload hx hb dX9_play_125 (lv_at hl 0 rfl) ?_
              refine lv_if_eq (tgt := 143) hx hb dX9_play_127 (by decide) (fun c_127 => ?_) (fun c_127 => ?_)
              · skip
                refine lv_aload_n hx hb dX9_play_143 rfl (lv_at hl 5 rfl) ?_
                refine lv_dup hx hb dX9_play_144 rfl ?_
                refine m_get (ci := 7) (v := .int c2) (C := RX9) (T := TX9) (N := 11) hx hb hts in_X9_play_X9 hown hE hM g_x rfl 8 (by decide) (hts (.fieldLink RX9 138 "CallWays2" "playedWell" "I") (by decide +kernel)) (fun _ h9 => h9) rfl dX9_play_145 ?_
                refine lv_iconst (v := 1) hx hb dX9_play_148 (by decide) ?_
                refine lv_iadd hx hb dX9_play_149 ?_
                refine m_put (ci := 7) (v := .int (c2 + 1)) (ty := .int) (C := RX9) (T := TX9) (N := 11) hx hb hts in_X9_play_X9 tyX9 tyX9_ok nmX9 hown hE hM hS g_x rfl 8 (by decide) (hts (.fieldLink RX9 138 "CallWays2" "playedWell" "I") (by decide +kernel)) (fun _ h9 => h9) rfl (by decide +kernel) rfl rfl (Nat.le_of_ble_eq_true rfl) dX9_play_150 (fun H locs hM hS => ?_)
                have hM : mOK E.1 (mA M sz) (mUp M8 x (mO 7 [.ref a1, .ref a2, .ref a3, .ref a4, .int (nI nn), .int (nI nf), .int bd, .int ((sGo ci kf pi on (tb.map rw) ph le none 0 k).1), .int (c2 + 1), .int c3, .int (c4 + nI (sGo ci kf pi on (tb.map rw) ph le none 0 k).2)])) H := hM
                obtain ⟨M9, eM9⟩ : ∃ z, z = mUp M8 x (mO 7 [.ref a1, .ref a2, .ref a3, .ref a4, .int (nI nn), .int (nI nf), .int bd, .int ((sGo ci kf pi on (tb.map rw) ph le none 0 k).1), .int (c2 + 1), .int c3, .int (c4 + nI (sGo ci kf pi on (tb.map rw) ph le none 0 k).2)]) := ⟨_, rfl⟩
                rw [← eM9] at hM
                have g_a4_ : M9 a4 = some (mDb E 40 w9) := by rw [eM9]; exact mUp_at (m_ne g_a4 g_x (by simp)) g_a4
                have g_p0_ : M9 p0 = some (mO ci [.ref q0, .int pi, .int on, .int ((sSt ci kf pi on (tb.map rw) ph le (sGo ci kf pi on (tb.map rw) ph le none 0 k).2).1), .double ((sSt ci kf pi on (tb.map rw) ph le (sGo ci kf pi on (tb.map rw) ph le none 0 k).2).2), va_rf (tb.map ra), .int fl9]) := by rw [eM9]; exact mUp_at (m_ne g_p0 g_x (by simp)) g_p0
                have g_q0_ : M9 q0 = some (mI E 4 kf) := by rw [eM9]; exact mUp_at (m_ne g_q0 g_x (by simp)) g_q0
                have g_s1_ : M9 s1 = some (mO 5 [.int lane1, .ref v1]) := by rw [eM9]; exact mUp_at (m_ne g_s1 g_x (by simp)) g_s1
                have g_v1_ : M9 v1 = some (mDb E n1 (dlv f1 a (fun q => sTurn lane1 (if (sGo ci kf pi on (tb.map rw) ph le none 0 k).1 = 0 then w9 q else FP.dconst0)) k)) := by rw [eM9]; exact mUp_at (m_ne g_v1 g_x (by simp)) g_v1
                have g_a4 := g_a4_
                have g_p0 := g_p0_
                have g_q0 := g_q0_
                have g_s1 := g_s1_
                have g_v1 := g_v1_
                have g_x : M9 x = some (mO 7 [.ref a1, .ref a2, .ref a3, .ref a4, .int (nI nn), .int (nI nf), .int bd, .int ((sGo ci kf pi on (tb.map rw) ph le none 0 k).1), .int (c2 + 1), .int c3, .int (c4 + nI (sGo ci kf pi on (tb.map rw) ph le none 0 k).2)]) := by rw [eM9]; exact mUp_self _ _ _
                refine lv_iload hx hb dX9_play_153 (lv_at hl 11 rfl) ?_
                exact m_iret hx hb hr hlocks hM hS (Nat.le_refl _) (Nat.le_refl _) dX9_play_155 (by 
        have hok : vPl nn nf i wy f b := ⟨hv, Or.inl c_24, c_59⟩
        have hcl : (nI k).toNatClampNeg = k := nI_clamp (by omega)
        have hca : (nI a).toNatClampNeg = a := nI_clamp (by omega)
        have hfu : plFu fn wy f = none := if_neg c_9
        have hgo : plGo ins rw (plFu fn wy f) j k = sGo ci kf pi on (tb.map rw) ph le none 0 k := by rw [hfu]; unfold plGo; rw [hins]
        have hsm : ∀ q, plSm ins rw (plFu fn wy f) j q = psO none (sSm ci kf pi on (tb.map rw) ph le q).2.1 := by
          intro q
          rw [hfu]
          unfold plSm
          rw [hins]
        exact ⟨(by
          show _ = (if vPl nn nf i wy f b then (if plF bk rw bd b wy (nI a) (nI k) = 0 then (if _ = 0 then _ else _) else _) else _)
          rw [if_pos hok, if_pos hpf, hjc, hcl, hgo, if_pos c_127]), (by
          show cRep E _ NO x (if vPl nn nf i wy f b then (if plF bk rw bd b wy (nI a) (nI k) = 0 then _ else _) else _)
          rw [if_pos hok, if_pos hpf, hjc, hjc1, hcl, hca]
          have hpi : plIns ins rw (plFu fn wy f) j k = va_up ins j (ci, kf, pi, on, (sSt ci kf pi on (tb.map rw) ph le (sGo ci kf pi on (tb.map rw) ph le none 0 k).2).1, (sSt ci kf pi on (tb.map rw) ph le (sGo ci kf pi on (tb.map rw) ph le none 0 k).2).2, tb) := by
            unfold plIns
            rw [hgo, hins]
          have hpr : plRw ins bk rw (plFu fn wy f) j k a j1 = va_up rw w1 (lane1, n1, dlv f1 a (fun q => sTurn lane1 (if (sGo ci kf pi on (tb.map rw) ph le none 0 k).1 = 0 then w9 q else FP.dconst0)) k) := by
            unfold plRw
            rw [hbk1]
            show va_up rw w1 ((rw w1).1, (rw w1).2.1, dlv (rw w1).2.2 a (fun q => sTurn (rw w1).1 (if (plGo ins rw (plFu fn wy f) j k).1 = 0 then plSm ins rw (plFu fn wy f) j q else FP.dconst0)) k) = _
            rw [hrw1, hgo]
            show va_up rw w1 (lane1, n1, dlv f1 a (fun q => sTurn lane1 (if (sGo ci kf pi on (tb.map rw) ph le none 0 k).1 = 0 then plSm ins rw (plFu fn wy f) j q else FP.dconst0)) k) = _
            rw [dlv_c (g' := fun q => sTurn lane1 (if (sGo ci kf pi on (tb.map rw) ph le none 0 k).1 = 0 then w9 q else FP.dconst0))]
            intro q hq
            show sTurn lane1 (if (sGo ci kf pi on (tb.map rw) ph le none 0 k).1 = 0 then plSm ins rw (plFu fn wy f) j q else FP.dconst0) = sTurn lane1 (if (sGo ci kf pi on (tb.map rw) ph le none 0 k).1 = 0 then w9 q else FP.dconst0)
            by_cases hz : (sGo ci kf pi on (tb.map rw) ph le none 0 k).1 = 0
            · rw [if_pos hz, if_pos hz, hsm q, hw9 hz q hq]
            · rw [if_neg hz, if_neg hz]
          rw [hpi, hpr, hgo, if_pos c_127, if_pos c_127, eM9, eM8, eM7, eM5, mUp_up, ep0, eq0, ev1]
          have hi2 := insK_up (j := j) (v := (ci, kf, pi, on, (sSt ci kf pi on (tb.map rw) ph le (sGo ci kf pi on (tb.map rw) ph le none 0 k).2).1, (sSt ci kf pi on (tb.map rw) ph le (sGo ci kf pi on (tb.map rw) ph le none 0 k).2).2, tb)) hiK (by rw [hins])
          have h1 := hC.inst (pi' := pi) (on' := on) (ph' := (sSt ci kf pi on (tb.map rw) ph le (sGo ci kf pi on (tb.map rw) ph le none 0 k).2).1) (le' := (sSt ci kf pi on (tb.map rw) ph le (sGo ci kf pi on (tb.map rw) ph le none 0 k).2).2) (fl' := fl9) hiK hj hins
          have h2 := h1.scal (bd' := bd) (st' := st) (c2' := c2) (c3' := c3) (c4' := c4 + nI (sGo ci kf pi on (tb.map rw) ph le none 0 k).2) hi2
          have h3 := h2.wait (wt' := w9) hi2
          have h4 := h3.row (f' := dlv f1 a (fun q => sTurn lane1 (if (sGo ci kf pi on (tb.map rw) ph le none 0 k).1 = 0 then w9 q else FP.dconst0)) k) hi2 (hL w1 hlv1) hrw1
          exact (h4.scal hi2).rep), (by rw [eM9, eM8, eM7, eM5, ep0, ev1]; unfold tri; exact (((((kept.rf.up hno.1).up nx).up n4).up hnr1.2).up nx).up nx)⟩)
              · skip
                refine lv_aload_n hx hb dX9_play_130 rfl (lv_at hl 5 rfl) ?_
                refine lv_dup hx hb dX9_play_131 rfl ?_
                refine m_get (ci := 7) (v := .int c3) (C := RX9) (T := TX9) (N := 11) hx hb hts in_X9_play_X9 hown hE hM g_x rfl 9 (by decide) (hts (.fieldLink RX9 135 "CallWays2" "playedFailed" "I") (by decide +kernel)) (fun _ h9 => h9) rfl dX9_play_132 ?_
                refine lv_iconst (v := 1) hx hb dX9_play_135 (by decide) ?_
                refine lv_iadd hx hb dX9_play_136 ?_
                refine m_put (ci := 7) (v := .int (c3 + 1)) (ty := .int) (C := RX9) (T := TX9) (N := 11) hx hb hts in_X9_play_X9 tyX9 tyX9_ok nmX9 hown hE hM hS g_x rfl 9 (by decide) (hts (.fieldLink RX9 135 "CallWays2" "playedFailed" "I") (by decide +kernel)) (fun _ h9 => h9) rfl (by decide +kernel) rfl rfl (Nat.le_of_ble_eq_true rfl) dX9_play_137 (fun H locs hM hS => ?_)
                have hM : mOK E.1 (mA M sz) (mUp M8 x (mO 7 [.ref a1, .ref a2, .ref a3, .ref a4, .int (nI nn), .int (nI nf), .int bd, .int ((sGo ci kf pi on (tb.map rw) ph le none 0 k).1), .int c2, .int (c3 + 1), .int (c4 + nI (sGo ci kf pi on (tb.map rw) ph le none 0 k).2)])) H := hM
                obtain ⟨M10, eM10⟩ : ∃ z, z = mUp M8 x (mO 7 [.ref a1, .ref a2, .ref a3, .ref a4, .int (nI nn), .int (nI nf), .int bd, .int ((sGo ci kf pi on (tb.map rw) ph le none 0 k).1), .int c2, .int (c3 + 1), .int (c4 + nI (sGo ci kf pi on (tb.map rw) ph le none 0 k).2)]) := ⟨_, rfl⟩
                rw [← eM10] at hM
                have g_a4_ : M10 a4 = some (mDb E 40 w9) := by rw [eM10]; exact mUp_at (m_ne g_a4 g_x (by simp)) g_a4
                have g_p0_ : M10 p0 = some (mO ci [.ref q0, .int pi, .int on, .int ((sSt ci kf pi on (tb.map rw) ph le (sGo ci kf pi on (tb.map rw) ph le none 0 k).2).1), .double ((sSt ci kf pi on (tb.map rw) ph le (sGo ci kf pi on (tb.map rw) ph le none 0 k).2).2), va_rf (tb.map ra), .int fl9]) := by rw [eM10]; exact mUp_at (m_ne g_p0 g_x (by simp)) g_p0
                have g_q0_ : M10 q0 = some (mI E 4 kf) := by rw [eM10]; exact mUp_at (m_ne g_q0 g_x (by simp)) g_q0
                have g_s1_ : M10 s1 = some (mO 5 [.int lane1, .ref v1]) := by rw [eM10]; exact mUp_at (m_ne g_s1 g_x (by simp)) g_s1
                have g_v1_ : M10 v1 = some (mDb E n1 (dlv f1 a (fun q => sTurn lane1 (if (sGo ci kf pi on (tb.map rw) ph le none 0 k).1 = 0 then w9 q else FP.dconst0)) k)) := by rw [eM10]; exact mUp_at (m_ne g_v1 g_x (by simp)) g_v1
                have g_a4 := g_a4_
                have g_p0 := g_p0_
                have g_q0 := g_q0_
                have g_s1 := g_s1_
                have g_v1 := g_v1_
                have g_x : M10 x = some (mO 7 [.ref a1, .ref a2, .ref a3, .ref a4, .int (nI nn), .int (nI nf), .int bd, .int ((sGo ci kf pi on (tb.map rw) ph le none 0 k).1), .int c2, .int (c3 + 1), .int (c4 + nI (sGo ci kf pi on (tb.map rw) ph le none 0 k).2)]) := by rw [eM10]; exact mUp_self _ _ _
                refine lv_iload hx hb dX9_play_140 (lv_at hl 0 rfl) ?_
                exact m_iret hx hb hr hlocks hM hS (Nat.le_refl _) (Nat.le_refl _) dX9_play_142 (by 
        have hok : vPl nn nf i wy f b := ⟨hv, Or.inl c_24, c_59⟩
        have hcl : (nI k).toNatClampNeg = k := nI_clamp (by omega)
        have hca : (nI a).toNatClampNeg = a := nI_clamp (by omega)
        have hfu : plFu fn wy f = none := if_neg c_9
        have hgo : plGo ins rw (plFu fn wy f) j k = sGo ci kf pi on (tb.map rw) ph le none 0 k := by rw [hfu]; unfold plGo; rw [hins]
        have hsm : ∀ q, plSm ins rw (plFu fn wy f) j q = psO none (sSm ci kf pi on (tb.map rw) ph le q).2.1 := by
          intro q
          rw [hfu]
          unfold plSm
          rw [hins]
        exact ⟨(by
          show _ = (if vPl nn nf i wy f b then (if plF bk rw bd b wy (nI a) (nI k) = 0 then (if _ = 0 then _ else _) else _) else _)
          rw [if_pos hok, if_pos hpf, hjc, hcl, hgo, if_neg c_127]), (by
          show cRep E _ NO x (if vPl nn nf i wy f b then (if plF bk rw bd b wy (nI a) (nI k) = 0 then _ else _) else _)
          rw [if_pos hok, if_pos hpf, hjc, hjc1, hcl, hca]
          have hpi : plIns ins rw (plFu fn wy f) j k = va_up ins j (ci, kf, pi, on, (sSt ci kf pi on (tb.map rw) ph le (sGo ci kf pi on (tb.map rw) ph le none 0 k).2).1, (sSt ci kf pi on (tb.map rw) ph le (sGo ci kf pi on (tb.map rw) ph le none 0 k).2).2, tb) := by
            unfold plIns
            rw [hgo, hins]
          have hpr : plRw ins bk rw (plFu fn wy f) j k a j1 = va_up rw w1 (lane1, n1, dlv f1 a (fun q => sTurn lane1 (if (sGo ci kf pi on (tb.map rw) ph le none 0 k).1 = 0 then w9 q else FP.dconst0)) k) := by
            unfold plRw
            rw [hbk1]
            show va_up rw w1 ((rw w1).1, (rw w1).2.1, dlv (rw w1).2.2 a (fun q => sTurn (rw w1).1 (if (plGo ins rw (plFu fn wy f) j k).1 = 0 then plSm ins rw (plFu fn wy f) j q else FP.dconst0)) k) = _
            rw [hrw1, hgo]
            show va_up rw w1 (lane1, n1, dlv f1 a (fun q => sTurn lane1 (if (sGo ci kf pi on (tb.map rw) ph le none 0 k).1 = 0 then plSm ins rw (plFu fn wy f) j q else FP.dconst0)) k) = _
            rw [dlv_c (g' := fun q => sTurn lane1 (if (sGo ci kf pi on (tb.map rw) ph le none 0 k).1 = 0 then w9 q else FP.dconst0))]
            intro q hq
            show sTurn lane1 (if (sGo ci kf pi on (tb.map rw) ph le none 0 k).1 = 0 then plSm ins rw (plFu fn wy f) j q else FP.dconst0) = sTurn lane1 (if (sGo ci kf pi on (tb.map rw) ph le none 0 k).1 = 0 then w9 q else FP.dconst0)
            by_cases hz : (sGo ci kf pi on (tb.map rw) ph le none 0 k).1 = 0
            · rw [if_pos hz, if_pos hz, hsm q, hw9 hz q hq]
            · rw [if_neg hz, if_neg hz]
          rw [hpi, hpr, hgo, if_neg c_127, if_neg c_127, eM10, eM8, eM7, eM5, mUp_up, ep0, eq0, ev1]
          have hi2 := insK_up (j := j) (v := (ci, kf, pi, on, (sSt ci kf pi on (tb.map rw) ph le (sGo ci kf pi on (tb.map rw) ph le none 0 k).2).1, (sSt ci kf pi on (tb.map rw) ph le (sGo ci kf pi on (tb.map rw) ph le none 0 k).2).2, tb)) hiK (by rw [hins])
          have h1 := hC.inst (pi' := pi) (on' := on) (ph' := (sSt ci kf pi on (tb.map rw) ph le (sGo ci kf pi on (tb.map rw) ph le none 0 k).2).1) (le' := (sSt ci kf pi on (tb.map rw) ph le (sGo ci kf pi on (tb.map rw) ph le none 0 k).2).2) (fl' := fl9) hiK hj hins
          have h2 := h1.scal (bd' := bd) (st' := st) (c2' := c2) (c3' := c3) (c4' := c4 + nI (sGo ci kf pi on (tb.map rw) ph le none 0 k).2) hi2
          have h3 := h2.wait (wt' := w9) hi2
          have h4 := h3.row (f' := dlv f1 a (fun q => sTurn lane1 (if (sGo ci kf pi on (tb.map rw) ph le none 0 k).1 = 0 then w9 q else FP.dconst0)) k) hi2 (hL w1 hlv1) hrw1
          exact (h4.scal hi2).rep), (by rw [eM10, eM8, eM7, eM5, ep0, ev1]; unfold tri; exact (((((kept.rf.up hno.1).up nx).up n4).up hnr1.2).up nx).up nx)⟩)
        · skip
          rw [bI_eq] at c_59
          refine lv_aload_n hx hb dX9_play_62 rfl (lv_at hl 3 rfl) ?_
          refine lv_iconst (v := -1) hx hb dX9_play_63 (by decide) ?_
          refine m_put (ci := 7) (v := .int (-1)) (ty := .int) (C := RX9) (T := TX9) (N := 11) hx hb hts in_X9_play_X9 tyX9 tyX9_ok nmX9 hown hE hM hS g_x rfl 7 (by decide) (hts (.fieldLink RX9 53 "CallWays2" "latest" "I") (by decide +kernel)) (fun _ h9 => h9) rfl (by decide +kernel) rfl rfl (Nat.le_of_ble_eq_true rfl) dX9_play_64 (fun H locs hM hS => ?_)
          have hM : mOK E.1 (mA M sz) (mUp M x (mO 7 [.ref a1, .ref a2, .ref a3, .ref a4, .int (nI nn), .int (nI nf), .int bd, .int (-1), .int c2, .int c3, .int c4])) H := hM
          obtain ⟨M11, eM11⟩ : ∃ z, z = mUp M x (mO 7 [.ref a1, .ref a2, .ref a3, .ref a4, .int (nI nn), .int (nI nf), .int bd, .int (-1), .int c2, .int c3, .int c4]) := ⟨_, rfl⟩
          rw [← eM11] at hM
          have g_a1_ : M11 a1 = some (mQ E 4 12 fi) := by rw [eM11]; exact mUp_at (m_ne g_a1 g_x (by simp)) g_a1
          have g_a2_ : M11 a2 = some (mQ E 5 10 fb) := by rw [eM11]; exact mUp_at (m_ne g_a2 g_x (by simp)) g_a2
          have g_a3_ : M11 a3 = some (mQ E 6 8 ff) := by rw [eM11]; exact mUp_at (m_ne g_a3 g_x (by simp)) g_a3
          have g_a4_ : M11 a4 = some (mDb E 40 wt) := by rw [eM11]; exact mUp_at (m_ne g_a4 g_x (by simp)) g_a4
          have g_p0_ : M11 p0 = some (mO ci [.ref q0, .int pi, .int on, .int ph, .double le, va_rf (tb.map ra), .int f0]) := by rw [eM11]; exact mUp_at (m_ne g_p0 g_x (by simp)) g_p0
          have g_q0_ : M11 q0 = some (mI E 4 kf) := by rw [eM11]; exact mUp_at (m_ne g_q0 g_x (by simp)) g_q0
          have g_a1 := g_a1_
          have g_a2 := g_a2_
          have g_a3 := g_a3_
          have g_a4 := g_a4_
          have g_p0 := g_p0_
          have g_q0 := g_q0_
          have g_x : M11 x = some (mO 7 [.ref a1, .ref a2, .ref a3, .ref a4, .int (nI nn), .int (nI nf), .int bd, .int (-1), .int c2, .int c3, .int c4]) := by rw [eM11]; exact mUp_self _ _ _
          refine lv_iconst (v := -1) hx hb dX9_play_67 (by decide) ?_
          exact m_iret hx hb hr hlocks hM hS (Nat.le_refl _) (Nat.le_refl _) dX9_play_68 (by have hz : ¬ vPl nn nf i wy f b := na2 (na2 c_59); exact ⟨(if_neg hz).symm, (by show cRep E _ NO x (if vPl nn nf i wy f b then _ else _); rw [if_neg hz, eM11]; exact (hC.scal hiK).rep), (by rw [eM11]; exact kx nx)⟩)
      · skip
        refine lv_iload_n hx hb dX9_play_27 rfl (lv_at hl 4 rfl) ?_
        refine lv_iconst (v := 1) hx hb dX9_play_28 (by decide) ?_
        refine lv_icmp_eq (tgt := 37) hx hb dX9_play_29 (by decide) (fun c_29 => ?_) (fun c_29 => ?_)
        · skip
          refine lv_iconst (v := 1) hx hb dX9_play_37 (by decide) ?_
          refine lv_goto (tgt := 42) hx hb dX9_play_38 (by decide) ?_
          refine lv_istore (lv' := [(9, .int 1), (8, .null), (7, .ref p0), (0, .ref x), (1, .int i), (2, .int wy), (3, .int f), (4, .int b), (5, .int fr), (6, .int n)]) hx hb dX9_play_42 hl (by decide) rfl (fun ls hl => ?_)
          refine lv_aload hx hb dX9_play_44 (lv_at hl 2 rfl) ?_
          refine lv_ifnull hx hb dX9_play_46 ?_
          refine lv_iload hx hb dX9_play_49 (lv_at hl 0 rfl) ?_
          refine lv_if_eq (tgt := 62) hx hb dX9_play_51 (by decide) (fun h9 => False.elim (by revert h9; exact (fun h => absurd h (by decide)))) (fun _ => ?_)
          refine lv_iload hx hb dX9_play_54 (lv_at hl 7 rfl) ?_
          refine m_calli (va_runS (As := [.int b]) (rest := []) ⟨hx, hb, hml, hown, hts⟩ (c_X9_isBlock l E M H.size b) (va_cwS 1 hts gX9_play_X9_isBlock rfl rfl rfl (by decide +kernel) ⟨Nat.le_of_ble_eq_true rfl, Nat.le_of_ble_eq_true rfl⟩) (m_preS hE hM) rfl rfl hl.1 rfl (lv_room (Nat.le_of_ble_eq_true rfl)) dX9_play_56 ⟨Nat.le_of_ble_eq_true rfl, Nat.le_of_ble_eq_true rfl⟩) hM hS hA (fun r3 u H locs hw hM hS => ?_)
          obtain ⟨e_r3, eu⟩ := hw
          rw [eu] at hM
          subst e_r3
          refine lv_if_ne (tgt := 69) hx hb dX9_play_59 (by decide) (fun c_59 => ?_) (fun c_59 => ?_)
          · skip
            rw [bI_ne] at c_59
            refine lv_aload_n hx hb dX9_play_69 rfl (lv_at hl 3 rfl) ?_
            refine lv_iload hx hb dX9_play_70 (lv_at hl 7 rfl) ?_
            refine m_callq (va_runV (As := [.int b]) (rest := []) ⟨hx, hb, hml, hown, hts⟩ (c_X9_heldBy l E M H.size x a1 a2 a3 a4 nn nf bd st c2 c3 c4 fi fb ff wt b g_x g_a2) (cwV 1 hts gX9_play_X9_heldBy rfl rfl rfl (by decide +kernel) ⟨Nat.le_of_ble_eq_true rfl, Nat.le_of_ble_eq_true rfl⟩) (m_preV hE hM g_x rfl) rfl rfl hl.1 rfl (lv_room (Nat.le_of_ble_eq_true rfl)) dX9_play_72 ⟨Nat.le_of_ble_eq_true rfl, Nat.le_of_ble_eq_true rfl⟩) hM hS hA (fun r4 u H locs hw hM hS => ?_)
            obtain ⟨e_r4, eu⟩ := hw
            rw [eu] at hM
            rw [if_pos c_59] at e_r4
            obtain ⟨j1, hj1, hij1, hjc1⟩ := vB_ix c_59
            rw [hjc1, hB j1 hj1] at e_r4
            rcases hbk1 : bk j1 with _ | w1
            · rw [hbk1] at e_r4
              replace e_r4 : r4 = none := e_r4
              subst e_r4
              refine W.eq (g2 := F0 m 75 ls [.null]) rfl ?_
              refine lv_astoreN (lv' := [(10, .null), (9, .int 1), (8, .null), (7, .ref p0), (0, .ref x), (1, .int i), (2, .int wy), (3, .int f), (4, .int b), (5, .int fr), (6, .int n)]) hx hb dX9_play_75 hl (by decide) rfl (fun ls hl => ?_)
              refine lv_aload_n hx hb dX9_play_77 rfl (lv_at hl 4 rfl) ?_
              refine lv_aloadN hx hb dX9_play_78 (lv_at hl 0 rfl) ?_
              refine lv_iload_n hx hb dX9_play_80 rfl (lv_at hl 6 rfl) ?_
              refine lv_iload hx hb dX9_play_81 (lv_at hl 9 rfl) ?_
              refine lv_iload hx hb dX9_play_83 (lv_at hl 10 rfl) ?_
              refine m_calli (va_runV (As := [.null, .int wy, .int fr, .int n]) (rest := []) ⟨hx, hb, hml, hown, hts⟩ (c_X9_into_n l E M H.size x wy fr n) (cwV 4 hts gX9_play_X9_againstBlock rfl rfl rfl (by decide +kernel) ⟨Nat.le_of_ble_eq_true rfl, Nat.le_of_ble_eq_true rfl⟩) (m_preV hE hM g_x rfl) rfl rfl hl.1 rfl (lv_room (Nat.le_of_ble_eq_true rfl)) dX9_play_85 ⟨Nat.le_of_ble_eq_true rfl, Nat.le_of_ble_eq_true rfl⟩) hM hS hA (fun r5 u H locs hw hM hS => ?_)
              obtain ⟨e_r5, eu⟩ := hw
              rw [eu] at hM
              subst e_r5
              refine lv_istore (lv' := [(11, .int (-5)), (10, .null), (9, .int 1), (8, .null), (7, .ref p0), (0, .ref x), (1, .int i), (2, .int wy), (3, .int f), (4, .int b), (5, .int fr), (6, .int n)]) hx hb dX9_play_88 hl (by decide) rfl (fun ls hl => ?_)
              refine lv_iload hx hb dX9_play_90 (lv_at hl 0 rfl) ?_
              refine lv_if_ne (tgt := 119) hx hb dX9_play_92 (by decide) (fun _ => ?_) (fun h9 => False.elim (by revert h9; exact (fun h => absurd h (by decide))))
              refine lv_aload_n hx hb dX9_play_119 rfl (lv_at hl 5 rfl) ?_
              refine lv_iload hx hb dX9_play_120 (lv_at hl 0 rfl) ?_
              refine m_put (ci := 7) (v := .int (-5)) (ty := .int) (C := RX9) (T := TX9) (N := 11) hx hb hts in_X9_play_X9 tyX9 tyX9_ok nmX9 hown hE hM hS g_x rfl 7 (by decide) (hts (.fieldLink RX9 53 "CallWays2" "latest" "I") (by decide +kernel)) (fun _ h9 => h9) rfl (by decide +kernel) rfl rfl (Nat.le_of_ble_eq_true rfl) dX9_play_122 (fun H locs hM hS => ?_)
              have hM : mOK E.1 (mA M sz) (mUp M x (mO 7 [.ref a1, .ref a2, .ref a3, .ref a4, .int (nI nn), .int (nI nf), .int bd, .int (-5), .int c2, .int c3, .int c4])) H := hM
              obtain ⟨M12, eM12⟩ : ∃ z, z = mUp M x (mO 7 [.ref a1, .ref a2, .ref a3, .ref a4, .int (nI nn), .int (nI nf), .int bd, .int (-5), .int c2, .int c3, .int c4]) := ⟨_, rfl⟩
              rw [← eM12] at hM
              have g_a1_ : M12 a1 = some (mQ E 4 12 fi) := by rw [eM12]; exact mUp_at (m_ne g_a1 g_x (by simp)) g_a1
              have g_a2_ : M12 a2 = some (mQ E 5 10 fb) := by rw [eM12]; exact mUp_at (m_ne g_a2 g_x (by simp)) g_a2
              have g_a3_ : M12 a3 = some (mQ E 6 8 ff) := by rw [eM12]; exact mUp_at (m_ne g_a3 g_x (by simp)) g_a3
              have g_a4_ : M12 a4 = some (mDb E 40 wt) := by rw [eM12]; exact mUp_at (m_ne g_a4 g_x (by simp)) g_a4
              have g_p0_ : M12 p0 = some (mO ci [.ref q0, .int pi, .int on, .int ph, .double le, va_rf (tb.map ra), .int f0]) := by rw [eM12]; exact mUp_at (m_ne g_p0 g_x (by simp)) g_p0
              have g_q0_ : M12 q0 = some (mI E 4 kf) := by rw [eM12]; exact mUp_at (m_ne g_q0 g_x (by simp)) g_q0
              have g_a1 := g_a1_
              have g_a2 := g_a2_
              have g_a3 := g_a3_
              have g_a4 := g_a4_
              have g_p0 := g_p0_
              have g_q0 := g_q0_
              have g_x : M12 x = some (mO 7 [.ref a1, .ref a2, .ref a3, .ref a4, .int (nI nn), .int (nI nf), .int bd, .int (-5), .int c2, .int c3, .int c4]) := by rw [eM12]; exact mUp_self _ _ _
              refine lv_iload hx hb dX9_play_125 (lv_at hl 0 rfl) ?_
              refine lv_if_eq (tgt := 143) hx hb dX9_play_127 (by decide) (fun h9 => False.elim (by revert h9; exact (fun h => absurd h (by decide)))) (fun _ => ?_)
              refine lv_aload_n hx hb dX9_play_130 rfl (lv_at hl 5 rfl) ?_
              refine lv_dup hx hb dX9_play_131 rfl ?_
              refine m_get (ci := 7) (v := .int c3) (C := RX9) (T := TX9) (N := 11) hx hb hts in_X9_play_X9 hown hE hM g_x rfl 9 (by decide) (hts (.fieldLink RX9 135 "CallWays2" "playedFailed" "I") (by decide +kernel)) (fun _ h9 => h9) rfl dX9_play_132 ?_
              refine lv_iconst (v := 1) hx hb dX9_play_135 (by decide) ?_
              refine lv_iadd hx hb dX9_play_136 ?_
              refine m_put (ci := 7) (v := .int (c3 + 1)) (ty := .int) (C := RX9) (T := TX9) (N := 11) hx hb hts in_X9_play_X9 tyX9 tyX9_ok nmX9 hown hE hM hS g_x rfl 9 (by decide) (hts (.fieldLink RX9 135 "CallWays2" "playedFailed" "I") (by decide +kernel)) (fun _ h9 => h9) rfl (by decide +kernel) rfl rfl (Nat.le_of_ble_eq_true rfl) dX9_play_137 (fun H locs hM hS => ?_)
              have hM : mOK E.1 (mA M sz) (mUp M12 x (mO 7 [.ref a1, .ref a2, .ref a3, .ref a4, .int (nI nn), .int (nI nf), .int bd, .int (-5), .int c2, .int (c3 + 1), .int c4])) H := hM
              obtain ⟨M13, eM13⟩ : ∃ z, z = mUp M12 x (mO 7 [.ref a1, .ref a2, .ref a3, .ref a4, .int (nI nn), .int (nI nf), .int bd, .int (-5), .int c2, .int (c3 + 1), .int c4]) := ⟨_, rfl⟩
              rw [← eM13] at hM
              have g_a1_ : M13 a1 = some (mQ E 4 12 fi) := by rw [eM13]; exact mUp_at (m_ne g_a1 g_x (by simp)) g_a1
              have g_a2_ : M13 a2 = some (mQ E 5 10 fb) := by rw [eM13]; exact mUp_at (m_ne g_a2 g_x (by simp)) g_a2
              have g_a3_ : M13 a3 = some (mQ E 6 8 ff) := by rw [eM13]; exact mUp_at (m_ne g_a3 g_x (by simp)) g_a3
              have g_a4_ : M13 a4 = some (mDb E 40 wt) := by rw [eM13]; exact mUp_at (m_ne g_a4 g_x (by simp)) g_a4
              have g_p0_ : M13 p0 = some (mO ci [.ref q0, .int pi, .int on, .int ph, .double le, va_rf (tb.map ra), .int f0]) := by rw [eM13]; exact mUp_at (m_ne g_p0 g_x (by simp)) g_p0
              have g_q0_ : M13 q0 = some (mI E 4 kf) := by rw [eM13]; exact mUp_at (m_ne g_q0 g_x (by simp)) g_q0
              have g_a1 := g_a1_
              have g_a2 := g_a2_
              have g_a3 := g_a3_
              have g_a4 := g_a4_
              have g_p0 := g_p0_
              have g_q0 := g_q0_
              have g_x : M13 x = some (mO 7 [.ref a1, .ref a2, .ref a3, .ref a4, .int (nI nn), .int (nI nf), .int bd, .int (-5), .int c2, .int (c3 + 1), .int c4]) := by rw [eM13]; exact mUp_self _ _ _
              refine lv_iload hx hb dX9_play_140 (lv_at hl 0 rfl) ?_
              exact m_iret hx hb hr hlocks hM hS (Nat.le_refl _) (Nat.le_refl _) dX9_play_142 (by have hok : vPl nn nf i wy f b := ⟨hv, Or.inr (Or.inl c_29), c_59⟩; have hpf := (plF_n hjc1 hbk1 : plF bk rw bd b wy fr n = _); exact ⟨(by show _ = (if vPl nn nf i wy f b then (if plF bk rw bd b wy fr n = 0 then _ else _) else _); rw [if_pos hok, if_neg (by rw [hpf]; decide), hpf]), (by show cRep E _ NO x (if vPl nn nf i wy f b then (if plF bk rw bd b wy fr n = 0 then _ else _) else _); rw [if_pos hok, if_neg (by rw [hpf]; decide), hpf, eM13, eM12, mUp_up]; exact (hC.scal hiK).rep), (by rw [eM13, eM12]; exact (kept.rf.up nx).up nx)⟩)
            · rw [hbk1] at e_r4
              replace e_r4 : r4 = some (ra w1) := e_r4
              have hlv1 : live nn ins bk w1 := Or.inl ⟨j1, hj1, hbk1⟩
              rcases hrw1 : rw w1 with ⟨lane1, n1, f1⟩
              obtain ⟨g_s1, g_v1, hva1⟩ := hR w1 (hL w1 hlv1) _ _ _ hrw1
              obtain ⟨hn1, hlane1, hvo1⟩ := hvR w1 hlv1 _ _ _ hrw1
              have hnr1 := nR0 w1 (hL w1 hlv1)
              obtain ⟨s1, es1⟩ : ∃ z, z = ra w1 := ⟨_, rfl⟩
              obtain ⟨v1, ev1⟩ : ∃ z, z = rb w1 := ⟨_, rfl⟩
              rw [← es1, ← ev1] at g_s1
              rw [← ev1] at g_v1 hva1
              rw [← es1] at e_r4
              subst e_r4
              refine W.eq (g2 := F0 m 75 ls [.ref s1]) rfl ?_
              refine lv_astore (lv' := [(10, .ref s1), (9, .int 1), (8, .null), (7, .ref p0), (0, .ref x), (1, .int i), (2, .int wy), (3, .int f), (4, .int b), (5, .int fr), (6, .int n)]) hx hb dX9_play_75 hl (by decide) rfl (fun ls hl => ?_)
              refine lv_aload_n hx hb dX9_play_77 rfl (lv_at hl 4 rfl) ?_
              refine lv_aload hx hb dX9_play_78 (lv_at hl 0 rfl) ?_
              refine lv_iload_n hx hb dX9_play_80 rfl (lv_at hl 6 rfl) ?_
              refine lv_iload hx hb dX9_play_81 (lv_at hl 9 rfl) ?_
              refine lv_iload hx hb dX9_play_83 (lv_at hl 10 rfl) ?_
              refine m_calli (va_runV (As := [.ref s1, .int wy, .int fr, .int n]) (rest := []) ⟨hx, hb, hml, hown, hts⟩ (c_X9_into_s l E M H.size x a1 a2 a3 a4 nn nf bd st c2 c3 c4 fi fb ff wt s1 v1 n1 lane1 f1 wy fr n g_x g_s1 g_v1) (cwV 4 hts gX9_play_X9_againstBlock rfl rfl rfl (by decide +kernel) ⟨Nat.le_of_ble_eq_true rfl, Nat.le_of_ble_eq_true rfl⟩) (m_preV hE hM g_x rfl) rfl rfl hl.1 rfl (lv_room (Nat.le_of_ble_eq_true rfl)) dX9_play_85 ⟨Nat.le_of_ble_eq_true rfl, Nat.le_of_ble_eq_true rfl⟩) hM hS hA (fun r5 u H locs hw hM hS => ?_)
              obtain ⟨e_r5, eu⟩ := hw
              rw [eu] at hM
              subst e_r5
              refine lv_istore (lv' := [(11, .int (sInto lane1 n1 bd wy fr n)), (10, .ref s1), (9, .int 1), (8, .null), (7, .ref p0), (0, .ref x), (1, .int i), (2, .int wy), (3, .int f), (4, .int b), (5, .int fr), (6, .int n)]) hx hb dX9_play_88 hl (by decide) rfl (fun ls hl => ?_)
              refine lv_iload hx hb dX9_play_90 (lv_at hl 0 rfl) ?_
              refine lv_if_ne (tgt := 119) hx hb dX9_play_92 (by decide) (fun c_92 => ?_) (fun c_92 => ?_)
              · skip
                refine lv_aload_n hx hb dX9_play_119 rfl (lv_at hl 5 rfl) ?_
                refine lv_iload hx hb dX9_play_120 (lv_at hl 0 rfl) ?_
                refine m_put (ci := 7) (v := .int (sInto lane1 n1 bd wy fr n)) (ty := .int) (C := RX9) (T := TX9) (N := 11) hx hb hts in_X9_play_X9 tyX9 tyX9_ok nmX9 hown hE hM hS g_x rfl 7 (by decide) (hts (.fieldLink RX9 53 "CallWays2" "latest" "I") (by decide +kernel)) (fun _ h9 => h9) rfl (by decide +kernel) rfl rfl (Nat.le_of_ble_eq_true rfl) dX9_play_122 (fun H locs hM hS => ?_)
                have hM : mOK E.1 (mA M sz) (mUp M x (mO 7 [.ref a1, .ref a2, .ref a3, .ref a4, .int (nI nn), .int (nI nf), .int bd, .int (sInto lane1 n1 bd wy fr n), .int c2, .int c3, .int c4])) H := hM
                obtain ⟨M14, eM14⟩ : ∃ z, z = mUp M x (mO 7 [.ref a1, .ref a2, .ref a3, .ref a4, .int (nI nn), .int (nI nf), .int bd, .int (sInto lane1 n1 bd wy fr n), .int c2, .int c3, .int c4]) := ⟨_, rfl⟩
                rw [← eM14] at hM
                have g_a1_ : M14 a1 = some (mQ E 4 12 fi) := by rw [eM14]; exact mUp_at (m_ne g_a1 g_x (by simp)) g_a1
                have g_a2_ : M14 a2 = some (mQ E 5 10 fb) := by rw [eM14]; exact mUp_at (m_ne g_a2 g_x (by simp)) g_a2
                have g_a3_ : M14 a3 = some (mQ E 6 8 ff) := by rw [eM14]; exact mUp_at (m_ne g_a3 g_x (by simp)) g_a3
                have g_a4_ : M14 a4 = some (mDb E 40 wt) := by rw [eM14]; exact mUp_at (m_ne g_a4 g_x (by simp)) g_a4
                have g_p0_ : M14 p0 = some (mO ci [.ref q0, .int pi, .int on, .int ph, .double le, va_rf (tb.map ra), .int f0]) := by rw [eM14]; exact mUp_at (m_ne g_p0 g_x (by simp)) g_p0
                have g_q0_ : M14 q0 = some (mI E 4 kf) := by rw [eM14]; exact mUp_at (m_ne g_q0 g_x (by simp)) g_q0
                have g_s1_ : M14 s1 = some (mO 5 [.int lane1, .ref v1]) := by rw [eM14]; exact mUp_at (m_ne g_s1 g_x (by simp)) g_s1
                have g_v1_ : M14 v1 = some (mDb E n1 f1) := by rw [eM14]; exact mUp_at (m_ne g_v1 g_x (by simp)) g_v1
                have g_a1 := g_a1_
                have g_a2 := g_a2_
                have g_a3 := g_a3_
                have g_a4 := g_a4_
                have g_p0 := g_p0_
                have g_q0 := g_q0_
                have g_s1 := g_s1_
                have g_v1 := g_v1_
                have g_x : M14 x = some (mO 7 [.ref a1, .ref a2, .ref a3, .ref a4, .int (nI nn), .int (nI nf), .int bd, .int (sInto lane1 n1 bd wy fr n), .int c2, .int c3, .int c4]) := by rw [eM14]; exact mUp_self _ _ _
                refine lv_iload hx hb dX9_play_125 (lv_at hl 0 rfl) ?_
                refine lv_if_eq (tgt := 143) hx hb dX9_play_127 (by decide) (fun h9 => False.elim (by revert h9; exact (fun h => c_92 h))) (fun _ => ?_)
                refine lv_aload_n hx hb dX9_play_130 rfl (lv_at hl 5 rfl) ?_
                refine lv_dup hx hb dX9_play_131 rfl ?_
                refine m_get (ci := 7) (v := .int c3) (C := RX9) (T := TX9) (N := 11) hx hb hts in_X9_play_X9 hown hE hM g_x rfl 9 (by decide) (hts (.fieldLink RX9 135 "CallWays2" "playedFailed" "I") (by decide +kernel)) (fun _ h9 => h9) rfl dX9_play_132 ?_
                refine lv_iconst (v := 1) hx hb dX9_play_135 (by decide) ?_
                refine lv_iadd hx hb dX9_play_136 ?_
                refine m_put (ci := 7) (v := .int (c3 + 1)) (ty := .int) (C := RX9) (T := TX9) (N := 11) hx hb hts in_X9_play_X9 tyX9 tyX9_ok nmX9 hown hE hM hS g_x rfl 9 (by decide) (hts (.fieldLink RX9 135 "CallWays2" "playedFailed" "I") (by decide +kernel)) (fun _ h9 => h9) rfl (by decide +kernel) rfl rfl (Nat.le_of_ble_eq_true rfl) dX9_play_137 (fun H locs hM hS => ?_)
                have hM : mOK E.1 (mA M sz) (mUp M14 x (mO 7 [.ref a1, .ref a2, .ref a3, .ref a4, .int (nI nn), .int (nI nf), .int bd, .int (sInto lane1 n1 bd wy fr n), .int c2, .int (c3 + 1), .int c4])) H := hM
                obtain ⟨M15, eM15⟩ : ∃ z, z = mUp M14 x (mO 7 [.ref a1, .ref a2, .ref a3, .ref a4, .int (nI nn), .int (nI nf), .int bd, .int (sInto lane1 n1 bd wy fr n), .int c2, .int (c3 + 1), .int c4]) := ⟨_, rfl⟩
                rw [← eM15] at hM
                have g_a1_ : M15 a1 = some (mQ E 4 12 fi) := by rw [eM15]; exact mUp_at (m_ne g_a1 g_x (by simp)) g_a1
                have g_a2_ : M15 a2 = some (mQ E 5 10 fb) := by rw [eM15]; exact mUp_at (m_ne g_a2 g_x (by simp)) g_a2
                have g_a3_ : M15 a3 = some (mQ E 6 8 ff) := by rw [eM15]; exact mUp_at (m_ne g_a3 g_x (by simp)) g_a3
                have g_a4_ : M15 a4 = some (mDb E 40 wt) := by rw [eM15]; exact mUp_at (m_ne g_a4 g_x (by simp)) g_a4
                have g_p0_ : M15 p0 = some (mO ci [.ref q0, .int pi, .int on, .int ph, .double le, va_rf (tb.map ra), .int f0]) := by rw [eM15]; exact mUp_at (m_ne g_p0 g_x (by simp)) g_p0
                have g_q0_ : M15 q0 = some (mI E 4 kf) := by rw [eM15]; exact mUp_at (m_ne g_q0 g_x (by simp)) g_q0
                have g_s1_ : M15 s1 = some (mO 5 [.int lane1, .ref v1]) := by rw [eM15]; exact mUp_at (m_ne g_s1 g_x (by simp)) g_s1
                have g_v1_ : M15 v1 = some (mDb E n1 f1) := by rw [eM15]; exact mUp_at (m_ne g_v1 g_x (by simp)) g_v1
                have g_a1 := g_a1_
                have g_a2 := g_a2_
                have g_a3 := g_a3_
                have g_a4 := g_a4_
                have g_p0 := g_p0_
                have g_q0 := g_q0_
                have g_s1 := g_s1_
                have g_v1 := g_v1_
                have g_x : M15 x = some (mO 7 [.ref a1, .ref a2, .ref a3, .ref a4, .int (nI nn), .int (nI nf), .int bd, .int (sInto lane1 n1 bd wy fr n), .int c2, .int (c3 + 1), .int c4]) := by rw [eM15]; exact mUp_self _ _ _
                refine lv_iload hx hb dX9_play_140 (lv_at hl 0 rfl) ?_
                exact m_iret hx hb hr hlocks hM hS (Nat.le_refl _) (Nat.le_refl _) dX9_play_142 (by have hok : vPl nn nf i wy f b := ⟨hv, Or.inr (Or.inl c_29), c_59⟩; have hpf := (plF_s hjc1 hbk1 hrw1 : plF bk rw bd b wy fr n = _); exact ⟨(by show _ = (if vPl nn nf i wy f b then (if plF bk rw bd b wy fr n = 0 then _ else _) else _); rw [if_pos hok, if_neg (by rw [hpf]; exact c_92), hpf]), (by show cRep E _ NO x (if vPl nn nf i wy f b then (if plF bk rw bd b wy fr n = 0 then _ else _) else _); rw [if_pos hok, if_neg (by rw [hpf]; exact c_92), hpf, eM15, eM14, mUp_up]; exact (hC.scal hiK).rep), (by rw [eM15, eM14]; exact (kept.rf.up nx).up nx)⟩)
              · skip
                refine lv_aload_n hx hb dX9_play_95 rfl (lv_at hl 5 rfl) ?_
                refine lv_aload hx hb dX9_play_96 (lv_at hl 4 rfl) ?_
                refine lv_aloadN hx hb dX9_play_98 (lv_at hl 3 rfl) ?_
                refine lv_iload hx hb dX9_play_100 (lv_at hl 11 rfl) ?_
                have hspn := sInto_0 c_92
                obtain ⟨a, k, efr, ek, hak⟩ := spn_nat hn1 hspn
                have hpf : plF bk rw bd b wy fr n = 0 := (plF_s hjc1 hbk1 hrw1).trans c_92
                subst efr
                subst ek
                have htb := tbAt_of (E := E) (M := M) hL hR hj (by rw [hins])
                have hto := tbOK_of hvR hj (tb := tb) (by rw [hins])
                have hA4 := hA4_of (E := E) (M := M) hL hR hj (tb := tb) (by rw [hins])
                refine m_calli (va_runV (As := [.ref p0, .null, .int (nI k)]) (rest := []) ⟨hx, hb, hml, hown, hts⟩ (c_X9_gather_n l E M H.size ci hci x a1 a2 a3 a4 nn nf p0 q0 k bd st c2 c3 c4 wt kf pi on ph f0 le (tb.map ra) (tb.map rw) htb hto hle (by omega) g_x g_a4 g_p0 g_q0 hA4) (cwV 3 hts gX9_play_X9_gather rfl rfl rfl (by decide +kernel) ⟨Nat.le_of_ble_eq_true rfl, Nat.le_of_ble_eq_true rfl⟩) (m_preV hE hM g_x rfl) rfl rfl hl.1 rfl (lv_room (Nat.le_of_ble_eq_true rfl)) dX9_play_102 ⟨Nat.le_of_ble_eq_true rfl, Nat.le_of_ble_eq_true rfl⟩) hM hS hA (fun r6 M16 H locs hw hM hS => ?_)
                obtain ⟨e_r6, fl9, w9, eM16, hw9⟩ := hw
                subst e_r6
                have h_xp : x ≠ p0 := m_ne g_x g_p0 (by simp)
                have h_ap : a4 ≠ p0 := m_ne g_a4 g_p0 (by simp)
                have h_xa : x ≠ a4 := m_ne g_x g_a4 (by simp)
                have hh_s1 : M16 s1 = some (mO 5 [.int lane1, .ref v1]) := by rw [eM16]; exact tri_ne g_s1 (m_ne g_s1 g_p0 (fun z => by simp at z)) (m_ne g_s1 g_x (by simp)) (m_ne g_s1 g_a4 (by simp))
                have hh_v1 : M16 v1 = some (mDb E n1 f1) := by rw [eM16]; exact tri_ne g_v1 (m_ne g_v1 g_p0 (by simp)) (m_ne g_v1 g_x (by simp)) hva1
                have hh_q0 : M16 q0 = some (mI E 4 kf) := by rw [eM16]; exact tri_ne g_q0 (m_ne g_q0 g_p0 (by simp)) (m_ne g_q0 g_x (by simp)) (m_ne g_q0 g_a4 (by simp))
                replace g_p0 : M16 p0 = some (mO ci [.ref q0, .int pi, .int on, .int ((sSt ci kf pi on (tb.map rw) ph le (sGo ci kf pi on (tb.map rw) ph le none 0 k).2).1), .double ((sSt ci kf pi on (tb.map rw) ph le (sGo ci kf pi on (tb.map rw) ph le none 0 k).2).2), va_rf (tb.map ra), .int fl9]) := by rw [eM16]; exact tri_gp (Ne.symm h_xp) (Ne.symm h_ap)
                replace g_x : M16 x = some (mO 7 [.ref a1, .ref a2, .ref a3, .ref a4, .int (nI nn), .int (nI nf), .int bd, .int st, .int c2, .int c3, .int (c4 + nI (sGo ci kf pi on (tb.map rw) ph le none 0 k).2)]) := by rw [eM16]; exact tri_gx h_xa
                replace g_a4 : M16 a4 = some (mDb E 40 w9) := by rw [eM16]; exact tri_ga
                replace g_s1 := hh_s1
                replace g_v1 := hh_v1
                replace g_q0 := hh_q0
                refine lv_istore (lv' := [(11, .int ((sGo ci kf pi on (tb.map rw) ph le none 0 k).1)), (10, .ref s1), (9, .int 1), (8, .null), (7, .ref p0), (0, .ref x), (1, .int i), (2, .int wy), (3, .int f), (4, .int b), (5, .int (nI a)), (6, .int (nI k))]) hx hb dX9_play_105 hl (by decide) rfl (fun ls hl => ?_)
                refine lv_aload_n hx hb dX9_play_107 rfl (lv_at hl 5 rfl) ?_
                refine lv_aload hx hb dX9_play_108 (lv_at hl 1 rfl) ?_
                refine lv_iload hx hb dX9_play_110 (lv_at hl 10 rfl) ?_
                refine lv_iload hx hb dX9_play_112 (lv_at hl 11 rfl) ?_
                refine lv_iload hx hb dX9_play_114 (lv_at hl 0 rfl) ?_
                refine m_callv (va_runV (As := [.ref s1, .int (nI a), .int (nI k), .int ((sGo ci kf pi on (tb.map rw) ph le none 0 k).1)]) (rest := []) ⟨hx, hb, hml, hown, hts⟩ (c_X9_deliver l E M16 H.size x a1 a2 a3 a4 nn nf s1 v1 n1 a k bd st c2 c3 (c4 + nI (sGo ci kf pi on (tb.map rw) ph le none 0 k).2) lane1 (sGo ci kf pi on (tb.map rw) ph le none 0 k).1 w9 f1 hva1 (by omega) hn1 hak (fun hz j hj2 => by rw [hw9 hz j hj2]; exact (dB_give (dL_st hle j) hto).fin (by decide)) g_x g_a4 g_s1 g_v1) (cwV 4 hts gX9_play_X9_deliver rfl rfl rfl (by decide +kernel) ⟨Nat.le_of_ble_eq_true rfl, Nat.le_of_ble_eq_true rfl⟩) (m_preV hE hM g_x rfl) rfl rfl hl.1 rfl (lv_room (Nat.le_of_ble_eq_true rfl)) dX9_play_116 ⟨Nat.le_of_ble_eq_true rfl, Nat.le_of_ble_eq_true rfl⟩) hM hS hA (fun M18 H locs hw hM hS => ?_)
                have eM18 := hw
                have g_x_ : M18 x = some (mO 7 [.ref a1, .ref a2, .ref a3, .ref a4, .int (nI nn), .int (nI nf), .int bd, .int st, .int c2, .int c3, .int (c4 + nI (sGo ci kf pi on (tb.map rw) ph le none 0 k).2)]) := by rw [eM18]; exact mUp_at (m_ne g_x g_v1 (by simp)) g_x
                have g_a4_ : M18 a4 = some (mDb E 40 w9) := by rw [eM18]; exact mUp_at (Ne.symm hva1) g_a4
                have g_p0_ : M18 p0 = some (mO ci [.ref q0, .int pi, .int on, .int ((sSt ci kf pi on (tb.map rw) ph le (sGo ci kf pi on (tb.map rw) ph le none 0 k).2).1), .double ((sSt ci kf pi on (tb.map rw) ph le (sGo ci kf pi on (tb.map rw) ph le none 0 k).2).2), va_rf (tb.map ra), .int fl9]) := by rw [eM18]; exact mUp_at (m_ne g_p0 g_v1 (by simp)) g_p0
                have g_q0_ : M18 q0 = some (mI E 4 kf) := by rw [eM18]; exact mUp_at (m_ne g_q0 g_v1 (by simp)) g_q0
                have g_s1_ : M18 s1 = some (mO 5 [.int lane1, .ref v1]) := by rw [eM18]; exact mUp_at (m_ne g_s1 g_v1 (by simp)) g_s1
                have g_x := g_x_
                have g_a4 := g_a4_
                have g_p0 := g_p0_
                have g_q0 := g_q0_
                have g_s1 := g_s1_
                have g_v1 : M18 v1 = some (mDb E n1 (dlv f1 a (fun q => sTurn lane1 (if (sGo ci kf pi on (tb.map rw) ph le none 0 k).1 = 0 then w9 q else FP.dconst0)) k)) := by rw [eM18]; exact mUp_self _ _ _
                refine lv_aload_n hx hb dX9_play_119 rfl (lv_at hl 5 rfl) ?_
                refine lv_iload hx hb dX9_play_120 (lv_at hl 0 rfl) ?_
                refine m_put (ci := 7) (v := .int ((sGo ci kf pi on (tb.map rw) ph le none 0 k).1)) (ty := .int) (C := RX9) (T := TX9) (N := 11) hx hb hts in_X9_play_X9 tyX9 tyX9_ok nmX9 hown hE hM hS g_x rfl 7 (by decide) (hts (.fieldLink RX9 53 "CallWays2" "latest" "I") (by decide +kernel)) (fun _ h9 => h9) rfl (by decide +kernel) rfl rfl (Nat.le_of_ble_eq_true rfl) dX9_play_122 (fun H locs hM hS => ?_)
                have hM : mOK E.1 (mA M sz) (mUp M18 x (mO 7 [.ref a1, .ref a2, .ref a3, .ref a4, .int (nI nn), .int (nI nf), .int bd, .int ((sGo ci kf pi on (tb.map rw) ph le none 0 k).1), .int c2, .int c3, .int (c4 + nI (sGo ci kf pi on (tb.map rw) ph le none 0 k).2)])) H := hM
                obtain ⟨M19, eM19⟩ : ∃ z, z = mUp M18 x (mO 7 [.ref a1, .ref a2, .ref a3, .ref a4, .int (nI nn), .int (nI nf), .int bd, .int ((sGo ci kf pi on (tb.map rw) ph le none 0 k).1), .int c2, .int c3, .int (c4 + nI (sGo ci kf pi on (tb.map rw) ph le none 0 k).2)]) := ⟨_, rfl⟩
                rw [← eM19] at hM
                have g_a4_ : M19 a4 = some (mDb E 40 w9) := by rw [eM19]; exact mUp_at (m_ne g_a4 g_x (by simp)) g_a4
                have g_p0_ : M19 p0 = some (mO ci [.ref q0, .int pi, .int on, .int ((sSt ci kf pi on (tb.map rw) ph le (sGo ci kf pi on (tb.map rw) ph le none 0 k).2).1), .double ((sSt ci kf pi on (tb.map rw) ph le (sGo ci kf pi on (tb.map rw) ph le none 0 k).2).2), va_rf (tb.map ra), .int fl9]) := by rw [eM19]; exact mUp_at (m_ne g_p0 g_x (by simp)) g_p0
                have g_q0_ : M19 q0 = some (mI E 4 kf) := by rw [eM19]; exact mUp_at (m_ne g_q0 g_x (by simp)) g_q0
                have g_s1_ : M19 s1 = some (mO 5 [.int lane1, .ref v1]) := by rw [eM19]; exact mUp_at (m_ne g_s1 g_x (by simp)) g_s1
                have g_v1_ : M19 v1 = some (mDb E n1 (dlv f1 a (fun q => sTurn lane1 (if (sGo ci kf pi on (tb.map rw) ph le none 0 k).1 = 0 then w9 q else FP.dconst0)) k)) := by rw [eM19]; exact mUp_at (m_ne g_v1 g_x (by simp)) g_v1
                have g_a4 := g_a4_
                have g_p0 := g_p0_
                have g_q0 := g_q0_
                have g_s1 := g_s1_
                have g_v1 := g_v1_
                have g_x : M19 x = some (mO 7 [.ref a1, .ref a2, .ref a3, .ref a4, .int (nI nn), .int (nI nf), .int bd, .int ((sGo ci kf pi on (tb.map rw) ph le none 0 k).1), .int c2, .int c3, .int (c4 + nI (sGo ci kf pi on (tb.map rw) ph le none 0 k).2)]) := by rw [eM19]; exact mUp_self _ _ _
                refine lv_iload hx hb dX9_play_125 (lv_at hl 0 rfl) ?_
                refine lv_if_eq (tgt := 143) hx hb dX9_play_127 (by decide) (fun c_127 => ?_) (fun c_127 => ?_)
                · skip
                  refine lv_aload_n hx hb dX9_play_143 rfl (lv_at hl 5 rfl) ?_
                  refine lv_dup hx hb dX9_play_144 rfl ?_
                  refine m_get (ci := 7) (v := .int c2) (C := RX9) (T := TX9) (N := 11) hx hb hts in_X9_play_X9 hown hE hM g_x rfl 8 (by decide) (hts (.fieldLink RX9 138 "CallWays2" "playedWell" "I") (by decide +kernel)) (fun _ h9 => h9) rfl dX9_play_145 ?_
                  refine lv_iconst (v := 1) hx hb dX9_play_148 (by decide) ?_
                  refine lv_iadd hx hb dX9_play_149 ?_
                  refine m_put (ci := 7) (v := .int (c2 + 1)) (ty := .int) (C := RX9) (T := TX9) (N := 11) hx hb hts in_X9_play_X9 tyX9 tyX9_ok nmX9 hown hE hM hS g_x rfl 8 (by decide) (hts (.fieldLink RX9 138 "CallWays2" "playedWell" "I") (by decide +kernel)) (fun _ h9 => h9) rfl (by decide +kernel) rfl rfl (Nat.le_of_ble_eq_true rfl) dX9_play_150 (fun H locs hM hS => ?_)
                  have hM : mOK E.1 (mA M sz) (mUp M19 x (mO 7 [.ref a1, .ref a2, .ref a3, .ref a4, .int (nI nn), .int (nI nf), .int bd, .int ((sGo ci kf pi on (tb.map rw) ph le none 0 k).1), .int (c2 + 1), .int c3, .int (c4 + nI (sGo ci kf pi on (tb.map rw) ph le none 0 k).2)])) H := hM
                  obtain ⟨M20, eM20⟩ : ∃ z, z = mUp M19 x (mO 7 [.ref a1, .ref a2, .ref a3, .ref a4, .int (nI nn), .int (nI nf), .int bd, .int ((sGo ci kf pi on (tb.map rw) ph le none 0 k).1), .int (c2 + 1), .int c3, .int (c4 + nI (sGo ci kf pi on (tb.map rw) ph le none 0 k).2)]) := ⟨_, rfl⟩
                  rw [← eM20] at hM
                  have g_a4_ : M20 a4 = some (mDb E 40 w9) := by rw [eM20]; exact mUp_at (m_ne g_a4 g_x (by simp)) g_a4
                  have g_p0_ : M20 p0 = some (mO ci [.ref q0, .int pi, .int on, .int ((sSt ci kf pi on (tb.map rw) ph le (sGo ci kf pi on (tb.map rw) ph le none 0 k).2).1), .double ((sSt ci kf pi on (tb.map rw) ph le (sGo ci kf pi on (tb.map rw) ph le none 0 k).2).2), va_rf (tb.map ra), .int fl9]) := by rw [eM20]; exact mUp_at (m_ne g_p0 g_x (by simp)) g_p0
                  have g_q0_ : M20 q0 = some (mI E 4 kf) := by rw [eM20]; exact mUp_at (m_ne g_q0 g_x (by simp)) g_q0
                  have g_s1_ : M20 s1 = some (mO 5 [.int lane1, .ref v1]) := by rw [eM20]; exact mUp_at (m_ne g_s1 g_x (by simp)) g_s1
                  have g_v1_ : M20 v1 = some (mDb E n1 (dlv f1 a (fun q => sTurn lane1 (if (sGo ci kf pi on (tb.map rw) ph le none 0 k).1 = 0 then w9 q else FP.dconst0)) k)) := by rw [eM20]; exact mUp_at (m_ne g_v1 g_x (by simp)) g_v1
                  have g_a4 := g_a4_
                  have g_p0 := g_p0_
                  have g_q0 := g_q0_
                  have g_s1 := g_s1_
                  have g_v1 := g_v1_
                  have g_x : M20 x = some (mO 7 [.ref a1, .ref a2, .ref a3, .ref a4, .int (nI nn), .int (nI nf), .int bd, .int ((sGo ci kf pi on (tb.map rw) ph le none 0 k).1), .int (c2 + 1), .int c3, .int (c4 + nI (sGo ci kf pi on (tb.map rw) ph le none 0 k).2)]) := by rw [eM20]; exact mUp_self _ _ _
                  refine lv_iload hx hb dX9_play_153 (lv_at hl 11 rfl) ?_
                  exact m_iret hx hb hr hlocks hM hS (Nat.le_refl _) (Nat.le_refl _) dX9_play_155 (by 
        have hok : vPl nn nf i wy f b := ⟨hv, Or.inr (Or.inl c_29), c_59⟩
        have hcl : (nI k).toNatClampNeg = k := nI_clamp (by omega)
        have hca : (nI a).toNatClampNeg = a := nI_clamp (by omega)
        have hfu : plFu fn wy f = none := if_neg c_9
        have hgo : plGo ins rw (plFu fn wy f) j k = sGo ci kf pi on (tb.map rw) ph le none 0 k := by rw [hfu]; unfold plGo; rw [hins]
        have hsm : ∀ q, plSm ins rw (plFu fn wy f) j q = psO none (sSm ci kf pi on (tb.map rw) ph le q).2.1 := by
          intro q
          rw [hfu]
          unfold plSm
          rw [hins]
        exact ⟨(by
          show _ = (if vPl nn nf i wy f b then (if plF bk rw bd b wy (nI a) (nI k) = 0 then (if _ = 0 then _ else _) else _) else _)
          rw [if_pos hok, if_pos hpf, hjc, hcl, hgo, if_pos c_127]), (by
          show cRep E _ NO x (if vPl nn nf i wy f b then (if plF bk rw bd b wy (nI a) (nI k) = 0 then _ else _) else _)
          rw [if_pos hok, if_pos hpf, hjc, hjc1, hcl, hca]
          have hpi : plIns ins rw (plFu fn wy f) j k = va_up ins j (ci, kf, pi, on, (sSt ci kf pi on (tb.map rw) ph le (sGo ci kf pi on (tb.map rw) ph le none 0 k).2).1, (sSt ci kf pi on (tb.map rw) ph le (sGo ci kf pi on (tb.map rw) ph le none 0 k).2).2, tb) := by
            unfold plIns
            rw [hgo, hins]
          have hpr : plRw ins bk rw (plFu fn wy f) j k a j1 = va_up rw w1 (lane1, n1, dlv f1 a (fun q => sTurn lane1 (if (sGo ci kf pi on (tb.map rw) ph le none 0 k).1 = 0 then w9 q else FP.dconst0)) k) := by
            unfold plRw
            rw [hbk1]
            show va_up rw w1 ((rw w1).1, (rw w1).2.1, dlv (rw w1).2.2 a (fun q => sTurn (rw w1).1 (if (plGo ins rw (plFu fn wy f) j k).1 = 0 then plSm ins rw (plFu fn wy f) j q else FP.dconst0)) k) = _
            rw [hrw1, hgo]
            show va_up rw w1 (lane1, n1, dlv f1 a (fun q => sTurn lane1 (if (sGo ci kf pi on (tb.map rw) ph le none 0 k).1 = 0 then plSm ins rw (plFu fn wy f) j q else FP.dconst0)) k) = _
            rw [dlv_c (g' := fun q => sTurn lane1 (if (sGo ci kf pi on (tb.map rw) ph le none 0 k).1 = 0 then w9 q else FP.dconst0))]
            intro q hq
            show sTurn lane1 (if (sGo ci kf pi on (tb.map rw) ph le none 0 k).1 = 0 then plSm ins rw (plFu fn wy f) j q else FP.dconst0) = sTurn lane1 (if (sGo ci kf pi on (tb.map rw) ph le none 0 k).1 = 0 then w9 q else FP.dconst0)
            by_cases hz : (sGo ci kf pi on (tb.map rw) ph le none 0 k).1 = 0
            · rw [if_pos hz, if_pos hz, hsm q, hw9 hz q hq]
            · rw [if_neg hz, if_neg hz]
          rw [hpi, hpr, hgo, if_pos c_127, if_pos c_127, eM20, eM19, eM18, eM16, mUp_up, ep0, eq0, ev1]
          have hi2 := insK_up (j := j) (v := (ci, kf, pi, on, (sSt ci kf pi on (tb.map rw) ph le (sGo ci kf pi on (tb.map rw) ph le none 0 k).2).1, (sSt ci kf pi on (tb.map rw) ph le (sGo ci kf pi on (tb.map rw) ph le none 0 k).2).2, tb)) hiK (by rw [hins])
          have h1 := hC.inst (pi' := pi) (on' := on) (ph' := (sSt ci kf pi on (tb.map rw) ph le (sGo ci kf pi on (tb.map rw) ph le none 0 k).2).1) (le' := (sSt ci kf pi on (tb.map rw) ph le (sGo ci kf pi on (tb.map rw) ph le none 0 k).2).2) (fl' := fl9) hiK hj hins
          have h2 := h1.scal (bd' := bd) (st' := st) (c2' := c2) (c3' := c3) (c4' := c4 + nI (sGo ci kf pi on (tb.map rw) ph le none 0 k).2) hi2
          have h3 := h2.wait (wt' := w9) hi2
          have h4 := h3.row (f' := dlv f1 a (fun q => sTurn lane1 (if (sGo ci kf pi on (tb.map rw) ph le none 0 k).1 = 0 then w9 q else FP.dconst0)) k) hi2 (hL w1 hlv1) hrw1
          exact (h4.scal hi2).rep), (by rw [eM20, eM19, eM18, eM16, ep0, ev1]; unfold tri; exact (((((kept.rf.up hno.1).up nx).up n4).up hnr1.2).up nx).up nx)⟩)
                · skip
                  refine lv_aload_n hx hb dX9_play_130 rfl (lv_at hl 5 rfl) ?_
                  refine lv_dup hx hb dX9_play_131 rfl ?_
                  refine m_get (ci := 7) (v := .int c3) (C := RX9) (T := TX9) (N := 11) hx hb hts in_X9_play_X9 hown hE hM g_x rfl 9 (by decide) (hts (.fieldLink RX9 135 "CallWays2" "playedFailed" "I") (by decide +kernel)) (fun _ h9 => h9) rfl dX9_play_132 ?_
                  refine lv_iconst (v := 1) hx hb dX9_play_135 (by decide) ?_
                  refine lv_iadd hx hb dX9_play_136 ?_
                  refine m_put (ci := 7) (v := .int (c3 + 1)) (ty := .int) (C := RX9) (T := TX9) (N := 11) hx hb hts in_X9_play_X9 tyX9 tyX9_ok nmX9 hown hE hM hS g_x rfl 9 (by decide) (hts (.fieldLink RX9 135 "CallWays2" "playedFailed" "I") (by decide +kernel)) (fun _ h9 => h9) rfl (by decide +kernel) rfl rfl (Nat.le_of_ble_eq_true rfl) dX9_play_137 (fun H locs hM hS => ?_)
                  have hM : mOK E.1 (mA M sz) (mUp M19 x (mO 7 [.ref a1, .ref a2, .ref a3, .ref a4, .int (nI nn), .int (nI nf), .int bd, .int ((sGo ci kf pi on (tb.map rw) ph le none 0 k).1), .int c2, .int (c3 + 1), .int (c4 + nI (sGo ci kf pi on (tb.map rw) ph le none 0 k).2)])) H := hM
                  obtain ⟨M21, eM21⟩ : ∃ z, z = mUp M19 x (mO 7 [.ref a1, .ref a2, .ref a3, .ref a4, .int (nI nn), .int (nI nf), .int bd, .int ((sGo ci kf pi on (tb.map rw) ph le none 0 k).1), .int c2, .int (c3 + 1), .int (c4 + nI (sGo ci kf pi on (tb.map rw) ph le none 0 k).2)]) := ⟨_, rfl⟩
                  rw [← eM21] at hM
                  have g_a4_ : M21 a4 = some (mDb E 40 w9) := by rw [eM21]; exact mUp_at (m_ne g_a4 g_x (by simp)) g_a4
                  have g_p0_ : M21 p0 = some (mO ci [.ref q0, .int pi, .int on, .int ((sSt ci kf pi on (tb.map rw) ph le (sGo ci kf pi on (tb.map rw) ph le none 0 k).2).1), .double ((sSt ci kf pi on (tb.map rw) ph le (sGo ci kf pi on (tb.map rw) ph le none 0 k).2).2), va_rf (tb.map ra), .int fl9]) := by rw [eM21]; exact mUp_at (m_ne g_p0 g_x (by simp)) g_p0
                  have g_q0_ : M21 q0 = some (mI E 4 kf) := by rw [eM21]; exact mUp_at (m_ne g_q0 g_x (by simp)) g_q0
                  have g_s1_ : M21 s1 = some (mO 5 [.int lane1, .ref v1]) := by rw [eM21]; exact mUp_at (m_ne g_s1 g_x (by simp)) g_s1
                  have g_v1_ : M21 v1 = some (mDb E n1 (dlv f1 a (fun q => sTurn lane1 (if (sGo ci kf pi on (tb.map rw) ph le none 0 k).1 = 0 then w9 q else FP.dconst0)) k)) := by rw [eM21]; exact mUp_at (m_ne g_v1 g_x (by simp)) g_v1
                  have g_a4 := g_a4_
                  have g_p0 := g_p0_
                  have g_q0 := g_q0_
                  have g_s1 := g_s1_
                  have g_v1 := g_v1_
                  have g_x : M21 x = some (mO 7 [.ref a1, .ref a2, .ref a3, .ref a4, .int (nI nn), .int (nI nf), .int bd, .int ((sGo ci kf pi on (tb.map rw) ph le none 0 k).1), .int c2, .int (c3 + 1), .int (c4 + nI (sGo ci kf pi on (tb.map rw) ph le none 0 k).2)]) := by rw [eM21]; exact mUp_self _ _ _
                  refine lv_iload hx hb dX9_play_140 (lv_at hl 0 rfl) ?_
                  exact m_iret hx hb hr hlocks hM hS (Nat.le_refl _) (Nat.le_refl _) dX9_play_142 (by 
        have hok : vPl nn nf i wy f b := ⟨hv, Or.inr (Or.inl c_29), c_59⟩
        have hcl : (nI k).toNatClampNeg = k := nI_clamp (by omega)
        have hca : (nI a).toNatClampNeg = a := nI_clamp (by omega)
        have hfu : plFu fn wy f = none := if_neg c_9
        have hgo : plGo ins rw (plFu fn wy f) j k = sGo ci kf pi on (tb.map rw) ph le none 0 k := by rw [hfu]; unfold plGo; rw [hins]
        have hsm : ∀ q, plSm ins rw (plFu fn wy f) j q = psO none (sSm ci kf pi on (tb.map rw) ph le q).2.1 := by
          intro q
          rw [hfu]
          unfold plSm
          rw [hins]
        exact ⟨(by
          show _ = (if vPl nn nf i wy f b then (if plF bk rw bd b wy (nI a) (nI k) = 0 then (if _ = 0 then _ else _) else _) else _)
          rw [if_pos hok, if_pos hpf, hjc, hcl, hgo, if_neg c_127]), (by
          show cRep E _ NO x (if vPl nn nf i wy f b then (if plF bk rw bd b wy (nI a) (nI k) = 0 then _ else _) else _)
          rw [if_pos hok, if_pos hpf, hjc, hjc1, hcl, hca]
          have hpi : plIns ins rw (plFu fn wy f) j k = va_up ins j (ci, kf, pi, on, (sSt ci kf pi on (tb.map rw) ph le (sGo ci kf pi on (tb.map rw) ph le none 0 k).2).1, (sSt ci kf pi on (tb.map rw) ph le (sGo ci kf pi on (tb.map rw) ph le none 0 k).2).2, tb) := by
            unfold plIns
            rw [hgo, hins]
          have hpr : plRw ins bk rw (plFu fn wy f) j k a j1 = va_up rw w1 (lane1, n1, dlv f1 a (fun q => sTurn lane1 (if (sGo ci kf pi on (tb.map rw) ph le none 0 k).1 = 0 then w9 q else FP.dconst0)) k) := by
            unfold plRw
            rw [hbk1]
            show va_up rw w1 ((rw w1).1, (rw w1).2.1, dlv (rw w1).2.2 a (fun q => sTurn (rw w1).1 (if (plGo ins rw (plFu fn wy f) j k).1 = 0 then plSm ins rw (plFu fn wy f) j q else FP.dconst0)) k) = _
            rw [hrw1, hgo]
            show va_up rw w1 (lane1, n1, dlv f1 a (fun q => sTurn lane1 (if (sGo ci kf pi on (tb.map rw) ph le none 0 k).1 = 0 then plSm ins rw (plFu fn wy f) j q else FP.dconst0)) k) = _
            rw [dlv_c (g' := fun q => sTurn lane1 (if (sGo ci kf pi on (tb.map rw) ph le none 0 k).1 = 0 then w9 q else FP.dconst0))]
            intro q hq
            show sTurn lane1 (if (sGo ci kf pi on (tb.map rw) ph le none 0 k).1 = 0 then plSm ins rw (plFu fn wy f) j q else FP.dconst0) = sTurn lane1 (if (sGo ci kf pi on (tb.map rw) ph le none 0 k).1 = 0 then w9 q else FP.dconst0)
            by_cases hz : (sGo ci kf pi on (tb.map rw) ph le none 0 k).1 = 0
            · rw [if_pos hz, if_pos hz, hsm q, hw9 hz q hq]
            · rw [if_neg hz, if_neg hz]
          rw [hpi, hpr, hgo, if_neg c_127, if_neg c_127, eM21, eM19, eM18, eM16, mUp_up, ep0, eq0, ev1]
          have hi2 := insK_up (j := j) (v := (ci, kf, pi, on, (sSt ci kf pi on (tb.map rw) ph le (sGo ci kf pi on (tb.map rw) ph le none 0 k).2).1, (sSt ci kf pi on (tb.map rw) ph le (sGo ci kf pi on (tb.map rw) ph le none 0 k).2).2, tb)) hiK (by rw [hins])
          have h1 := hC.inst (pi' := pi) (on' := on) (ph' := (sSt ci kf pi on (tb.map rw) ph le (sGo ci kf pi on (tb.map rw) ph le none 0 k).2).1) (le' := (sSt ci kf pi on (tb.map rw) ph le (sGo ci kf pi on (tb.map rw) ph le none 0 k).2).2) (fl' := fl9) hiK hj hins
          have h2 := h1.scal (bd' := bd) (st' := st) (c2' := c2) (c3' := c3) (c4' := c4 + nI (sGo ci kf pi on (tb.map rw) ph le none 0 k).2) hi2
          have h3 := h2.wait (wt' := w9) hi2
          have h4 := h3.row (f' := dlv f1 a (fun q => sTurn lane1 (if (sGo ci kf pi on (tb.map rw) ph le none 0 k).1 = 0 then w9 q else FP.dconst0)) k) hi2 (hL w1 hlv1) hrw1
          exact (h4.scal hi2).rep), (by rw [eM21, eM19, eM18, eM16, ep0, ev1]; unfold tri; exact (((((kept.rf.up hno.1).up nx).up n4).up hnr1.2).up nx).up nx)⟩)
          · skip
            rw [bI_eq] at c_59
            refine lv_aload_n hx hb dX9_play_62 rfl (lv_at hl 3 rfl) ?_
            refine lv_iconst (v := -1) hx hb dX9_play_63 (by decide) ?_
            refine m_put (ci := 7) (v := .int (-1)) (ty := .int) (C := RX9) (T := TX9) (N := 11) hx hb hts in_X9_play_X9 tyX9 tyX9_ok nmX9 hown hE hM hS g_x rfl 7 (by decide) (hts (.fieldLink RX9 53 "CallWays2" "latest" "I") (by decide +kernel)) (fun _ h9 => h9) rfl (by decide +kernel) rfl rfl (Nat.le_of_ble_eq_true rfl) dX9_play_64 (fun H locs hM hS => ?_)
            have hM : mOK E.1 (mA M sz) (mUp M x (mO 7 [.ref a1, .ref a2, .ref a3, .ref a4, .int (nI nn), .int (nI nf), .int bd, .int (-1), .int c2, .int c3, .int c4])) H := hM
            obtain ⟨M22, eM22⟩ : ∃ z, z = mUp M x (mO 7 [.ref a1, .ref a2, .ref a3, .ref a4, .int (nI nn), .int (nI nf), .int bd, .int (-1), .int c2, .int c3, .int c4]) := ⟨_, rfl⟩
            rw [← eM22] at hM
            have g_a1_ : M22 a1 = some (mQ E 4 12 fi) := by rw [eM22]; exact mUp_at (m_ne g_a1 g_x (by simp)) g_a1
            have g_a2_ : M22 a2 = some (mQ E 5 10 fb) := by rw [eM22]; exact mUp_at (m_ne g_a2 g_x (by simp)) g_a2
            have g_a3_ : M22 a3 = some (mQ E 6 8 ff) := by rw [eM22]; exact mUp_at (m_ne g_a3 g_x (by simp)) g_a3
            have g_a4_ : M22 a4 = some (mDb E 40 wt) := by rw [eM22]; exact mUp_at (m_ne g_a4 g_x (by simp)) g_a4
            have g_p0_ : M22 p0 = some (mO ci [.ref q0, .int pi, .int on, .int ph, .double le, va_rf (tb.map ra), .int f0]) := by rw [eM22]; exact mUp_at (m_ne g_p0 g_x (by simp)) g_p0
            have g_q0_ : M22 q0 = some (mI E 4 kf) := by rw [eM22]; exact mUp_at (m_ne g_q0 g_x (by simp)) g_q0
            have g_a1 := g_a1_
            have g_a2 := g_a2_
            have g_a3 := g_a3_
            have g_a4 := g_a4_
            have g_p0 := g_p0_
            have g_q0 := g_q0_
            have g_x : M22 x = some (mO 7 [.ref a1, .ref a2, .ref a3, .ref a4, .int (nI nn), .int (nI nf), .int bd, .int (-1), .int c2, .int c3, .int c4]) := by rw [eM22]; exact mUp_self _ _ _
            refine lv_iconst (v := -1) hx hb dX9_play_67 (by decide) ?_
            exact m_iret hx hb hr hlocks hM hS (Nat.le_refl _) (Nat.le_refl _) dX9_play_68 (by have hz : ¬ vPl nn nf i wy f b := na2 (na2 c_59); exact ⟨(if_neg hz).symm, (by show cRep E _ NO x (if vPl nn nf i wy f b then _ else _); rw [if_neg hz, eM22]; exact (hC.scal hiK).rep), (by rw [eM22]; exact kx nx)⟩)
        · skip
          refine lv_aloadN hx hb dX9_play_32 (lv_at hl 0 rfl) ?_
          refine lv_ifnullN (tgt := 41) hx hb dX9_play_34 (by decide) ?_
          refine lv_iconst (v := 0) hx hb dX9_play_41 (by decide) ?_
          refine lv_istore (lv' := [(9, .int 0), (8, .null), (7, .ref p0), (0, .ref x), (1, .int i), (2, .int wy), (3, .int f), (4, .int b), (5, .int fr), (6, .int n)]) hx hb dX9_play_42 hl (by decide) rfl (fun ls hl => ?_)
          refine lv_aload hx hb dX9_play_44 (lv_at hl 2 rfl) ?_
          refine lv_ifnull hx hb dX9_play_46 ?_
          refine lv_iload hx hb dX9_play_49 (lv_at hl 0 rfl) ?_
          refine lv_if_eq (tgt := 62) hx hb dX9_play_51 (by decide) (fun _ => ?_) (fun h9 => False.elim (by revert h9; exact (fun h => h rfl)))
          refine lv_aload_n hx hb dX9_play_62 rfl (lv_at hl 3 rfl) ?_
          refine lv_iconst (v := -1) hx hb dX9_play_63 (by decide) ?_
          refine m_put (ci := 7) (v := .int (-1)) (ty := .int) (C := RX9) (T := TX9) (N := 11) hx hb hts in_X9_play_X9 tyX9 tyX9_ok nmX9 hown hE hM hS g_x rfl 7 (by decide) (hts (.fieldLink RX9 53 "CallWays2" "latest" "I") (by decide +kernel)) (fun _ h9 => h9) rfl (by decide +kernel) rfl rfl (Nat.le_of_ble_eq_true rfl) dX9_play_64 (fun H locs hM hS => ?_)
          have hM : mOK E.1 (mA M sz) (mUp M x (mO 7 [.ref a1, .ref a2, .ref a3, .ref a4, .int (nI nn), .int (nI nf), .int bd, .int (-1), .int c2, .int c3, .int c4])) H := hM
          obtain ⟨M23, eM23⟩ : ∃ z, z = mUp M x (mO 7 [.ref a1, .ref a2, .ref a3, .ref a4, .int (nI nn), .int (nI nf), .int bd, .int (-1), .int c2, .int c3, .int c4]) := ⟨_, rfl⟩
          rw [← eM23] at hM
          have g_a1_ : M23 a1 = some (mQ E 4 12 fi) := by rw [eM23]; exact mUp_at (m_ne g_a1 g_x (by simp)) g_a1
          have g_a2_ : M23 a2 = some (mQ E 5 10 fb) := by rw [eM23]; exact mUp_at (m_ne g_a2 g_x (by simp)) g_a2
          have g_a3_ : M23 a3 = some (mQ E 6 8 ff) := by rw [eM23]; exact mUp_at (m_ne g_a3 g_x (by simp)) g_a3
          have g_a4_ : M23 a4 = some (mDb E 40 wt) := by rw [eM23]; exact mUp_at (m_ne g_a4 g_x (by simp)) g_a4
          have g_p0_ : M23 p0 = some (mO ci [.ref q0, .int pi, .int on, .int ph, .double le, va_rf (tb.map ra), .int f0]) := by rw [eM23]; exact mUp_at (m_ne g_p0 g_x (by simp)) g_p0
          have g_q0_ : M23 q0 = some (mI E 4 kf) := by rw [eM23]; exact mUp_at (m_ne g_q0 g_x (by simp)) g_q0
          have g_a1 := g_a1_
          have g_a2 := g_a2_
          have g_a3 := g_a3_
          have g_a4 := g_a4_
          have g_p0 := g_p0_
          have g_q0 := g_q0_
          have g_x : M23 x = some (mO 7 [.ref a1, .ref a2, .ref a3, .ref a4, .int (nI nn), .int (nI nf), .int bd, .int (-1), .int c2, .int c3, .int c4]) := by rw [eM23]; exact mUp_self _ _ _
          refine lv_iconst (v := -1) hx hb dX9_play_67 (by decide) ?_
          exact m_iret hx hb hr hlocks hM hS (Nat.le_refl _) (Nat.le_refl _) dX9_play_68 (by have hz : ¬ vPl nn nf i wy f b := fun h => h.2.1.elim c_24 (fun h1 => h1.elim c_29 (fun h2 => c_9 h2.1)); exact ⟨(if_neg hz).symm, (by show cRep E _ NO x (if vPl nn nf i wy f b then _ else _); rw [if_neg hz, eM23]; exact (hC.scal hiK).rep), (by rw [eM23]; exact kx nx)⟩)
    · skip
      refine lv_aload_n hx hb dX9_play_12 rfl (lv_at hl 1 rfl) ?_
      refine lv_iload_n hx hb dX9_play_13 rfl (lv_at hl 4 rfl) ?_
      refine m_callq (va_runV (As := [.int f]) (rest := []) ⟨hx, hb, hml, hown, hts⟩ (c_X9_functionAt l E M H.size x a1 a2 a3 a4 nn nf bd st c2 c3 c4 fi fb ff wt f hnf g_x g_a3) (cwV 1 hts gX9_play_X9_functionAt rfl rfl rfl (by decide +kernel) ⟨Nat.le_of_ble_eq_true rfl, Nat.le_of_ble_eq_true rfl⟩) (m_preV hE hM g_x rfl) rfl rfl hl.1 rfl (lv_room (Nat.le_of_ble_eq_true rfl)) dX9_play_14 ⟨Nat.le_of_ble_eq_true rfl, Nat.le_of_ble_eq_true rfl⟩) hM hS hA (fun r2 u H locs hw hM hS => ?_)
      obtain ⟨e_r2, eu⟩ := hw
      rw [eu] at hM
      by_cases hvf : ¬ f < 0 ∧ ¬ nI nf ≤ f
      · rw [if_pos hvf] at e_r2
        obtain ⟨jf, hjf, hijf, hjcf⟩ := vI_ix hvf (by omega)
        rw [hjcf] at e_r2
        obtain ⟨kf1, g_fq⟩ := hF jf hjf
        have hnof := nF0 jf hjf
        obtain ⟨fq, efq⟩ : ∃ z, z = fa jf := ⟨_, rfl⟩
        rw [← efq] at kf1 g_fq
        rw [kf1] at e_r2
        subst e_r2
        refine W.eq (g2 := F0 m 17 ls [.ref fq]) rfl ?_
        refine lv_goto (tgt := 21) hx hb dX9_play_17 (by decide) ?_
        refine lv_astore (lv' := [(8, .ref fq), (7, .ref p0), (0, .ref x), (1, .int i), (2, .int wy), (3, .int f), (4, .int b), (5, .int fr), (6, .int n)]) hx hb dX9_play_21 hl (by decide) rfl (fun ls hl => ?_)
        refine lv_iload_n hx hb dX9_play_23 rfl (lv_at hl 4 rfl) ?_
        refine lv_if_eq (tgt := 37) hx hb dX9_play_24 (by decide) (fun h9 => False.elim (by revert h9; exact (fun h => absurd (c_9.symm.trans h) (by decide)))) (fun _ => ?_)
        refine lv_iload_n hx hb dX9_play_27 rfl (lv_at hl 4 rfl) ?_
        refine lv_iconst (v := 1) hx hb dX9_play_28 (by decide) ?_
        refine lv_icmp_eq (tgt := 37) hx hb dX9_play_29 (by decide) (fun h9 => False.elim (by revert h9; exact (fun h => absurd (c_9.symm.trans h) (by decide)))) (fun _ => ?_)
        refine lv_aload hx hb dX9_play_32 (lv_at hl 0 rfl) ?_
        refine lv_ifnull hx hb dX9_play_34 ?_
        refine lv_iconst (v := 1) hx hb dX9_play_37 (by decide) ?_
        refine lv_goto (tgt := 42) hx hb dX9_play_38 (by decide) ?_
        refine lv_istore (lv' := [(9, .int 1), (8, .ref fq), (7, .ref p0), (0, .ref x), (1, .int i), (2, .int wy), (3, .int f), (4, .int b), (5, .int fr), (6, .int n)]) hx hb dX9_play_42 hl (by decide) rfl (fun ls hl => ?_)
        refine lv_aload hx hb dX9_play_44 (lv_at hl 2 rfl) ?_
        refine lv_ifnull hx hb dX9_play_46 ?_
        refine lv_iload hx hb dX9_play_49 (lv_at hl 0 rfl) ?_
        refine lv_if_eq (tgt := 62) hx hb dX9_play_51 (by decide) (fun h9 => False.elim (by revert h9; exact (fun h => absurd h (by decide)))) (fun _ => ?_)
        refine lv_iload hx hb dX9_play_54 (lv_at hl 7 rfl) ?_
        refine m_calli (va_runS (As := [.int b]) (rest := []) ⟨hx, hb, hml, hown, hts⟩ (c_X9_isBlock l E M H.size b) (va_cwS 1 hts gX9_play_X9_isBlock rfl rfl rfl (by decide +kernel) ⟨Nat.le_of_ble_eq_true rfl, Nat.le_of_ble_eq_true rfl⟩) (m_preS hE hM) rfl rfl hl.1 rfl (lv_room (Nat.le_of_ble_eq_true rfl)) dX9_play_56 ⟨Nat.le_of_ble_eq_true rfl, Nat.le_of_ble_eq_true rfl⟩) hM hS hA (fun r3 u H locs hw hM hS => ?_)
        obtain ⟨e_r3, eu⟩ := hw
        rw [eu] at hM
        subst e_r3
        refine lv_if_ne (tgt := 69) hx hb dX9_play_59 (by decide) (fun c_59 => ?_) (fun c_59 => ?_)
        · skip
          rw [bI_ne] at c_59
          refine lv_aload_n hx hb dX9_play_69 rfl (lv_at hl 3 rfl) ?_
          refine lv_iload hx hb dX9_play_70 (lv_at hl 7 rfl) ?_
          refine m_callq (va_runV (As := [.int b]) (rest := []) ⟨hx, hb, hml, hown, hts⟩ (c_X9_heldBy l E M H.size x a1 a2 a3 a4 nn nf bd st c2 c3 c4 fi fb ff wt b g_x g_a2) (cwV 1 hts gX9_play_X9_heldBy rfl rfl rfl (by decide +kernel) ⟨Nat.le_of_ble_eq_true rfl, Nat.le_of_ble_eq_true rfl⟩) (m_preV hE hM g_x rfl) rfl rfl hl.1 rfl (lv_room (Nat.le_of_ble_eq_true rfl)) dX9_play_72 ⟨Nat.le_of_ble_eq_true rfl, Nat.le_of_ble_eq_true rfl⟩) hM hS hA (fun r4 u H locs hw hM hS => ?_)
          obtain ⟨e_r4, eu⟩ := hw
          rw [eu] at hM
          rw [if_pos c_59] at e_r4
          obtain ⟨j1, hj1, hij1, hjc1⟩ := vB_ix c_59
          rw [hjc1, hB j1 hj1] at e_r4
          rcases hbk1 : bk j1 with _ | w1
          · rw [hbk1] at e_r4
            replace e_r4 : r4 = none := e_r4
            subst e_r4
            refine W.eq (g2 := F0 m 75 ls [.null]) rfl ?_
            refine lv_astoreN (lv' := [(10, .null), (9, .int 1), (8, .ref fq), (7, .ref p0), (0, .ref x), (1, .int i), (2, .int wy), (3, .int f), (4, .int b), (5, .int fr), (6, .int n)]) hx hb dX9_play_75 hl (by decide) rfl (fun ls hl => ?_)
            refine lv_aload_n hx hb dX9_play_77 rfl (lv_at hl 4 rfl) ?_
            refine lv_aloadN hx hb dX9_play_78 (lv_at hl 0 rfl) ?_
            refine lv_iload_n hx hb dX9_play_80 rfl (lv_at hl 6 rfl) ?_
            refine lv_iload hx hb dX9_play_81 (lv_at hl 9 rfl) ?_
            refine lv_iload hx hb dX9_play_83 (lv_at hl 10 rfl) ?_
            refine m_calli (va_runV (As := [.null, .int wy, .int fr, .int n]) (rest := []) ⟨hx, hb, hml, hown, hts⟩ (c_X9_into_n l E M H.size x wy fr n) (cwV 4 hts gX9_play_X9_againstBlock rfl rfl rfl (by decide +kernel) ⟨Nat.le_of_ble_eq_true rfl, Nat.le_of_ble_eq_true rfl⟩) (m_preV hE hM g_x rfl) rfl rfl hl.1 rfl (lv_room (Nat.le_of_ble_eq_true rfl)) dX9_play_85 ⟨Nat.le_of_ble_eq_true rfl, Nat.le_of_ble_eq_true rfl⟩) hM hS hA (fun r5 u H locs hw hM hS => ?_)
            obtain ⟨e_r5, eu⟩ := hw
            rw [eu] at hM
            subst e_r5
            refine lv_istore (lv' := [(11, .int (-5)), (10, .null), (9, .int 1), (8, .ref fq), (7, .ref p0), (0, .ref x), (1, .int i), (2, .int wy), (3, .int f), (4, .int b), (5, .int fr), (6, .int n)]) hx hb dX9_play_88 hl (by decide) rfl (fun ls hl => ?_)
            refine lv_iload hx hb dX9_play_90 (lv_at hl 0 rfl) ?_
            refine lv_if_ne (tgt := 119) hx hb dX9_play_92 (by decide) (fun _ => ?_) (fun h9 => False.elim (by revert h9; exact (fun h => absurd h (by decide))))
            refine lv_aload_n hx hb dX9_play_119 rfl (lv_at hl 5 rfl) ?_
            refine lv_iload hx hb dX9_play_120 (lv_at hl 0 rfl) ?_
            refine m_put (ci := 7) (v := .int (-5)) (ty := .int) (C := RX9) (T := TX9) (N := 11) hx hb hts in_X9_play_X9 tyX9 tyX9_ok nmX9 hown hE hM hS g_x rfl 7 (by decide) (hts (.fieldLink RX9 53 "CallWays2" "latest" "I") (by decide +kernel)) (fun _ h9 => h9) rfl (by decide +kernel) rfl rfl (Nat.le_of_ble_eq_true rfl) dX9_play_122 (fun H locs hM hS => ?_)
            have hM : mOK E.1 (mA M sz) (mUp M x (mO 7 [.ref a1, .ref a2, .ref a3, .ref a4, .int (nI nn), .int (nI nf), .int bd, .int (-5), .int c2, .int c3, .int c4])) H := hM
            obtain ⟨M24, eM24⟩ : ∃ z, z = mUp M x (mO 7 [.ref a1, .ref a2, .ref a3, .ref a4, .int (nI nn), .int (nI nf), .int bd, .int (-5), .int c2, .int c3, .int c4]) := ⟨_, rfl⟩
            rw [← eM24] at hM
            have g_a1_ : M24 a1 = some (mQ E 4 12 fi) := by rw [eM24]; exact mUp_at (m_ne g_a1 g_x (by simp)) g_a1
            have g_a2_ : M24 a2 = some (mQ E 5 10 fb) := by rw [eM24]; exact mUp_at (m_ne g_a2 g_x (by simp)) g_a2
            have g_a3_ : M24 a3 = some (mQ E 6 8 ff) := by rw [eM24]; exact mUp_at (m_ne g_a3 g_x (by simp)) g_a3
            have g_a4_ : M24 a4 = some (mDb E 40 wt) := by rw [eM24]; exact mUp_at (m_ne g_a4 g_x (by simp)) g_a4
            have g_p0_ : M24 p0 = some (mO ci [.ref q0, .int pi, .int on, .int ph, .double le, va_rf (tb.map ra), .int f0]) := by rw [eM24]; exact mUp_at (m_ne g_p0 g_x (by simp)) g_p0
            have g_q0_ : M24 q0 = some (mI E 4 kf) := by rw [eM24]; exact mUp_at (m_ne g_q0 g_x (by simp)) g_q0
            have g_fq_ : M24 fq = some (mO 2 [.int ((fn jf).1), .double (FP.i2d (fn jf).2)]) := by rw [eM24]; exact mUp_at (m_ne g_fq g_x (by simp)) g_fq
            have g_a1 := g_a1_
            have g_a2 := g_a2_
            have g_a3 := g_a3_
            have g_a4 := g_a4_
            have g_p0 := g_p0_
            have g_q0 := g_q0_
            have g_fq := g_fq_
            have g_x : M24 x = some (mO 7 [.ref a1, .ref a2, .ref a3, .ref a4, .int (nI nn), .int (nI nf), .int bd, .int (-5), .int c2, .int c3, .int c4]) := by rw [eM24]; exact mUp_self _ _ _
            refine lv_iload hx hb dX9_play_125 (lv_at hl 0 rfl) ?_
            refine lv_if_eq (tgt := 143) hx hb dX9_play_127 (by decide) (fun h9 => False.elim (by revert h9; exact (fun h => absurd h (by decide)))) (fun _ => ?_)
            refine lv_aload_n hx hb dX9_play_130 rfl (lv_at hl 5 rfl) ?_
            refine lv_dup hx hb dX9_play_131 rfl ?_
            refine m_get (ci := 7) (v := .int c3) (C := RX9) (T := TX9) (N := 11) hx hb hts in_X9_play_X9 hown hE hM g_x rfl 9 (by decide) (hts (.fieldLink RX9 135 "CallWays2" "playedFailed" "I") (by decide +kernel)) (fun _ h9 => h9) rfl dX9_play_132 ?_
            refine lv_iconst (v := 1) hx hb dX9_play_135 (by decide) ?_
            refine lv_iadd hx hb dX9_play_136 ?_
            refine m_put (ci := 7) (v := .int (c3 + 1)) (ty := .int) (C := RX9) (T := TX9) (N := 11) hx hb hts in_X9_play_X9 tyX9 tyX9_ok nmX9 hown hE hM hS g_x rfl 9 (by decide) (hts (.fieldLink RX9 135 "CallWays2" "playedFailed" "I") (by decide +kernel)) (fun _ h9 => h9) rfl (by decide +kernel) rfl rfl (Nat.le_of_ble_eq_true rfl) dX9_play_137 (fun H locs hM hS => ?_)
            have hM : mOK E.1 (mA M sz) (mUp M24 x (mO 7 [.ref a1, .ref a2, .ref a3, .ref a4, .int (nI nn), .int (nI nf), .int bd, .int (-5), .int c2, .int (c3 + 1), .int c4])) H := hM
            obtain ⟨M25, eM25⟩ : ∃ z, z = mUp M24 x (mO 7 [.ref a1, .ref a2, .ref a3, .ref a4, .int (nI nn), .int (nI nf), .int bd, .int (-5), .int c2, .int (c3 + 1), .int c4]) := ⟨_, rfl⟩
            rw [← eM25] at hM
            have g_a1_ : M25 a1 = some (mQ E 4 12 fi) := by rw [eM25]; exact mUp_at (m_ne g_a1 g_x (by simp)) g_a1
            have g_a2_ : M25 a2 = some (mQ E 5 10 fb) := by rw [eM25]; exact mUp_at (m_ne g_a2 g_x (by simp)) g_a2
            have g_a3_ : M25 a3 = some (mQ E 6 8 ff) := by rw [eM25]; exact mUp_at (m_ne g_a3 g_x (by simp)) g_a3
            have g_a4_ : M25 a4 = some (mDb E 40 wt) := by rw [eM25]; exact mUp_at (m_ne g_a4 g_x (by simp)) g_a4
            have g_p0_ : M25 p0 = some (mO ci [.ref q0, .int pi, .int on, .int ph, .double le, va_rf (tb.map ra), .int f0]) := by rw [eM25]; exact mUp_at (m_ne g_p0 g_x (by simp)) g_p0
            have g_q0_ : M25 q0 = some (mI E 4 kf) := by rw [eM25]; exact mUp_at (m_ne g_q0 g_x (by simp)) g_q0
            have g_fq_ : M25 fq = some (mO 2 [.int ((fn jf).1), .double (FP.i2d (fn jf).2)]) := by rw [eM25]; exact mUp_at (m_ne g_fq g_x (by simp)) g_fq
            have g_a1 := g_a1_
            have g_a2 := g_a2_
            have g_a3 := g_a3_
            have g_a4 := g_a4_
            have g_p0 := g_p0_
            have g_q0 := g_q0_
            have g_fq := g_fq_
            have g_x : M25 x = some (mO 7 [.ref a1, .ref a2, .ref a3, .ref a4, .int (nI nn), .int (nI nf), .int bd, .int (-5), .int c2, .int (c3 + 1), .int c4]) := by rw [eM25]; exact mUp_self _ _ _
            refine lv_iload hx hb dX9_play_140 (lv_at hl 0 rfl) ?_
            exact m_iret hx hb hr hlocks hM hS (Nat.le_refl _) (Nat.le_refl _) dX9_play_142 (by have hok : vPl nn nf i wy f b := ⟨hv, Or.inr (Or.inr ⟨c_9, hvf⟩), c_59⟩; have hpf := (plF_n hjc1 hbk1 : plF bk rw bd b wy fr n = _); exact ⟨(by show _ = (if vPl nn nf i wy f b then (if plF bk rw bd b wy fr n = 0 then _ else _) else _); rw [if_pos hok, if_neg (by rw [hpf]; decide), hpf]), (by show cRep E _ NO x (if vPl nn nf i wy f b then (if plF bk rw bd b wy fr n = 0 then _ else _) else _); rw [if_pos hok, if_neg (by rw [hpf]; decide), hpf, eM25, eM24, mUp_up]; exact (hC.scal hiK).rep), (by rw [eM25, eM24]; exact (kept.rf.up nx).up nx)⟩)
          · rw [hbk1] at e_r4
            replace e_r4 : r4 = some (ra w1) := e_r4
            have hlv1 : live nn ins bk w1 := Or.inl ⟨j1, hj1, hbk1⟩
            rcases hrw1 : rw w1 with ⟨lane1, n1, f1⟩
            obtain ⟨g_s1, g_v1, hva1⟩ := hR w1 (hL w1 hlv1) _ _ _ hrw1
            obtain ⟨hn1, hlane1, hvo1⟩ := hvR w1 hlv1 _ _ _ hrw1
            have hnr1 := nR0 w1 (hL w1 hlv1)
            obtain ⟨s1, es1⟩ : ∃ z, z = ra w1 := ⟨_, rfl⟩
            obtain ⟨v1, ev1⟩ : ∃ z, z = rb w1 := ⟨_, rfl⟩
            rw [← es1, ← ev1] at g_s1
            rw [← ev1] at g_v1 hva1
            rw [← es1] at e_r4
            subst e_r4
            refine W.eq (g2 := F0 m 75 ls [.ref s1]) rfl ?_
            refine lv_astore (lv' := [(10, .ref s1), (9, .int 1), (8, .ref fq), (7, .ref p0), (0, .ref x), (1, .int i), (2, .int wy), (3, .int f), (4, .int b), (5, .int fr), (6, .int n)]) hx hb dX9_play_75 hl (by decide) rfl (fun ls hl => ?_)
            refine lv_aload_n hx hb dX9_play_77 rfl (lv_at hl 4 rfl) ?_
            refine lv_aload hx hb dX9_play_78 (lv_at hl 0 rfl) ?_
            refine lv_iload_n hx hb dX9_play_80 rfl (lv_at hl 6 rfl) ?_
            refine lv_iload hx hb dX9_play_81 (lv_at hl 9 rfl) ?_
            refine lv_iload hx hb dX9_play_83 (lv_at hl 10 rfl) ?_
            refine m_calli (va_runV (As := [.ref s1, .int wy, .int fr, .int n]) (rest := []) ⟨hx, hb, hml, hown, hts⟩ (c_X9_into_s l E M H.size x a1 a2 a3 a4 nn nf bd st c2 c3 c4 fi fb ff wt s1 v1 n1 lane1 f1 wy fr n g_x g_s1 g_v1) (cwV 4 hts gX9_play_X9_againstBlock rfl rfl rfl (by decide +kernel) ⟨Nat.le_of_ble_eq_true rfl, Nat.le_of_ble_eq_true rfl⟩) (m_preV hE hM g_x rfl) rfl rfl hl.1 rfl (lv_room (Nat.le_of_ble_eq_true rfl)) dX9_play_85 ⟨Nat.le_of_ble_eq_true rfl, Nat.le_of_ble_eq_true rfl⟩) hM hS hA (fun r5 u H locs hw hM hS => ?_)
            obtain ⟨e_r5, eu⟩ := hw
            rw [eu] at hM
            subst e_r5
            refine lv_istore (lv' := [(11, .int (sInto lane1 n1 bd wy fr n)), (10, .ref s1), (9, .int 1), (8, .ref fq), (7, .ref p0), (0, .ref x), (1, .int i), (2, .int wy), (3, .int f), (4, .int b), (5, .int fr), (6, .int n)]) hx hb dX9_play_88 hl (by decide) rfl (fun ls hl => ?_)
            refine lv_iload hx hb dX9_play_90 (lv_at hl 0 rfl) ?_
            refine lv_if_ne (tgt := 119) hx hb dX9_play_92 (by decide) (fun c_92 => ?_) (fun c_92 => ?_)
            · skip
              refine lv_aload_n hx hb dX9_play_119 rfl (lv_at hl 5 rfl) ?_
              refine lv_iload hx hb dX9_play_120 (lv_at hl 0 rfl) ?_
              refine m_put (ci := 7) (v := .int (sInto lane1 n1 bd wy fr n)) (ty := .int) (C := RX9) (T := TX9) (N := 11) hx hb hts in_X9_play_X9 tyX9 tyX9_ok nmX9 hown hE hM hS g_x rfl 7 (by decide) (hts (.fieldLink RX9 53 "CallWays2" "latest" "I") (by decide +kernel)) (fun _ h9 => h9) rfl (by decide +kernel) rfl rfl (Nat.le_of_ble_eq_true rfl) dX9_play_122 (fun H locs hM hS => ?_)
              have hM : mOK E.1 (mA M sz) (mUp M x (mO 7 [.ref a1, .ref a2, .ref a3, .ref a4, .int (nI nn), .int (nI nf), .int bd, .int (sInto lane1 n1 bd wy fr n), .int c2, .int c3, .int c4])) H := hM
              obtain ⟨M26, eM26⟩ : ∃ z, z = mUp M x (mO 7 [.ref a1, .ref a2, .ref a3, .ref a4, .int (nI nn), .int (nI nf), .int bd, .int (sInto lane1 n1 bd wy fr n), .int c2, .int c3, .int c4]) := ⟨_, rfl⟩
              rw [← eM26] at hM
              have g_a1_ : M26 a1 = some (mQ E 4 12 fi) := by rw [eM26]; exact mUp_at (m_ne g_a1 g_x (by simp)) g_a1
              have g_a2_ : M26 a2 = some (mQ E 5 10 fb) := by rw [eM26]; exact mUp_at (m_ne g_a2 g_x (by simp)) g_a2
              have g_a3_ : M26 a3 = some (mQ E 6 8 ff) := by rw [eM26]; exact mUp_at (m_ne g_a3 g_x (by simp)) g_a3
              have g_a4_ : M26 a4 = some (mDb E 40 wt) := by rw [eM26]; exact mUp_at (m_ne g_a4 g_x (by simp)) g_a4
              have g_p0_ : M26 p0 = some (mO ci [.ref q0, .int pi, .int on, .int ph, .double le, va_rf (tb.map ra), .int f0]) := by rw [eM26]; exact mUp_at (m_ne g_p0 g_x (by simp)) g_p0
              have g_q0_ : M26 q0 = some (mI E 4 kf) := by rw [eM26]; exact mUp_at (m_ne g_q0 g_x (by simp)) g_q0
              have g_fq_ : M26 fq = some (mO 2 [.int ((fn jf).1), .double (FP.i2d (fn jf).2)]) := by rw [eM26]; exact mUp_at (m_ne g_fq g_x (by simp)) g_fq
              have g_s1_ : M26 s1 = some (mO 5 [.int lane1, .ref v1]) := by rw [eM26]; exact mUp_at (m_ne g_s1 g_x (by simp)) g_s1
              have g_v1_ : M26 v1 = some (mDb E n1 f1) := by rw [eM26]; exact mUp_at (m_ne g_v1 g_x (by simp)) g_v1
              have g_a1 := g_a1_
              have g_a2 := g_a2_
              have g_a3 := g_a3_
              have g_a4 := g_a4_
              have g_p0 := g_p0_
              have g_q0 := g_q0_
              have g_fq := g_fq_
              have g_s1 := g_s1_
              have g_v1 := g_v1_
              have g_x : M26 x = some (mO 7 [.ref a1, .ref a2, .ref a3, .ref a4, .int (nI nn), .int (nI nf), .int bd, .int (sInto lane1 n1 bd wy fr n), .int c2, .int c3, .int c4]) := by rw [eM26]; exact mUp_self _ _ _
              refine lv_iload hx hb dX9_play_125 (lv_at hl 0 rfl) ?_
              refine lv_if_eq (tgt := 143) hx hb dX9_play_127 (by decide) (fun h9 => False.elim (by revert h9; exact (fun h => c_92 h))) (fun _ => ?_)
              refine lv_aload_n hx hb dX9_play_130 rfl (lv_at hl 5 rfl) ?_
              refine lv_dup hx hb dX9_play_131 rfl ?_
              refine m_get (ci := 7) (v := .int c3) (C := RX9) (T := TX9) (N := 11) hx hb hts in_X9_play_X9 hown hE hM g_x rfl 9 (by decide) (hts (.fieldLink RX9 135 "CallWays2" "playedFailed" "I") (by decide +kernel)) (fun _ h9 => h9) rfl dX9_play_132 ?_
              refine lv_iconst (v := 1) hx hb dX9_play_135 (by decide) ?_
              refine lv_iadd hx hb dX9_play_136 ?_
              refine m_put (ci := 7) (v := .int (c3 + 1)) (ty := .int) (C := RX9) (T := TX9) (N := 11) hx hb hts in_X9_play_X9 tyX9 tyX9_ok nmX9 hown hE hM hS g_x rfl 9 (by decide) (hts (.fieldLink RX9 135 "CallWays2" "playedFailed" "I") (by decide +kernel)) (fun _ h9 => h9) rfl (by decide +kernel) rfl rfl (Nat.le_of_ble_eq_true rfl) dX9_play_137 (fun H locs hM hS => ?_)
              have hM : mOK E.1 (mA M sz) (mUp M26 x (mO 7 [.ref a1, .ref a2, .ref a3, .ref a4, .int (nI nn), .int (nI nf), .int bd, .int (sInto lane1 n1 bd wy fr n), .int c2, .int (c3 + 1), .int c4])) H := hM
              obtain ⟨M27, eM27⟩ : ∃ z, z = mUp M26 x (mO 7 [.ref a1, .ref a2, .ref a3, .ref a4, .int (nI nn), .int (nI nf), .int bd, .int (sInto lane1 n1 bd wy fr n), .int c2, .int (c3 + 1), .int c4]) := ⟨_, rfl⟩
              rw [← eM27] at hM
              have g_a1_ : M27 a1 = some (mQ E 4 12 fi) := by rw [eM27]; exact mUp_at (m_ne g_a1 g_x (by simp)) g_a1
              have g_a2_ : M27 a2 = some (mQ E 5 10 fb) := by rw [eM27]; exact mUp_at (m_ne g_a2 g_x (by simp)) g_a2
              have g_a3_ : M27 a3 = some (mQ E 6 8 ff) := by rw [eM27]; exact mUp_at (m_ne g_a3 g_x (by simp)) g_a3
              have g_a4_ : M27 a4 = some (mDb E 40 wt) := by rw [eM27]; exact mUp_at (m_ne g_a4 g_x (by simp)) g_a4
              have g_p0_ : M27 p0 = some (mO ci [.ref q0, .int pi, .int on, .int ph, .double le, va_rf (tb.map ra), .int f0]) := by rw [eM27]; exact mUp_at (m_ne g_p0 g_x (by simp)) g_p0
              have g_q0_ : M27 q0 = some (mI E 4 kf) := by rw [eM27]; exact mUp_at (m_ne g_q0 g_x (by simp)) g_q0
              have g_fq_ : M27 fq = some (mO 2 [.int ((fn jf).1), .double (FP.i2d (fn jf).2)]) := by rw [eM27]; exact mUp_at (m_ne g_fq g_x (by simp)) g_fq
              have g_s1_ : M27 s1 = some (mO 5 [.int lane1, .ref v1]) := by rw [eM27]; exact mUp_at (m_ne g_s1 g_x (by simp)) g_s1
              have g_v1_ : M27 v1 = some (mDb E n1 f1) := by rw [eM27]; exact mUp_at (m_ne g_v1 g_x (by simp)) g_v1
              have g_a1 := g_a1_
              have g_a2 := g_a2_
              have g_a3 := g_a3_
              have g_a4 := g_a4_
              have g_p0 := g_p0_
              have g_q0 := g_q0_
              have g_fq := g_fq_
              have g_s1 := g_s1_
              have g_v1 := g_v1_
              have g_x : M27 x = some (mO 7 [.ref a1, .ref a2, .ref a3, .ref a4, .int (nI nn), .int (nI nf), .int bd, .int (sInto lane1 n1 bd wy fr n), .int c2, .int (c3 + 1), .int c4]) := by rw [eM27]; exact mUp_self _ _ _
              refine lv_iload hx hb dX9_play_140 (lv_at hl 0 rfl) ?_
              exact m_iret hx hb hr hlocks hM hS (Nat.le_refl _) (Nat.le_refl _) dX9_play_142 (by have hok : vPl nn nf i wy f b := ⟨hv, Or.inr (Or.inr ⟨c_9, hvf⟩), c_59⟩; have hpf := (plF_s hjc1 hbk1 hrw1 : plF bk rw bd b wy fr n = _); exact ⟨(by show _ = (if vPl nn nf i wy f b then (if plF bk rw bd b wy fr n = 0 then _ else _) else _); rw [if_pos hok, if_neg (by rw [hpf]; exact c_92), hpf]), (by show cRep E _ NO x (if vPl nn nf i wy f b then (if plF bk rw bd b wy fr n = 0 then _ else _) else _); rw [if_pos hok, if_neg (by rw [hpf]; exact c_92), hpf, eM27, eM26, mUp_up]; exact (hC.scal hiK).rep), (by rw [eM27, eM26]; exact (kept.rf.up nx).up nx)⟩)
            · skip
              refine lv_aload_n hx hb dX9_play_95 rfl (lv_at hl 5 rfl) ?_
              refine lv_aload hx hb dX9_play_96 (lv_at hl 4 rfl) ?_
              refine lv_aload hx hb dX9_play_98 (lv_at hl 3 rfl) ?_
              refine lv_iload hx hb dX9_play_100 (lv_at hl 11 rfl) ?_
              have hspn := sInto_0 c_92
              obtain ⟨a, k, efr, ek, hak⟩ := spn_nat hn1 hspn
              have hpf : plF bk rw bd b wy fr n = 0 := (plF_s hjc1 hbk1 hrw1).trans c_92
              subst efr
              subst ek
              have htb := tbAt_of (E := E) (M := M) hL hR hj (by rw [hins])
              have hto := tbOK_of hvR hj (tb := tb) (by rw [hins])
              have hA4 := hA4_of (E := E) (M := M) hL hR hj (tb := tb) (by rw [hins])
              refine m_calli (va_runV (As := [.ref p0, .ref fq, .int (nI k)]) (rest := []) ⟨hx, hb, hml, hown, hts⟩ (c_X9_gather_s l E M H.size ci hci x a1 a2 a3 a4 nn nf p0 q0 fq k bd st c2 c3 c4 wt kf pi on ph f0 (fn jf).1 le (FP.i2d (fn jf).2) (tb.map ra) (tb.map rw) htb hto hle (dB_i2d _) (by omega) g_x g_a4 g_p0 g_q0 g_fq hA4) (cwV 3 hts gX9_play_X9_gather rfl rfl rfl (by decide +kernel) ⟨Nat.le_of_ble_eq_true rfl, Nat.le_of_ble_eq_true rfl⟩) (m_preV hE hM g_x rfl) rfl rfl hl.1 rfl (lv_room (Nat.le_of_ble_eq_true rfl)) dX9_play_102 ⟨Nat.le_of_ble_eq_true rfl, Nat.le_of_ble_eq_true rfl⟩) hM hS hA (fun r6 M28 H locs hw hM hS => ?_)
              obtain ⟨e_r6, fl9, w9, eM28, hw9⟩ := hw
              subst e_r6
              have h_xp : x ≠ p0 := m_ne g_x g_p0 (by simp)
              have h_ap : a4 ≠ p0 := m_ne g_a4 g_p0 (by simp)
              have h_xa : x ≠ a4 := m_ne g_x g_a4 (by simp)
              have hh_s1 : M28 s1 = some (mO 5 [.int lane1, .ref v1]) := by rw [eM28]; exact tri_ne g_s1 (m_ne g_s1 g_p0 (fun z => by simp at z)) (m_ne g_s1 g_x (by simp)) (m_ne g_s1 g_a4 (by simp))
              have hh_v1 : M28 v1 = some (mDb E n1 f1) := by rw [eM28]; exact tri_ne g_v1 (m_ne g_v1 g_p0 (by simp)) (m_ne g_v1 g_x (by simp)) hva1
              have hh_q0 : M28 q0 = some (mI E 4 kf) := by rw [eM28]; exact tri_ne g_q0 (m_ne g_q0 g_p0 (by simp)) (m_ne g_q0 g_x (by simp)) (m_ne g_q0 g_a4 (by simp))
              replace g_p0 : M28 p0 = some (mO ci [.ref q0, .int pi, .int on, .int ((sSt ci kf pi on (tb.map rw) ph le (sGo ci kf pi on (tb.map rw) ph le (some ((fn jf).1, FP.i2d (fn jf).2)) 0 k).2).1), .double ((sSt ci kf pi on (tb.map rw) ph le (sGo ci kf pi on (tb.map rw) ph le (some ((fn jf).1, FP.i2d (fn jf).2)) 0 k).2).2), va_rf (tb.map ra), .int fl9]) := by rw [eM28]; exact tri_gp (Ne.symm h_xp) (Ne.symm h_ap)
              replace g_x : M28 x = some (mO 7 [.ref a1, .ref a2, .ref a3, .ref a4, .int (nI nn), .int (nI nf), .int bd, .int st, .int c2, .int c3, .int (c4 + nI (sGo ci kf pi on (tb.map rw) ph le (some ((fn jf).1, FP.i2d (fn jf).2)) 0 k).2)]) := by rw [eM28]; exact tri_gx h_xa
              replace g_a4 : M28 a4 = some (mDb E 40 w9) := by rw [eM28]; exact tri_ga
              replace g_s1 := hh_s1
              replace g_v1 := hh_v1
              replace g_q0 := hh_q0
              refine lv_istore (lv' := [(11, .int ((sGo ci kf pi on (tb.map rw) ph le (some ((fn jf).1, FP.i2d (fn jf).2)) 0 k).1)), (10, .ref s1), (9, .int 1), (8, .ref fq), (7, .ref p0), (0, .ref x), (1, .int i), (2, .int wy), (3, .int f), (4, .int b), (5, .int (nI a)), (6, .int (nI k))]) hx hb dX9_play_105 hl (by decide) rfl (fun ls hl => ?_)
              refine lv_aload_n hx hb dX9_play_107 rfl (lv_at hl 5 rfl) ?_
              refine lv_aload hx hb dX9_play_108 (lv_at hl 1 rfl) ?_
              refine lv_iload hx hb dX9_play_110 (lv_at hl 10 rfl) ?_
              refine lv_iload hx hb dX9_play_112 (lv_at hl 11 rfl) ?_
              refine lv_iload hx hb dX9_play_114 (lv_at hl 0 rfl) ?_
              refine m_callv (va_runV (As := [.ref s1, .int (nI a), .int (nI k), .int ((sGo ci kf pi on (tb.map rw) ph le (some ((fn jf).1, FP.i2d (fn jf).2)) 0 k).1)]) (rest := []) ⟨hx, hb, hml, hown, hts⟩ (c_X9_deliver l E M28 H.size x a1 a2 a3 a4 nn nf s1 v1 n1 a k bd st c2 c3 (c4 + nI (sGo ci kf pi on (tb.map rw) ph le (some ((fn jf).1, FP.i2d (fn jf).2)) 0 k).2) lane1 (sGo ci kf pi on (tb.map rw) ph le (some ((fn jf).1, FP.i2d (fn jf).2)) 0 k).1 w9 f1 hva1 (by omega) hn1 hak (fun hz j hj2 => by rw [hw9 hz j hj2]; exact (fin_pass (dB_i2d _) (dB_give (dL_st hle j) hto)).fin (by decide)) g_x g_a4 g_s1 g_v1) (cwV 4 hts gX9_play_X9_deliver rfl rfl rfl (by decide +kernel) ⟨Nat.le_of_ble_eq_true rfl, Nat.le_of_ble_eq_true rfl⟩) (m_preV hE hM g_x rfl) rfl rfl hl.1 rfl (lv_room (Nat.le_of_ble_eq_true rfl)) dX9_play_116 ⟨Nat.le_of_ble_eq_true rfl, Nat.le_of_ble_eq_true rfl⟩) hM hS hA (fun M30 H locs hw hM hS => ?_)
              have eM30 := hw
              have g_x_ : M30 x = some (mO 7 [.ref a1, .ref a2, .ref a3, .ref a4, .int (nI nn), .int (nI nf), .int bd, .int st, .int c2, .int c3, .int (c4 + nI (sGo ci kf pi on (tb.map rw) ph le (some ((fn jf).1, FP.i2d (fn jf).2)) 0 k).2)]) := by rw [eM30]; exact mUp_at (m_ne g_x g_v1 (by simp)) g_x
              have g_a4_ : M30 a4 = some (mDb E 40 w9) := by rw [eM30]; exact mUp_at (Ne.symm hva1) g_a4
              have g_p0_ : M30 p0 = some (mO ci [.ref q0, .int pi, .int on, .int ((sSt ci kf pi on (tb.map rw) ph le (sGo ci kf pi on (tb.map rw) ph le (some ((fn jf).1, FP.i2d (fn jf).2)) 0 k).2).1), .double ((sSt ci kf pi on (tb.map rw) ph le (sGo ci kf pi on (tb.map rw) ph le (some ((fn jf).1, FP.i2d (fn jf).2)) 0 k).2).2), va_rf (tb.map ra), .int fl9]) := by rw [eM30]; exact mUp_at (m_ne g_p0 g_v1 (by simp)) g_p0
              have g_q0_ : M30 q0 = some (mI E 4 kf) := by rw [eM30]; exact mUp_at (m_ne g_q0 g_v1 (by simp)) g_q0
              have g_s1_ : M30 s1 = some (mO 5 [.int lane1, .ref v1]) := by rw [eM30]; exact mUp_at (m_ne g_s1 g_v1 (by simp)) g_s1
              have g_x := g_x_
              have g_a4 := g_a4_
              have g_p0 := g_p0_
              have g_q0 := g_q0_
              have g_s1 := g_s1_
              have g_v1 : M30 v1 = some (mDb E n1 (dlv f1 a (fun q => sTurn lane1 (if (sGo ci kf pi on (tb.map rw) ph le (some ((fn jf).1, FP.i2d (fn jf).2)) 0 k).1 = 0 then w9 q else FP.dconst0)) k)) := by rw [eM30]; exact mUp_self _ _ _
              refine lv_aload_n hx hb dX9_play_119 rfl (lv_at hl 5 rfl) ?_
              refine lv_iload hx hb dX9_play_120 (lv_at hl 0 rfl) ?_
              refine m_put (ci := 7) (v := .int ((sGo ci kf pi on (tb.map rw) ph le (some ((fn jf).1, FP.i2d (fn jf).2)) 0 k).1)) (ty := .int) (C := RX9) (T := TX9) (N := 11) hx hb hts in_X9_play_X9 tyX9 tyX9_ok nmX9 hown hE hM hS g_x rfl 7 (by decide) (hts (.fieldLink RX9 53 "CallWays2" "latest" "I") (by decide +kernel)) (fun _ h9 => h9) rfl (by decide +kernel) rfl rfl (Nat.le_of_ble_eq_true rfl) dX9_play_122 (fun H locs hM hS => ?_)
              have hM : mOK E.1 (mA M sz) (mUp M30 x (mO 7 [.ref a1, .ref a2, .ref a3, .ref a4, .int (nI nn), .int (nI nf), .int bd, .int ((sGo ci kf pi on (tb.map rw) ph le (some ((fn jf).1, FP.i2d (fn jf).2)) 0 k).1), .int c2, .int c3, .int (c4 + nI (sGo ci kf pi on (tb.map rw) ph le (some ((fn jf).1, FP.i2d (fn jf).2)) 0 k).2)])) H := hM
              obtain ⟨M31, eM31⟩ : ∃ z, z = mUp M30 x (mO 7 [.ref a1, .ref a2, .ref a3, .ref a4, .int (nI nn), .int (nI nf), .int bd, .int ((sGo ci kf pi on (tb.map rw) ph le (some ((fn jf).1, FP.i2d (fn jf).2)) 0 k).1), .int c2, .int c3, .int (c4 + nI (sGo ci kf pi on (tb.map rw) ph le (some ((fn jf).1, FP.i2d (fn jf).2)) 0 k).2)]) := ⟨_, rfl⟩
              rw [← eM31] at hM
              have g_a4_ : M31 a4 = some (mDb E 40 w9) := by rw [eM31]; exact mUp_at (m_ne g_a4 g_x (by simp)) g_a4
              have g_p0_ : M31 p0 = some (mO ci [.ref q0, .int pi, .int on, .int ((sSt ci kf pi on (tb.map rw) ph le (sGo ci kf pi on (tb.map rw) ph le (some ((fn jf).1, FP.i2d (fn jf).2)) 0 k).2).1), .double ((sSt ci kf pi on (tb.map rw) ph le (sGo ci kf pi on (tb.map rw) ph le (some ((fn jf).1, FP.i2d (fn jf).2)) 0 k).2).2), va_rf (tb.map ra), .int fl9]) := by rw [eM31]; exact mUp_at (m_ne g_p0 g_x (by simp)) g_p0
              have g_q0_ : M31 q0 = some (mI E 4 kf) := by rw [eM31]; exact mUp_at (m_ne g_q0 g_x (by simp)) g_q0
              have g_s1_ : M31 s1 = some (mO 5 [.int lane1, .ref v1]) := by rw [eM31]; exact mUp_at (m_ne g_s1 g_x (by simp)) g_s1
              have g_v1_ : M31 v1 = some (mDb E n1 (dlv f1 a (fun q => sTurn lane1 (if (sGo ci kf pi on (tb.map rw) ph le (some ((fn jf).1, FP.i2d (fn jf).2)) 0 k).1 = 0 then w9 q else FP.dconst0)) k)) := by rw [eM31]; exact mUp_at (m_ne g_v1 g_x (by simp)) g_v1
              have g_a4 := g_a4_
              have g_p0 := g_p0_
              have g_q0 := g_q0_
              have g_s1 := g_s1_
              have g_v1 := g_v1_
              have g_x : M31 x = some (mO 7 [.ref a1, .ref a2, .ref a3, .ref a4, .int (nI nn), .int (nI nf), .int bd, .int ((sGo ci kf pi on (tb.map rw) ph le (some ((fn jf).1, FP.i2d (fn jf).2)) 0 k).1), .int c2, .int c3, .int (c4 + nI (sGo ci kf pi on (tb.map rw) ph le (some ((fn jf).1, FP.i2d (fn jf).2)) 0 k).2)]) := by rw [eM31]; exact mUp_self _ _ _
              refine lv_iload hx hb dX9_play_125 (lv_at hl 0 rfl) ?_
              refine lv_if_eq (tgt := 143) hx hb dX9_play_127 (by decide) (fun c_127 => ?_) (fun c_127 => ?_)
              · skip
                refine lv_aload_n hx hb dX9_play_143 rfl (lv_at hl 5 rfl) ?_
                refine lv_dup hx hb dX9_play_144 rfl ?_
                refine m_get (ci := 7) (v := .int c2) (C := RX9) (T := TX9) (N := 11) hx hb hts in_X9_play_X9 hown hE hM g_x rfl 8 (by decide) (hts (.fieldLink RX9 138 "CallWays2" "playedWell" "I") (by decide +kernel)) (fun _ h9 => h9) rfl dX9_play_145 ?_
                refine lv_iconst (v := 1) hx hb dX9_play_148 (by decide) ?_
                refine lv_iadd hx hb dX9_play_149 ?_
                refine m_put (ci := 7) (v := .int (c2 + 1)) (ty := .int) (C := RX9) (T := TX9) (N := 11) hx hb hts in_X9_play_X9 tyX9 tyX9_ok nmX9 hown hE hM hS g_x rfl 8 (by decide) (hts (.fieldLink RX9 138 "CallWays2" "playedWell" "I") (by decide +kernel)) (fun _ h9 => h9) rfl (by decide +kernel) rfl rfl (Nat.le_of_ble_eq_true rfl) dX9_play_150 (fun H locs hM hS => ?_)
                have hM : mOK E.1 (mA M sz) (mUp M31 x (mO 7 [.ref a1, .ref a2, .ref a3, .ref a4, .int (nI nn), .int (nI nf), .int bd, .int ((sGo ci kf pi on (tb.map rw) ph le (some ((fn jf).1, FP.i2d (fn jf).2)) 0 k).1), .int (c2 + 1), .int c3, .int (c4 + nI (sGo ci kf pi on (tb.map rw) ph le (some ((fn jf).1, FP.i2d (fn jf).2)) 0 k).2)])) H := hM
                obtain ⟨M32, eM32⟩ : ∃ z, z = mUp M31 x (mO 7 [.ref a1, .ref a2, .ref a3, .ref a4, .int (nI nn), .int (nI nf), .int bd, .int ((sGo ci kf pi on (tb.map rw) ph le (some ((fn jf).1, FP.i2d (fn jf).2)) 0 k).1), .int (c2 + 1), .int c3, .int (c4 + nI (sGo ci kf pi on (tb.map rw) ph le (some ((fn jf).1, FP.i2d (fn jf).2)) 0 k).2)]) := ⟨_, rfl⟩
                rw [← eM32] at hM
                have g_a4_ : M32 a4 = some (mDb E 40 w9) := by rw [eM32]; exact mUp_at (m_ne g_a4 g_x (by simp)) g_a4
                have g_p0_ : M32 p0 = some (mO ci [.ref q0, .int pi, .int on, .int ((sSt ci kf pi on (tb.map rw) ph le (sGo ci kf pi on (tb.map rw) ph le (some ((fn jf).1, FP.i2d (fn jf).2)) 0 k).2).1), .double ((sSt ci kf pi on (tb.map rw) ph le (sGo ci kf pi on (tb.map rw) ph le (some ((fn jf).1, FP.i2d (fn jf).2)) 0 k).2).2), va_rf (tb.map ra), .int fl9]) := by rw [eM32]; exact mUp_at (m_ne g_p0 g_x (by simp)) g_p0
                have g_q0_ : M32 q0 = some (mI E 4 kf) := by rw [eM32]; exact mUp_at (m_ne g_q0 g_x (by simp)) g_q0
                have g_s1_ : M32 s1 = some (mO 5 [.int lane1, .ref v1]) := by rw [eM32]; exact mUp_at (m_ne g_s1 g_x (by simp)) g_s1
                have g_v1_ : M32 v1 = some (mDb E n1 (dlv f1 a (fun q => sTurn lane1 (if (sGo ci kf pi on (tb.map rw) ph le (some ((fn jf).1, FP.i2d (fn jf).2)) 0 k).1 = 0 then w9 q else FP.dconst0)) k)) := by rw [eM32]; exact mUp_at (m_ne g_v1 g_x (by simp)) g_v1
                have g_a4 := g_a4_
                have g_p0 := g_p0_
                have g_q0 := g_q0_
                have g_s1 := g_s1_
                have g_v1 := g_v1_
                have g_x : M32 x = some (mO 7 [.ref a1, .ref a2, .ref a3, .ref a4, .int (nI nn), .int (nI nf), .int bd, .int ((sGo ci kf pi on (tb.map rw) ph le (some ((fn jf).1, FP.i2d (fn jf).2)) 0 k).1), .int (c2 + 1), .int c3, .int (c4 + nI (sGo ci kf pi on (tb.map rw) ph le (some ((fn jf).1, FP.i2d (fn jf).2)) 0 k).2)]) := by rw [eM32]; exact mUp_self _ _ _
                refine lv_iload hx hb dX9_play_153 (lv_at hl 11 rfl) ?_
                exact m_iret hx hb hr hlocks hM hS (Nat.le_refl _) (Nat.le_refl _) dX9_play_155 (by 
        have hok : vPl nn nf i wy f b := ⟨hv, Or.inr (Or.inr ⟨c_9, hvf⟩), c_59⟩
        have hcl : (nI k).toNatClampNeg = k := nI_clamp (by omega)
        have hca : (nI a).toNatClampNeg = a := nI_clamp (by omega)
        have hfu : plFu fn wy f = some ((fn jf).1, FP.i2d (fn jf).2) := by unfold plFu; rw [if_pos c_9, hjcf]
        have hgo : plGo ins rw (plFu fn wy f) j k = sGo ci kf pi on (tb.map rw) ph le (some ((fn jf).1, FP.i2d (fn jf).2)) 0 k := by rw [hfu]; unfold plGo; rw [hins]
        have hsm : ∀ q, plSm ins rw (plFu fn wy f) j q = psO (some ((fn jf).1, FP.i2d (fn jf).2)) (sSm ci kf pi on (tb.map rw) ph le q).2.1 := by
          intro q
          rw [hfu]
          unfold plSm
          rw [hins]
        exact ⟨(by
          show _ = (if vPl nn nf i wy f b then (if plF bk rw bd b wy (nI a) (nI k) = 0 then (if _ = 0 then _ else _) else _) else _)
          rw [if_pos hok, if_pos hpf, hjc, hcl, hgo, if_pos c_127]), (by
          show cRep E _ NO x (if vPl nn nf i wy f b then (if plF bk rw bd b wy (nI a) (nI k) = 0 then _ else _) else _)
          rw [if_pos hok, if_pos hpf, hjc, hjc1, hcl, hca]
          have hpi : plIns ins rw (plFu fn wy f) j k = va_up ins j (ci, kf, pi, on, (sSt ci kf pi on (tb.map rw) ph le (sGo ci kf pi on (tb.map rw) ph le (some ((fn jf).1, FP.i2d (fn jf).2)) 0 k).2).1, (sSt ci kf pi on (tb.map rw) ph le (sGo ci kf pi on (tb.map rw) ph le (some ((fn jf).1, FP.i2d (fn jf).2)) 0 k).2).2, tb) := by
            unfold plIns
            rw [hgo, hins]
          have hpr : plRw ins bk rw (plFu fn wy f) j k a j1 = va_up rw w1 (lane1, n1, dlv f1 a (fun q => sTurn lane1 (if (sGo ci kf pi on (tb.map rw) ph le (some ((fn jf).1, FP.i2d (fn jf).2)) 0 k).1 = 0 then w9 q else FP.dconst0)) k) := by
            unfold plRw
            rw [hbk1]
            show va_up rw w1 ((rw w1).1, (rw w1).2.1, dlv (rw w1).2.2 a (fun q => sTurn (rw w1).1 (if (plGo ins rw (plFu fn wy f) j k).1 = 0 then plSm ins rw (plFu fn wy f) j q else FP.dconst0)) k) = _
            rw [hrw1, hgo]
            show va_up rw w1 (lane1, n1, dlv f1 a (fun q => sTurn lane1 (if (sGo ci kf pi on (tb.map rw) ph le (some ((fn jf).1, FP.i2d (fn jf).2)) 0 k).1 = 0 then plSm ins rw (plFu fn wy f) j q else FP.dconst0)) k) = _
            rw [dlv_c (g' := fun q => sTurn lane1 (if (sGo ci kf pi on (tb.map rw) ph le (some ((fn jf).1, FP.i2d (fn jf).2)) 0 k).1 = 0 then w9 q else FP.dconst0))]
            intro q hq
            show sTurn lane1 (if (sGo ci kf pi on (tb.map rw) ph le (some ((fn jf).1, FP.i2d (fn jf).2)) 0 k).1 = 0 then plSm ins rw (plFu fn wy f) j q else FP.dconst0) = sTurn lane1 (if (sGo ci kf pi on (tb.map rw) ph le (some ((fn jf).1, FP.i2d (fn jf).2)) 0 k).1 = 0 then w9 q else FP.dconst0)
            by_cases hz : (sGo ci kf pi on (tb.map rw) ph le (some ((fn jf).1, FP.i2d (fn jf).2)) 0 k).1 = 0
            · rw [if_pos hz, if_pos hz, hsm q, hw9 hz q hq]
            · rw [if_neg hz, if_neg hz]
          rw [hpi, hpr, hgo, if_pos c_127, if_pos c_127, eM32, eM31, eM30, eM28, mUp_up, ep0, eq0, ev1]
          have hi2 := insK_up (j := j) (v := (ci, kf, pi, on, (sSt ci kf pi on (tb.map rw) ph le (sGo ci kf pi on (tb.map rw) ph le (some ((fn jf).1, FP.i2d (fn jf).2)) 0 k).2).1, (sSt ci kf pi on (tb.map rw) ph le (sGo ci kf pi on (tb.map rw) ph le (some ((fn jf).1, FP.i2d (fn jf).2)) 0 k).2).2, tb)) hiK (by rw [hins])
          have h1 := hC.inst (pi' := pi) (on' := on) (ph' := (sSt ci kf pi on (tb.map rw) ph le (sGo ci kf pi on (tb.map rw) ph le (some ((fn jf).1, FP.i2d (fn jf).2)) 0 k).2).1) (le' := (sSt ci kf pi on (tb.map rw) ph le (sGo ci kf pi on (tb.map rw) ph le (some ((fn jf).1, FP.i2d (fn jf).2)) 0 k).2).2) (fl' := fl9) hiK hj hins
          have h2 := h1.scal (bd' := bd) (st' := st) (c2' := c2) (c3' := c3) (c4' := c4 + nI (sGo ci kf pi on (tb.map rw) ph le (some ((fn jf).1, FP.i2d (fn jf).2)) 0 k).2) hi2
          have h3 := h2.wait (wt' := w9) hi2
          have h4 := h3.row (f' := dlv f1 a (fun q => sTurn lane1 (if (sGo ci kf pi on (tb.map rw) ph le (some ((fn jf).1, FP.i2d (fn jf).2)) 0 k).1 = 0 then w9 q else FP.dconst0)) k) hi2 (hL w1 hlv1) hrw1
          exact (h4.scal hi2).rep), (by rw [eM32, eM31, eM30, eM28, ep0, ev1]; unfold tri; exact (((((kept.rf.up hno.1).up nx).up n4).up hnr1.2).up nx).up nx)⟩)
              · skip
                refine lv_aload_n hx hb dX9_play_130 rfl (lv_at hl 5 rfl) ?_
                refine lv_dup hx hb dX9_play_131 rfl ?_
                refine m_get (ci := 7) (v := .int c3) (C := RX9) (T := TX9) (N := 11) hx hb hts in_X9_play_X9 hown hE hM g_x rfl 9 (by decide) (hts (.fieldLink RX9 135 "CallWays2" "playedFailed" "I") (by decide +kernel)) (fun _ h9 => h9) rfl dX9_play_132 ?_
                refine lv_iconst (v := 1) hx hb dX9_play_135 (by decide) ?_
                refine lv_iadd hx hb dX9_play_136 ?_
                refine m_put (ci := 7) (v := .int (c3 + 1)) (ty := .int) (C := RX9) (T := TX9) (N := 11) hx hb hts in_X9_play_X9 tyX9 tyX9_ok nmX9 hown hE hM hS g_x rfl 9 (by decide) (hts (.fieldLink RX9 135 "CallWays2" "playedFailed" "I") (by decide +kernel)) (fun _ h9 => h9) rfl (by decide +kernel) rfl rfl (Nat.le_of_ble_eq_true rfl) dX9_play_137 (fun H locs hM hS => ?_)
                have hM : mOK E.1 (mA M sz) (mUp M31 x (mO 7 [.ref a1, .ref a2, .ref a3, .ref a4, .int (nI nn), .int (nI nf), .int bd, .int ((sGo ci kf pi on (tb.map rw) ph le (some ((fn jf).1, FP.i2d (fn jf).2)) 0 k).1), .int c2, .int (c3 + 1), .int (c4 + nI (sGo ci kf pi on (tb.map rw) ph le (some ((fn jf).1, FP.i2d (fn jf).2)) 0 k).2)])) H := hM
                obtain ⟨M33, eM33⟩ : ∃ z, z = mUp M31 x (mO 7 [.ref a1, .ref a2, .ref a3, .ref a4, .int (nI nn), .int (nI nf), .int bd, .int ((sGo ci kf pi on (tb.map rw) ph le (some ((fn jf).1, FP.i2d (fn jf).2)) 0 k).1), .int c2, .int (c3 + 1), .int (c4 + nI (sGo ci kf pi on (tb.map rw) ph le (some ((fn jf).1, FP.i2d (fn jf).2)) 0 k).2)]) := ⟨_, rfl⟩
                rw [← eM33] at hM
                have g_a4_ : M33 a4 = some (mDb E 40 w9) := by rw [eM33]; exact mUp_at (m_ne g_a4 g_x (by simp)) g_a4
                have g_p0_ : M33 p0 = some (mO ci [.ref q0, .int pi, .int on, .int ((sSt ci kf pi on (tb.map rw) ph le (sGo ci kf pi on (tb.map rw) ph le (some ((fn jf).1, FP.i2d (fn jf).2)) 0 k).2).1), .double ((sSt ci kf pi on (tb.map rw) ph le (sGo ci kf pi on (tb.map rw) ph le (some ((fn jf).1, FP.i2d (fn jf).2)) 0 k).2).2), va_rf (tb.map ra), .int fl9]) := by rw [eM33]; exact mUp_at (m_ne g_p0 g_x (by simp)) g_p0
                have g_q0_ : M33 q0 = some (mI E 4 kf) := by rw [eM33]; exact mUp_at (m_ne g_q0 g_x (by simp)) g_q0
                have g_s1_ : M33 s1 = some (mO 5 [.int lane1, .ref v1]) := by rw [eM33]; exact mUp_at (m_ne g_s1 g_x (by simp)) g_s1
                have g_v1_ : M33 v1 = some (mDb E n1 (dlv f1 a (fun q => sTurn lane1 (if (sGo ci kf pi on (tb.map rw) ph le (some ((fn jf).1, FP.i2d (fn jf).2)) 0 k).1 = 0 then w9 q else FP.dconst0)) k)) := by rw [eM33]; exact mUp_at (m_ne g_v1 g_x (by simp)) g_v1
                have g_a4 := g_a4_
                have g_p0 := g_p0_
                have g_q0 := g_q0_
                have g_s1 := g_s1_
                have g_v1 := g_v1_
                have g_x : M33 x = some (mO 7 [.ref a1, .ref a2, .ref a3, .ref a4, .int (nI nn), .int (nI nf), .int bd, .int ((sGo ci kf pi on (tb.map rw) ph le (some ((fn jf).1, FP.i2d (fn jf).2)) 0 k).1), .int c2, .int (c3 + 1), .int (c4 + nI (sGo ci kf pi on (tb.map rw) ph le (some ((fn jf).1, FP.i2d (fn jf).2)) 0 k).2)]) := by rw [eM33]; exact mUp_self _ _ _
                refine lv_iload hx hb dX9_play_140 (lv_at hl 0 rfl) ?_
                exact m_iret hx hb hr hlocks hM hS (Nat.le_refl _) (Nat.le_refl _) dX9_play_142 (by 
        have hok : vPl nn nf i wy f b := ⟨hv, Or.inr (Or.inr ⟨c_9, hvf⟩), c_59⟩
        have hcl : (nI k).toNatClampNeg = k := nI_clamp (by omega)
        have hca : (nI a).toNatClampNeg = a := nI_clamp (by omega)
        have hfu : plFu fn wy f = some ((fn jf).1, FP.i2d (fn jf).2) := by unfold plFu; rw [if_pos c_9, hjcf]
        have hgo : plGo ins rw (plFu fn wy f) j k = sGo ci kf pi on (tb.map rw) ph le (some ((fn jf).1, FP.i2d (fn jf).2)) 0 k := by rw [hfu]; unfold plGo; rw [hins]
        have hsm : ∀ q, plSm ins rw (plFu fn wy f) j q = psO (some ((fn jf).1, FP.i2d (fn jf).2)) (sSm ci kf pi on (tb.map rw) ph le q).2.1 := by
          intro q
          rw [hfu]
          unfold plSm
          rw [hins]
        exact ⟨(by
          show _ = (if vPl nn nf i wy f b then (if plF bk rw bd b wy (nI a) (nI k) = 0 then (if _ = 0 then _ else _) else _) else _)
          rw [if_pos hok, if_pos hpf, hjc, hcl, hgo, if_neg c_127]), (by
          show cRep E _ NO x (if vPl nn nf i wy f b then (if plF bk rw bd b wy (nI a) (nI k) = 0 then _ else _) else _)
          rw [if_pos hok, if_pos hpf, hjc, hjc1, hcl, hca]
          have hpi : plIns ins rw (plFu fn wy f) j k = va_up ins j (ci, kf, pi, on, (sSt ci kf pi on (tb.map rw) ph le (sGo ci kf pi on (tb.map rw) ph le (some ((fn jf).1, FP.i2d (fn jf).2)) 0 k).2).1, (sSt ci kf pi on (tb.map rw) ph le (sGo ci kf pi on (tb.map rw) ph le (some ((fn jf).1, FP.i2d (fn jf).2)) 0 k).2).2, tb) := by
            unfold plIns
            rw [hgo, hins]
          have hpr : plRw ins bk rw (plFu fn wy f) j k a j1 = va_up rw w1 (lane1, n1, dlv f1 a (fun q => sTurn lane1 (if (sGo ci kf pi on (tb.map rw) ph le (some ((fn jf).1, FP.i2d (fn jf).2)) 0 k).1 = 0 then w9 q else FP.dconst0)) k) := by
            unfold plRw
            rw [hbk1]
            show va_up rw w1 ((rw w1).1, (rw w1).2.1, dlv (rw w1).2.2 a (fun q => sTurn (rw w1).1 (if (plGo ins rw (plFu fn wy f) j k).1 = 0 then plSm ins rw (plFu fn wy f) j q else FP.dconst0)) k) = _
            rw [hrw1, hgo]
            show va_up rw w1 (lane1, n1, dlv f1 a (fun q => sTurn lane1 (if (sGo ci kf pi on (tb.map rw) ph le (some ((fn jf).1, FP.i2d (fn jf).2)) 0 k).1 = 0 then plSm ins rw (plFu fn wy f) j q else FP.dconst0)) k) = _
            rw [dlv_c (g' := fun q => sTurn lane1 (if (sGo ci kf pi on (tb.map rw) ph le (some ((fn jf).1, FP.i2d (fn jf).2)) 0 k).1 = 0 then w9 q else FP.dconst0))]
            intro q hq
            show sTurn lane1 (if (sGo ci kf pi on (tb.map rw) ph le (some ((fn jf).1, FP.i2d (fn jf).2)) 0 k).1 = 0 then plSm ins rw (plFu fn wy f) j q else FP.dconst0) = sTurn lane1 (if (sGo ci kf pi on (tb.map rw) ph le (some ((fn jf).1, FP.i2d (fn jf).2)) 0 k).1 = 0 then w9 q else FP.dconst0)
            by_cases hz : (sGo ci kf pi on (tb.map rw) ph le (some ((fn jf).1, FP.i2d (fn jf).2)) 0 k).1 = 0
            · rw [if_pos hz, if_pos hz, hsm q, hw9 hz q hq]
            · rw [if_neg hz, if_neg hz]
          rw [hpi, hpr, hgo, if_neg c_127, if_neg c_127, eM33, eM31, eM30, eM28, mUp_up, ep0, eq0, ev1]
          have hi2 := insK_up (j := j) (v := (ci, kf, pi, on, (sSt ci kf pi on (tb.map rw) ph le (sGo ci kf pi on (tb.map rw) ph le (some ((fn jf).1, FP.i2d (fn jf).2)) 0 k).2).1, (sSt ci kf pi on (tb.map rw) ph le (sGo ci kf pi on (tb.map rw) ph le (some ((fn jf).1, FP.i2d (fn jf).2)) 0 k).2).2, tb)) hiK (by rw [hins])
          have h1 := hC.inst (pi' := pi) (on' := on) (ph' := (sSt ci kf pi on (tb.map rw) ph le (sGo ci kf pi on (tb.map rw) ph le (some ((fn jf).1, FP.i2d (fn jf).2)) 0 k).2).1) (le' := (sSt ci kf pi on (tb.map rw) ph le (sGo ci kf pi on (tb.map rw) ph le (some ((fn jf).1, FP.i2d (fn jf).2)) 0 k).2).2) (fl' := fl9) hiK hj hins
          have h2 := h1.scal (bd' := bd) (st' := st) (c2' := c2) (c3' := c3) (c4' := c4 + nI (sGo ci kf pi on (tb.map rw) ph le (some ((fn jf).1, FP.i2d (fn jf).2)) 0 k).2) hi2
          have h3 := h2.wait (wt' := w9) hi2
          have h4 := h3.row (f' := dlv f1 a (fun q => sTurn lane1 (if (sGo ci kf pi on (tb.map rw) ph le (some ((fn jf).1, FP.i2d (fn jf).2)) 0 k).1 = 0 then w9 q else FP.dconst0)) k) hi2 (hL w1 hlv1) hrw1
          exact (h4.scal hi2).rep), (by rw [eM33, eM31, eM30, eM28, ep0, ev1]; unfold tri; exact (((((kept.rf.up hno.1).up nx).up n4).up hnr1.2).up nx).up nx)⟩)
        · skip
          rw [bI_eq] at c_59
          refine lv_aload_n hx hb dX9_play_62 rfl (lv_at hl 3 rfl) ?_
          refine lv_iconst (v := -1) hx hb dX9_play_63 (by decide) ?_
          refine m_put (ci := 7) (v := .int (-1)) (ty := .int) (C := RX9) (T := TX9) (N := 11) hx hb hts in_X9_play_X9 tyX9 tyX9_ok nmX9 hown hE hM hS g_x rfl 7 (by decide) (hts (.fieldLink RX9 53 "CallWays2" "latest" "I") (by decide +kernel)) (fun _ h9 => h9) rfl (by decide +kernel) rfl rfl (Nat.le_of_ble_eq_true rfl) dX9_play_64 (fun H locs hM hS => ?_)
          have hM : mOK E.1 (mA M sz) (mUp M x (mO 7 [.ref a1, .ref a2, .ref a3, .ref a4, .int (nI nn), .int (nI nf), .int bd, .int (-1), .int c2, .int c3, .int c4])) H := hM
          obtain ⟨M34, eM34⟩ : ∃ z, z = mUp M x (mO 7 [.ref a1, .ref a2, .ref a3, .ref a4, .int (nI nn), .int (nI nf), .int bd, .int (-1), .int c2, .int c3, .int c4]) := ⟨_, rfl⟩
          rw [← eM34] at hM
          have g_a1_ : M34 a1 = some (mQ E 4 12 fi) := by rw [eM34]; exact mUp_at (m_ne g_a1 g_x (by simp)) g_a1
          have g_a2_ : M34 a2 = some (mQ E 5 10 fb) := by rw [eM34]; exact mUp_at (m_ne g_a2 g_x (by simp)) g_a2
          have g_a3_ : M34 a3 = some (mQ E 6 8 ff) := by rw [eM34]; exact mUp_at (m_ne g_a3 g_x (by simp)) g_a3
          have g_a4_ : M34 a4 = some (mDb E 40 wt) := by rw [eM34]; exact mUp_at (m_ne g_a4 g_x (by simp)) g_a4
          have g_p0_ : M34 p0 = some (mO ci [.ref q0, .int pi, .int on, .int ph, .double le, va_rf (tb.map ra), .int f0]) := by rw [eM34]; exact mUp_at (m_ne g_p0 g_x (by simp)) g_p0
          have g_q0_ : M34 q0 = some (mI E 4 kf) := by rw [eM34]; exact mUp_at (m_ne g_q0 g_x (by simp)) g_q0
          have g_fq_ : M34 fq = some (mO 2 [.int ((fn jf).1), .double (FP.i2d (fn jf).2)]) := by rw [eM34]; exact mUp_at (m_ne g_fq g_x (by simp)) g_fq
          have g_a1 := g_a1_
          have g_a2 := g_a2_
          have g_a3 := g_a3_
          have g_a4 := g_a4_
          have g_p0 := g_p0_
          have g_q0 := g_q0_
          have g_fq := g_fq_
          have g_x : M34 x = some (mO 7 [.ref a1, .ref a2, .ref a3, .ref a4, .int (nI nn), .int (nI nf), .int bd, .int (-1), .int c2, .int c3, .int c4]) := by rw [eM34]; exact mUp_self _ _ _
          refine lv_iconst (v := -1) hx hb dX9_play_67 (by decide) ?_
          exact m_iret hx hb hr hlocks hM hS (Nat.le_refl _) (Nat.le_refl _) dX9_play_68 (by have hz : ¬ vPl nn nf i wy f b := na2 (na2 c_59); exact ⟨(if_neg hz).symm, (by show cRep E _ NO x (if vPl nn nf i wy f b then _ else _); rw [if_neg hz, eM34]; exact (hC.scal hiK).rep), (by rw [eM34]; exact kx nx)⟩)
      · rw [if_neg hvf] at e_r2
        subst e_r2
        refine W.eq (g2 := F0 m 17 ls [.null]) rfl ?_
        refine lv_goto (tgt := 21) hx hb dX9_play_17 (by decide) ?_
        refine lv_astoreN (lv' := [(8, .null), (7, .ref p0), (0, .ref x), (1, .int i), (2, .int wy), (3, .int f), (4, .int b), (5, .int fr), (6, .int n)]) hx hb dX9_play_21 hl (by decide) rfl (fun ls hl => ?_)
        refine lv_iload_n hx hb dX9_play_23 rfl (lv_at hl 4 rfl) ?_
        refine lv_if_eq (tgt := 37) hx hb dX9_play_24 (by decide) (fun h9 => False.elim (by revert h9; exact (fun h => absurd (c_9.symm.trans h) (by decide)))) (fun _ => ?_)
        refine lv_iload_n hx hb dX9_play_27 rfl (lv_at hl 4 rfl) ?_
        refine lv_iconst (v := 1) hx hb dX9_play_28 (by decide) ?_
        refine lv_icmp_eq (tgt := 37) hx hb dX9_play_29 (by decide) (fun h9 => False.elim (by revert h9; exact (fun h => absurd (c_9.symm.trans h) (by decide)))) (fun _ => ?_)
        refine lv_aloadN hx hb dX9_play_32 (lv_at hl 0 rfl) ?_
        refine lv_ifnullN (tgt := 41) hx hb dX9_play_34 (by decide) ?_
        refine lv_iconst (v := 0) hx hb dX9_play_41 (by decide) ?_
        refine lv_istore (lv' := [(9, .int 0), (8, .null), (7, .ref p0), (0, .ref x), (1, .int i), (2, .int wy), (3, .int f), (4, .int b), (5, .int fr), (6, .int n)]) hx hb dX9_play_42 hl (by decide) rfl (fun ls hl => ?_)
        refine lv_aload hx hb dX9_play_44 (lv_at hl 2 rfl) ?_
        refine lv_ifnull hx hb dX9_play_46 ?_
        refine lv_iload hx hb dX9_play_49 (lv_at hl 0 rfl) ?_
        refine lv_if_eq (tgt := 62) hx hb dX9_play_51 (by decide) (fun _ => ?_) (fun h9 => False.elim (by revert h9; exact (fun h => h rfl)))
        refine lv_aload_n hx hb dX9_play_62 rfl (lv_at hl 3 rfl) ?_
        refine lv_iconst (v := -1) hx hb dX9_play_63 (by decide) ?_
        refine m_put (ci := 7) (v := .int (-1)) (ty := .int) (C := RX9) (T := TX9) (N := 11) hx hb hts in_X9_play_X9 tyX9 tyX9_ok nmX9 hown hE hM hS g_x rfl 7 (by decide) (hts (.fieldLink RX9 53 "CallWays2" "latest" "I") (by decide +kernel)) (fun _ h9 => h9) rfl (by decide +kernel) rfl rfl (Nat.le_of_ble_eq_true rfl) dX9_play_64 (fun H locs hM hS => ?_)
        have hM : mOK E.1 (mA M sz) (mUp M x (mO 7 [.ref a1, .ref a2, .ref a3, .ref a4, .int (nI nn), .int (nI nf), .int bd, .int (-1), .int c2, .int c3, .int c4])) H := hM
        obtain ⟨M35, eM35⟩ : ∃ z, z = mUp M x (mO 7 [.ref a1, .ref a2, .ref a3, .ref a4, .int (nI nn), .int (nI nf), .int bd, .int (-1), .int c2, .int c3, .int c4]) := ⟨_, rfl⟩
        rw [← eM35] at hM
        have g_a1_ : M35 a1 = some (mQ E 4 12 fi) := by rw [eM35]; exact mUp_at (m_ne g_a1 g_x (by simp)) g_a1
        have g_a2_ : M35 a2 = some (mQ E 5 10 fb) := by rw [eM35]; exact mUp_at (m_ne g_a2 g_x (by simp)) g_a2
        have g_a3_ : M35 a3 = some (mQ E 6 8 ff) := by rw [eM35]; exact mUp_at (m_ne g_a3 g_x (by simp)) g_a3
        have g_a4_ : M35 a4 = some (mDb E 40 wt) := by rw [eM35]; exact mUp_at (m_ne g_a4 g_x (by simp)) g_a4
        have g_p0_ : M35 p0 = some (mO ci [.ref q0, .int pi, .int on, .int ph, .double le, va_rf (tb.map ra), .int f0]) := by rw [eM35]; exact mUp_at (m_ne g_p0 g_x (by simp)) g_p0
        have g_q0_ : M35 q0 = some (mI E 4 kf) := by rw [eM35]; exact mUp_at (m_ne g_q0 g_x (by simp)) g_q0
        have g_a1 := g_a1_
        have g_a2 := g_a2_
        have g_a3 := g_a3_
        have g_a4 := g_a4_
        have g_p0 := g_p0_
        have g_q0 := g_q0_
        have g_x : M35 x = some (mO 7 [.ref a1, .ref a2, .ref a3, .ref a4, .int (nI nn), .int (nI nf), .int bd, .int (-1), .int c2, .int c3, .int c4]) := by rw [eM35]; exact mUp_self _ _ _
        refine lv_iconst (v := -1) hx hb dX9_play_67 (by decide) ?_
        exact m_iret hx hb hr hlocks hM hS (Nat.le_refl _) (Nat.le_refl _) dX9_play_68 (by have hz : ¬ vPl nn nf i wy f b := fun h => h.2.1.elim (fun h1 => absurd (c_9.symm.trans h1) (by decide)) (fun h1 => h1.elim (fun h2 => absurd (c_9.symm.trans h2) (by decide)) (fun h2 => hvf h2.2)); exact ⟨(if_neg hz).symm, (by show cRep E _ NO x (if vPl nn nf i wy f b then _ else _); rw [if_neg hz, eM35]; exact (hC.scal hiK).rep), (by rw [eM35]; exact kx nx)⟩)
  · rw [if_neg hv] at e_r1
    subst e_r1
    refine W.eq (g2 := F0 m 5 ls [.null]) rfl ?_
    refine lv_astoreN (lv' := [(7, .null), (0, .ref x), (1, .int i), (2, .int wy), (3, .int f), (4, .int b), (5, .int fr), (6, .int n)]) hx hb dX9_play_5 hl (by decide) rfl (fun ls hl => ?_)
    refine lv_iload_n hx hb dX9_play_7 rfl (lv_at hl 3 rfl) ?_
    refine lv_iconst (v := 2) hx hb dX9_play_8 (by decide) ?_
    refine lv_icmp_ne (tgt := 20) hx hb dX9_play_9 (by decide) (fun c_9 => ?_) (fun c_9 => ?_)
    · skip
      refine lv_null hx hb dX9_play_20 ?_
      refine lv_astoreN (lv' := [(8, .null), (7, .null), (0, .ref x), (1, .int i), (2, .int wy), (3, .int f), (4, .int b), (5, .int fr), (6, .int n)]) hx hb dX9_play_21 hl (by decide) rfl (fun ls hl => ?_)
      refine lv_iload_n hx hb dX9_play_23 rfl (lv_at hl 4 rfl) ?_
      refine lv_if_eq (tgt := 37) hx hb dX9_play_24 (by decide) (fun c_24 => ?_) (fun c_24 => ?_)
      · skip
        refine lv_iconst (v := 1) hx hb dX9_play_37 (by decide) ?_
        refine lv_goto (tgt := 42) hx hb dX9_play_38 (by decide) ?_
        refine lv_istore (lv' := [(9, .int 1), (8, .null), (7, .null), (0, .ref x), (1, .int i), (2, .int wy), (3, .int f), (4, .int b), (5, .int fr), (6, .int n)]) hx hb dX9_play_42 hl (by decide) rfl (fun ls hl => ?_)
        refine lv_aloadN hx hb dX9_play_44 (lv_at hl 2 rfl) ?_
        refine lv_ifnullN (tgt := 62) hx hb dX9_play_46 (by decide) ?_
        refine lv_aload_n hx hb dX9_play_62 rfl (lv_at hl 3 rfl) ?_
        refine lv_iconst (v := -1) hx hb dX9_play_63 (by decide) ?_
        refine m_put (ci := 7) (v := .int (-1)) (ty := .int) (C := RX9) (T := TX9) (N := 11) hx hb hts in_X9_play_X9 tyX9 tyX9_ok nmX9 hown hE hM hS g_x rfl 7 (by decide) (hts (.fieldLink RX9 53 "CallWays2" "latest" "I") (by decide +kernel)) (fun _ h9 => h9) rfl (by decide +kernel) rfl rfl (Nat.le_of_ble_eq_true rfl) dX9_play_64 (fun H locs hM hS => ?_)
        have hM : mOK E.1 (mA M sz) (mUp M x (mO 7 [.ref a1, .ref a2, .ref a3, .ref a4, .int (nI nn), .int (nI nf), .int bd, .int (-1), .int c2, .int c3, .int c4])) H := hM
        obtain ⟨M36, eM36⟩ : ∃ z, z = mUp M x (mO 7 [.ref a1, .ref a2, .ref a3, .ref a4, .int (nI nn), .int (nI nf), .int bd, .int (-1), .int c2, .int c3, .int c4]) := ⟨_, rfl⟩
        rw [← eM36] at hM
        have g_a1_ : M36 a1 = some (mQ E 4 12 fi) := by rw [eM36]; exact mUp_at (m_ne g_a1 g_x (by simp)) g_a1
        have g_a2_ : M36 a2 = some (mQ E 5 10 fb) := by rw [eM36]; exact mUp_at (m_ne g_a2 g_x (by simp)) g_a2
        have g_a3_ : M36 a3 = some (mQ E 6 8 ff) := by rw [eM36]; exact mUp_at (m_ne g_a3 g_x (by simp)) g_a3
        have g_a4_ : M36 a4 = some (mDb E 40 wt) := by rw [eM36]; exact mUp_at (m_ne g_a4 g_x (by simp)) g_a4
        have g_a1 := g_a1_
        have g_a2 := g_a2_
        have g_a3 := g_a3_
        have g_a4 := g_a4_
        have g_x : M36 x = some (mO 7 [.ref a1, .ref a2, .ref a3, .ref a4, .int (nI nn), .int (nI nf), .int bd, .int (-1), .int c2, .int c3, .int c4]) := by rw [eM36]; exact mUp_self _ _ _
        refine lv_iconst (v := -1) hx hb dX9_play_67 (by decide) ?_
        exact m_iret hx hb hr hlocks hM hS (Nat.le_refl _) (Nat.le_refl _) dX9_play_68 (by have hz : ¬ vPl nn nf i wy f b := na1 hv; exact ⟨(if_neg hz).symm, (by show cRep E _ NO x (if vPl nn nf i wy f b then _ else _); rw [if_neg hz, eM36]; exact (hC.scal hiK).rep), (by rw [eM36]; exact kx nx)⟩)
      · skip
        refine lv_iload_n hx hb dX9_play_27 rfl (lv_at hl 4 rfl) ?_
        refine lv_iconst (v := 1) hx hb dX9_play_28 (by decide) ?_
        refine lv_icmp_eq (tgt := 37) hx hb dX9_play_29 (by decide) (fun c_29 => ?_) (fun c_29 => ?_)
        · skip
          refine lv_iconst (v := 1) hx hb dX9_play_37 (by decide) ?_
          refine lv_goto (tgt := 42) hx hb dX9_play_38 (by decide) ?_
          refine lv_istore (lv' := [(9, .int 1), (8, .null), (7, .null), (0, .ref x), (1, .int i), (2, .int wy), (3, .int f), (4, .int b), (5, .int fr), (6, .int n)]) hx hb dX9_play_42 hl (by decide) rfl (fun ls hl => ?_)
          refine lv_aloadN hx hb dX9_play_44 (lv_at hl 2 rfl) ?_
          refine lv_ifnullN (tgt := 62) hx hb dX9_play_46 (by decide) ?_
          refine lv_aload_n hx hb dX9_play_62 rfl (lv_at hl 3 rfl) ?_
          refine lv_iconst (v := -1) hx hb dX9_play_63 (by decide) ?_
          refine m_put (ci := 7) (v := .int (-1)) (ty := .int) (C := RX9) (T := TX9) (N := 11) hx hb hts in_X9_play_X9 tyX9 tyX9_ok nmX9 hown hE hM hS g_x rfl 7 (by decide) (hts (.fieldLink RX9 53 "CallWays2" "latest" "I") (by decide +kernel)) (fun _ h9 => h9) rfl (by decide +kernel) rfl rfl (Nat.le_of_ble_eq_true rfl) dX9_play_64 (fun H locs hM hS => ?_)
          have hM : mOK E.1 (mA M sz) (mUp M x (mO 7 [.ref a1, .ref a2, .ref a3, .ref a4, .int (nI nn), .int (nI nf), .int bd, .int (-1), .int c2, .int c3, .int c4])) H := hM
          obtain ⟨M37, eM37⟩ : ∃ z, z = mUp M x (mO 7 [.ref a1, .ref a2, .ref a3, .ref a4, .int (nI nn), .int (nI nf), .int bd, .int (-1), .int c2, .int c3, .int c4]) := ⟨_, rfl⟩
          rw [← eM37] at hM
          have g_a1_ : M37 a1 = some (mQ E 4 12 fi) := by rw [eM37]; exact mUp_at (m_ne g_a1 g_x (by simp)) g_a1
          have g_a2_ : M37 a2 = some (mQ E 5 10 fb) := by rw [eM37]; exact mUp_at (m_ne g_a2 g_x (by simp)) g_a2
          have g_a3_ : M37 a3 = some (mQ E 6 8 ff) := by rw [eM37]; exact mUp_at (m_ne g_a3 g_x (by simp)) g_a3
          have g_a4_ : M37 a4 = some (mDb E 40 wt) := by rw [eM37]; exact mUp_at (m_ne g_a4 g_x (by simp)) g_a4
          have g_a1 := g_a1_
          have g_a2 := g_a2_
          have g_a3 := g_a3_
          have g_a4 := g_a4_
          have g_x : M37 x = some (mO 7 [.ref a1, .ref a2, .ref a3, .ref a4, .int (nI nn), .int (nI nf), .int bd, .int (-1), .int c2, .int c3, .int c4]) := by rw [eM37]; exact mUp_self _ _ _
          refine lv_iconst (v := -1) hx hb dX9_play_67 (by decide) ?_
          exact m_iret hx hb hr hlocks hM hS (Nat.le_refl _) (Nat.le_refl _) dX9_play_68 (by have hz : ¬ vPl nn nf i wy f b := na1 hv; exact ⟨(if_neg hz).symm, (by show cRep E _ NO x (if vPl nn nf i wy f b then _ else _); rw [if_neg hz, eM37]; exact (hC.scal hiK).rep), (by rw [eM37]; exact kx nx)⟩)
        · skip
          refine lv_aloadN hx hb dX9_play_32 (lv_at hl 0 rfl) ?_
          refine lv_ifnullN (tgt := 41) hx hb dX9_play_34 (by decide) ?_
          refine lv_iconst (v := 0) hx hb dX9_play_41 (by decide) ?_
          refine lv_istore (lv' := [(9, .int 0), (8, .null), (7, .null), (0, .ref x), (1, .int i), (2, .int wy), (3, .int f), (4, .int b), (5, .int fr), (6, .int n)]) hx hb dX9_play_42 hl (by decide) rfl (fun ls hl => ?_)
          refine lv_aloadN hx hb dX9_play_44 (lv_at hl 2 rfl) ?_
          refine lv_ifnullN (tgt := 62) hx hb dX9_play_46 (by decide) ?_
          refine lv_aload_n hx hb dX9_play_62 rfl (lv_at hl 3 rfl) ?_
          refine lv_iconst (v := -1) hx hb dX9_play_63 (by decide) ?_
          refine m_put (ci := 7) (v := .int (-1)) (ty := .int) (C := RX9) (T := TX9) (N := 11) hx hb hts in_X9_play_X9 tyX9 tyX9_ok nmX9 hown hE hM hS g_x rfl 7 (by decide) (hts (.fieldLink RX9 53 "CallWays2" "latest" "I") (by decide +kernel)) (fun _ h9 => h9) rfl (by decide +kernel) rfl rfl (Nat.le_of_ble_eq_true rfl) dX9_play_64 (fun H locs hM hS => ?_)
          have hM : mOK E.1 (mA M sz) (mUp M x (mO 7 [.ref a1, .ref a2, .ref a3, .ref a4, .int (nI nn), .int (nI nf), .int bd, .int (-1), .int c2, .int c3, .int c4])) H := hM
          obtain ⟨M38, eM38⟩ : ∃ z, z = mUp M x (mO 7 [.ref a1, .ref a2, .ref a3, .ref a4, .int (nI nn), .int (nI nf), .int bd, .int (-1), .int c2, .int c3, .int c4]) := ⟨_, rfl⟩
          rw [← eM38] at hM
          have g_a1_ : M38 a1 = some (mQ E 4 12 fi) := by rw [eM38]; exact mUp_at (m_ne g_a1 g_x (by simp)) g_a1
          have g_a2_ : M38 a2 = some (mQ E 5 10 fb) := by rw [eM38]; exact mUp_at (m_ne g_a2 g_x (by simp)) g_a2
          have g_a3_ : M38 a3 = some (mQ E 6 8 ff) := by rw [eM38]; exact mUp_at (m_ne g_a3 g_x (by simp)) g_a3
          have g_a4_ : M38 a4 = some (mDb E 40 wt) := by rw [eM38]; exact mUp_at (m_ne g_a4 g_x (by simp)) g_a4
          have g_a1 := g_a1_
          have g_a2 := g_a2_
          have g_a3 := g_a3_
          have g_a4 := g_a4_
          have g_x : M38 x = some (mO 7 [.ref a1, .ref a2, .ref a3, .ref a4, .int (nI nn), .int (nI nf), .int bd, .int (-1), .int c2, .int c3, .int c4]) := by rw [eM38]; exact mUp_self _ _ _
          refine lv_iconst (v := -1) hx hb dX9_play_67 (by decide) ?_
          exact m_iret hx hb hr hlocks hM hS (Nat.le_refl _) (Nat.le_refl _) dX9_play_68 (by have hz : ¬ vPl nn nf i wy f b := na1 hv; exact ⟨(if_neg hz).symm, (by show cRep E _ NO x (if vPl nn nf i wy f b then _ else _); rw [if_neg hz, eM38]; exact (hC.scal hiK).rep), (by rw [eM38]; exact kx nx)⟩)
    · skip
      refine lv_aload_n hx hb dX9_play_12 rfl (lv_at hl 1 rfl) ?_
      refine lv_iload_n hx hb dX9_play_13 rfl (lv_at hl 4 rfl) ?_
      refine m_callq (va_runV (As := [.int f]) (rest := []) ⟨hx, hb, hml, hown, hts⟩ (c_X9_functionAt l E M H.size x a1 a2 a3 a4 nn nf bd st c2 c3 c4 fi fb ff wt f hnf g_x g_a3) (cwV 1 hts gX9_play_X9_functionAt rfl rfl rfl (by decide +kernel) ⟨Nat.le_of_ble_eq_true rfl, Nat.le_of_ble_eq_true rfl⟩) (m_preV hE hM g_x rfl) rfl rfl hl.1 rfl (lv_room (Nat.le_of_ble_eq_true rfl)) dX9_play_14 ⟨Nat.le_of_ble_eq_true rfl, Nat.le_of_ble_eq_true rfl⟩) hM hS hA (fun r2 u H locs hw hM hS => ?_)
      obtain ⟨e_r2, eu⟩ := hw
      rw [eu] at hM
      by_cases hvf : ¬ f < 0 ∧ ¬ nI nf ≤ f
      · rw [if_pos hvf] at e_r2
        obtain ⟨jf, hjf, hijf, hjcf⟩ := vI_ix hvf (by omega)
        rw [hjcf] at e_r2
        obtain ⟨kf1, g_fq⟩ := hF jf hjf
        have hnof := nF0 jf hjf
        obtain ⟨fq, efq⟩ : ∃ z, z = fa jf := ⟨_, rfl⟩
        rw [← efq] at kf1 g_fq
        rw [kf1] at e_r2
        subst e_r2
        refine W.eq (g2 := F0 m 17 ls [.ref fq]) rfl ?_
        refine lv_goto (tgt := 21) hx hb dX9_play_17 (by decide) ?_
        refine lv_astore (lv' := [(8, .ref fq), (7, .null), (0, .ref x), (1, .int i), (2, .int wy), (3, .int f), (4, .int b), (5, .int fr), (6, .int n)]) hx hb dX9_play_21 hl (by decide) rfl (fun ls hl => ?_)
        refine lv_iload_n hx hb dX9_play_23 rfl (lv_at hl 4 rfl) ?_
        refine lv_if_eq (tgt := 37) hx hb dX9_play_24 (by decide) (fun h9 => False.elim (by revert h9; exact (fun h => absurd (c_9.symm.trans h) (by decide)))) (fun _ => ?_)
        refine lv_iload_n hx hb dX9_play_27 rfl (lv_at hl 4 rfl) ?_
        refine lv_iconst (v := 1) hx hb dX9_play_28 (by decide) ?_
        refine lv_icmp_eq (tgt := 37) hx hb dX9_play_29 (by decide) (fun h9 => False.elim (by revert h9; exact (fun h => absurd (c_9.symm.trans h) (by decide)))) (fun _ => ?_)
        refine lv_aload hx hb dX9_play_32 (lv_at hl 0 rfl) ?_
        refine lv_ifnull hx hb dX9_play_34 ?_
        refine lv_iconst (v := 1) hx hb dX9_play_37 (by decide) ?_
        refine lv_goto (tgt := 42) hx hb dX9_play_38 (by decide) ?_
        refine lv_istore (lv' := [(9, .int 1), (8, .ref fq), (7, .null), (0, .ref x), (1, .int i), (2, .int wy), (3, .int f), (4, .int b), (5, .int fr), (6, .int n)]) hx hb dX9_play_42 hl (by decide) rfl (fun ls hl => ?_)
        refine lv_aloadN hx hb dX9_play_44 (lv_at hl 2 rfl) ?_
        refine lv_ifnullN (tgt := 62) hx hb dX9_play_46 (by decide) ?_
        refine lv_aload_n hx hb dX9_play_62 rfl (lv_at hl 3 rfl) ?_
        refine lv_iconst (v := -1) hx hb dX9_play_63 (by decide) ?_
        refine m_put (ci := 7) (v := .int (-1)) (ty := .int) (C := RX9) (T := TX9) (N := 11) hx hb hts in_X9_play_X9 tyX9 tyX9_ok nmX9 hown hE hM hS g_x rfl 7 (by decide) (hts (.fieldLink RX9 53 "CallWays2" "latest" "I") (by decide +kernel)) (fun _ h9 => h9) rfl (by decide +kernel) rfl rfl (Nat.le_of_ble_eq_true rfl) dX9_play_64 (fun H locs hM hS => ?_)
        have hM : mOK E.1 (mA M sz) (mUp M x (mO 7 [.ref a1, .ref a2, .ref a3, .ref a4, .int (nI nn), .int (nI nf), .int bd, .int (-1), .int c2, .int c3, .int c4])) H := hM
        obtain ⟨M39, eM39⟩ : ∃ z, z = mUp M x (mO 7 [.ref a1, .ref a2, .ref a3, .ref a4, .int (nI nn), .int (nI nf), .int bd, .int (-1), .int c2, .int c3, .int c4]) := ⟨_, rfl⟩
        rw [← eM39] at hM
        have g_a1_ : M39 a1 = some (mQ E 4 12 fi) := by rw [eM39]; exact mUp_at (m_ne g_a1 g_x (by simp)) g_a1
        have g_a2_ : M39 a2 = some (mQ E 5 10 fb) := by rw [eM39]; exact mUp_at (m_ne g_a2 g_x (by simp)) g_a2
        have g_a3_ : M39 a3 = some (mQ E 6 8 ff) := by rw [eM39]; exact mUp_at (m_ne g_a3 g_x (by simp)) g_a3
        have g_a4_ : M39 a4 = some (mDb E 40 wt) := by rw [eM39]; exact mUp_at (m_ne g_a4 g_x (by simp)) g_a4
        have g_fq_ : M39 fq = some (mO 2 [.int ((fn jf).1), .double (FP.i2d (fn jf).2)]) := by rw [eM39]; exact mUp_at (m_ne g_fq g_x (by simp)) g_fq
        have g_a1 := g_a1_
        have g_a2 := g_a2_
        have g_a3 := g_a3_
        have g_a4 := g_a4_
        have g_fq := g_fq_
        have g_x : M39 x = some (mO 7 [.ref a1, .ref a2, .ref a3, .ref a4, .int (nI nn), .int (nI nf), .int bd, .int (-1), .int c2, .int c3, .int c4]) := by rw [eM39]; exact mUp_self _ _ _
        refine lv_iconst (v := -1) hx hb dX9_play_67 (by decide) ?_
        exact m_iret hx hb hr hlocks hM hS (Nat.le_refl _) (Nat.le_refl _) dX9_play_68 (by have hz : ¬ vPl nn nf i wy f b := na1 hv; exact ⟨(if_neg hz).symm, (by show cRep E _ NO x (if vPl nn nf i wy f b then _ else _); rw [if_neg hz, eM39]; exact (hC.scal hiK).rep), (by rw [eM39]; exact kx nx)⟩)
      · rw [if_neg hvf] at e_r2
        subst e_r2
        refine W.eq (g2 := F0 m 17 ls [.null]) rfl ?_
        refine lv_goto (tgt := 21) hx hb dX9_play_17 (by decide) ?_
        refine lv_astoreN (lv' := [(8, .null), (7, .null), (0, .ref x), (1, .int i), (2, .int wy), (3, .int f), (4, .int b), (5, .int fr), (6, .int n)]) hx hb dX9_play_21 hl (by decide) rfl (fun ls hl => ?_)
        refine lv_iload_n hx hb dX9_play_23 rfl (lv_at hl 4 rfl) ?_
        refine lv_if_eq (tgt := 37) hx hb dX9_play_24 (by decide) (fun h9 => False.elim (by revert h9; exact (fun h => absurd (c_9.symm.trans h) (by decide)))) (fun _ => ?_)
        refine lv_iload_n hx hb dX9_play_27 rfl (lv_at hl 4 rfl) ?_
        refine lv_iconst (v := 1) hx hb dX9_play_28 (by decide) ?_
        refine lv_icmp_eq (tgt := 37) hx hb dX9_play_29 (by decide) (fun h9 => False.elim (by revert h9; exact (fun h => absurd (c_9.symm.trans h) (by decide)))) (fun _ => ?_)
        refine lv_aloadN hx hb dX9_play_32 (lv_at hl 0 rfl) ?_
        refine lv_ifnullN (tgt := 41) hx hb dX9_play_34 (by decide) ?_
        refine lv_iconst (v := 0) hx hb dX9_play_41 (by decide) ?_
        refine lv_istore (lv' := [(9, .int 0), (8, .null), (7, .null), (0, .ref x), (1, .int i), (2, .int wy), (3, .int f), (4, .int b), (5, .int fr), (6, .int n)]) hx hb dX9_play_42 hl (by decide) rfl (fun ls hl => ?_)
        refine lv_aloadN hx hb dX9_play_44 (lv_at hl 2 rfl) ?_
        refine lv_ifnullN (tgt := 62) hx hb dX9_play_46 (by decide) ?_
        refine lv_aload_n hx hb dX9_play_62 rfl (lv_at hl 3 rfl) ?_
        refine lv_iconst (v := -1) hx hb dX9_play_63 (by decide) ?_
        refine m_put (ci := 7) (v := .int (-1)) (ty := .int) (C := RX9) (T := TX9) (N := 11) hx hb hts in_X9_play_X9 tyX9 tyX9_ok nmX9 hown hE hM hS g_x rfl 7 (by decide) (hts (.fieldLink RX9 53 "CallWays2" "latest" "I") (by decide +kernel)) (fun _ h9 => h9) rfl (by decide +kernel) rfl rfl (Nat.le_of_ble_eq_true rfl) dX9_play_64 (fun H locs hM hS => ?_)
        have hM : mOK E.1 (mA M sz) (mUp M x (mO 7 [.ref a1, .ref a2, .ref a3, .ref a4, .int (nI nn), .int (nI nf), .int bd, .int (-1), .int c2, .int c3, .int c4])) H := hM
        obtain ⟨M40, eM40⟩ : ∃ z, z = mUp M x (mO 7 [.ref a1, .ref a2, .ref a3, .ref a4, .int (nI nn), .int (nI nf), .int bd, .int (-1), .int c2, .int c3, .int c4]) := ⟨_, rfl⟩
        rw [← eM40] at hM
        have g_a1_ : M40 a1 = some (mQ E 4 12 fi) := by rw [eM40]; exact mUp_at (m_ne g_a1 g_x (by simp)) g_a1
        have g_a2_ : M40 a2 = some (mQ E 5 10 fb) := by rw [eM40]; exact mUp_at (m_ne g_a2 g_x (by simp)) g_a2
        have g_a3_ : M40 a3 = some (mQ E 6 8 ff) := by rw [eM40]; exact mUp_at (m_ne g_a3 g_x (by simp)) g_a3
        have g_a4_ : M40 a4 = some (mDb E 40 wt) := by rw [eM40]; exact mUp_at (m_ne g_a4 g_x (by simp)) g_a4
        have g_a1 := g_a1_
        have g_a2 := g_a2_
        have g_a3 := g_a3_
        have g_a4 := g_a4_
        have g_x : M40 x = some (mO 7 [.ref a1, .ref a2, .ref a3, .ref a4, .int (nI nn), .int (nI nf), .int bd, .int (-1), .int c2, .int c3, .int c4]) := by rw [eM40]; exact mUp_self _ _ _
        refine lv_iconst (v := -1) hx hb dX9_play_67 (by decide) ?_
        exact m_iret hx hb hr hlocks hM hS (Nat.le_refl _) (Nat.le_refl _) dX9_play_68 (by have hz : ¬ vPl nn nf i wy f b := na1 hv; exact ⟨(if_neg hz).symm, (by show cRep E _ NO x (if vPl nn nf i wy f b then _ else _); rw [if_neg hz, eM40]; exact (hC.scal hiK).rep), (by rw [eM40]; exact kx nx)⟩)
