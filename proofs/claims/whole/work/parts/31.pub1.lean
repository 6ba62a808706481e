def aState (σ : Sg) : Int32 := match σ with | (_, _, _, _, _, _, _, st, _) => st
def aCount (σ : Sg) (w : Int32) : Int32 := match σ with | (nn, _, nf, _, _, _, _, _, c2, c3, c4) => if w = 0 then nI nn else if w = 1 then nI nf else if w = 2 then c2 else if w = 3 then c3 else if w = 4 then c4 else -1
abbrev vL (l : Int32) : Prop := ¬ l < 0 ∧ ¬ 3 < l
def aBind (σ : Sg) (l : Int32) : Int32 := match σ with | (_, _, _, _, _, _, bd, _) => if vL l then bd else -2
def nBind (σ : Sg) (l : Int32) : Sg := match σ with | (nn, ins, nf, fn, bk, rw, bd, st, c2, c3, c4) => (nn, ins, nf, fn, bk, rw, (if vL l then l else bd), st, c2, c3, c4)
abbrev vK (k : Int32) : Prop := ¬ k < 0 ∧ k < 4
def aKnob (σ : Sg) (i k v : Int32) : Int32 := match σ with | (nn, ins, _) => if vI nn i ∧ vK k then (ins i.toNatClampNeg).2.1 k.toNatClampNeg else 0
def nKnob (σ : Sg) (i k v : Int32) : Sg := match σ with | (nn, ins, nf, fn, bk, rw, bd, st, c2, c3, c4) => if vI nn i ∧ vK k then (nn, va_up ins i.toNatClampNeg ((ins i.toNatClampNeg).1, upd (ins i.toNatClampNeg).2.1 k.toNatClampNeg v, (ins i.toNatClampNeg).2.2), nf, fn, bk, rw, bd, 0, c2, c3, c4) else (nn, ins, nf, fn, bk, rw, bd, -1, c2, c3, c4)
def aPhase (σ : Sg) (i v : Int32) : Int32 := match σ with | (nn, ins, _) => if vI nn i then (ins i.toNatClampNeg).2.2.2.2.1 else 0
def nPhase (σ : Sg) (i v : Int32) : Sg := match σ with | (nn, ins, nf, fn, bk, rw, bd, st, c2, c3, c4) => if vI nn i then (nn, va_up ins i.toNatClampNeg ((ins i.toNatClampNeg).1, (ins i.toNatClampNeg).2.1, (ins i.toNatClampNeg).2.2.1, (ins i.toNatClampNeg).2.2.2.1, v, (ins i.toNatClampNeg).2.2.2.2.2), nf, fn, bk, rw, bd, 0, c2, c3, c4) else (nn, ins, nf, fn, bk, rw, bd, -1, c2, c3, c4)
abbrev vP (p : Int32) : Prop := ¬ p < 0 ∧ p ≤ 127
def aNote (σ : Sg) (i p o : Int32) : Int32 := match σ with | (nn, ins, _) => if vI nn i ∧ vP p then (if (ins i.toNatClampNeg).2.2.2.1 = 0 then 0 else 1) else -1
def nNote (σ : Sg) (i p o : Int32) : Sg := match σ with | (nn, ins, nf, fn, bk, rw, bd, st, c2, c3, c4) => if vI nn i ∧ vP p then (nn, va_up ins i.toNatClampNeg ((ins i.toNatClampNeg).1, (ins i.toNatClampNeg).2.1, p, o, (ins i.toNatClampNeg).2.2.2.2.1, sLev (ins i.toNatClampNeg).1 o p (ins i.toNatClampNeg).2.2.2.2.2.1, (ins i.toNatClampNeg).2.2.2.2.2.2), nf, fn, bk, rw, bd, st, c2, c3, c4) else (nn, ins, nf, fn, bk, rw, bd, st, c2, c3, c4)
theorem kx {NO : Nat → Prop} {M : mMem} {x : Nat} {e : va_E} (h : ¬ NO x) : kept NO M (mUp M x e) := kept.rf.up h
theorem insK_up {nn j : Nat} {ins : Nat → sIn} {v : sIn} (h : ∀ i, i < nn → insK (ins i).1) (hv : v.1 = (ins j).1) : ∀ i, i < nn → insK (va_up ins j v i).1 := by
  intro i hi
  by_cases hij : i = j
  · subst hij
    rw [va_up_self, hv]
    exact h i hi
  · rw [va_up_ne _ _ hij]
    exact h i hi
theorem vk_ix {k : Int32} (h : vK k) : ∃ j, j < 4 ∧ k = nI j ∧ k.toNatClampNeg = j := by
  obtain ⟨j, hj, rfl⟩ := nI_of h.1
  have h2 := h.2
  rw [show (4 : Int32) = nI 4 from rfl, nI_ltI hj (by decide)] at h2
  exact ⟨j, h2, rfl, nI_clamp hj⟩
theorem vk_in {k : Int32} (h : vK k) : vp_in k 4 := by
  obtain ⟨j, hj, rfl, _⟩ := vk_ix h
  exact vp_in_nI hj (by decide)
theorem in_X9_state_X9 : ∀ w ∈ wsX90, w ∈ wsX9_state := by decide +kernel
set_option maxHeartbeats 4000000 in
set_option maxRecDepth 100000 in
theorem c_X9_state (l : Launch) (E : mEnv) (M : mMem) (sz : Nat) (NO : Nat → Prop) (x nn nf : Nat) (ins : Nat → sIn) (fn : Nat → Int32 × Int32) (bk : Nat → Option Nat) (rw : Nat → sRw) (bd st c2 c3 c4 : Int32) (hV : Inv (nn, ins, nf, fn, bk, rw, bd, st, c2, c3, c4)) (hC : cRep E M NO x (nn, ins, nf, fn, bk, rw, bd, st, c2, c3, c4)) (hO : ∀ q, NO q → M q ≠ none)    : Met l yX9_state wsX9_state ({ frames := 0, cells := 0, slots := 0, locals := 0 }) (mPre E M sz [.ref x]) (mQi E M sz (fun r u => r = aState (nn, ins, nf, fn, bk, rw, bd, st, c2, c3, c4) ∧ cRep E u NO x ((nn, ins, nf, fn, bk, rw, bd, st, c2, c3, c4)) ∧ kept NO M u)) (0) (0) (mA M sz) := by
  refine m_met [.ref x] (by decide) rfl (Nat.le_of_ble_eq_true rfl) ?_
  intro p e s m below meth c ls H eH hx hb hr hts hown hlocks hnm hml hsz hE hM hS hA hl
  have hl : lv_has ls 1 [(0, .ref x)] := hl
  obtain ⟨a1, a2, a3, a4, fi, fb, ff, wt, ia, ib, fa, ra, rb, fl, LV, hC⟩ := hC
  have hC0 := hC.rep
  have hiK := hV.insK
  obtain ⟨hnn, hnf, hvI, hvD, hv24, hvR, hvF⟩ := id hV
  obtain ⟨⟨g_x, g_a1, g_a2, g_a3, g_a4⟩, hI, hF, hB, hL, hR, hJ, hN⟩ := id hC
  obtain ⟨⟨nx, n1, n2, n3, n4⟩, nI0, nF0, nR0⟩ := id hN
  refine lv_aload_n hx hb dX9_state_0 rfl (lv_at hl 0 rfl) ?_
  refine m_get (ci := 7) (v := .int st) (C := RX9) (T := TX9) (N := 11) hx hb hts in_X9_state_X9 hown hE hM g_x rfl 7 (by decide) (hts (.fieldLink RX9 53 "CallWays2" "latest" "I") (by decide +kernel)) (fun _ h9 => h9) rfl dX9_state_1 ?_
  exact m_iret hx hb hr hlocks hM hS (Nat.le_refl _) (Nat.le_refl _) dX9_state_4 (by exact ⟨rfl, hC0, kept.rf⟩)
theorem in_X9_count_X9 : ∀ w ∈ wsX90, w ∈ wsX9_count := by decide +kernel
set_option maxHeartbeats 4000000 in
set_option maxRecDepth 100000 in
theorem c_X9_count (l : Launch) (E : mEnv) (M : mMem) (sz : Nat) (NO : Nat → Prop) (x nn nf : Nat) (ins : Nat → sIn) (fn : Nat → Int32 × Int32) (bk : Nat → Option Nat) (rw : Nat → sRw) (bd st c2 c3 c4 : Int32) (hV : Inv (nn, ins, nf, fn, bk, rw, bd, st, c2, c3, c4)) (hC : cRep E M NO x (nn, ins, nf, fn, bk, rw, bd, st, c2, c3, c4)) (hO : ∀ q, NO q → M q ≠ none) (w : Int32)    : Met l yX9_count wsX9_count ({ frames := 0, cells := 0, slots := 0, locals := 0 }) (mPre E M sz [.ref x, .int w]) (mQi E M sz (fun r u => r = aCount (nn, ins, nf, fn, bk, rw, bd, st, c2, c3, c4) w ∧ cRep E u NO x ((nn, ins, nf, fn, bk, rw, bd, st, c2, c3, c4)) ∧ kept NO M u)) (0) (0) (mA M sz) := by
  refine m_met [.ref x, .int w] (by decide) rfl (Nat.le_of_ble_eq_true rfl) ?_
  intro p e s m below meth c ls H eH hx hb hr hts hown hlocks hnm hml hsz hE hM hS hA hl
  have hl : lv_has ls 2 [(0, .ref x), (1, .int w)] := hl
  obtain ⟨a1, a2, a3, a4, fi, fb, ff, wt, ia, ib, fa, ra, rb, fl, LV, hC⟩ := hC
  have hC0 := hC.rep
  have hiK := hV.insK
  obtain ⟨hnn, hnf, hvI, hvD, hv24, hvR, hvF⟩ := id hV
  obtain ⟨⟨g_x, g_a1, g_a2, g_a3, g_a4⟩, hI, hF, hB, hL, hR, hJ, hN⟩ := id hC
  obtain ⟨⟨nx, n1, n2, n3, n4⟩, nI0, nF0, nR0⟩ := id hN
  refine lv_iload_n hx hb dX9_count_0 rfl (lv_at hl 1 rfl) ?_
  by_cases s_1_0 : w = 0
  · refine lv_tableIn (off := 35) (tgt := 36) hx hb dX9_count_1 (by rw [s_1_0]; decide) (by rw [s_1_0]; decide) (by rw [s_1_0]; rfl) (by decide) ?_
    refine lv_aload_n hx hb dX9_count_36 rfl (lv_at hl 0 rfl) ?_
    refine m_get (ci := 7) (v := .int (nI nn)) (C := RX9) (T := TX9) (N := 11) hx hb hts in_X9_count_X9 hown hE hM g_x rfl 4 (by decide) (hts (.fieldLink RX9 35 "CallWays2" "instrumentCount" "I") (by decide +kernel)) (fun _ h9 => h9) rfl dX9_count_37 ?_
    exact m_iret hx hb hr hlocks hM hS (Nat.le_refl _) (Nat.le_refl _) dX9_count_40 (by refine ⟨?_, hC0, kept.rf⟩; show _ = (if w = 0 then _ else _); simp_all)
  by_cases s_1_1 : w = 1
  · refine lv_tableIn (off := 40) (tgt := 41) hx hb dX9_count_1 (by rw [s_1_1]; decide) (by rw [s_1_1]; decide) (by rw [s_1_1]; rfl) (by decide) ?_
    refine lv_aload_n hx hb dX9_count_41 rfl (lv_at hl 0 rfl) ?_
    refine m_get (ci := 7) (v := .int (nI nf)) (C := RX9) (T := TX9) (N := 11) hx hb hts in_X9_count_X9 hown hE hM g_x rfl 5 (by decide) (hts (.fieldLink RX9 113 "CallWays2" "functionCount" "I") (by decide +kernel)) (fun _ h9 => h9) rfl dX9_count_42 ?_
    exact m_iret hx hb hr hlocks hM hS (Nat.le_refl _) (Nat.le_refl _) dX9_count_45 (by refine ⟨?_, hC0, kept.rf⟩; show _ = (if w = 0 then _ else _); simp_all)
  by_cases s_1_2 : w = 2
  · refine lv_tableIn (off := 45) (tgt := 46) hx hb dX9_count_1 (by rw [s_1_2]; decide) (by rw [s_1_2]; decide) (by rw [s_1_2]; rfl) (by decide) ?_
    refine lv_aload_n hx hb dX9_count_46 rfl (lv_at hl 0 rfl) ?_
    refine m_get (ci := 7) (v := .int c2) (C := RX9) (T := TX9) (N := 11) hx hb hts in_X9_count_X9 hown hE hM g_x rfl 8 (by decide) (hts (.fieldLink RX9 138 "CallWays2" "playedWell" "I") (by decide +kernel)) (fun _ h9 => h9) rfl dX9_count_47 ?_
    exact m_iret hx hb hr hlocks hM hS (Nat.le_refl _) (Nat.le_refl _) dX9_count_50 (by refine ⟨?_, hC0, kept.rf⟩; show _ = (if w = 0 then _ else _); simp_all)
  by_cases s_1_3 : w = 3
  · refine lv_tableIn (off := 50) (tgt := 51) hx hb dX9_count_1 (by rw [s_1_3]; decide) (by rw [s_1_3]; decide) (by rw [s_1_3]; rfl) (by decide) ?_
    refine lv_aload_n hx hb dX9_count_51 rfl (lv_at hl 0 rfl) ?_
    refine m_get (ci := 7) (v := .int c3) (C := RX9) (T := TX9) (N := 11) hx hb hts in_X9_count_X9 hown hE hM g_x rfl 9 (by decide) (hts (.fieldLink RX9 135 "CallWays2" "playedFailed" "I") (by decide +kernel)) (fun _ h9 => h9) rfl dX9_count_52 ?_
    exact m_iret hx hb hr hlocks hM hS (Nat.le_refl _) (Nat.le_refl _) dX9_count_55 (by refine ⟨?_, hC0, kept.rf⟩; show _ = (if w = 0 then _ else _); simp_all)
  by_cases s_1_4 : w = 4
  · refine lv_tableIn (off := 55) (tgt := 56) hx hb dX9_count_1 (by rw [s_1_4]; decide) (by rw [s_1_4]; decide) (by rw [s_1_4]; rfl) (by decide) ?_
    refine lv_aload_n hx hb dX9_count_56 rfl (lv_at hl 0 rfl) ?_
    refine m_get (ci := 7) (v := .int c4) (C := RX9) (T := TX9) (N := 11) hx hb hts in_X9_count_X9 hown hE hM g_x rfl 10 (by decide) (hts (.fieldLink RX9 173 "CallWays2" "samplesAsked" "I") (by decide +kernel)) (fun _ h9 => h9) rfl dX9_count_57 ?_
    exact m_iret hx hb hr hlocks hM hS (Nat.le_refl _) (Nat.le_refl _) dX9_count_60 (by refine ⟨?_, hC0, kept.rf⟩; show _ = (if w = 0 then _ else _); simp_all)
  refine lv_tableOut (tgt := 61) hx hb dX9_count_1 (tab_out (x := w) (n := 4) (by decide) (fun j hj => match j, hj with | 0, _ => s_1_0 | 1, _ => s_1_1 | 2, _ => s_1_2 | 3, _ => s_1_3 | 4, _ => s_1_4 | j + 5, h => absurd h (by omega))) (by decide) ?_
  refine lv_iconst (v := -1) hx hb dX9_count_61 (by decide) ?_
  exact m_iret hx hb hr hlocks hM hS (Nat.le_refl _) (Nat.le_refl _) dX9_count_62 (by refine ⟨?_, hC0, kept.rf⟩; show _ = (if w = 0 then _ else _); simp_all)
theorem in_X9_bind_X9 : ∀ w ∈ wsX90, w ∈ wsX9_bind := by decide +kernel
set_option maxHeartbeats 4000000 in
set_option maxRecDepth 100000 in
theorem c_X9_bind (l : Launch) (E : mEnv) (M : mMem) (sz : Nat) (NO : Nat → Prop) (x nn nf : Nat) (ins : Nat → sIn) (fn : Nat → Int32 × Int32) (bk : Nat → Option Nat) (rw : Nat → sRw) (bd st c2 c3 c4 : Int32) (hV : Inv (nn, ins, nf, fn, bk, rw, bd, st, c2, c3, c4)) (hC : cRep E M NO x (nn, ins, nf, fn, bk, rw, bd, st, c2, c3, c4)) (hO : ∀ q, NO q → M q ≠ none) (w : Int32)    : Met l yX9_bind wsX9_bind ({ frames := 1, cells := 0, slots := 0, locals := 20 }) (mPre E M sz [.ref x, .int w]) (mQi E M sz (fun r u => r = aBind (nn, ins, nf, fn, bk, rw, bd, st, c2, c3, c4) w ∧ cRep E u NO x (nBind (nn, ins, nf, fn, bk, rw, bd, st, c2, c3, c4) w) ∧ kept NO M u)) (0) (0) (mA M sz) := by
  refine m_met [.ref x, .int w] (by decide) rfl (Nat.le_of_ble_eq_true rfl) ?_
  intro p e s m below meth c ls H eH hx hb hr hts hown hlocks hnm hml hsz hE hM hS hA hl
  have hl : lv_has ls 3 [(0, .ref x), (1, .int w)] := hl
  obtain ⟨a1, a2, a3, a4, fi, fb, ff, wt, ia, ib, fa, ra, rb, fl, LV, hC⟩ := hC
  have hC0 := hC.rep
  have hiK := hV.insK
  obtain ⟨hnn, hnf, hvI, hvD, hv24, hvR, hvF⟩ := id hV
  obtain ⟨⟨g_x, g_a1, g_a2, g_a3, g_a4⟩, hI, hF, hB, hL, hR, hJ, hN⟩ := id hC
  obtain ⟨⟨nx, n1, n2, n3, n4⟩, nI0, nF0, nR0⟩ := id hN
  refine lv_iload_n hx hb dX9_bind_0 rfl (lv_at hl 1 rfl) ?_
  refine m_calli (va_runS (As := [.int w]) (rest := []) ⟨hx, hb, hml, hown, hts⟩ (c_X9_isLane l E M H.size w) (va_cwS 1 hts gX9_bind_X9_isLane rfl rfl rfl (by decide +kernel) ⟨Nat.le_of_ble_eq_true rfl, Nat.le_of_ble_eq_true rfl⟩) (m_preS hE hM) rfl rfl hl.1 rfl (lv_room (Nat.le_of_ble_eq_true rfl)) dX9_bind_1 ⟨Nat.le_of_ble_eq_true rfl, Nat.le_of_ble_eq_true rfl⟩) hM hS hA (fun r1 u H locs hw hM hS => ?_)
  obtain ⟨e_r1, eu⟩ := hw
  rw [eu] at hM
  subst e_r1
  refine lv_if_ne (tgt := 10) hx hb dX9_bind_4 (by decide) (fun c_4 => ?_) (fun c_4 => ?_)
  · skip
    rw [bI_ne] at c_4
    refine lv_aload_n hx hb dX9_bind_10 rfl (lv_at hl 0 rfl) ?_
    refine m_get (ci := 7) (v := .int bd) (C := RX9) (T := TX9) (N := 11) hx hb hts in_X9_bind_X9 hown hE hM g_x rfl 6 (by decide) (hts (.fieldLink RX9 31 "CallWays2" "boundLane" "I") (by decide +kernel)) (fun _ h9 => h9) rfl dX9_bind_11 ?_
    refine lv_istore_n (lv' := [(2, .int bd), (0, .ref x), (1, .int w)]) hx hb dX9_bind_14 rfl hl (by decide) rfl (fun ls hl => ?_)
    refine lv_aload_n hx hb dX9_bind_15 rfl (lv_at hl 1 rfl) ?_
    refine lv_iload_n hx hb dX9_bind_16 rfl (lv_at hl 2 rfl) ?_
    refine m_put (ci := 7) (v := .int w) (ty := .int) (C := RX9) (T := TX9) (N := 11) hx hb hts in_X9_bind_X9 tyX9 tyX9_ok nmX9 hown hE hM hS g_x rfl 6 (by decide) (hts (.fieldLink RX9 31 "CallWays2" "boundLane" "I") (by decide +kernel)) (fun _ h9 => h9) rfl (by decide +kernel) rfl rfl (Nat.le_of_ble_eq_true rfl) dX9_bind_17 (fun H locs hM hS => ?_)
    have hM : mOK E.1 (mA M sz) (mUp M x (mO 7 [.ref a1, .ref a2, .ref a3, .ref a4, .int (nI nn), .int (nI nf), .int w, .int st, .int c2, .int c3, .int c4])) H := hM
    obtain ⟨M1, eM1⟩ : ∃ z, z = mUp M x (mO 7 [.ref a1, .ref a2, .ref a3, .ref a4, .int (nI nn), .int (nI nf), .int w, .int st, .int c2, .int c3, .int c4]) := ⟨_, rfl⟩
    rw [← eM1] at hM
    have g_a1_ : M1 a1 = some (mQ E 4 12 fi) := by rw [eM1]; exact mUp_at (m_ne g_a1 g_x (by simp)) g_a1
    have g_a2_ : M1 a2 = some (mQ E 5 10 fb) := by rw [eM1]; exact mUp_at (m_ne g_a2 g_x (by simp)) g_a2
    have g_a3_ : M1 a3 = some (mQ E 6 8 ff) := by rw [eM1]; exact mUp_at (m_ne g_a3 g_x (by simp)) g_a3
    have g_a4_ : M1 a4 = some (mDb E 40 wt) := by rw [eM1]; exact mUp_at (m_ne g_a4 g_x (by simp)) g_a4
    have g_a1 := g_a1_
    have g_a2 := g_a2_
    have g_a3 := g_a3_
    have g_a4 := g_a4_
    have g_x : M1 x = some (mO 7 [.ref a1, .ref a2, .ref a3, .ref a4, .int (nI nn), .int (nI nf), .int w, .int st, .int c2, .int c3, .int c4]) := by rw [eM1]; exact mUp_self _ _ _
    refine lv_iload_n hx hb dX9_bind_20 rfl (lv_at hl 0 rfl) ?_
    exact m_iret hx hb hr hlocks hM hS (Nat.le_refl _) (Nat.le_refl _) dX9_bind_21 (by refine ⟨(if_pos c_4).symm, ?_, by rw [eM1]; exact kx nx⟩; show cRep E _ NO x (nn, ins, nf, fn, bk, rw, (if vL w then w else bd), st, c2, c3, c4); rw [if_pos c_4, eM1]; exact (hC.scal hiK).rep)
  · skip
    rw [bI_eq] at c_4
    refine lv_bipush (v := -2) hx hb dX9_bind_7 (by decide) ?_
    exact m_iret hx hb hr hlocks hM hS (Nat.le_refl _) (Nat.le_refl _) dX9_bind_9 (by refine ⟨(if_neg c_4).symm, ?_, kept.rf⟩; show cRep E M NO x (nn, ins, nf, fn, bk, rw, (if vL w then w else bd), st, c2, c3, c4); rw [if_neg c_4]; exact hC0)
theorem in_X9_phase_I : ∀ w ∈ wsX00 ++ wsX20 ++ wsX40 ++ wsX60 ++ wsX80, w ∈ wsX9_phase := by decide +kernel
theorem in_X9_phase_X9 : ∀ w ∈ wsX90, w ∈ wsX9_phase := by decide +kernel
set_option maxHeartbeats 4000000 in
set_option maxRecDepth 100000 in
theorem c_X9_phase (l : Launch) (E : mEnv) (M : mMem) (sz : Nat) (NO : Nat → Prop) (x nn nf : Nat) (ins : Nat → sIn) (fn : Nat → Int32 × Int32) (bk : Nat → Option Nat) (rw : Nat → sRw) (bd st c2 c3 c4 : Int32) (hV : Inv (nn, ins, nf, fn, bk, rw, bd, st, c2, c3, c4)) (hC : cRep E M NO x (nn, ins, nf, fn, bk, rw, bd, st, c2, c3, c4)) (hO : ∀ q, NO q → M q ≠ none) (i v : Int32)    : Met l yX9_phase wsX9_phase ({ frames := 1, cells := 0, slots := 0, locals := 21 }) (mPre E M sz [.ref x, .int i, .int v]) (mQi E M sz (fun r u => r = aPhase (nn, ins, nf, fn, bk, rw, bd, st, c2, c3, c4) i v ∧ cRep E u NO x (nPhase (nn, ins, nf, fn, bk, rw, bd, st, c2, c3, c4) i v) ∧ kept NO M u)) (0) (0) (mA M sz) := by
  refine m_met [.ref x, .int i, .int v] (by decide) rfl (Nat.le_of_ble_eq_true rfl) ?_
  intro p e s m below meth c ls H eH hx hb hr hts hown hlocks hnm hml hsz hE hM hS hA hl
  have hl : lv_has ls 5 [(0, .ref x), (1, .int i), (2, .int v)] := hl
  obtain ⟨a1, a2, a3, a4, fi, fb, ff, wt, ia, ib, fa, ra, rb, fl, LV, hC⟩ := hC
  have hC0 := hC.rep
  have hiK := hV.insK
  obtain ⟨hnn, hnf, hvI, hvD, hv24, hvR, hvF⟩ := id hV
  obtain ⟨⟨g_x, g_a1, g_a2, g_a3, g_a4⟩, hI, hF, hB, hL, hR, hJ, hN⟩ := id hC
  obtain ⟨⟨nx, n1, n2, n3, n4⟩, nI0, nF0, nR0⟩ := id hN
  refine lv_aload_n hx hb dX9_phase_0 rfl (lv_at hl 0 rfl) ?_
  refine lv_iload_n hx hb dX9_phase_1 rfl (lv_at hl 1 rfl) ?_
  refine m_callq (va_runV (As := [.int i]) (rest := []) ⟨hx, hb, hml, hown, hts⟩ (c_X9_instrumentAt l E M H.size x a1 a2 a3 a4 nn nf bd st c2 c3 c4 fi fb ff wt i hnn g_x g_a1) (cwV 1 hts gX9_phase_X9_instrumentAt rfl rfl rfl (by decide +kernel) ⟨Nat.le_of_ble_eq_true rfl, Nat.le_of_ble_eq_true rfl⟩) (m_preV hE hM g_x rfl) rfl rfl hl.1 rfl (lv_room (Nat.le_of_ble_eq_true rfl)) dX9_phase_2 ⟨Nat.le_of_ble_eq_true rfl, Nat.le_of_ble_eq_true rfl⟩) hM hS hA (fun r1 u H locs hw hM hS => ?_)
  obtain ⟨e_r1, eu⟩ := hw
  rw [eu] at hM
  by_cases hv : ¬ i < 0 ∧ ¬ nI nn ≤ i
  · rw [if_pos hv] at e_r1
    obtain ⟨j, hj, hij, hjc⟩ := vI_ix hv hnn
    rw [hjc] at e_r1
    rcases hins : ins j with ⟨ci, kf, pi, on, ph, le, tb⟩
    obtain ⟨k1, g_p0, g_q0⟩ := hI j hj _ _ _ _ _ _ _ hins
    obtain ⟨hci, hle, hon⟩ := hvI j hj _ _ _ _ _ _ _ hins
    have hno := nI0 j hj
    obtain ⟨p0, ep0⟩ : ∃ z, z = ia j := ⟨_, rfl⟩
    obtain ⟨q0, eq0⟩ : ∃ z, z = ib j := ⟨_, rfl⟩
    obtain ⟨f0, ef0⟩ : ∃ z, z = fl j := ⟨_, rfl⟩
    rw [← ep0] at k1 g_p0
    rw [← eq0, ← ef0] at g_p0
    rw [← eq0] at g_q0
    rw [k1] at e_r1
    subst e_r1
    refine W.eq (g2 := F0 m 5 ls [.ref p0]) rfl ?_
    refine lv_astore_n (lv' := [(3, .ref p0), (0, .ref x), (1, .int i), (2, .int v)]) hx hb dX9_phase_5 rfl hl (by decide) rfl (fun ls hl => ?_)
    refine lv_aload_n hx hb dX9_phase_6 rfl (lv_at hl 0 rfl) ?_
    refine lv_ifnonnull (tgt := 17) hx hb dX9_phase_7 (by decide) ?_
    refine lv_aload_n hx hb dX9_phase_17 rfl (lv_at hl 0 rfl) ?_
    refine m_getI (v := .int ph) hx hb hts in_X9_phase_I hown hE hM g_p0 hci 3 (by decide) (hts (.fieldLink RX9 60 "CallWays2$Instrument" "phase" "I") (by decide +kernel)) (fun _ h9 => h9) rfl dX9_phase_18 ?_
    refine lv_istore (lv' := [(4, .int ph), (3, .ref p0), (0, .ref x), (1, .int i), (2, .int v)]) hx hb dX9_phase_21 hl (by decide) rfl (fun ls hl => ?_)
    refine lv_aload_n hx hb dX9_phase_23 rfl (lv_at hl 1 rfl) ?_
    refine lv_iload_n hx hb dX9_phase_24 rfl (lv_at hl 4 rfl) ?_
    refine m_putI (v := .int v) (ty := .int) hx hb hts in_X9_phase_I hown hE hM hS g_p0 hci 3 (by decide) (hts (.fieldLink RX9 60 "CallWays2$Instrument" "phase" "I") (by decide +kernel)) (fun _ h9 => h9) rfl (by decide +kernel) rfl rfl (Nat.le_of_ble_eq_true rfl) dX9_phase_25 (fun H locs hM hS => ?_)
    have hM : mOK E.1 (mA M sz) (mUp M p0 (mO ci [.ref q0, .int pi, .int on, .int v, .double le, va_rf (tb.map ra), .int f0])) H := hM
    obtain ⟨M1, eM1⟩ : ∃ z, z = mUp M p0 (mO ci [.ref q0, .int pi, .int on, .int v, .double le, va_rf (tb.map ra), .int f0]) := ⟨_, rfl⟩
    rw [← eM1] at hM
    have g_x_ : M1 x = some (mO 7 [.ref a1, .ref a2, .ref a3, .ref a4, .int (nI nn), .int (nI nf), .int bd, .int st, .int c2, .int c3, .int c4]) := by rw [eM1]; exact mUp_at (m_ne g_x g_p0 (by simp)) g_x
    have g_a1_ : M1 a1 = some (mQ E 4 12 fi) := by rw [eM1]; exact mUp_at (m_ne g_a1 g_p0 (by simp)) g_a1
    have g_a2_ : M1 a2 = some (mQ E 5 10 fb) := by rw [eM1]; exact mUp_at (m_ne g_a2 g_p0 (by simp)) g_a2
    have g_a3_ : M1 a3 = some (mQ E 6 8 ff) := by rw [eM1]; exact mUp_at (m_ne g_a3 g_p0 (by simp)) g_a3
    have g_a4_ : M1 a4 = some (mDb E 40 wt) := by rw [eM1]; exact mUp_at (m_ne g_a4 g_p0 (by simp)) g_a4
    have g_q0_ : M1 q0 = some (mI E 4 kf) := by rw [eM1]; exact mUp_at (m_ne g_q0 g_p0 (by simp)) g_q0
    have g_x := g_x_
    have g_a1 := g_a1_
    have g_a2 := g_a2_
    have g_a3 := g_a3_
    have g_a4 := g_a4_
    have g_q0 := g_q0_
    have g_p0 : M1 p0 = some (mO ci [.ref q0, .int pi, .int on, .int v, .double le, va_rf (tb.map ra), .int f0]) := by rw [eM1]; exact mUp_self _ _ _
    refine lv_aload_n hx hb dX9_phase_28 rfl (lv_at hl 2 rfl) ?_
    refine lv_iconst (v := 0) hx hb dX9_phase_29 (by decide) ?_
    refine m_put (ci := 7) (v := .int 0) (ty := .int) (C := RX9) (T := TX9) (N := 11) hx hb hts in_X9_phase_X9 tyX9 tyX9_ok nmX9 hown hE hM hS g_x rfl 7 (by decide) (hts (.fieldLink RX9 53 "CallWays2" "latest" "I") (by decide +kernel)) (fun _ h9 => h9) rfl (by decide +kernel) rfl rfl (Nat.le_of_ble_eq_true rfl) dX9_phase_30 (fun H locs hM hS => ?_)
    have hM : mOK E.1 (mA M sz) (mUp M1 x (mO 7 [.ref a1, .ref a2, .ref a3, .ref a4, .int (nI nn), .int (nI nf), .int bd, .int 0, .int c2, .int c3, .int c4])) H := hM
    obtain ⟨M2, eM2⟩ : ∃ z, z = mUp M1 x (mO 7 [.ref a1, .ref a2, .ref a3, .ref a4, .int (nI nn), .int (nI nf), .int bd, .int 0, .int c2, .int c3, .int c4]) := ⟨_, rfl⟩
    rw [← eM2] at hM
    have g_a1_ : M2 a1 = some (mQ E 4 12 fi) := by rw [eM2]; exact mUp_at (m_ne g_a1 g_x (by simp)) g_a1
    have g_a2_ : M2 a2 = some (mQ E 5 10 fb) := by rw [eM2]; exact mUp_at (m_ne g_a2 g_x (by simp)) g_a2
    have g_a3_ : M2 a3 = some (mQ E 6 8 ff) := by rw [eM2]; exact mUp_at (m_ne g_a3 g_x (by simp)) g_a3
    have g_a4_ : M2 a4 = some (mDb E 40 wt) := by rw [eM2]; exact mUp_at (m_ne g_a4 g_x (by simp)) g_a4
    have g_p0_ : M2 p0 = some (mO ci [.ref q0, .int pi, .int on, .int v, .double le, va_rf (tb.map ra), .int f0]) := by rw [eM2]; exact mUp_at (Ne.symm (m_ne g_x g_p0 (by simp))) g_p0
    have g_q0_ : M2 q0 = some (mI E 4 kf) := by rw [eM2]; exact mUp_at (m_ne g_q0 g_x (by simp)) g_q0
    have g_a1 := g_a1_
    have g_a2 := g_a2_
    have g_a3 := g_a3_
    have g_a4 := g_a4_
    have g_p0 := g_p0_
    have g_q0 := g_q0_
    have g_x : M2 x = some (mO 7 [.ref a1, .ref a2, .ref a3, .ref a4, .int (nI nn), .int (nI nf), .int bd, .int 0, .int c2, .int c3, .int c4]) := by rw [eM2]; exact mUp_self _ _ _
    refine lv_iload hx hb dX9_phase_33 (lv_at hl 0 rfl) ?_
    exact m_iret hx hb hr hlocks hM hS (Nat.le_refl _) (Nat.le_refl _) dX9_phase_35 (by exact ⟨(by show _ = (if vI nn i then _ else _); rw [if_pos hv, hjc, hins]), (by show cRep E _ NO x (if vI nn i then _ else _); rw [if_pos hv, hjc, hins, eM2, eM1, ep0, eq0]; exact ((hC.inst hiK hj hins).scal (insK_up hiK (by rw [hins]))).rep), (by rw [eM2, eM1, ep0]; exact (kx hno.1).up nx)⟩)
  · rw [if_neg hv] at e_r1
    subst e_r1
    refine W.eq (g2 := F0 m 5 ls [.null]) rfl ?_
    refine lv_astore_nN (lv' := [(3, .null), (0, .ref x), (1, .int i), (2, .int v)]) hx hb dX9_phase_5 rfl hl (by decide) rfl (fun ls hl => ?_)
    refine lv_aload_nN hx hb dX9_phase_6 rfl (lv_at hl 0 rfl) ?_
    refine lv_ifnonnullN hx hb dX9_phase_7 ?_
    refine lv_aload_n hx hb dX9_phase_10 rfl (lv_at hl 1 rfl) ?_
    refine lv_iconst (v := -1) hx hb dX9_phase_11 (by decide) ?_
    refine m_put (ci := 7) (v := .int (-1)) (ty := .int) (C := RX9) (T := TX9) (N := 11) hx hb hts in_X9_phase_X9 tyX9 tyX9_ok nmX9 hown hE hM hS g_x rfl 7 (by decide) (hts (.fieldLink RX9 53 "CallWays2" "latest" "I") (by decide +kernel)) (fun _ h9 => h9) rfl (by decide +kernel) rfl rfl (Nat.le_of_ble_eq_true rfl) dX9_phase_12 (fun H locs hM hS => ?_)
    have hM : mOK E.1 (mA M sz) (mUp M x (mO 7 [.ref a1, .ref a2, .ref a3, .ref a4, .int (nI nn), .int (nI nf), .int bd, .int (-1), .int c2, .int c3, .int c4])) H := hM
    obtain ⟨M3, eM3⟩ : ∃ z, z = mUp M x (mO 7 [.ref a1, .ref a2, .ref a3, .ref a4, .int (nI nn), .int (nI nf), .int bd, .int (-1), .int c2, .int c3, .int c4]) := ⟨_, rfl⟩
    rw [← eM3] at hM
    have g_a1_ : M3 a1 = some (mQ E 4 12 fi) := by rw [eM3]; exact mUp_at (m_ne g_a1 g_x (by simp)) g_a1
    have g_a2_ : M3 a2 = some (mQ E 5 10 fb) := by rw [eM3]; exact mUp_at (m_ne g_a2 g_x (by simp)) g_a2
    have g_a3_ : M3 a3 = some (mQ E 6 8 ff) := by rw [eM3]; exact mUp_at (m_ne g_a3 g_x (by simp)) g_a3
    have g_a4_ : M3 a4 = some (mDb E 40 wt) := by rw [eM3]; exact mUp_at (m_ne g_a4 g_x (by simp)) g_a4
    have g_a1 := g_a1_
    have g_a2 := g_a2_
    have g_a3 := g_a3_
    have g_a4 := g_a4_
    have g_x : M3 x = some (mO 7 [.ref a1, .ref a2, .ref a3, .ref a4, .int (nI nn), .int (nI nf), .int bd, .int (-1), .int c2, .int c3, .int c4]) := by rw [eM3]; exact mUp_self _ _ _
    refine lv_iconst (v := 0) hx hb dX9_phase_15 (by decide) ?_
    exact m_iret hx hb hr hlocks hM hS (Nat.le_refl _) (Nat.le_refl _) dX9_phase_16 (by refine ⟨(if_neg hv).symm, ?_, by rw [eM3]; exact kx nx⟩; show cRep E _ NO x (if vI nn i then _ else _); rw [if_neg hv, eM3]; exact (hC.scal hiK).rep)
theorem in_X9_knob_I : ∀ w ∈ wsX00 ++ wsX20 ++ wsX40 ++ wsX60 ++ wsX80, w ∈ wsX9_knob := by decide +kernel
theorem in_X9_knob_X9 : ∀ w ∈ wsX90, w ∈ wsX9_knob := by decide +kernel
set_option maxHeartbeats 4000000 in
set_option maxRecDepth 100000 in
theorem c_X9_knob (l : Launch) (E : mEnv) (M : mMem) (sz : Nat) (NO : Nat → Prop) (x nn nf : Nat) (ins : Nat → sIn) (fn : Nat → Int32 × Int32) (bk : Nat → Option Nat) (rw : Nat → sRw) (bd st c2 c3 c4 : Int32) (hV : Inv (nn, ins, nf, fn, bk, rw, bd, st, c2, c3, c4)) (hC : cRep E M NO x (nn, ins, nf, fn, bk, rw, bd, st, c2, c3, c4)) (hO : ∀ q, NO q → M q ≠ none) (i k v : Int32)    : Met l yX9_knob wsX9_knob ({ frames := 1, cells := 0, slots := 0, locals := 21 }) (mPre E M sz [.ref x, .int i, .int k, .int v]) (mQi E M sz (fun r u => r = aKnob (nn, ins, nf, fn, bk, rw, bd, st, c2, c3, c4) i k v ∧ cRep E u NO x (nKnob (nn, ins, nf, fn, bk, rw, bd, st, c2, c3, c4) i k v) ∧ kept NO M u)) (0) (0) (mA M sz) := by
  refine m_met [.ref x, .int i, .int k, .int v] (by decide) rfl (Nat.le_of_ble_eq_true rfl) ?_
  intro p e s m below meth c ls H eH hx hb hr hts hown hlocks hnm hml hsz hE hM hS hA hl
  have hl : lv_has ls 6 [(0, .ref x), (1, .int i), (2, .int k), (3, .int v)] := hl
  obtain ⟨a1, a2, a3, a4, fi, fb, ff, wt, ia, ib, fa, ra, rb, fl, LV, hC⟩ := hC
  have hC0 := hC.rep
  have hiK := hV.insK
  obtain ⟨hnn, hnf, hvI, hvD, hv24, hvR, hvF⟩ := id hV
  obtain ⟨⟨g_x, g_a1, g_a2, g_a3, g_a4⟩, hI, hF, hB, hL, hR, hJ, hN⟩ := id hC
  obtain ⟨⟨nx, n1, n2, n3, n4⟩, nI0, nF0, nR0⟩ := id hN
  refine lv_aload_n hx hb dX9_knob_0 rfl (lv_at hl 0 rfl) ?_
  refine lv_iload_n hx hb dX9_knob_1 rfl (lv_at hl 1 rfl) ?_
  refine m_callq (va_runV (As := [.int i]) (rest := []) ⟨hx, hb, hml, hown, hts⟩ (c_X9_instrumentAt l E M H.size x a1 a2 a3 a4 nn nf bd st c2 c3 c4 fi fb ff wt i hnn g_x g_a1) (cwV 1 hts gX9_knob_X9_instrumentAt rfl rfl rfl (by decide +kernel) ⟨Nat.le_of_ble_eq_true rfl, Nat.le_of_ble_eq_true rfl⟩) (m_preV hE hM g_x rfl) rfl rfl hl.1 rfl (lv_room (Nat.le_of_ble_eq_true rfl)) dX9_knob_2 ⟨Nat.le_of_ble_eq_true rfl, Nat.le_of_ble_eq_true rfl⟩) hM hS hA (fun r1 u H locs hw hM hS => ?_)
  obtain ⟨e_r1, eu⟩ := hw
  rw [eu] at hM
  by_cases hv : ¬ i < 0 ∧ ¬ nI nn ≤ i
  · rw [if_pos hv] at e_r1
    obtain ⟨j, hj, hij, hjc⟩ := vI_ix hv hnn
    rw [hjc] at e_r1
    rcases hins : ins j with ⟨ci, kf, pi, on, ph, le, tb⟩
    obtain ⟨k1, g_p0, g_q0⟩ := hI j hj _ _ _ _ _ _ _ hins
    obtain ⟨hci, hle, hon⟩ := hvI j hj _ _ _ _ _ _ _ hins
    have hno := nI0 j hj
    obtain ⟨p0, ep0⟩ : ∃ z, z = ia j := ⟨_, rfl⟩
    obtain ⟨q0, eq0⟩ : ∃ z, z = ib j := ⟨_, rfl⟩
    obtain ⟨f0, ef0⟩ : ∃ z, z = fl j := ⟨_, rfl⟩
    rw [← ep0] at k1 g_p0
    rw [← eq0, ← ef0] at g_p0
    rw [← eq0] at g_q0
    rw [k1] at e_r1
    subst e_r1
    refine W.eq (g2 := F0 m 5 ls [.ref p0]) rfl ?_
    refine lv_astore (lv' := [(4, .ref p0), (0, .ref x), (1, .int i), (2, .int k), (3, .int v)]) hx hb dX9_knob_5 hl (by decide) rfl (fun ls hl => ?_)
    refine lv_aload hx hb dX9_knob_7 (lv_at hl 0 rfl) ?_
    refine lv_ifnull hx hb dX9_knob_9 ?_
    refine lv_iload_n hx hb dX9_knob_12 rfl (lv_at hl 3 rfl) ?_
    refine lv_if_lt (tgt := 21) hx hb dX9_knob_13 (by decide) (fun c_13 => ?_) (fun c_13 => ?_)
    · skip
      have hx9 : ¬ (vI nn i ∧ vK k) := fun h => h.2.1 c_13
      refine lv_aload_n hx hb dX9_knob_21 rfl (lv_at hl 1 rfl) ?_
      refine lv_iconst (v := -1) hx hb dX9_knob_22 (by decide) ?_
      refine m_put (ci := 7) (v := .int (-1)) (ty := .int) (C := RX9) (T := TX9) (N := 11) hx hb hts in_X9_knob_X9 tyX9 tyX9_ok nmX9 hown hE hM hS g_x rfl 7 (by decide) (hts (.fieldLink RX9 53 "CallWays2" "latest" "I") (by decide +kernel)) (fun _ h9 => h9) rfl (by decide +kernel) rfl rfl (Nat.le_of_ble_eq_true rfl) dX9_knob_23 (fun H locs hM hS => ?_)
      have hM : mOK E.1 (mA M sz) (mUp M x (mO 7 [.ref a1, .ref a2, .ref a3, .ref a4, .int (nI nn), .int (nI nf), .int bd, .int (-1), .int c2, .int c3, .int c4])) H := hM
      obtain ⟨M1, eM1⟩ : ∃ z, z = mUp M x (mO 7 [.ref a1, .ref a2, .ref a3, .ref a4, .int (nI nn), .int (nI nf), .int bd, .int (-1), .int c2, .int c3, .int c4]) := ⟨_, rfl⟩
      rw [← eM1] at hM
      have g_a1_ : M1 a1 = some (mQ E 4 12 fi) := by rw [eM1]; exact mUp_at (m_ne g_a1 g_x (by simp)) g_a1
      have g_a2_ : M1 a2 = some (mQ E 5 10 fb) := by rw [eM1]; exact mUp_at (m_ne g_a2 g_x (by simp)) g_a2
      have g_a3_ : M1 a3 = some (mQ E 6 8 ff) := by rw [eM1]; exact mUp_at (m_ne g_a3 g_x (by simp)) g_a3
      have g_a4_ : M1 a4 = some (mDb E 40 wt) := by rw [eM1]; exact mUp_at (m_ne g_a4 g_x (by simp)) g_a4
      have g_p0_ : M1 p0 = some (mO ci [.ref q0, .int pi, .int on, .int ph, .double le, va_rf (tb.map ra), .int f0]) := by rw [eM1]; exact mUp_at (Ne.symm (m_ne g_x g_p0 (by simp))) g_p0
      have g_q0_ : M1 q0 = some (mI E 4 kf) := by rw [eM1]; exact mUp_at (m_ne g_q0 g_x (by simp)) g_q0
      have g_a1 := g_a1_
      have g_a2 := g_a2_
      have g_a3 := g_a3_
      have g_a4 := g_a4_
      have g_p0 := g_p0_
      have g_q0 := g_q0_
      have g_x : M1 x = some (mO 7 [.ref a1, .ref a2, .ref a3, .ref a4, .int (nI nn), .int (nI nf), .int bd, .int (-1), .int c2, .int c3, .int c4]) := by rw [eM1]; exact mUp_self _ _ _
      refine lv_iconst (v := 0) hx hb dX9_knob_26 (by decide) ?_
      exact m_iret hx hb hr hlocks hM hS (Nat.le_refl _) (Nat.le_refl _) dX9_knob_27 (by first | (refine ⟨(if_neg hx9).symm, ?_, by rw [eM1]; exact kx nx⟩; show cRep E _ NO x (if vI nn i ∧ vK k then _ else _); rw [if_neg hx9, eM1]; exact (hC.scal hiK).rep) | (have hx9 : ¬ (vI nn i ∧ vK k) := na1 hv; refine ⟨(if_neg hx9).symm, ?_, by rw [eM1]; exact kx nx⟩; show cRep E _ NO x (if vI nn i ∧ vK k then _ else _); rw [if_neg hx9, eM1]; exact (hC.scal hiK).rep))
    · skip
      refine lv_iload_n hx hb dX9_knob_16 rfl (lv_at hl 3 rfl) ?_
      refine lv_iconst (v := 4) hx hb dX9_knob_17 (by decide) ?_
      refine lv_icmp_lt (tgt := 28) hx hb dX9_knob_18 (by decide) (fun c_18 => ?_) (fun c_18 => ?_)
      · skip
        have hk : vK k := ⟨c_13, c_18⟩
        refine lv_aload hx hb dX9_knob_28 (lv_at hl 0 rfl) ?_
        refine m_getI (v := .ref q0) hx hb hts in_X9_knob_I hown hE hM g_p0 hci 0 (by decide) (hts (.fieldLink RX9 56 "CallWays2$Instrument" "knobs" "[I") (by decide +kernel)) (fun _ h9 => h9) rfl dX9_knob_30 ?_
        refine lv_iload_n hx hb dX9_knob_33 rfl (lv_at hl 3 rfl) ?_
        refine m_iald hx hb hE hM g_q0 (vk_in hk) dX9_knob_34 ?_
        refine lv_istore (lv' := [(5, .int (kf k.toNatClampNeg)), (4, .ref p0), (0, .ref x), (1, .int i), (2, .int k), (3, .int v)]) hx hb dX9_knob_35 hl (by decide) rfl (fun ls hl => ?_)
        refine lv_aload hx hb dX9_knob_37 (lv_at hl 1 rfl) ?_
        refine m_getI (v := .ref q0) hx hb hts in_X9_knob_I hown hE hM g_p0 hci 0 (by decide) (hts (.fieldLink RX9 56 "CallWays2$Instrument" "knobs" "[I") (by decide +kernel)) (fun _ h9 => h9) rfl dX9_knob_39 ?_
        refine lv_iload_n hx hb dX9_knob_42 rfl (lv_at hl 4 rfl) ?_
        refine lv_iload_n hx hb dX9_knob_43 rfl (lv_at hl 5 rfl) ?_
        refine m_iast hx hb hE hM hS g_q0 (vk_in hk) dX9_knob_44 (fun H locs hM hS => ?_)
        have hM : mOK E.1 (mA M sz) (mUp M q0 (mI E 4 (upd kf k.toNatClampNeg v))) H := hM
        obtain ⟨M2, eM2⟩ : ∃ z, z = mUp M q0 (mI E 4 (upd kf k.toNatClampNeg v)) := ⟨_, rfl⟩
        rw [← eM2] at hM
        have g_x_ : M2 x = some (mO 7 [.ref a1, .ref a2, .ref a3, .ref a4, .int (nI nn), .int (nI nf), .int bd, .int st, .int c2, .int c3, .int c4]) := by rw [eM2]; exact mUp_at (m_ne g_x g_q0 (by simp)) g_x
        have g_a1_ : M2 a1 = some (mQ E 4 12 fi) := by rw [eM2]; exact mUp_at (m_ne g_a1 g_q0 (by simp)) g_a1
        have g_a2_ : M2 a2 = some (mQ E 5 10 fb) := by rw [eM2]; exact mUp_at (m_ne g_a2 g_q0 (by simp)) g_a2
        have g_a3_ : M2 a3 = some (mQ E 6 8 ff) := by rw [eM2]; exact mUp_at (m_ne g_a3 g_q0 (by simp)) g_a3
        have g_a4_ : M2 a4 = some (mDb E 40 wt) := by rw [eM2]; exact mUp_at (m_ne g_a4 g_q0 (by simp)) g_a4
        have g_p0_ : M2 p0 = some (mO ci [.ref q0, .int pi, .int on, .int ph, .double le, va_rf (tb.map ra), .int f0]) := by rw [eM2]; exact mUp_at (m_ne g_p0 g_q0 (by simp)) g_p0
        have g_x := g_x_
        have g_a1 := g_a1_
        have g_a2 := g_a2_
        have g_a3 := g_a3_
        have g_a4 := g_a4_
        have g_p0 := g_p0_
        have g_q0 : M2 q0 = some (mI E 4 (upd kf k.toNatClampNeg v)) := by rw [eM2]; exact mUp_self _ _ _
        refine lv_aload_n hx hb dX9_knob_45 rfl (lv_at hl 2 rfl) ?_
        refine lv_iconst (v := 0) hx hb dX9_knob_46 (by decide) ?_
        refine m_put (ci := 7) (v := .int 0) (ty := .int) (C := RX9) (T := TX9) (N := 11) hx hb hts in_X9_knob_X9 tyX9 tyX9_ok nmX9 hown hE hM hS g_x rfl 7 (by decide) (hts (.fieldLink RX9 53 "CallWays2" "latest" "I") (by decide +kernel)) (fun _ h9 => h9) rfl (by decide +kernel) rfl rfl (Nat.le_of_ble_eq_true rfl) dX9_knob_47 (fun H locs hM hS => ?_)
        have hM : mOK E.1 (mA M sz) (mUp M2 x (mO 7 [.ref a1, .ref a2, .ref a3, .ref a4, .int (nI nn), .int (nI nf), .int bd, .int 0, .int c2, .int c3, .int c4])) H := hM
        obtain ⟨M3, eM3⟩ : ∃ z, z = mUp M2 x (mO 7 [.ref a1, .ref a2, .ref a3, .ref a4, .int (nI nn), .int (nI nf), .int bd, .int 0, .int c2, .int c3, .int c4]) := ⟨_, rfl⟩
        rw [← eM3] at hM
        have g_a1_ : M3 a1 = some (mQ E 4 12 fi) := by rw [eM3]; exact mUp_at (m_ne g_a1 g_x (by simp)) g_a1
        have g_a2_ : M3 a2 = some (mQ E 5 10 fb) := by rw [eM3]; exact mUp_at (m_ne g_a2 g_x (by simp)) g_a2
        have g_a3_ : M3 a3 = some (mQ E 6 8 ff) := by rw [eM3]; exact mUp_at (m_ne g_a3 g_x (by simp)) g_a3
        have g_a4_ : M3 a4 = some (mDb E 40 wt) := by rw [eM3]; exact mUp_at (m_ne g_a4 g_x (by simp)) g_a4
        have g_p0_ : M3 p0 = some (mO ci [.ref q0, .int pi, .int on, .int ph, .double le, va_rf (tb.map ra), .int f0]) := by rw [eM3]; exact mUp_at (Ne.symm (m_ne g_x g_p0 (by simp))) g_p0
        have g_q0_ : M3 q0 = some (mI E 4 (upd kf k.toNatClampNeg v)) := by rw [eM3]; exact mUp_at (m_ne g_q0 g_x (by simp)) g_q0
        have g_a1 := g_a1_
        have g_a2 := g_a2_
        have g_a3 := g_a3_
        have g_a4 := g_a4_
        have g_p0 := g_p0_
        have g_q0 := g_q0_
        have g_x : M3 x = some (mO 7 [.ref a1, .ref a2, .ref a3, .ref a4, .int (nI nn), .int (nI nf), .int bd, .int 0, .int c2, .int c3, .int c4]) := by rw [eM3]; exact mUp_self _ _ _
        refine lv_iload hx hb dX9_knob_50 (lv_at hl 0 rfl) ?_
        exact m_iret hx hb hr hlocks hM hS (Nat.le_refl _) (Nat.le_refl _) dX9_knob_52 (by exact ⟨(by show _ = (if vI nn i ∧ vK k then _ else _); rw [if_pos ⟨hv, hk⟩, hjc, hins]), (by show cRep E _ NO x (if vI nn i ∧ vK k then _ else _); rw [if_pos ⟨hv, hk⟩, hjc, hins, eM3, eM2, eq0]; exact ((hC.knob hiK hj hins).scal (insK_up hiK (by rw [hins]))).rep), (by rw [eM3, eM2, eq0]; exact (kx hno.2).up nx)⟩)
      · skip
        have hx9 : ¬ (vI nn i ∧ vK k) := fun h => c_18 h.2.2
        refine lv_aload_n hx hb dX9_knob_21 rfl (lv_at hl 1 rfl) ?_
        refine lv_iconst (v := -1) hx hb dX9_knob_22 (by decide) ?_
        refine m_put (ci := 7) (v := .int (-1)) (ty := .int) (C := RX9) (T := TX9) (N := 11) hx hb hts in_X9_knob_X9 tyX9 tyX9_ok nmX9 hown hE hM hS g_x rfl 7 (by decide) (hts (.fieldLink RX9 53 "CallWays2" "latest" "I") (by decide +kernel)) (fun _ h9 => h9) rfl (by decide +kernel) rfl rfl (Nat.le_of_ble_eq_true rfl) dX9_knob_23 (fun H locs hM hS => ?_)
        have hM : mOK E.1 (mA M sz) (mUp M x (mO 7 [.ref a1, .ref a2, .ref a3, .ref a4, .int (nI nn), .int (nI nf), .int bd, .int (-1), .int c2, .int c3, .int c4])) H := hM
        obtain ⟨M4, eM4⟩ : ∃ z, z = mUp M x (mO 7 [.ref a1, .ref a2, .ref a3, .ref a4, .int (nI nn), .int (nI nf), .int bd, .int (-1), .int c2, .int c3, .int c4]) := ⟨_, rfl⟩
        rw [← eM4] at hM
        have g_a1_ : M4 a1 = some (mQ E 4 12 fi) := by rw [eM4]; exact mUp_at (m_ne g_a1 g_x (by simp)) g_a1
        have g_a2_ : M4 a2 = some (mQ E 5 10 fb) := by rw [eM4]; exact mUp_at (m_ne g_a2 g_x (by simp)) g_a2
        have g_a3_ : M4 a3 = some (mQ E 6 8 ff) := by rw [eM4]; exact mUp_at (m_ne g_a3 g_x (by simp)) g_a3
        have g_a4_ : M4 a4 = some (mDb E 40 wt) := by rw [eM4]; exact mUp_at (m_ne g_a4 g_x (by simp)) g_a4
        have g_p0_ : M4 p0 = some (mO ci [.ref q0, .int pi, .int on, .int ph, .double le, va_rf (tb.map ra), .int f0]) := by rw [eM4]; exact mUp_at (Ne.symm (m_ne g_x g_p0 (by simp))) g_p0
        have g_q0_ : M4 q0 = some (mI E 4 kf) := by rw [eM4]; exact mUp_at (m_ne g_q0 g_x (by simp)) g_q0
        have g_a1 := g_a1_
        have g_a2 := g_a2_
        have g_a3 := g_a3_
        have g_a4 := g_a4_
        have g_p0 := g_p0_
        have g_q0 := g_q0_
        have g_x : M4 x = some (mO 7 [.ref a1, .ref a2, .ref a3, .ref a4, .int (nI nn), .int (nI nf), .int bd, .int (-1), .int c2, .int c3, .int c4]) := by rw [eM4]; exact mUp_self _ _ _
        refine lv_iconst (v := 0) hx hb dX9_knob_26 (by decide) ?_
        exact m_iret hx hb hr hlocks hM hS (Nat.le_refl _) (Nat.le_refl _) dX9_knob_27 (by first | (refine ⟨(if_neg hx9).symm, ?_, by rw [eM4]; exact kx nx⟩; show cRep E _ NO x (if vI nn i ∧ vK k then _ else _); rw [if_neg hx9, eM4]; exact (hC.scal hiK).rep) | (have hx9 : ¬ (vI nn i ∧ vK k) := na1 hv; refine ⟨(if_neg hx9).symm, ?_, by rw [eM4]; exact kx nx⟩; show cRep E _ NO x (if vI nn i ∧ vK k then _ else _); rw [if_neg hx9, eM4]; exact (hC.scal hiK).rep))
  · rw [if_neg hv] at e_r1
    subst e_r1
    refine W.eq (g2 := F0 m 5 ls [.null]) rfl ?_
    refine lv_astoreN (lv' := [(4, .null), (0, .ref x), (1, .int i), (2, .int k), (3, .int v)]) hx hb dX9_knob_5 hl (by decide) rfl (fun ls hl => ?_)
    refine lv_aloadN hx hb dX9_knob_7 (lv_at hl 0 rfl) ?_
    refine lv_ifnullN (tgt := 21) hx hb dX9_knob_9 (by decide) ?_
    refine lv_aload_n hx hb dX9_knob_21 rfl (lv_at hl 1 rfl) ?_
    refine lv_iconst (v := -1) hx hb dX9_knob_22 (by decide) ?_
    refine m_put (ci := 7) (v := .int (-1)) (ty := .int) (C := RX9) (T := TX9) (N := 11) hx hb hts in_X9_knob_X9 tyX9 tyX9_ok nmX9 hown hE hM hS g_x rfl 7 (by decide) (hts (.fieldLink RX9 53 "CallWays2" "latest" "I") (by decide +kernel)) (fun _ h9 => h9) rfl (by decide +kernel) rfl rfl (Nat.le_of_ble_eq_true rfl) dX9_knob_23 (fun H locs hM hS => ?_)
    have hM : mOK E.1 (mA M sz) (mUp M x (mO 7 [.ref a1, .ref a2, .ref a3, .ref a4, .int (nI nn), .int (nI nf), .int bd, .int (-1), .int c2, .int c3, .int c4])) H := hM
    obtain ⟨M5, eM5⟩ : ∃ z, z = mUp M x (mO 7 [.ref a1, .ref a2, .ref a3, .ref a4, .int (nI nn), .int (nI nf), .int bd, .int (-1), .int c2, .int c3, .int c4]) := ⟨_, rfl⟩
    rw [← eM5] at hM
    have g_a1_ : M5 a1 = some (mQ E 4 12 fi) := by rw [eM5]; exact mUp_at (m_ne g_a1 g_x (by simp)) g_a1
    have g_a2_ : M5 a2 = some (mQ E 5 10 fb) := by rw [eM5]; exact mUp_at (m_ne g_a2 g_x (by simp)) g_a2
    have g_a3_ : M5 a3 = some (mQ E 6 8 ff) := by rw [eM5]; exact mUp_at (m_ne g_a3 g_x (by simp)) g_a3
    have g_a4_ : M5 a4 = some (mDb E 40 wt) := by rw [eM5]; exact mUp_at (m_ne g_a4 g_x (by simp)) g_a4
    have g_a1 := g_a1_
    have g_a2 := g_a2_
    have g_a3 := g_a3_
    have g_a4 := g_a4_
    have g_x : M5 x = some (mO 7 [.ref a1, .ref a2, .ref a3, .ref a4, .int (nI nn), .int (nI nf), .int bd, .int (-1), .int c2, .int c3, .int c4]) := by rw [eM5]; exact mUp_self _ _ _
    refine lv_iconst (v := 0) hx hb dX9_knob_26 (by decide) ?_
    exact m_iret hx hb hr hlocks hM hS (Nat.le_refl _) (Nat.le_refl _) dX9_knob_27 (by first | (refine ⟨(if_neg hx9).symm, ?_, by rw [eM5]; exact kx nx⟩; show cRep E _ NO x (if vI nn i ∧ vK k then _ else _); rw [if_neg hx9, eM5]; exact (hC.scal hiK).rep) | (have hx9 : ¬ (vI nn i ∧ vK k) := na1 hv; refine ⟨(if_neg hx9).symm, ?_, by rw [eM5]; exact kx nx⟩; show cRep E _ NO x (if vI nn i ∧ vK k then _ else _); rw [if_neg hx9, eM5]; exact (hC.scal hiK).rep))
