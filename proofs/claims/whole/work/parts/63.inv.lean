/-! WHAT HOLDS OF EVERY STATE THAT IS REACHED IS KEPT BY EVERY CALL -/
theorem d2f_fin' {x : UInt64} (h : dB 1095 x) : FP.Core.FFin (FP.d2f x) := by
  obtain ⟨s, c, q, h1, h2⟩ := FP.Core.mag_bits h (by decide)
  have hfit : FP.Core.fits FP.Core.b64 (.fin s c q) := h1 ▸ FP.Core.val64_fits x
  have hq := hfit.2.1
  have hd : FP.Core.decode FP.Core.b32 (FP.d2f x).toNat = FP.Core.roundRatio FP.Core.b32 s c 1 q := by
    rw [FP.d2f_core (h.fin (by decide)).notNaN]
    have h3 := FP.Core.val32_d2f x
    rw [h1] at h3
    exact h3
  have h4 := FP.Core.mag_le FP.Core.good_b32 (m := 1669332992) hd (by decide) (e0 := FP.Core.b64.qmin) (by decide) hq ?_
  · rw [FP.Core.mag_toNat32] at h4
    rw [FP.Core.fin_bits32]
    omega
  · rw [Nat.mul_one]
    show c * 2 ^ (q - FP.Core.b64.qmin).toNat ≤ _
    refine Nat.le_trans (Nat.le_of_lt h2) ?_
    decide +kernel
theorem vOK_turn {lane : Int32} {x : UInt64} (hl : lane = 0 ∨ lane = 1 ∨ lane = 2 ∨ lane = 3) (hx : dB 1095 x) : vOK lane (sTurn lane x) := by
  unfold sTurn
  rcases hl with rfl | rfl | rfl | rfl
  · rw [if_pos rfl]
    exact Or.inl ⟨rfl, _, rfl⟩
  · rw [if_neg (by decide), if_pos rfl]
    exact Or.inr (Or.inl ⟨rfl, _, rfl⟩)
  · rw [if_neg (by decide), if_neg (by decide), if_pos rfl]
    exact Or.inr (Or.inr (Or.inl ⟨rfl, _, d2f_fin' hx, rfl⟩))
  · rw [if_neg (by decide), if_neg (by decide), if_neg (by decide)]
    exact Or.inr (Or.inr (Or.inr ⟨rfl, hx.fin (by decide)⟩))
theorem vOK_0 {lane : Int32} (hl : lane = 0 ∨ lane = 1 ∨ lane = 2 ∨ lane = 3) : vOK lane 0 := by
  rcases hl with rfl | rfl | rfl | rfl
  · exact Or.inl ⟨rfl, 0, by decide +kernel⟩
  · exact Or.inr (Or.inl ⟨rfl, 0, by decide +kernel⟩)
  · exact Or.inr (Or.inr (Or.inl ⟨rfl, 0, FP.Core.fin_of_lt32 (K := 1) (by decide) (by decide), by decide +kernel⟩))
  · exact Or.inr (Or.inr (Or.inr ⟨rfl, fin_0⟩))
theorem vL_in {l : Int32} (h : vL l) : l = 0 ∨ l = 1 ∨ l = 2 ∨ l = 3 := by
  obtain ⟨h1, h2⟩ := h
  obtain ⟨j, hj, rfl⟩ := nI_of h1
  rw [show (3 : Int32) = nI 3 from rfl, nI_ltI (by decide) hj] at h2
  rcases (show j = 0 ∨ j = 1 ∨ j = 2 ∨ j = 3 by omega) with rfl | rfl | rfl | rfl
  · exact Or.inl rfl
  · exact Or.inr (Or.inl rfl)
  · exact Or.inr (Or.inr (Or.inl rfl))
  · exact Or.inr (Or.inr (Or.inr rfl))
def rOK (d : sRw) : Prop := d.2.1 ≤ 40 ∧ (d.1 = 0 ∨ d.1 = 1 ∨ d.1 = 2 ∨ d.1 = 3) ∧ ∀ j, j < d.2.1 → vOK d.1 (d.2.2 j)
def sOK (v : sIn) : Prop := insK v.1 ∧ dL v.2.2.2.2.2.1 ∧ (v.2.2.2.1 = 0 ∨ v.2.2.2.1 = 1)
theorem upP {α : Type} {P : α → Prop} {f : Nat → α} {j i : Nat} {v : α} (h : P (f i)) (hv : P v) : P (va_up f j v i) := by
  by_cases hij : i = j
  · subst hij
    rw [va_up_self]
    exact hv
  · rw [va_up_ne _ _ hij]
    exact h
theorem live_Bo {nn j r : Nat} {ins : Nat → sIn} {bk : Nat → Option Nat} {o : Option Nat} (h : live nn ins (va_up bk j o) r) : live nn ins bk r ∨ o = some r := by
  rcases h with ⟨k, hk, he⟩ | h
  · by_cases hkj : k = j
    · subst hkj
      rw [va_up_self] at he
      exact Or.inr he
    · rw [va_up_ne _ _ hkj] at he
      exact Or.inl (Or.inl ⟨k, hk, he⟩)
  · exact Or.inl (Or.inr h)
theorem live_To {nn j r : Nat} {ins : Nat → sIn} {bk : Nat → Option Nat} {o : Option Nat} (h : live nn (insT ins j o) bk r) : live nn ins bk r ∨ o = some r := by
  rcases h with h | ⟨i, hi, he⟩
  · exact Or.inl (Or.inl h)
  · by_cases hij : i = j
    · subst hij
      unfold insT at he
      rw [va_up_self] at he
      exact Or.inr he
    · unfold insT at he
      rw [va_up_ne _ _ hij] at he
      exact Or.inl (Or.inr ⟨i, hi, he⟩)
section INV
variable {nn nf : Nat} {ins : Nat → sIn} {fn : Nat → Int32 × Int32} {bk : Nat → Option Nat} {rw rw' : Nat → sRw} {q q' : Int32 × Int32 × Int32 × Int32 × Int32} {j : Nat}
theorem Inv.rows (h : Inv (nn, ins, nf, fn, bk, rw, q)) : ∀ r, live nn ins bk r → r < 24 ∧ rOK (rw r) := fun r hr => ⟨h.2.2.2.2.1 r hr, h.2.2.2.2.2.1 r hr _ _ _ rfl⟩
theorem Inv.ins3 (h : Inv (nn, ins, nf, fn, bk, rw, q)) : ∀ i, i < nn → sOK (ins i) := fun i hi => h.2.2.1 i hi _ _ _ _ _ _ _ rfl
theorem Inv.mk' (h1 : nn ≤ 12) (h2 : nf ≤ 8) (h3 : ∀ i, i < nn → sOK (ins i)) (h4 : ∀ i, nn ≤ i → (ins i).2 = ((fun _ => 0), 0, 0, 0, 0, none)) (h5 : ∀ r, live nn ins bk r → r < 24 ∧ rOK (rw r)) (h7 : ∀ i, i < nf → 0 ≤ (fn i).1 ∧ (fn i).1 ≤ 5) : Inv (nn, ins, nf, fn, bk, rw, q) := by
  refine ⟨h1, h2, fun i hi ci kf pi on ph le tb he => ?_, h4, fun r hr => (h5 r hr).1, fun r hr lane n f he => ?_, h7⟩
  · have h8 := h3 i hi
    rw [he] at h8
    exact h8
  · have h8 := (h5 r hr).2
    rw [he] at h8
    exact h8
theorem Inv.upI {v : sIn} (h : Inv (nn, ins, nf, fn, bk, rw, q)) (hj : j < nn) (hv : sOK v) (ht : v.2.2.2.2.2.2 = (ins j).2.2.2.2.2.2) : Inv (nn, va_up ins j v, nf, fn, bk, rw, q') :=
  Inv.mk' h.1 h.2.1 (fun i hi => upP (P := sOK) (h.ins3 i hi) hv) (fun i hi => by rw [va_up_ne _ _ (by omega)]; exact h.2.2.2.1 i hi) (fun r hr => h.rows r ((live_up ht r).mp hr)) h.2.2.2.2.2.2
theorem Inv.upRw (h : Inv (nn, ins, nf, fn, bk, rw, q)) (hr : ∀ r, live nn ins bk r → rOK (rw' r)) : Inv (nn, ins, nf, fn, bk, rw', q') :=
  Inv.mk' h.1 h.2.1 h.ins3 h.2.2.2.1 (fun r hl => ⟨(h.rows r hl).1, hr r hl⟩) h.2.2.2.2.2.2
theorem Inv.upB {o : Option Nat} (h : Inv (nn, ins, nf, fn, bk, rw, q)) (hr : ∀ r, live nn ins bk r → rOK (rw' r)) (ho : ∀ r, o = some r → r < 24 ∧ rOK (rw' r)) : Inv (nn, ins, nf, fn, va_up bk j o, rw', q') :=
  Inv.mk' h.1 h.2.1 h.ins3 h.2.2.2.1 (fun r hl => (live_Bo hl).elim (fun z => ⟨(h.rows r z).1, hr r z⟩) (ho r)) h.2.2.2.2.2.2
theorem Inv.upT {o : Option Nat} (h : Inv (nn, ins, nf, fn, bk, rw, q)) (hj : j < nn) (hr : ∀ r, live nn ins bk r → rOK (rw' r)) (ho : ∀ r, o = some r → r < 24 ∧ rOK (rw' r)) : Inv (nn, insT ins j o, nf, fn, bk, rw', q') :=
  Inv.mk' h.1 h.2.1 (fun i hi => upP (P := sOK) (h.ins3 i hi) (h.ins3 j hj)) (fun i hi => by unfold insT; rw [va_up_ne _ _ (by omega)]; exact h.2.2.2.1 i hi) (fun r hl => (live_To hl).elim (fun z => ⟨(h.rows r z).1, hr r z⟩) (ho r)) h.2.2.2.2.2.2
theorem sCopy_0 {fr i to k jx : Int32} (h : sCopy bk rw fr i to jx k = 0) : vB fr ∧ vB to ∧ ∃ r z, bk fr.toNatClampNeg = some r ∧ bk to.toNatClampNeg = some z ∧ (rw r).1 = (rw z).1 ∧ spn (rw r).2.1 i k ∧ spn (rw z).2.1 jx k := by
  by_cases hb : vB fr ∧ vB to
  · cases h1 : bk fr.toNatClampNeg with
    | none => rw [sCopy_n1 hb rfl h1] at h; exact absurd h (by decide)
    | some r =>
      cases h2 : bk to.toNatClampNeg with
      | none => rw [sCopy_n2 hb rfl h2] at h; exact absurd h (by decide)
      | some z =>
        rw [sCopy_s hb rfl h1 rfl h2 rfl rfl] at h
        by_cases h3 : (rw r).1 = (rw z).1
        · rw [if_pos h3] at h
          by_cases h4 : spn (rw r).2.1 i k ∧ spn (rw z).2.1 jx k
          · exact ⟨hb.1, hb.2, r, z, rfl, rfl, h3, h4.1, h4.2⟩
          · rw [if_neg h4] at h
            exact absurd h (by decide)
        · rw [if_neg h3] at h
          exact absurd h (by decide)
  · rw [sCopy_b hb] at h
    exact absurd h (by decide)
theorem plIns_eq {fu : fuT} {k ci : Nat} {kf : Nat → Int32} {pi on ph : Int32} {le : UInt64} {tb : Option Nat} (hins : ins j = (ci, kf, pi, on, ph, le, tb)) : plIns ins rw fu j k = va_up ins j (ci, kf, pi, on, (sSt ci kf pi on (tb.map rw) ph le (plGo ins rw fu j k).2).1, (sSt ci kf pi on (tb.map rw) ph le (plGo ins rw fu j k).2).2, tb) := by
  unfold plIns
  rw [hins]
theorem plRw_n {fu : fuT} {k a jb : Nat} (h : bk jb = none) : plRw ins bk rw fu j k a jb = rw := by
  unfold plRw
  rw [h]
theorem plRw_w {fu : fuT} {k a jb w : Nat} (h : bk jb = some w) : plRw ins bk rw fu j k a jb = va_up rw w ((rw w).1, (rw w).2.1, dlv (rw w).2.2 a (fun z => sTurn (rw w).1 (if (plGo ins rw fu j k).1 = 0 then plSm ins rw fu j z else FP.dconst0)) k) := by
  unfold plRw
  rw [h]
theorem dB_sm {wy f : Int32} {z : Nat} (h : Inv (nn, ins, nf, fn, bk, rw, q)) (hj : j < nn) : dB 1095 (plSm ins rw (plFu fn wy f) j z) := by
  rcases hins : ins j with ⟨ci, kf, pi, on, ph, le, tb⟩
  have h3 := h.2.2.1 j hj _ _ _ _ _ _ _ hins
  have hto := tbOK_of h.2.2.2.2.2.1 hj (tb := tb) (by rw [hins])
  have hb : dB 1061 (sSm ci kf pi on (tb.map rw) ph le z).2.1 := dB_give (dL_st h3.2.1 z) hto
  have e : plSm ins rw (plFu fn wy f) j z = psO (plFu fn wy f) (sSm ci kf pi on (tb.map rw) ph le z).2.1 := by
    unfold plSm
    rw [hins]
  rw [e]
  unfold plFu
  split
  · exact fin_pass (dB_i2d _) hb
  · exact hb.le (by decide)
theorem Inv.play {wy f : Int32} {k a jb : Nat} (h : Inv (nn, ins, nf, fn, bk, rw, q)) (hj : j < nn) (hjb : jb < 10) : Inv (nn, plIns ins rw (plFu fn wy f) j k, nf, fn, bk, plRw ins bk rw (plFu fn wy f) j k a jb, q') := by
  have hrow : ∀ r, live nn ins bk r → rOK (plRw ins bk rw (plFu fn wy f) j k a jb r) := by
    intro r hr
    cases hbk : bk jb with
    | none =>
      rw [plRw_n hbk]
      exact (h.rows r hr).2
    | some w =>
      rw [plRw_w hbk]
      have hw := (h.rows w (Or.inl ⟨jb, hjb, hbk⟩)).2
      refine upP (P := rOK) (h.rows r hr).2 ⟨hw.1, hw.2.1, fun z hz => ?_⟩
      show vOK (rw w).1 (dlv (rw w).2.2 a (fun z => sTurn (rw w).1 (if (plGo ins rw (plFu fn wy f) j k).1 = 0 then plSm ins rw (plFu fn wy f) j z else FP.dconst0)) k z)
      unfold dlv
      split
      · refine vOK_turn hw.2.1 ?_
        split
        · exact dB_sm h hj
        · exact dB_c0.le (by decide)
      · exact hw.2.2 z hz
  rcases hins : ins j with ⟨ci, kf, pi, on, ph, le, tb⟩
  have h3 := h.2.2.1 j hj _ _ _ _ _ _ _ hins
  rw [plIns_eq hins]
  exact (h.upI hj ⟨h3.1, dL_st h3.2.1 _, h3.2.2⟩ (by rw [hins])).upRw (q := q) (fun r hr => hrow r ((live_up (by rw [hins]) r).mp hr))
end INV
section INV2
variable {nn nf : Nat} {ins : Nat → sIn} {fn : Nat → Int32 × Int32} {bk : Nat → Option Nat} {rw : Nat → sRw} {bd st c2 c3 c4 : Int32}
theorem Inv_sg0 : Inv sg0 := by
  refine Inv.mk' (by decide) (by decide) (fun i hi => absurd hi (by omega)) (fun i _ => rfl) (fun r hr => ?_) (fun i hi => absurd hi (by omega))
  rcases hr with ⟨k, _, h⟩ | ⟨i, hi, _⟩
  · cases h
  · exact absurd hi (by omega)
theorem Inv_bind (h : Inv (nn, ins, nf, fn, bk, rw, bd, st, c2, c3, c4)) (l : Int32) : Inv (nBind (nn, ins, nf, fn, bk, rw, bd, st, c2, c3, c4) l) := h
theorem Inv_at (h : Inv (nn, ins, nf, fn, bk, rw, bd, st, c2, c3, c4)) (b i : Int32) : Inv (nAt (nn, ins, nf, fn, bk, rw, bd, st, c2, c3, c4) b i) := h
theorem Inv_next (h : Inv (nn, ins, nf, fn, bk, rw, bd, st, c2, c3, c4)) (i : Int32) : Inv (nNext (nn, ins, nf, fn, bk, rw, bd, st, c2, c3, c4) i) := h
theorem Inv_knob (h : Inv (nn, ins, nf, fn, bk, rw, bd, st, c2, c3, c4)) (i k v : Int32) : Inv (nKnob (nn, ins, nf, fn, bk, rw, bd, st, c2, c3, c4) i k v) := by
  simp only [nKnob]
  split
  · rename_i hv
    obtain ⟨j, hj, rfl, hjc⟩ := vI_ix hv.1 h.1
    rw [hjc]
    exact h.upI hj (h.ins3 j hj) rfl
  · exact h
theorem Inv_phase (h : Inv (nn, ins, nf, fn, bk, rw, bd, st, c2, c3, c4)) (i v : Int32) : Inv (nPhase (nn, ins, nf, fn, bk, rw, bd, st, c2, c3, c4) i v) := by
  simp only [nPhase]
  split
  · rename_i hv
    obtain ⟨j, hj, rfl, hjc⟩ := vI_ix hv h.1
    rw [hjc]
    exact h.upI hj (h.ins3 j hj) rfl
  · exact h
theorem Inv_note (h : Inv (nn, ins, nf, fn, bk, rw, bd, st, c2, c3, c4)) (i p o : Int32) (ho : o = 0 ∨ o = 1) : Inv (nNote (nn, ins, nf, fn, bk, rw, bd, st, c2, c3, c4) i p o) := by
  simp only [nNote]
  split
  · rename_i hv
    obtain ⟨j, hj, rfl, hjc⟩ := vI_ix hv.1 h.1
    rw [hjc]
    have h3 := h.ins3 j hj
    refine h.upI hj ⟨h3.1, ?_, ho⟩ rfl
    show dL (sLev _ _ _ _)
    unfold sLev
    split
    · split
      · exact h3.2.1
      · exact dL_pitch hv.2.1 hv.2.2
    · exact h3.2.1
  · exact h
theorem Inv_inst (h : Inv (nn, ins, nf, fn, bk, rw, bd, st, c2, c3, c4)) (s : Int32) : Inv (nInst (nn, ins, nf, fn, bk, rw, bd, st, c2, c3, c4) s) := by
  simp only [nInst]
  split
  · rename_i hv
    refine Inv.mk' (by omega) h.2.1 (fun i hi => ?_) (fun i hi => ?_) (fun r hr => h.rows r ((live_addI rfl r).mp hr)) h.2.2.2.2.2.2
    · by_cases hin : i = nn
      · subst hin
        rw [va_up_self]
        exact ⟨insK_sci s, dL_0, Or.inl rfl⟩
      · rw [va_up_ne _ _ hin]
        exact h.ins3 i (by omega)
    · rw [va_up_ne _ _ (by omega)]
      exact h.2.2.2.1 i (by omega)
  · exact h
theorem Inv_func (h : Inv (nn, ins, nf, fn, bk, rw, bd, st, c2, c3, c4)) (s a : Int32) : Inv (nFunc (nn, ins, nf, fn, bk, rw, bd, st, c2, c3, c4) s a) := by
  simp only [nFunc]
  split
  · rename_i hv
    refine Inv.mk' h.1 (by omega) h.ins3 h.2.2.2.1 h.rows (fun i hi => ?_)
    by_cases hin : i = nf
    · subst hin
      rw [va_up_self]
      exact ⟨Int32.not_lt.mp hv.1.1, hv.1.2⟩
    · rw [va_up_ne _ _ hin]
      exact h.2.2.2.2.2.2 i (by omega)
  · exact h
theorem Inv_block (h : Inv (nn, ins, nf, fn, bk, rw, bd, st, c2, c3, c4)) (b l n : Int32) : Inv (nBlock (nn, ins, nf, fn, bk, rw, bd, st, c2, c3, c4) b l n) := by
  simp only [nBlock]
  split
  · rename_i hv
    have hl := vL_in hv.1.2.1
    have hd : rOK (l, n.toNatClampNeg, (fun _ => 0)) := by
      refine ⟨?_, hl, fun _ _ => vOK_0 hl⟩
      obtain ⟨k, hk, rfl⟩ := nI_of hv.2
      have h2 := hv.1.2.2
      rw [show (40 : Int32) = nI 40 from rfl, nI_leI hk (by decide)] at h2
      show (nI k).toNatClampNeg ≤ 40
      rw [nI_clamp hk]
      exact h2
    refine h.upB (fun r hr => upP (P := rOK) (h.rows r hr).2 hd) (fun r hr => ?_)
    cases hr
    refine ⟨fresh_lt _ _, ?_⟩
    rw [va_up_self]
    exact hd
  · exact h
theorem Inv_lend (h : Inv (nn, ins, nf, fn, bk, rw, bd, st, c2, c3, c4)) (b fr o : Int32) : Inv (nLend (nn, ins, nf, fn, bk, rw, bd, st, c2, c3, c4) b fr o) := by
  simp only [nLend]
  split
  · rename_i hv
    obtain ⟨j, hj, e, hjc⟩ := vB_ix hv.2
    rw [hjc]
    split
    · cases hbk : bk j with
      | none => exact h
      | some w =>
        have hd := (h.rows w (Or.inl ⟨j, hj, hbk⟩)).2
        refine h.upB (fun r hr => upP (P := rOK) (h.rows r hr).2 hd) (fun r hr => ?_)
        cases hr
        refine ⟨fresh_lt _ _, ?_⟩
        rw [va_up_self]
        exact hd
    · exact h.upB (fun r hr => (h.rows r hr).2) (fun r hr => h.rows r (Or.inl ⟨j, hj, hr⟩))
  · exact h
theorem Inv_table (h : Inv (nn, ins, nf, fn, bk, rw, bd, st, c2, c3, c4)) (i b o : Int32) : Inv (nTable (nn, ins, nf, fn, bk, rw, bd, st, c2, c3, c4) i b o) := by
  simp only [nTable]
  split
  · rename_i hv
    obtain ⟨j, hj, rfl, hjc⟩ := vI_ix hv.1 h.1
    rw [hjc]
    cases hz : (if vB b then bk b.toNatClampNeg else none) with
    | none => exact h.upT hj (fun r hr => (h.rows r hr).2) (fun r hr => by cases hr)
    | some w =>
      have hd : w < 24 ∧ rOK (rw w) := by
        by_cases hb : vB b
        · rw [if_pos hb] at hz
          obtain ⟨jb, hjb, e, hjbc⟩ := vB_ix hb
          rw [hjbc] at hz
          exact h.rows w (Or.inl ⟨jb, hjb, hz⟩)
        · rw [if_neg hb] at hz
          cases hz
      show Inv (if o = 0 then _ else _)
      split
      · refine h.upT hj (fun r hr => upP (P := rOK) (h.rows r hr).2 hd.2) (fun r hr => ?_)
        cases hr
        refine ⟨fresh_lt _ _, ?_⟩
        rw [va_up_self]
        exact hd.2
      · exact h.upT hj (fun r hr => (h.rows r hr).2) (fun r hr => by cases hr; exact hd)
  · exact h
theorem Inv_put (h : Inv (nn, ins, nf, fn, bk, rw, bd, st, c2, c3, c4)) (b i v : Int32) : Inv (nPut (nn, ins, nf, fn, bk, rw, bd, st, c2, c3, c4) b i v) := by
  show Inv (nn, ins, nf, fn, bk, rPut bk rw b i v, bd, sAt bk rw b i, c2, c3, c4)
  refine h.upRw (fun r hr => ?_)
  unfold rPut
  by_cases h0 : sAt bk rw b i = 0
  · rw [if_pos h0]
    obtain ⟨hb, w, hbk, h1, h2⟩ := sAt_0 h0
    obtain ⟨jb, hjb, e, hjbc⟩ := vB_ix hb
    rw [hbk]
    rw [hjbc] at hbk
    have hw := (h.rows w (Or.inl ⟨jb, hjb, hbk⟩)).2
    show rOK (va_up rw w ((rw w).1, (rw w).2.1, vf_upd (rw w).2.2 i.toNatClampNeg (sTurn (rw w).1 (FP.i2d v))) r)
    refine upP (P := rOK) (h.rows r hr).2 ⟨hw.1, hw.2.1, fun z hz => ?_⟩
    show vOK (rw w).1 (vf_upd (rw w).2.2 i.toNatClampNeg (sTurn (rw w).1 (FP.i2d v)) z)
    unfold vf_upd
    split
    · exact vOK_turn hw.2.1 ((dB_i2d v).le (by decide))
    · exact hw.2.2 z hz
  · rw [if_neg h0]
    exact (h.rows r hr).2
theorem Inv_copy (h : Inv (nn, ins, nf, fn, bk, rw, bd, st, c2, c3, c4)) (fr i to j k : Int32) : Inv (nCopy (nn, ins, nf, fn, bk, rw, bd, st, c2, c3, c4) fr i to j k) := by
  show Inv (nn, ins, nf, fn, bk, rCopy bk rw fr i to j k, bd, sCopy bk rw fr i to j k, c2, c3, c4)
  refine h.upRw (fun r hr => ?_)
  unfold rCopy
  by_cases h0 : sCopy bk rw fr i to j k = 0
  · rw [if_pos h0]
    obtain ⟨hb1, hb2, w1, w2, k1, k2, hl, s1, s2⟩ := sCopy_0 h0
    obtain ⟨j1, hj1, e1, hc1⟩ := vB_ix hb1
    obtain ⟨j2, hj2, e2, hc2⟩ := vB_ix hb2
    rw [k1, k2]
    rw [hc1] at k1
    rw [hc2] at k2
    have hw1 := (h.rows w1 (Or.inl ⟨j1, hj1, k1⟩)).2
    have hw2 := (h.rows w2 (Or.inl ⟨j2, hj2, k2⟩)).2
    show rOK (va_up rw w2 ((rw w2).1, (rw w2).2.1, va_cpy (rw w1).2.2 (rw w2).2.2 i.toNatClampNeg j.toNatClampNeg k.toNatClampNeg) r)
    refine upP (P := rOK) (h.rows r hr).2 ⟨hw2.1, hw2.2.1, fun z hz => ?_⟩
    show vOK (rw w2).1 (va_cpy (rw w1).2.2 (rw w2).2.2 i.toNatClampNeg j.toNatClampNeg k.toNatClampNeg z)
    have q1 := spn_cl hw1.1 s1
    unfold va_cpy
    split
    · rw [← hl]
      exact hw1.2.2 _ (by omega)
    · exact hw2.2.2 z hz
  · rw [if_neg h0]
    exact (h.rows r hr).2
theorem Inv_play (h : Inv (nn, ins, nf, fn, bk, rw, bd, st, c2, c3, c4)) (i wy f b fr n : Int32) : Inv (nPlay (nn, ins, nf, fn, bk, rw, bd, st, c2, c3, c4) i wy f b fr n) := by
  simp only [nPlay]
  split
  · rename_i hv
    split
    · obtain ⟨j, hj, e1, hjc⟩ := vI_ix hv.1 h.1
      obtain ⟨jb, hjb, e2, hjbc⟩ := vB_ix hv.2.2
      rw [hjc, hjbc]
      exact h.play hj hjb
    · exact h
  · exact h
end INV2
