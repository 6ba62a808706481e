theorem mTb_of {nn j : Nat} {ins : Nat → sIn} {bk : Nat → Option Nat} {rw : Nat → sRw} {LN SZ : Nat → Int32} {SM : Nat → Int64} {tb : Option Nat} (hv24 : ∀ r, live nn ins bk r → r < 24) (hvR : ∀ r, live nn ins bk r → ∀ lane n f, rw r = (lane, n, f) → n ≤ 40 ∧ (lane = 0 ∨ lane = 1 ∨ lane = 2 ∨ lane = 3) ∧ ∀ j, j < n → vOK lane (f j)) (hR : rlR (live nn ins bk) rw LN SZ SM) (hj : j < nn) (ht : (ins j).2.2.2.2.2.2 = tb) : mTb tb rw LN SZ SM := by
  intro r hr
  have hl : live nn ins bk r := Or.inr ⟨j, hj, by rw [ht]; exact hr⟩
  obtain ⟨e1, e2, e3⟩ := hR r hl _ _ _ rfl
  obtain ⟨k1, k2, k3⟩ := hvR r hl _ _ _ rfl
  refine ⟨hv24 r hl, e1, e2, k1, e3, fun h1 q hq => ?_⟩
  rcases k3 q hq with ⟨h, _⟩ | ⟨_, h⟩ | ⟨h, _⟩ | ⟨h, _⟩
  · rw [h1] at h; exact absurd h (by decide)
  · exact h
  · rw [h1] at h; exact absurd h (by decide)
  · rw [h1] at h; exact absurd h (by decide)
theorem sLE_back {ci : Nat} {LE : Nat → UInt64} {j : Nat} {v : UInt64} : vf_upd (sLE ci LE j v) j (LE j) = LE := by
  funext q
  unfold sLE
  by_cases hq : q = j
  · subst hq; simp [vf_upd]
  · simp only [vf_upd, hq, if_false]
    split
    · first | exact vfu_o hq | (simp only [hq, if_false])
    · rfl
theorem sLE_up {ci : Nat} {LE : Nat → UInt64} {j : Nat} {v w : UInt64} : sLE ci (sLE ci LE j v) j w = sLE ci LE j w := by
  unfold sLE
  by_cases h : ci = 0 ∨ ci = 1
  · simp only [if_pos h]
    funext q
    by_cases hq : q = j <;> simp [vf_upd, hq]
  · simp only [if_neg h]
theorem sLE_s {ci : Nat} {LE : Nat → UInt64} {j : Nat} {v : UInt64} (h : ci = 0 ∨ ci = 1) : sLE ci LE j v j = v := by
  unfold sLE
  rw [if_pos h]
  exact vfu_s
theorem sLE_id {ci : Nat} {LE : Nat → UInt64} {j : Nat} {v : UInt64} (h : ci = 0 ∨ ci = 1 → LE j = v) : sLE ci LE j v = LE := by
  unfold sLE
  by_cases hc : ci = 0 ∨ ci = 1
  · rw [if_pos hc]; exact vf_id (h hc)
  · rw [if_neg hc]
theorem tri_tri {M : mMem} {p x a : Nat} {X Y Z X' Y' Z' : va_E} (h1 : p ≠ x) (h2 : p ≠ a) (h3 : x ≠ a) : tri (tri M p x a X Y Z) p x a X' Y' Z' = tri M p x a X' Y' Z' := by
  show mUp (mUp (mUp (tri M p x a X Y Z) p X') x Y') a Z' = _
  rw [tri_p h1 h2, tri_x h3, tri_a]
theorem dcmp_sym {a b : UInt64} : FP.dcmp a b = some .eq ↔ FP.dcmp b a = some .eq := by
  show FP.Core.dcmp a b = some .eq ↔ FP.Core.dcmp b a = some .eq
  rw [FP.Core.dcmp_eq, FP.Core.dcmp_eq]
  exact ⟨fun h => ⟨h.2.1, h.1, h.2.2.symm⟩, fun h => ⟨h.2.1, h.1, h.2.2.symm⟩⟩
theorem in_40 {w : Int32} : (¬ w < 0 ∧ ¬ 40 < w) ↔ (¬ w < 0 ∧ w ≤ 40) := by rw [Int32.not_lt (a := 40)]
theorem n_40 {w : Int32} (h : ¬ w < 0 ∧ w ≤ 40) : ∃ k, k ≤ 40 ∧ w = nI k := by
  obtain ⟨k, hk, rfl⟩ := nI_of h.1
  have h2 := h.2
  rw [show (40 : Int32) = nI 40 from rfl, nI_leI hk (by decide)] at h2
  exact ⟨k, h2, rfl⟩
theorem in_X10_find_X10 : ∀ w ∈ wsX100, w ∈ wsX10_find := by decide +kernel
set_option maxHeartbeats 4000000 in
set_option maxRecDepth 100000 in
theorem c_X10_find (l : Launch) (E : mEnv) (M : mMem) (sz : Nat) (y b1 b2 b3 b4 b5 b6 b7 b8 b9 b10 b11 b12 b13 b14 b15 b16 nn nf : Nat) (ins : Nat → sIn) (fn : Nat → Int32 × Int32) (bk : Nat → Option Nat) (rw : Nat → sRw) (bd st c2 c3 c4 : Int32) (hV : Inv (nn, ins, nf, fn, bk, rw, bd, st, c2, c3, c4)) (hC : mR E M y b1 b2 b3 b4 b5 b6 b7 b8 b9 b10 b11 b12 b13 b14 b15 b16 (nn, ins, nf, fn, bk, rw, bd, st, c2, c3, c4)) (hnd : [y, b1, b2, b3, b4, b5, b6, b7, b8, b9, b10, b11, b12, b13, b14, b15, b16].Nodup) (fx fy : Int32)    : Met l yX10_find wsX10_find ({ frames := 4, cells := 0, slots := 0, locals := 97 }) (mPre E M sz [.ref y, .int fx, .int fy]) (mQi E M sz (fun r u => r = aFind (nn, ins, nf, fn, bk, rw, bd, st, c2, c3, c4) fx fy ∧ mR E u y b1 b2 b3 b4 b5 b6 b7 b8 b9 b10 b11 b12 b13 b14 b15 b16 ((nn, ins, nf, fn, bk, rw, bd, st, c2, c3, c4)) ∧ kept (nol y b1 b2 b3 b4 b5 b6 b7 b8 b9 b10 b11 b12 b13 b14 b15 b16) M u)) (0) (0) (mA M sz) := by
  refine m_met [.ref y, .int fx, .int fy] (by decide) rfl (Nat.le_of_ble_eq_true rfl) ?_
  intro p e s m below meth c ls H eH hx hb hr hts hown hlocks hnm hml hsz hE hM hS hA hl
  have hl : lv_has ls 6 [(0, .ref y), (1, .int fx), (2, .int fy)] := hl
  have hC0 := hC
  obtain ⟨fa, B, T, LN, SZ, SM, SO, KN, PI, ON, PH, LE, KD, NM, CT, CM, MV, ⟨g_y, g_b1, g_b2, g_b3, g_b4, g_b5, g_b6, g_b7, g_b8, g_b9, g_b10, g_b11, g_b12, g_b13, g_b14, g_b15, g_b16⟩, hB, hT, hR, hN, hF, hc2, hc3, hc4⟩ := hC
  have hiK := hV.insK
  have h24t := hV.tb24
  have h40 := hV.n40
  obtain ⟨hnn, hnf, hvI, hvD, hv24, hvR, hvF⟩ := id hV
  have h24 : ∀ k, k < 10 → ∀ r, bk k = some r → r < 24 := fun k hk r hr => hv24 r (Or.inl ⟨k, hk, hr⟩)
  have hk : kept (nol y b1 b2 b3 b4 b5 b6 b7 b8 b9 b10 b11 b12 b13 b14 b15 b16) M M := kept.rf
  have loop : ∀ (n9 : Nat) (k9 : Nat) (fa9 : Int32) (Mi : mMem) (ls : Array Slot) (H : Heap) (locs : List Loc), k9 + n9 = nf → sFind fn fx fy 0 nf = sFind fn fx fy k9 n9 → Mi = mUp M y (mO 8 [.ref b1, .ref b2, .ref b3, .ref b4, .ref b5, .int (nI nn), .ref b6, .ref b7, .ref b8, .ref b9, .ref b10, .ref b11, .int (nI nf), .ref b12, .ref b13, .int bd, .int st, .int fa9, .ref b14, .ref b15, .ref b16]) → mOK E.1 (mA M sz) Mi H → va_S (mA M sz) s.heap H locs → lv_has ls 6 [(3, .int (nI k9)), (0, .ref y), (1, .int fx), (2, .int fy)] → W p l e ({ frames := 4, cells := 0, slots := 0, locals := 97 } : Room) s m #[.ref y, .int fx, .int fy] below meth c H locs (0) (0) (MQ below (mQi E M sz (fun r u => r = aFind (nn, ins, nf, fn, bk, rw, bd, st, c2, c3, c4) fx fy ∧ mR E u y b1 b2 b3 b4 b5 b6 b7 b8 b9 b10 b11 b12 b13 b14 b15 b16 ((nn, ins, nf, fn, bk, rw, bd, st, c2, c3, c4)) ∧ kept (nol y b1 b2 b3 b4 b5 b6 b7 b8 b9 b10 b11 b12 b13 b14 b15 b16) M u)) #[.ref y, .int fx, .int fy] s (0) (0) (mA M sz)) (F0 m 2 ls []) := by
    intro n9
    induction n9 with
    | zero =>
      intro k9 fa9 Mi ls H locs hk9 hsf eMi hM hS hl
      have hh_b1 : Mi b1 = some (mI E 10 B) := by rw [eMi]; exact mUp_at (nd_ne hnd 1 0 rfl rfl (by decide)) g_b1
      have hh_b2 : Mi b2 = some (mI E 12 T) := by rw [eMi]; exact mUp_at (nd_ne hnd 2 0 rfl rfl (by decide)) g_b2
      have hh_b3 : Mi b3 = some (mI E 24 LN) := by rw [eMi]; exact mUp_at (nd_ne hnd 3 0 rfl rfl (by decide)) g_b3
      have hh_b4 : Mi b4 = some (mI E 24 SZ) := by rw [eMi]; exact mUp_at (nd_ne hnd 4 0 rfl rfl (by decide)) g_b4
      have hh_b5 : Mi b5 = some (mJ E 960 SM) := by rw [eMi]; exact mUp_at (nd_ne hnd 5 0 rfl rfl (by decide)) g_b5
      have hh_b6 : Mi b6 = some (mI E 12 SO) := by rw [eMi]; exact mUp_at (nd_ne hnd 6 0 rfl rfl (by decide)) g_b6
      have hh_b7 : Mi b7 = some (mI E 48 KN) := by rw [eMi]; exact mUp_at (nd_ne hnd 7 0 rfl rfl (by decide)) g_b7
      have hh_b8 : Mi b8 = some (mI E 12 PI) := by rw [eMi]; exact mUp_at (nd_ne hnd 8 0 rfl rfl (by decide)) g_b8
      have hh_b9 : Mi b9 = some (mZ E 12 ON) := by rw [eMi]; exact mUp_at (nd_ne hnd 9 0 rfl rfl (by decide)) g_b9
      have hh_b10 : Mi b10 = some (mI E 12 PH) := by rw [eMi]; exact mUp_at (nd_ne hnd 10 0 rfl rfl (by decide)) g_b10
      have hh_b11 : Mi b11 = some (mDb E 12 LE) := by rw [eMi]; exact mUp_at (nd_ne hnd 11 0 rfl rfl (by decide)) g_b11
      have hh_b12 : Mi b12 = some (mI E 8 KD) := by rw [eMi]; exact mUp_at (nd_ne hnd 12 0 rfl rfl (by decide)) g_b12
      have hh_b13 : Mi b13 = some (mI E 8 NM) := by rw [eMi]; exact mUp_at (nd_ne hnd 13 0 rfl rfl (by decide)) g_b13
      have hh_b14 : Mi b14 = some (mI E 3 CT) := by rw [eMi]; exact mUp_at (nd_ne hnd 14 0 rfl rfl (by decide)) g_b14
      have hh_b15 : Mi b15 = some (mDb E 40 CM) := by rw [eMi]; exact mUp_at (nd_ne hnd 15 0 rfl rfl (by decide)) g_b15
      have hh_b16 : Mi b16 = some (mJ E 40 MV) := by rw [eMi]; exact mUp_at (nd_ne hnd 16 0 rfl rfl (by decide)) g_b16
      have hh_y : Mi y = some (mO 8 [.ref b1, .ref b2, .ref b3, .ref b4, .ref b5, .int (nI nn), .ref b6, .ref b7, .ref b8, .ref b9, .ref b10, .ref b11, .int (nI nf), .ref b12, .ref b13, .int bd, .int st, .int fa9, .ref b14, .ref b15, .ref b16]) := by rw [eMi]; exact mUp_self _ _ _
      have g_y := hh_y
      have g_b1 := hh_b1
      have g_b2 := hh_b2
      have g_b3 := hh_b3
      have g_b4 := hh_b4
      have g_b5 := hh_b5
      have g_b6 := hh_b6
      have g_b7 := hh_b7
      have g_b8 := hh_b8
      have g_b9 := hh_b9
      have g_b10 := hh_b10
      have g_b11 := hh_b11
      have g_b12 := hh_b12
      have g_b13 := hh_b13
      have g_b14 := hh_b14
      have g_b15 := hh_b15
      have g_b16 := hh_b16
      have hk : kept (nol y b1 b2 b3 b4 b5 b6 b7 b8 b9 b10 b11 b12 b13 b14 b15 b16) M Mi := (by rw [eMi]; exact kept.rf.up (nol_in 0 rfl))
      refine lv_iload_n hx hb dX10_find_2 rfl (lv_at hl 0 rfl) ?_
      refine lv_aload_n hx hb dX10_find_3 rfl (lv_at hl 1 rfl) ?_
      refine m_get (ci := 8) (v := .int (nI nf)) (C := RX10) (T := TX10) (N := 21) hx hb hts in_X10_find_X10 hown hE hM g_y rfl 12 (by decide) (hts (.fieldLink RX10 109 "CallWays2Model" "functions" "I") (by decide +kernel)) (fun _ h9 => h9) rfl dX10_find_4 ?_
      refine lv_icmp_ge (tgt := 47) hx hb dX10_find_7 (by decide) (fun _ => ?_) (fun h9 => False.elim (by revert h9; exact (fun h => h (nI_le (by omega) (by omega)))))
      refine lv_iconst (v := -1) hx hb dX10_find_47 (by decide) ?_
      exact m_iret hx hb hr hlocks hM hS (Nat.le_refl _) (Nat.le_refl _) dX10_find_48 (by refine ⟨(by show _ = sFind fn fx fy 0 nf; rw [hsf]; rfl), ⟨_, _, _, _, _, _, _, _, _, _, _, _, _, _, _, _, _, ⟨g_y, g_b1, g_b2, g_b3, g_b4, g_b5, g_b6, g_b7, g_b8, g_b9, g_b10, g_b11, g_b12, g_b13, g_b14, g_b15, g_b16⟩, hB, hT, hR, hN, hF, hc2, hc3, hc4⟩, hk⟩)
    | succ n9 ih =>
      intro k9 fa9 Mi ls H locs hk9 hsf eMi hM hS hl
      have hh_b1 : Mi b1 = some (mI E 10 B) := by rw [eMi]; exact mUp_at (nd_ne hnd 1 0 rfl rfl (by decide)) g_b1
      have hh_b2 : Mi b2 = some (mI E 12 T) := by rw [eMi]; exact mUp_at (nd_ne hnd 2 0 rfl rfl (by decide)) g_b2
      have hh_b3 : Mi b3 = some (mI E 24 LN) := by rw [eMi]; exact mUp_at (nd_ne hnd 3 0 rfl rfl (by decide)) g_b3
      have hh_b4 : Mi b4 = some (mI E 24 SZ) := by rw [eMi]; exact mUp_at (nd_ne hnd 4 0 rfl rfl (by decide)) g_b4
      have hh_b5 : Mi b5 = some (mJ E 960 SM) := by rw [eMi]; exact mUp_at (nd_ne hnd 5 0 rfl rfl (by decide)) g_b5
      have hh_b6 : Mi b6 = some (mI E 12 SO) := by rw [eMi]; exact mUp_at (nd_ne hnd 6 0 rfl rfl (by decide)) g_b6
      have hh_b7 : Mi b7 = some (mI E 48 KN) := by rw [eMi]; exact mUp_at (nd_ne hnd 7 0 rfl rfl (by decide)) g_b7
      have hh_b8 : Mi b8 = some (mI E 12 PI) := by rw [eMi]; exact mUp_at (nd_ne hnd 8 0 rfl rfl (by decide)) g_b8
      have hh_b9 : Mi b9 = some (mZ E 12 ON) := by rw [eMi]; exact mUp_at (nd_ne hnd 9 0 rfl rfl (by decide)) g_b9
      have hh_b10 : Mi b10 = some (mI E 12 PH) := by rw [eMi]; exact mUp_at (nd_ne hnd 10 0 rfl rfl (by decide)) g_b10
      have hh_b11 : Mi b11 = some (mDb E 12 LE) := by rw [eMi]; exact mUp_at (nd_ne hnd 11 0 rfl rfl (by decide)) g_b11
      have hh_b12 : Mi b12 = some (mI E 8 KD) := by rw [eMi]; exact mUp_at (nd_ne hnd 12 0 rfl rfl (by decide)) g_b12
      have hh_b13 : Mi b13 = some (mI E 8 NM) := by rw [eMi]; exact mUp_at (nd_ne hnd 13 0 rfl rfl (by decide)) g_b13
      have hh_b14 : Mi b14 = some (mI E 3 CT) := by rw [eMi]; exact mUp_at (nd_ne hnd 14 0 rfl rfl (by decide)) g_b14
      have hh_b15 : Mi b15 = some (mDb E 40 CM) := by rw [eMi]; exact mUp_at (nd_ne hnd 15 0 rfl rfl (by decide)) g_b15
      have hh_b16 : Mi b16 = some (mJ E 40 MV) := by rw [eMi]; exact mUp_at (nd_ne hnd 16 0 rfl rfl (by decide)) g_b16
      have hh_y : Mi y = some (mO 8 [.ref b1, .ref b2, .ref b3, .ref b4, .ref b5, .int (nI nn), .ref b6, .ref b7, .ref b8, .ref b9, .ref b10, .ref b11, .int (nI nf), .ref b12, .ref b13, .int bd, .int st, .int fa9, .ref b14, .ref b15, .ref b16]) := by rw [eMi]; exact mUp_self _ _ _
      have g_y := hh_y
      have g_b1 := hh_b1
      have g_b2 := hh_b2
      have g_b3 := hh_b3
      have g_b4 := hh_b4
      have g_b5 := hh_b5
      have g_b6 := hh_b6
      have g_b7 := hh_b7
      have g_b8 := hh_b8
      have g_b9 := hh_b9
      have g_b10 := hh_b10
      have g_b11 := hh_b11
      have g_b12 := hh_b12
      have g_b13 := hh_b13
      have g_b14 := hh_b14
      have g_b15 := hh_b15
      have g_b16 := hh_b16
      have hk : kept (nol y b1 b2 b3 b4 b5 b6 b7 b8 b9 b10 b11 b12 b13 b14 b15 b16) M Mi := (by rw [eMi]; exact kept.rf.up (nol_in 0 rfl))
      refine lv_iload_n hx hb dX10_find_2 rfl (lv_at hl 0 rfl) ?_
      refine lv_aload_n hx hb dX10_find_3 rfl (lv_at hl 1 rfl) ?_
      refine m_get (ci := 8) (v := .int (nI nf)) (C := RX10) (T := TX10) (N := 21) hx hb hts in_X10_find_X10 hown hE hM g_y rfl 12 (by decide) (hts (.fieldLink RX10 109 "CallWays2Model" "functions" "I") (by decide +kernel)) (fun _ h9 => h9) rfl dX10_find_4 ?_
      refine lv_icmp_ge (tgt := 47) hx hb dX10_find_7 (by decide) (fun h9 => False.elim (by revert h9; exact (fun h => absurd h (nI_ge (by omega) (by omega))))) (fun _ => ?_)
      refine lv_aload_n hx hb dX10_find_10 rfl (lv_at hl 1 rfl) ?_
      refine lv_iconst (v := 0) hx hb dX10_find_11 (by decide) ?_
      refine m_put (ci := 8) (v := .int 0) (ty := .int) (C := RX10) (T := TX10) (N := 21) hx hb hts in_X10_find_X10 tyX10 tyX10_ok nmX10 hown hE hM hS g_y rfl 17 (by decide) (hts (.fieldLink RX10 112 "CallWays2Model" "failure" "I") (by decide +kernel)) (fun _ h9 => h9) rfl (by decide +kernel) rfl rfl (Nat.le_of_ble_eq_true rfl) dX10_find_12 (fun H locs hM hS => ?_)
      have hM : mOK E.1 (mA M sz) (mUp Mi y (mO 8 [.ref b1, .ref b2, .ref b3, .ref b4, .ref b5, .int (nI nn), .ref b6, .ref b7, .ref b8, .ref b9, .ref b10, .ref b11, .int (nI nf), .ref b12, .ref b13, .int bd, .int st, .int 0, .ref b14, .ref b15, .ref b16])) H := hM
      obtain ⟨M1, eM1⟩ : ∃ z, z = mUp Mi y (mO 8 [.ref b1, .ref b2, .ref b3, .ref b4, .ref b5, .int (nI nn), .ref b6, .ref b7, .ref b8, .ref b9, .ref b10, .ref b11, .int (nI nf), .ref b12, .ref b13, .int bd, .int st, .int 0, .ref b14, .ref b15, .ref b16]) := ⟨_, rfl⟩
      rw [← eM1] at hM
      have g_b1_ : M1 b1 = some (mI E 10 B) := by rw [eM1]; exact mUp_at (nd_ne hnd 1 0 rfl rfl (by decide)) g_b1
      have g_b2_ : M1 b2 = some (mI E 12 T) := by rw [eM1]; exact mUp_at (nd_ne hnd 2 0 rfl rfl (by decide)) g_b2
      have g_b3_ : M1 b3 = some (mI E 24 LN) := by rw [eM1]; exact mUp_at (nd_ne hnd 3 0 rfl rfl (by decide)) g_b3
      have g_b4_ : M1 b4 = some (mI E 24 SZ) := by rw [eM1]; exact mUp_at (nd_ne hnd 4 0 rfl rfl (by decide)) g_b4
      have g_b5_ : M1 b5 = some (mJ E 960 SM) := by rw [eM1]; exact mUp_at (nd_ne hnd 5 0 rfl rfl (by decide)) g_b5
      have g_b6_ : M1 b6 = some (mI E 12 SO) := by rw [eM1]; exact mUp_at (nd_ne hnd 6 0 rfl rfl (by decide)) g_b6
      have g_b7_ : M1 b7 = some (mI E 48 KN) := by rw [eM1]; exact mUp_at (nd_ne hnd 7 0 rfl rfl (by decide)) g_b7
      have g_b8_ : M1 b8 = some (mI E 12 PI) := by rw [eM1]; exact mUp_at (nd_ne hnd 8 0 rfl rfl (by decide)) g_b8
      have g_b9_ : M1 b9 = some (mZ E 12 ON) := by rw [eM1]; exact mUp_at (nd_ne hnd 9 0 rfl rfl (by decide)) g_b9
      have g_b10_ : M1 b10 = some (mI E 12 PH) := by rw [eM1]; exact mUp_at (nd_ne hnd 10 0 rfl rfl (by decide)) g_b10
      have g_b11_ : M1 b11 = some (mDb E 12 LE) := by rw [eM1]; exact mUp_at (nd_ne hnd 11 0 rfl rfl (by decide)) g_b11
      have g_b12_ : M1 b12 = some (mI E 8 KD) := by rw [eM1]; exact mUp_at (nd_ne hnd 12 0 rfl rfl (by decide)) g_b12
      have g_b13_ : M1 b13 = some (mI E 8 NM) := by rw [eM1]; exact mUp_at (nd_ne hnd 13 0 rfl rfl (by decide)) g_b13
      have g_b14_ : M1 b14 = some (mI E 3 CT) := by rw [eM1]; exact mUp_at (nd_ne hnd 14 0 rfl rfl (by decide)) g_b14
      have g_b15_ : M1 b15 = some (mDb E 40 CM) := by rw [eM1]; exact mUp_at (nd_ne hnd 15 0 rfl rfl (by decide)) g_b15
      have g_b16_ : M1 b16 = some (mJ E 40 MV) := by rw [eM1]; exact mUp_at (nd_ne hnd 16 0 rfl rfl (by decide)) g_b16
      have g_b1 := g_b1_
      have g_b2 := g_b2_
      have g_b3 := g_b3_
      have g_b4 := g_b4_
      have g_b5 := g_b5_
      have g_b6 := g_b6_
      have g_b7 := g_b7_
      have g_b8 := g_b8_
      have g_b9 := g_b9_
      have g_b10 := g_b10_
      have g_b11 := g_b11_
      have g_b12 := g_b12_
      have g_b13 := g_b13_
      have g_b14 := g_b14_
      have g_b15 := g_b15_
      have g_b16 := g_b16_
      have g_y : M1 y = some (mO 8 [.ref b1, .ref b2, .ref b3, .ref b4, .ref b5, .int (nI nn), .ref b6, .ref b7, .ref b8, .ref b9, .ref b10, .ref b11, .int (nI nf), .ref b12, .ref b13, .int bd, .int st, .int 0, .ref b14, .ref b15, .ref b16]) := by rw [eM1]; exact mUp_self _ _ _
      have hk : kept (nol y b1 b2 b3 b4 b5 b6 b7 b8 b9 b10 b11 b12 b13 b14 b15 b16) M M1 := (by rw [eM1]; exact hk.up (nol_in 0 rfl))
      refine lv_aload_n hx hb dX10_find_15 rfl (lv_at hl 1 rfl) ?_
      refine lv_iload_n hx hb dX10_find_16 rfl (lv_at hl 0 rfl) ?_
      refine lv_iload_n hx hb dX10_find_17 rfl (lv_at hl 2 rfl) ?_
      refine lv_i2d hx hb dX10_find_18 ?_
      refine m_calld (va_runV (As := [.int (nI k9), .double (FP.i2d fx)]) (rest := []) ⟨hx, hb, hml, hown, hts⟩ (c_X10_through l E M1 H.size y b1 b2 b3 b4 b5 b6 b7 b8 b9 b10 b11 b12 b13 b14 b15 b16 (nI nn) (nI nf) bd st 0 KD NM k9 (by omega) (FP.i2d fx) (fin_i2d fx) (fn k9).1 (fn k9).2 ((hF k9 (by omega))).1 ((hF k9 (by omega))).2 (hvF k9 (by omega)) g_y g_b12 g_b13) (cwV 2 hts gX10_find_X10_through rfl rfl rfl (by decide +kernel) ⟨Nat.le_of_ble_eq_true rfl, Nat.le_of_ble_eq_true rfl⟩) (m_preV hE hM g_y rfl) rfl rfl hl.1 rfl (lv_room (Nat.le_of_ble_eq_true rfl)) dX10_find_19 ⟨Nat.le_of_ble_eq_true rfl, Nat.le_of_ble_eq_true rfl⟩) hM hS hA (fun r5 M2 H locs hw hM hS => ?_)
      obtain ⟨e_r5, eM2⟩ := hw
      by_cases hrf : sRef (fn k9).1 (FP.i2d (fn k9).2) (FP.i2d fx)
      · rw [if_pos hrf] at e_r5 eM2
        subst e_r5
        have g_b1_ : M2 b1 = some (mI E 10 B) := by rw [eM2]; exact mUp_at (nd_ne hnd 1 0 rfl rfl (by decide)) g_b1
        have g_b2_ : M2 b2 = some (mI E 12 T) := by rw [eM2]; exact mUp_at (nd_ne hnd 2 0 rfl rfl (by decide)) g_b2
        have g_b3_ : M2 b3 = some (mI E 24 LN) := by rw [eM2]; exact mUp_at (nd_ne hnd 3 0 rfl rfl (by decide)) g_b3
        have g_b4_ : M2 b4 = some (mI E 24 SZ) := by rw [eM2]; exact mUp_at (nd_ne hnd 4 0 rfl rfl (by decide)) g_b4
        have g_b5_ : M2 b5 = some (mJ E 960 SM) := by rw [eM2]; exact mUp_at (nd_ne hnd 5 0 rfl rfl (by decide)) g_b5
        have g_b6_ : M2 b6 = some (mI E 12 SO) := by rw [eM2]; exact mUp_at (nd_ne hnd 6 0 rfl rfl (by decide)) g_b6
        have g_b7_ : M2 b7 = some (mI E 48 KN) := by rw [eM2]; exact mUp_at (nd_ne hnd 7 0 rfl rfl (by decide)) g_b7
        have g_b8_ : M2 b8 = some (mI E 12 PI) := by rw [eM2]; exact mUp_at (nd_ne hnd 8 0 rfl rfl (by decide)) g_b8
        have g_b9_ : M2 b9 = some (mZ E 12 ON) := by rw [eM2]; exact mUp_at (nd_ne hnd 9 0 rfl rfl (by decide)) g_b9
        have g_b10_ : M2 b10 = some (mI E 12 PH) := by rw [eM2]; exact mUp_at (nd_ne hnd 10 0 rfl rfl (by decide)) g_b10
        have g_b11_ : M2 b11 = some (mDb E 12 LE) := by rw [eM2]; exact mUp_at (nd_ne hnd 11 0 rfl rfl (by decide)) g_b11
        have g_b12_ : M2 b12 = some (mI E 8 KD) := by rw [eM2]; exact mUp_at (nd_ne hnd 12 0 rfl rfl (by decide)) g_b12
        have g_b13_ : M2 b13 = some (mI E 8 NM) := by rw [eM2]; exact mUp_at (nd_ne hnd 13 0 rfl rfl (by decide)) g_b13
        have g_b14_ : M2 b14 = some (mI E 3 CT) := by rw [eM2]; exact mUp_at (nd_ne hnd 14 0 rfl rfl (by decide)) g_b14
        have g_b15_ : M2 b15 = some (mDb E 40 CM) := by rw [eM2]; exact mUp_at (nd_ne hnd 15 0 rfl rfl (by decide)) g_b15
        have g_b16_ : M2 b16 = some (mJ E 40 MV) := by rw [eM2]; exact mUp_at (nd_ne hnd 16 0 rfl rfl (by decide)) g_b16
        have g_b1 := g_b1_
        have g_b2 := g_b2_
        have g_b3 := g_b3_
        have g_b4 := g_b4_
        have g_b5 := g_b5_
        have g_b6 := g_b6_
        have g_b7 := g_b7_
        have g_b8 := g_b8_
        have g_b9 := g_b9_
        have g_b10 := g_b10_
        have g_b11 := g_b11_
        have g_b12 := g_b12_
        have g_b13 := g_b13_
        have g_b14 := g_b14_
        have g_b15 := g_b15_
        have g_b16 := g_b16_
        have g_y : M2 y = some (mO 8 [.ref b1, .ref b2, .ref b3, .ref b4, .ref b5, .int (nI nn), .ref b6, .ref b7, .ref b8, .ref b9, .ref b10, .ref b11, .int (nI nf), .ref b12, .ref b13, .int bd, .int st, .int (-3), .ref b14, .ref b15, .ref b16]) := by rw [eM2]; exact mUp_self _ _ _
        have hk : kept (nol y b1 b2 b3 b4 b5 b6 b7 b8 b9 b10 b11 b12 b13 b14 b15 b16) M M2 := (by rw [eM2]; exact hk.up (nol_in 0 rfl))
        refine lv_dstore (lv' := [(4, .double FP.dconst0), (3, .int (nI k9)), (0, .ref y), (1, .int fx), (2, .int fy)]) hx hb dX10_find_22 hl (by decide) rfl (fun ls hl => ?_)
        refine lv_aload_n hx hb dX10_find_24 rfl (lv_at hl 2 rfl) ?_
        refine m_get (ci := 8) (v := .int (-3)) (C := RX10) (T := TX10) (N := 21) hx hb hts in_X10_find_X10 hown hE hM g_y rfl 17 (by decide) (hts (.fieldLink RX10 112 "CallWays2Model" "failure" "I") (by decide +kernel)) (fun _ h9 => h9) rfl dX10_find_25 ?_
        refine lv_if_ne (tgt := 41) hx hb dX10_find_28 (by decide) (fun _ => ?_) (fun h9 => False.elim (by revert h9; exact (fun h => absurd h (by decide))))
        refine lv_iinc (v := ((nI k9) + 1)) (lv' := [(3, .int ((nI k9) + 1)), (4, .double FP.dconst0), (0, .ref y), (1, .int fx), (2, .int fy)]) hx hb dX10_find_41 hl (k := 1) rfl rfl (by decide) rfl (fun ls hl => ?_)
        refine lv_goto (tgt := 2) hx hb dX10_find_44 (by decide) ?_
        rw [nI_1] at hl
        exact ih (k9 + 1) (-3) M2 ls _ _ (by omega) (by rw [hsf, sFind, if_neg (fun q => q.1 hrf)]) (by rw [eM2, eM1, eMi]; simp only [mUp_up]) hM hS (lv_sub hl [0, 2, 3, 4] rfl)
      · rw [if_neg hrf] at e_r5 eM2
        subst e_r5
        have g_b1_ : M2 b1 = some (mI E 10 B) := by rw [eM2]; exact mUp_at (nd_ne hnd 1 0 rfl rfl (by decide)) g_b1
        have g_b2_ : M2 b2 = some (mI E 12 T) := by rw [eM2]; exact mUp_at (nd_ne hnd 2 0 rfl rfl (by decide)) g_b2
        have g_b3_ : M2 b3 = some (mI E 24 LN) := by rw [eM2]; exact mUp_at (nd_ne hnd 3 0 rfl rfl (by decide)) g_b3
        have g_b4_ : M2 b4 = some (mI E 24 SZ) := by rw [eM2]; exact mUp_at (nd_ne hnd 4 0 rfl rfl (by decide)) g_b4
        have g_b5_ : M2 b5 = some (mJ E 960 SM) := by rw [eM2]; exact mUp_at (nd_ne hnd 5 0 rfl rfl (by decide)) g_b5
        have g_b6_ : M2 b6 = some (mI E 12 SO) := by rw [eM2]; exact mUp_at (nd_ne hnd 6 0 rfl rfl (by decide)) g_b6
        have g_b7_ : M2 b7 = some (mI E 48 KN) := by rw [eM2]; exact mUp_at (nd_ne hnd 7 0 rfl rfl (by decide)) g_b7
        have g_b8_ : M2 b8 = some (mI E 12 PI) := by rw [eM2]; exact mUp_at (nd_ne hnd 8 0 rfl rfl (by decide)) g_b8
        have g_b9_ : M2 b9 = some (mZ E 12 ON) := by rw [eM2]; exact mUp_at (nd_ne hnd 9 0 rfl rfl (by decide)) g_b9
        have g_b10_ : M2 b10 = some (mI E 12 PH) := by rw [eM2]; exact mUp_at (nd_ne hnd 10 0 rfl rfl (by decide)) g_b10
        have g_b11_ : M2 b11 = some (mDb E 12 LE) := by rw [eM2]; exact mUp_at (nd_ne hnd 11 0 rfl rfl (by decide)) g_b11
        have g_b12_ : M2 b12 = some (mI E 8 KD) := by rw [eM2]; exact mUp_at (nd_ne hnd 12 0 rfl rfl (by decide)) g_b12
        have g_b13_ : M2 b13 = some (mI E 8 NM) := by rw [eM2]; exact mUp_at (nd_ne hnd 13 0 rfl rfl (by decide)) g_b13
        have g_b14_ : M2 b14 = some (mI E 3 CT) := by rw [eM2]; exact mUp_at (nd_ne hnd 14 0 rfl rfl (by decide)) g_b14
        have g_b15_ : M2 b15 = some (mDb E 40 CM) := by rw [eM2]; exact mUp_at (nd_ne hnd 15 0 rfl rfl (by decide)) g_b15
        have g_b16_ : M2 b16 = some (mJ E 40 MV) := by rw [eM2]; exact mUp_at (nd_ne hnd 16 0 rfl rfl (by decide)) g_b16
        have g_b1 := g_b1_
        have g_b2 := g_b2_
        have g_b3 := g_b3_
        have g_b4 := g_b4_
        have g_b5 := g_b5_
        have g_b6 := g_b6_
        have g_b7 := g_b7_
        have g_b8 := g_b8_
        have g_b9 := g_b9_
        have g_b10 := g_b10_
        have g_b11 := g_b11_
        have g_b12 := g_b12_
        have g_b13 := g_b13_
        have g_b14 := g_b14_
        have g_b15 := g_b15_
        have g_b16 := g_b16_
        have g_y : M2 y = some (mO 8 [.ref b1, .ref b2, .ref b3, .ref b4, .ref b5, .int (nI nn), .ref b6, .ref b7, .ref b8, .ref b9, .ref b10, .ref b11, .int (nI nf), .ref b12, .ref b13, .int bd, .int st, .int 0, .ref b14, .ref b15, .ref b16]) := by rw [eM2]; exact mUp_self _ _ _
        have hk : kept (nol y b1 b2 b3 b4 b5 b6 b7 b8 b9 b10 b11 b12 b13 b14 b15 b16) M M2 := (by rw [eM2]; exact hk.up (nol_in 0 rfl))
        refine lv_dstore (lv' := [(4, .double (sPass (fn k9).1 (FP.i2d (fn k9).2) (FP.i2d fx))), (3, .int (nI k9)), (0, .ref y), (1, .int fx), (2, .int fy)]) hx hb dX10_find_22 hl (by decide) rfl (fun ls hl => ?_)
        refine lv_aload_n hx hb dX10_find_24 rfl (lv_at hl 2 rfl) ?_
        refine m_get (ci := 8) (v := .int 0) (C := RX10) (T := TX10) (N := 21) hx hb hts in_X10_find_X10 hown hE hM g_y rfl 17 (by decide) (hts (.fieldLink RX10 112 "CallWays2Model" "failure" "I") (by decide +kernel)) (fun _ h9 => h9) rfl dX10_find_25 ?_
        refine lv_if_ne (tgt := 41) hx hb dX10_find_28 (by decide) (fun h9 => False.elim (by revert h9; exact (fun h => h rfl))) (fun _ => ?_)
        refine lv_dload hx hb dX10_find_31 (lv_at hl 0 rfl) ?_
        refine lv_iload_n hx hb dX10_find_33 rfl (lv_at hl 4 rfl) ?_
        refine lv_i2d hx hb dX10_find_34 ?_
        refine lv_dcmp hx hb dX10_find_35 ?_
        refine lv_if_ne (tgt := 41) hx hb dX10_find_36 (by decide) (fun c_36 => ?_) (fun c_36 => ?_)
        · skip
          rw [cmpv_eq] at c_36
          refine lv_iinc (v := ((nI k9) + 1)) (lv' := [(3, .int ((nI k9) + 1)), (4, .double (sPass (fn k9).1 (FP.i2d (fn k9).2) (FP.i2d fx))), (0, .ref y), (1, .int fx), (2, .int fy)]) hx hb dX10_find_41 hl (k := 1) rfl rfl (by decide) rfl (fun ls hl => ?_)
          refine lv_goto (tgt := 2) hx hb dX10_find_44 (by decide) ?_
          rw [nI_1] at hl
          exact ih (k9 + 1) 0 M2 ls _ _ (by omega) (by rw [hsf, sFind, if_neg (fun q => c_36 q.2)]) (by rw [eM2, eM1, eMi]; simp only [mUp_up]) hM hS (lv_sub hl [0, 2, 3, 4] rfl)
        · skip
          rw [cmpv_eq] at c_36
          refine lv_iload_n hx hb dX10_find_39 rfl (lv_at hl 1 rfl) ?_
          exact m_iret hx hb hr hlocks hM hS (Nat.le_refl _) (Nat.le_refl _) dX10_find_40 (by refine ⟨(by show _ = sFind fn fx fy 0 nf; rw [hsf, sFind]; exact (if_pos ⟨hrf, c_36⟩).symm), ⟨_, _, _, _, _, _, _, _, _, _, _, _, _, _, _, _, _, ⟨g_y, g_b1, g_b2, g_b3, g_b4, g_b5, g_b6, g_b7, g_b8, g_b9, g_b10, g_b11, g_b12, g_b13, g_b14, g_b15, g_b16⟩, hB, hT, hR, hN, hF, hc2, hc3, hc4⟩, hk⟩)
  refine lv_iconst (v := 0) hx hb dX10_find_0 (by decide) ?_
  refine lv_istore_n (lv' := [(3, .int 0), (0, .ref y), (1, .int fx), (2, .int fy)]) hx hb dX10_find_1 rfl hl (by decide) rfl (fun ls hl => ?_)
  exact loop nf 0 fa M ls _ _ (by omega) rfl (mUp_id g_y).symm hM hS (lv_sub hl [0, 1, 2, 3] rfl)
theorem in_X10_next_X10 : ∀ w ∈ wsX100, w ∈ wsX10_next := by decide +kernel
set_option maxHeartbeats 4000000 in
set_option maxRecDepth 100000 in
theorem c_X10_next (l : Launch) (E : mEnv) (M : mMem) (sz : Nat) (y b1 b2 b3 b4 b5 b6 b7 b8 b9 b10 b11 b12 b13 b14 b15 b16 nn nf : Nat) (ins : Nat → sIn) (fn : Nat → Int32 × Int32) (bk : Nat → Option Nat) (rw : Nat → sRw) (bd st c2 c3 c4 : Int32) (hV : Inv (nn, ins, nf, fn, bk, rw, bd, st, c2, c3, c4)) (hC : mR E M y b1 b2 b3 b4 b5 b6 b7 b8 b9 b10 b11 b12 b13 b14 b15 b16 (nn, ins, nf, fn, bk, rw, bd, st, c2, c3, c4)) (hnd : [y, b1, b2, b3, b4, b5, b6, b7, b8, b9, b10, b11, b12, b13, b14, b15, b16].Nodup) (i : Int32)    : Met l yX10_next wsX10_next ({ frames := 3, cells := 0, slots := 0, locals := 71 }) (mPre E M sz [.ref y, .int i]) (mQl E M sz (fun r u => r = aNext (nn, ins, nf, fn, bk, rw, bd, st, c2, c3, c4) i ∧ mR E u y b1 b2 b3 b4 b5 b6 b7 b8 b9 b10 b11 b12 b13 b14 b15 b16 (nNext (nn, ins, nf, fn, bk, rw, bd, st, c2, c3, c4) i) ∧ kept (nol y b1 b2 b3 b4 b5 b6 b7 b8 b9 b10 b11 b12 b13 b14 b15 b16) M u)) (0) (0) (mA M sz) := by
  refine m_met [.ref y, .int i] (by decide) rfl (Nat.le_of_ble_eq_true rfl) ?_
  intro p e s m below meth c ls H eH hx hb hr hts hown hlocks hnm hml hsz hE hM hS hA hl
  have hl : lv_has ls 7 [(0, .ref y), (1, .int i)] := hl
  have hC0 := hC
  obtain ⟨fa, B, T, LN, SZ, SM, SO, KN, PI, ON, PH, LE, KD, NM, CT, CM, MV, ⟨g_y, g_b1, g_b2, g_b3, g_b4, g_b5, g_b6, g_b7, g_b8, g_b9, g_b10, g_b11, g_b12, g_b13, g_b14, g_b15, g_b16⟩, hB, hT, hR, hN, hF, hc2, hc3, hc4⟩ := hC
  have hiK := hV.insK
  have h24t := hV.tb24
  have h40 := hV.n40
  obtain ⟨hnn, hnf, hvI, hvD, hv24, hvR, hvF⟩ := id hV
  have h24 : ∀ k, k < 10 → ∀ r, bk k = some r → r < 24 := fun k hk r hr => hv24 r (Or.inl ⟨k, hk, hr⟩)
  have hk : kept (nol y b1 b2 b3 b4 b5 b6 b7 b8 b9 b10 b11 b12 b13 b14 b15 b16) M M := kept.rf
  refine lv_aload_n hx hb dX10_next_0 rfl (lv_at hl 0 rfl) ?_
  refine lv_iload_n hx hb dX10_next_1 rfl (lv_at hl 1 rfl) ?_
  refine m_calli (va_runV (As := [.int i]) (rest := []) ⟨hx, hb, hml, hown, hts⟩ (c_X10_isInst l E M H.size y b1 b2 b3 b4 b5 b6 b7 b8 b9 b10 b11 b12 b13 b14 b15 b16 (nI nf) bd st fa nn hnn i g_y) (cwV 1 hts gX10_next_X10_isInstrument rfl rfl rfl (by decide +kernel) ⟨Nat.le_of_ble_eq_true rfl, Nat.le_of_ble_eq_true rfl⟩) (m_preV hE hM g_y rfl) rfl rfl hl.1 rfl (lv_room (Nat.le_of_ble_eq_true rfl)) dX10_next_2 ⟨Nat.le_of_ble_eq_true rfl, Nat.le_of_ble_eq_true rfl⟩) hM hS hA (fun r0 u H locs hw hM hS => ?_)
  obtain ⟨e_r0, eu⟩ := hw
  rw [eu] at hM
  subst e_r0
  refine lv_if_ne (tgt := 15) hx hb dX10_next_5 (by decide) (fun c_5 => ?_) (fun c_5 => ?_)
  · skip
    rw [bI_ne] at c_5
    obtain ⟨j, hj, hij, hjc⟩ := vI_ix c_5 hnn
    subst hij
    rcases hins : ins j with ⟨ci, kf, pi, on, ph, le, tb⟩
    obtain ⟨hSo, hKn, hPi, hOn, hPh, hLe⟩ := hN j (by omega) _ _ _ _ _ _ _ hins
    obtain ⟨hci, hle, hon⟩ := hvI j hj _ _ _ _ _ _ _ hins
    have htbj : tbs ins j = tb := (by show (ins j).2.2.2.2.2.2 = tb; rw [hins])
    have hTb := mTb_of hv24 hvR hR hj (tb := tb) (by rw [hins])
    have hto := tbOK_of hvR hj (tb := tb) (by rw [hins])
    have hgv : gvAt ins rw j = sGive ci kf pi on ph le (tb.map rw) := (by unfold gvAt; rw [hins])
    refine lv_aload_n hx hb dX10_next_15 rfl (lv_at hl 0 rfl) ?_
    refine m_get (ci := 8) (v := .ref b10) (C := RX10) (T := TX10) (N := 21) hx hb hts in_X10_next_X10 hown hE hM g_y rfl 10 (by decide) (hts (.fieldLink RX10 39 "CallWays2Model" "phases" "[I") (by decide +kernel)) (fun _ h9 => h9) rfl dX10_next_16 ?_
    refine lv_iload_n hx hb dX10_next_19 rfl (lv_at hl 1 rfl) ?_
    refine m_iald hx hb hE hM g_b10 (vp_in_nI (by omega) (by decide)) dX10_next_20 ?_
    rw [show PH (nI j).toNatClampNeg = ph from by rw [nI_clamp (by omega), hPh]]
    refine lv_istore_n (lv' := [(2, .int ph), (0, .ref y), (1, .int (nI j))]) hx hb dX10_next_21 rfl hl (by decide) rfl (fun ls hl => ?_)
    refine lv_aload_n hx hb dX10_next_22 rfl (lv_at hl 1 rfl) ?_
    refine m_get (ci := 8) (v := .ref b11) (C := RX10) (T := TX10) (N := 21) hx hb hts in_X10_next_X10 hown hE hM g_y rfl 11 (by decide) (hts (.fieldLink RX10 42 "CallWays2Model" "levels" "[D") (by decide +kernel)) (fun _ h9 => h9) rfl dX10_next_23 ?_
    refine lv_iload_n hx hb dX10_next_26 rfl (lv_at hl 2 rfl) ?_
    refine m_dald hx hb hE hM g_b11 (vp_in_nI (by omega) (by decide)) dX10_next_27 ?_
    rw [show LE (nI j).toNatClampNeg = LE j from by rw [nI_clamp (by omega)]]
    refine lv_dstore_n (lv' := [(3, .double (LE j)), (2, .int ph), (0, .ref y), (1, .int (nI j))]) hx hb dX10_next_28 rfl hl (by decide) rfl (fun ls hl => ?_)
    refine lv_aload_n hx hb dX10_next_29 rfl (lv_at hl 2 rfl) ?_
    refine lv_iload_n hx hb dX10_next_30 rfl (lv_at hl 3 rfl) ?_
    refine m_calld (va_runV (As := [.int (nI j)]) (rest := []) ⟨hx, hb, hml, hown, hts⟩ (c_X10_sample l E M H.size y b1 b2 b3 b4 b5 b6 b7 b8 b9 b10 b11 b12 b13 b14 b15 b16 (nI nn) (nI nf) bd st fa T LN SZ SM SO KN PI ON PH LE j (by omega) ci hci kf pi on ph le tb rw (hSo hj) hKn hPi hOn hPh (fun q => hLe (Or.inr q)) hle (by rw [hT j (by omega), htbj]) hTb (nd_ne hnd 2 10 rfl rfl (by decide)) (nd_ne hnd 6 10 rfl rfl (by decide)) (nd_ne hnd 8 10 rfl rfl (by decide)) (nd_ne hnd 9 10 rfl rfl (by decide)) g_y g_b2 g_b3 g_b4 g_b5 g_b6 g_b7 g_b8 g_b9 g_b10 g_b11) (cwV 1 hts gX10_next_X10_sample rfl rfl rfl (by decide +kernel) ⟨Nat.le_of_ble_eq_true rfl, Nat.le_of_ble_eq_true rfl⟩) (m_preV hE hM g_y rfl) rfl rfl hl.1 rfl (lv_room (Nat.le_of_ble_eq_true rfl)) dX10_next_31 ⟨Nat.le_of_ble_eq_true rfl, Nat.le_of_ble_eq_true rfl⟩) hM hS hA (fun r6 M1 H locs hw hM hS => ?_)
    obtain ⟨e_r6, eM1⟩ := hw
    subst e_r6
    have g_b1_ : M1 b1 = some (mI E 10 B) := by rw [eM1]; exact tri_ne g_b1 (nd_ne hnd 1 0 rfl rfl (by decide)) (nd_ne hnd 1 10 rfl rfl (by decide)) (nd_ne hnd 1 11 rfl rfl (by decide))
    have g_b2_ : M1 b2 = some (mI E 12 T) := by rw [eM1]; exact tri_ne g_b2 (nd_ne hnd 2 0 rfl rfl (by decide)) (nd_ne hnd 2 10 rfl rfl (by decide)) (nd_ne hnd 2 11 rfl rfl (by decide))
    have g_b3_ : M1 b3 = some (mI E 24 LN) := by rw [eM1]; exact tri_ne g_b3 (nd_ne hnd 3 0 rfl rfl (by decide)) (nd_ne hnd 3 10 rfl rfl (by decide)) (nd_ne hnd 3 11 rfl rfl (by decide))
    have g_b4_ : M1 b4 = some (mI E 24 SZ) := by rw [eM1]; exact tri_ne g_b4 (nd_ne hnd 4 0 rfl rfl (by decide)) (nd_ne hnd 4 10 rfl rfl (by decide)) (nd_ne hnd 4 11 rfl rfl (by decide))
    have g_b5_ : M1 b5 = some (mJ E 960 SM) := by rw [eM1]; exact tri_ne g_b5 (nd_ne hnd 5 0 rfl rfl (by decide)) (nd_ne hnd 5 10 rfl rfl (by decide)) (nd_ne hnd 5 11 rfl rfl (by decide))
    have g_b6_ : M1 b6 = some (mI E 12 SO) := by rw [eM1]; exact tri_ne g_b6 (nd_ne hnd 6 0 rfl rfl (by decide)) (nd_ne hnd 6 10 rfl rfl (by decide)) (nd_ne hnd 6 11 rfl rfl (by decide))
    have g_b7_ : M1 b7 = some (mI E 48 KN) := by rw [eM1]; exact tri_ne g_b7 (nd_ne hnd 7 0 rfl rfl (by decide)) (nd_ne hnd 7 10 rfl rfl (by decide)) (nd_ne hnd 7 11 rfl rfl (by decide))
    have g_b8_ : M1 b8 = some (mI E 12 PI) := by rw [eM1]; exact tri_ne g_b8 (nd_ne hnd 8 0 rfl rfl (by decide)) (nd_ne hnd 8 10 rfl rfl (by decide)) (nd_ne hnd 8 11 rfl rfl (by decide))
    have g_b9_ : M1 b9 = some (mZ E 12 ON) := by rw [eM1]; exact tri_ne g_b9 (nd_ne hnd 9 0 rfl rfl (by decide)) (nd_ne hnd 9 10 rfl rfl (by decide)) (nd_ne hnd 9 11 rfl rfl (by decide))
    have g_b12_ : M1 b12 = some (mI E 8 KD) := by rw [eM1]; exact tri_ne g_b12 (nd_ne hnd 12 0 rfl rfl (by decide)) (nd_ne hnd 12 10 rfl rfl (by decide)) (nd_ne hnd 12 11 rfl rfl (by decide))
    have g_b13_ : M1 b13 = some (mI E 8 NM) := by rw [eM1]; exact tri_ne g_b13 (nd_ne hnd 13 0 rfl rfl (by decide)) (nd_ne hnd 13 10 rfl rfl (by decide)) (nd_ne hnd 13 11 rfl rfl (by decide))
    have g_b14_ : M1 b14 = some (mI E 3 CT) := by rw [eM1]; exact tri_ne g_b14 (nd_ne hnd 14 0 rfl rfl (by decide)) (nd_ne hnd 14 10 rfl rfl (by decide)) (nd_ne hnd 14 11 rfl rfl (by decide))
    have g_b15_ : M1 b15 = some (mDb E 40 CM) := by rw [eM1]; exact tri_ne g_b15 (nd_ne hnd 15 0 rfl rfl (by decide)) (nd_ne hnd 15 10 rfl rfl (by decide)) (nd_ne hnd 15 11 rfl rfl (by decide))
    have g_b16_ : M1 b16 = some (mJ E 40 MV) := by rw [eM1]; exact tri_ne g_b16 (nd_ne hnd 16 0 rfl rfl (by decide)) (nd_ne hnd 16 10 rfl rfl (by decide)) (nd_ne hnd 16 11 rfl rfl (by decide))
    have g_b1 := g_b1_
    have g_b2 := g_b2_
    have g_b3 := g_b3_
    have g_b4 := g_b4_
    have g_b5 := g_b5_
    have g_b6 := g_b6_
    have g_b7 := g_b7_
    have g_b8 := g_b8_
    have g_b9 := g_b9_
    have g_b12 := g_b12_
    have g_b13 := g_b13_
    have g_b14 := g_b14_
    have g_b15 := g_b15_
    have g_b16 := g_b16_
    have g_y : M1 y = some (mO 8 [.ref b1, .ref b2, .ref b3, .ref b4, .ref b5, .int (nI nn), .ref b6, .ref b7, .ref b8, .ref b9, .ref b10, .ref b11, .int (nI nf), .ref b12, .ref b13, .int bd, .int st, .int ((sGive ci kf pi on ph le (tb.map rw)).1), .ref b14, .ref b15, .ref b16]) := by rw [eM1]; exact tri_gp (nd_ne hnd 0 10 rfl rfl (by decide)) (nd_ne hnd 0 11 rfl rfl (by decide))
    have g_b10 : M1 b10 = some (mI E 12 (upd PH j (ph + 1))) := by rw [eM1]; exact tri_gx (nd_ne hnd 10 11 rfl rfl (by decide))
    have g_b11 : M1 b11 = some (mDb E 12 (sLE ci LE j (sGive ci kf pi on ph le (tb.map rw)).2.2)) := by rw [eM1]; exact tri_ga
    have hk : kept (nol y b1 b2 b3 b4 b5 b6 b7 b8 b9 b10 b11 b12 b13 b14 b15 b16) M M1 := (by rw [eM1]; exact hk.tri (nol_in 0 rfl) (nol_in 10 rfl) (nol_in 11 rfl))
    refine lv_dstore (lv' := [(5, .double ((sGive ci kf pi on ph le (tb.map rw)).2.1)), (3, .double (LE j)), (2, .int ph), (0, .ref y), (1, .int (nI j))]) hx hb dX10_next_34 hl (by decide) rfl (fun ls hl => ?_)
    refine lv_aload_n hx hb dX10_next_36 rfl (lv_at hl 3 rfl) ?_
    refine m_get (ci := 8) (v := .ref b10) (C := RX10) (T := TX10) (N := 21) hx hb hts in_X10_next_X10 hown hE hM g_y rfl 10 (by decide) (hts (.fieldLink RX10 39 "CallWays2Model" "phases" "[I") (by decide +kernel)) (fun _ h9 => h9) rfl dX10_next_37 ?_
    refine lv_iload_n hx hb dX10_next_40 rfl (lv_at hl 4 rfl) ?_
    refine lv_iload_n hx hb dX10_next_41 rfl (lv_at hl 2 rfl) ?_
    refine m_iast hx hb hE hM hS g_b10 (vp_in_nI (by omega) (by decide)) dX10_next_42 (fun H locs hM hS => ?_)
    rw [show upd (upd PH j (ph + 1)) (nI j).toNatClampNeg ph = PH from by rw [nI_clamp (by omega), upd_up, up_id hPh]] at hM
    have hM : mOK E.1 (mA M sz) (mUp M1 b10 (mI E 12 PH)) H := hM
    obtain ⟨M2, eM2⟩ : ∃ z, z = mUp M1 b10 (mI E 12 PH) := ⟨_, rfl⟩
    rw [← eM2] at hM
    have g_y_ : M2 y = some (mO 8 [.ref b1, .ref b2, .ref b3, .ref b4, .ref b5, .int (nI nn), .ref b6, .ref b7, .ref b8, .ref b9, .ref b10, .ref b11, .int (nI nf), .ref b12, .ref b13, .int bd, .int st, .int ((sGive ci kf pi on ph le (tb.map rw)).1), .ref b14, .ref b15, .ref b16]) := by rw [eM2]; exact mUp_at (nd_ne hnd 0 10 rfl rfl (by decide)) g_y
    have g_b1_ : M2 b1 = some (mI E 10 B) := by rw [eM2]; exact mUp_at (nd_ne hnd 1 10 rfl rfl (by decide)) g_b1
    have g_b2_ : M2 b2 = some (mI E 12 T) := by rw [eM2]; exact mUp_at (nd_ne hnd 2 10 rfl rfl (by decide)) g_b2
    have g_b3_ : M2 b3 = some (mI E 24 LN) := by rw [eM2]; exact mUp_at (nd_ne hnd 3 10 rfl rfl (by decide)) g_b3
    have g_b4_ : M2 b4 = some (mI E 24 SZ) := by rw [eM2]; exact mUp_at (nd_ne hnd 4 10 rfl rfl (by decide)) g_b4
    have g_b5_ : M2 b5 = some (mJ E 960 SM) := by rw [eM2]; exact mUp_at (nd_ne hnd 5 10 rfl rfl (by decide)) g_b5
    have g_b6_ : M2 b6 = some (mI E 12 SO) := by rw [eM2]; exact mUp_at (nd_ne hnd 6 10 rfl rfl (by decide)) g_b6
    have g_b7_ : M2 b7 = some (mI E 48 KN) := by rw [eM2]; exact mUp_at (nd_ne hnd 7 10 rfl rfl (by decide)) g_b7
    have g_b8_ : M2 b8 = some (mI E 12 PI) := by rw [eM2]; exact mUp_at (nd_ne hnd 8 10 rfl rfl (by decide)) g_b8
    have g_b9_ : M2 b9 = some (mZ E 12 ON) := by rw [eM2]; exact mUp_at (nd_ne hnd 9 10 rfl rfl (by decide)) g_b9
    have g_b11_ : M2 b11 = some (mDb E 12 (sLE ci LE j (sGive ci kf pi on ph le (tb.map rw)).2.2)) := by rw [eM2]; exact mUp_at (nd_ne hnd 11 10 rfl rfl (by decide)) g_b11
    have g_b12_ : M2 b12 = some (mI E 8 KD) := by rw [eM2]; exact mUp_at (nd_ne hnd 12 10 rfl rfl (by decide)) g_b12
    have g_b13_ : M2 b13 = some (mI E 8 NM) := by rw [eM2]; exact mUp_at (nd_ne hnd 13 10 rfl rfl (by decide)) g_b13
    have g_b14_ : M2 b14 = some (mI E 3 CT) := by rw [eM2]; exact mUp_at (nd_ne hnd 14 10 rfl rfl (by decide)) g_b14
    have g_b15_ : M2 b15 = some (mDb E 40 CM) := by rw [eM2]; exact mUp_at (nd_ne hnd 15 10 rfl rfl (by decide)) g_b15
    have g_b16_ : M2 b16 = some (mJ E 40 MV) := by rw [eM2]; exact mUp_at (nd_ne hnd 16 10 rfl rfl (by decide)) g_b16
    have g_y := g_y_
    have g_b1 := g_b1_
    have g_b2 := g_b2_
    have g_b3 := g_b3_
    have g_b4 := g_b4_
    have g_b5 := g_b5_
    have g_b6 := g_b6_
    have g_b7 := g_b7_
    have g_b8 := g_b8_
    have g_b9 := g_b9_
    have g_b11 := g_b11_
    have g_b12 := g_b12_
    have g_b13 := g_b13_
    have g_b14 := g_b14_
    have g_b15 := g_b15_
    have g_b16 := g_b16_
    have g_b10 : M2 b10 = some (mI E 12 PH) := by rw [eM2]; exact mUp_self _ _ _
    have hk : kept (nol y b1 b2 b3 b4 b5 b6 b7 b8 b9 b10 b11 b12 b13 b14 b15 b16) M M2 := (by rw [eM2]; exact hk.up (nol_in 10 rfl))
    refine lv_aload_n hx hb dX10_next_43 rfl (lv_at hl 3 rfl) ?_
    refine m_get (ci := 8) (v := .ref b11) (C := RX10) (T := TX10) (N := 21) hx hb hts in_X10_next_X10 hown hE hM g_y rfl 11 (by decide) (hts (.fieldLink RX10 42 "CallWays2Model" "levels" "[D") (by decide +kernel)) (fun _ h9 => h9) rfl dX10_next_44 ?_
    refine lv_iload_n hx hb dX10_next_47 rfl (lv_at hl 4 rfl) ?_
    refine lv_dload_n hx hb dX10_next_48 rfl (lv_at hl 1 rfl) ?_
    refine m_dast hx hb hE hM hS g_b11 (vp_in_nI (by omega) (by decide)) dX10_next_49 (fun H locs hM hS => ?_)
    rw [show vf_upd (sLE ci LE j (sGive ci kf pi on ph le (tb.map rw)).2.2) (nI j).toNatClampNeg (LE j) = LE from by rw [nI_clamp (by omega), sLE_back]] at hM
    have hM : mOK E.1 (mA M sz) (mUp M2 b11 (mDb E 12 LE)) H := hM
    obtain ⟨M3, eM3⟩ : ∃ z, z = mUp M2 b11 (mDb E 12 LE) := ⟨_, rfl⟩
    rw [← eM3] at hM
    have g_y_ : M3 y = some (mO 8 [.ref b1, .ref b2, .ref b3, .ref b4, .ref b5, .int (nI nn), .ref b6, .ref b7, .ref b8, .ref b9, .ref b10, .ref b11, .int (nI nf), .ref b12, .ref b13, .int bd, .int st, .int ((sGive ci kf pi on ph le (tb.map rw)).1), .ref b14, .ref b15, .ref b16]) := by rw [eM3]; exact mUp_at (nd_ne hnd 0 11 rfl rfl (by decide)) g_y
    have g_b1_ : M3 b1 = some (mI E 10 B) := by rw [eM3]; exact mUp_at (nd_ne hnd 1 11 rfl rfl (by decide)) g_b1
    have g_b2_ : M3 b2 = some (mI E 12 T) := by rw [eM3]; exact mUp_at (nd_ne hnd 2 11 rfl rfl (by decide)) g_b2
    have g_b3_ : M3 b3 = some (mI E 24 LN) := by rw [eM3]; exact mUp_at (nd_ne hnd 3 11 rfl rfl (by decide)) g_b3
    have g_b4_ : M3 b4 = some (mI E 24 SZ) := by rw [eM3]; exact mUp_at (nd_ne hnd 4 11 rfl rfl (by decide)) g_b4
    have g_b5_ : M3 b5 = some (mJ E 960 SM) := by rw [eM3]; exact mUp_at (nd_ne hnd 5 11 rfl rfl (by decide)) g_b5
    have g_b6_ : M3 b6 = some (mI E 12 SO) := by rw [eM3]; exact mUp_at (nd_ne hnd 6 11 rfl rfl (by decide)) g_b6
    have g_b7_ : M3 b7 = some (mI E 48 KN) := by rw [eM3]; exact mUp_at (nd_ne hnd 7 11 rfl rfl (by decide)) g_b7
    have g_b8_ : M3 b8 = some (mI E 12 PI) := by rw [eM3]; exact mUp_at (nd_ne hnd 8 11 rfl rfl (by decide)) g_b8
    have g_b9_ : M3 b9 = some (mZ E 12 ON) := by rw [eM3]; exact mUp_at (nd_ne hnd 9 11 rfl rfl (by decide)) g_b9
    have g_b10_ : M3 b10 = some (mI E 12 PH) := by rw [eM3]; exact mUp_at (nd_ne hnd 10 11 rfl rfl (by decide)) g_b10
    have g_b12_ : M3 b12 = some (mI E 8 KD) := by rw [eM3]; exact mUp_at (nd_ne hnd 12 11 rfl rfl (by decide)) g_b12
    have g_b13_ : M3 b13 = some (mI E 8 NM) := by rw [eM3]; exact mUp_at (nd_ne hnd 13 11 rfl rfl (by decide)) g_b13
    have g_b14_ : M3 b14 = some (mI E 3 CT) := by rw [eM3]; exact mUp_at (nd_ne hnd 14 11 rfl rfl (by decide)) g_b14
    have g_b15_ : M3 b15 = some (mDb E 40 CM) := by rw [eM3]; exact mUp_at (nd_ne hnd 15 11 rfl rfl (by decide)) g_b15
    have g_b16_ : M3 b16 = some (mJ E 40 MV) := by rw [eM3]; exact mUp_at (nd_ne hnd 16 11 rfl rfl (by decide)) g_b16
    have g_y := g_y_
    have g_b1 := g_b1_
    have g_b2 := g_b2_
    have g_b3 := g_b3_
    have g_b4 := g_b4_
    have g_b5 := g_b5_
    have g_b6 := g_b6_
    have g_b7 := g_b7_
    have g_b8 := g_b8_
    have g_b9 := g_b9_
    have g_b10 := g_b10_
    have g_b12 := g_b12_
    have g_b13 := g_b13_
    have g_b14 := g_b14_
    have g_b15 := g_b15_
    have g_b16 := g_b16_
    have g_b11 : M3 b11 = some (mDb E 12 LE) := by rw [eM3]; exact mUp_self _ _ _
    have hk : kept (nol y b1 b2 b3 b4 b5 b6 b7 b8 b9 b10 b11 b12 b13 b14 b15 b16) M M3 := (by rw [eM3]; exact hk.up (nol_in 11 rfl))
    refine lv_aload_n hx hb dX10_next_50 rfl (lv_at hl 3 rfl) ?_
    refine lv_aload_n hx hb dX10_next_51 rfl (lv_at hl 3 rfl) ?_
    refine m_get (ci := 8) (v := .int ((sGive ci kf pi on ph le (tb.map rw)).1)) (C := RX10) (T := TX10) (N := 21) hx hb hts in_X10_next_X10 hown hE hM g_y rfl 17 (by decide) (hts (.fieldLink RX10 112 "CallWays2Model" "failure" "I") (by decide +kernel)) (fun _ h9 => h9) rfl dX10_next_52 ?_
    refine m_put (ci := 8) (v := .int ((sGive ci kf pi on ph le (tb.map rw)).1)) (ty := .int) (C := RX10) (T := TX10) (N := 21) hx hb hts in_X10_next_X10 tyX10 tyX10_ok nmX10 hown hE hM hS g_y rfl 16 (by decide) (hts (.fieldLink RX10 72 "CallWays2Model" "stateNow" "I") (by decide +kernel)) (fun _ h9 => h9) rfl (by decide +kernel) rfl rfl (Nat.le_of_ble_eq_true rfl) dX10_next_55 (fun H locs hM hS => ?_)
    have hM : mOK E.1 (mA M sz) (mUp M3 y (mO 8 [.ref b1, .ref b2, .ref b3, .ref b4, .ref b5, .int (nI nn), .ref b6, .ref b7, .ref b8, .ref b9, .ref b10, .ref b11, .int (nI nf), .ref b12, .ref b13, .int bd, .int ((sGive ci kf pi on ph le (tb.map rw)).1), .int ((sGive ci kf pi on ph le (tb.map rw)).1), .ref b14, .ref b15, .ref b16])) H := hM
    obtain ⟨M4, eM4⟩ : ∃ z, z = mUp M3 y (mO 8 [.ref b1, .ref b2, .ref b3, .ref b4, .ref b5, .int (nI nn), .ref b6, .ref b7, .ref b8, .ref b9, .ref b10, .ref b11, .int (nI nf), .ref b12, .ref b13, .int bd, .int ((sGive ci kf pi on ph le (tb.map rw)).1), .int ((sGive ci kf pi on ph le (tb.map rw)).1), .ref b14, .ref b15, .ref b16]) := ⟨_, rfl⟩
    rw [← eM4] at hM
    have g_b1_ : M4 b1 = some (mI E 10 B) := by rw [eM4]; exact mUp_at (nd_ne hnd 1 0 rfl rfl (by decide)) g_b1
    have g_b2_ : M4 b2 = some (mI E 12 T) := by rw [eM4]; exact mUp_at (nd_ne hnd 2 0 rfl rfl (by decide)) g_b2
    have g_b3_ : M4 b3 = some (mI E 24 LN) := by rw [eM4]; exact mUp_at (nd_ne hnd 3 0 rfl rfl (by decide)) g_b3
    have g_b4_ : M4 b4 = some (mI E 24 SZ) := by rw [eM4]; exact mUp_at (nd_ne hnd 4 0 rfl rfl (by decide)) g_b4
    have g_b5_ : M4 b5 = some (mJ E 960 SM) := by rw [eM4]; exact mUp_at (nd_ne hnd 5 0 rfl rfl (by decide)) g_b5
    have g_b6_ : M4 b6 = some (mI E 12 SO) := by rw [eM4]; exact mUp_at (nd_ne hnd 6 0 rfl rfl (by decide)) g_b6
    have g_b7_ : M4 b7 = some (mI E 48 KN) := by rw [eM4]; exact mUp_at (nd_ne hnd 7 0 rfl rfl (by decide)) g_b7
    have g_b8_ : M4 b8 = some (mI E 12 PI) := by rw [eM4]; exact mUp_at (nd_ne hnd 8 0 rfl rfl (by decide)) g_b8
    have g_b9_ : M4 b9 = some (mZ E 12 ON) := by rw [eM4]; exact mUp_at (nd_ne hnd 9 0 rfl rfl (by decide)) g_b9
    have g_b10_ : M4 b10 = some (mI E 12 PH) := by rw [eM4]; exact mUp_at (nd_ne hnd 10 0 rfl rfl (by decide)) g_b10
    have g_b11_ : M4 b11 = some (mDb E 12 LE) := by rw [eM4]; exact mUp_at (nd_ne hnd 11 0 rfl rfl (by decide)) g_b11
    have g_b12_ : M4 b12 = some (mI E 8 KD) := by rw [eM4]; exact mUp_at (nd_ne hnd 12 0 rfl rfl (by decide)) g_b12
    have g_b13_ : M4 b13 = some (mI E 8 NM) := by rw [eM4]; exact mUp_at (nd_ne hnd 13 0 rfl rfl (by decide)) g_b13
    have g_b14_ : M4 b14 = some (mI E 3 CT) := by rw [eM4]; exact mUp_at (nd_ne hnd 14 0 rfl rfl (by decide)) g_b14
    have g_b15_ : M4 b15 = some (mDb E 40 CM) := by rw [eM4]; exact mUp_at (nd_ne hnd 15 0 rfl rfl (by decide)) g_b15
    have g_b16_ : M4 b16 = some (mJ E 40 MV) := by rw [eM4]; exact mUp_at (nd_ne hnd 16 0 rfl rfl (by decide)) g_b16
    have g_b1 := g_b1_
    have g_b2 := g_b2_
    have g_b3 := g_b3_
    have g_b4 := g_b4_
    have g_b5 := g_b5_
    have g_b6 := g_b6_
    have g_b7 := g_b7_
    have g_b8 := g_b8_
    have g_b9 := g_b9_
    have g_b10 := g_b10_
    have g_b11 := g_b11_
    have g_b12 := g_b12_
    have g_b13 := g_b13_
    have g_b14 := g_b14_
    have g_b15 := g_b15_
    have g_b16 := g_b16_
    have g_y : M4 y = some (mO 8 [.ref b1, .ref b2, .ref b3, .ref b4, .ref b5, .int (nI nn), .ref b6, .ref b7, .ref b8, .ref b9, .ref b10, .ref b11, .int (nI nf), .ref b12, .ref b13, .int bd, .int ((sGive ci kf pi on ph le (tb.map rw)).1), .int ((sGive ci kf pi on ph le (tb.map rw)).1), .ref b14, .ref b15, .ref b16]) := by rw [eM4]; exact mUp_self _ _ _
    have hk : kept (nol y b1 b2 b3 b4 b5 b6 b7 b8 b9 b10 b11 b12 b13 b14 b15 b16) M M4 := (by rw [eM4]; exact hk.up (nol_in 0 rfl))
    refine lv_aload_n hx hb dX10_next_58 rfl (lv_at hl 3 rfl) ?_
    refine m_get (ci := 8) (v := .int ((sGive ci kf pi on ph le (tb.map rw)).1)) (C := RX10) (T := TX10) (N := 21) hx hb hts in_X10_next_X10 hown hE hM g_y rfl 17 (by decide) (hts (.fieldLink RX10 112 "CallWays2Model" "failure" "I") (by decide +kernel)) (fun _ h9 => h9) rfl dX10_next_59 ?_
    refine lv_if_ne (tgt := 73) hx hb dX10_next_62 (by decide) (fun c_62 => ?_) (fun c_62 => ?_)
    · skip
      refine lv_lconst (v := 0) hx hb dX10_next_73 (by decide) ?_
      exact m_lret hx hb hr hlocks hM hS (Nat.le_refl _) (Nat.le_refl _) dX10_next_74 (by refine ⟨(by show _ = (if vI nn (nI j) then (if (gvAt ins rw (nI j).toNatClampNeg).1 = 0 then (gvAt ins rw (nI j).toNatClampNeg).2.1.toInt64 else 0) else 0); rw [if_pos c_5, hjc, hgv]; exact (if_neg c_62).symm), ?_, hk⟩; show mR E _ y b1 b2 b3 b4 b5 b6 b7 b8 b9 b10 b11 b12 b13 b14 b15 b16 (nn, ins, nf, fn, bk, rw, bd, (if vI nn (nI j) then (gvAt ins rw (nI j).toNatClampNeg).1 else -1), c2, c3, c4); rw [if_pos c_5, hjc, hgv]; exact ⟨_, _, _, _, _, _, _, _, _, _, _, _, _, _, _, _, _, ⟨g_y, g_b1, g_b2, g_b3, g_b4, g_b5, g_b6, g_b7, g_b8, g_b9, g_b10, g_b11, g_b12, g_b13, g_b14, g_b15, g_b16⟩, hB, hT, hR, hN, hF, hc2, hc3, hc4⟩)
    · skip
      refine lv_dload hx hb dX10_next_65 (lv_at hl 0 rfl) ?_
      refine m_calll (va_runS (As := [.double ((sGive ci kf pi on ph le (tb.map rw)).2.1)]) (rest := []) ⟨hx, hb, hml, hown, hts⟩ (c_JDbits l E M4 H.size (sGive ci kf pi on ph le (tb.map rw)).2.1 ((dB_give hle hto).fin (by decide))) (va_cwS 1 hts gX10_next_Jxe99ae_doubleToLongBits_ccdee rfl rfl rfl (by decide +kernel) ⟨Nat.le_of_ble_eq_true rfl, Nat.le_of_ble_eq_true rfl⟩) (m_preS hE hM) rfl rfl hl.1 rfl (lv_room (Nat.le_of_ble_eq_true rfl)) dX10_next_67 ⟨Nat.le_of_ble_eq_true rfl, Nat.le_of_ble_eq_true rfl⟩) hM hS hA (fun r7 u H locs hw hM hS => ?_)
      obtain ⟨e_r7, eu⟩ := hw
      rw [eu] at hM
      subst e_r7
      refine lv_goto (tgt := 74) hx hb dX10_next_70 (by decide) ?_
      exact m_lret hx hb hr hlocks hM hS (Nat.le_refl _) (Nat.le_refl _) dX10_next_74 (by refine ⟨(by show _ = (if vI nn (nI j) then (if (gvAt ins rw (nI j).toNatClampNeg).1 = 0 then (gvAt ins rw (nI j).toNatClampNeg).2.1.toInt64 else 0) else 0); rw [if_pos c_5, hjc, hgv]; exact (if_pos c_62).symm), ?_, hk⟩; show mR E _ y b1 b2 b3 b4 b5 b6 b7 b8 b9 b10 b11 b12 b13 b14 b15 b16 (nn, ins, nf, fn, bk, rw, bd, (if vI nn (nI j) then (gvAt ins rw (nI j).toNatClampNeg).1 else -1), c2, c3, c4); rw [if_pos c_5, hjc, hgv]; exact ⟨_, _, _, _, _, _, _, _, _, _, _, _, _, _, _, _, _, ⟨g_y, g_b1, g_b2, g_b3, g_b4, g_b5, g_b6, g_b7, g_b8, g_b9, g_b10, g_b11, g_b12, g_b13, g_b14, g_b15, g_b16⟩, hB, hT, hR, hN, hF, hc2, hc3, hc4⟩)
  · skip
    rw [bI_eq] at c_5
    refine lv_aload_n hx hb dX10_next_8 rfl (lv_at hl 0 rfl) ?_
    refine lv_iconst (v := -1) hx hb dX10_next_9 (by decide) ?_
    refine m_put (ci := 8) (v := .int (-1)) (ty := .int) (C := RX10) (T := TX10) (N := 21) hx hb hts in_X10_next_X10 tyX10 tyX10_ok nmX10 hown hE hM hS g_y rfl 16 (by decide) (hts (.fieldLink RX10 72 "CallWays2Model" "stateNow" "I") (by decide +kernel)) (fun _ h9 => h9) rfl (by decide +kernel) rfl rfl (Nat.le_of_ble_eq_true rfl) dX10_next_10 (fun H locs hM hS => ?_)
    have hM : mOK E.1 (mA M sz) (mUp M y (mO 8 [.ref b1, .ref b2, .ref b3, .ref b4, .ref b5, .int (nI nn), .ref b6, .ref b7, .ref b8, .ref b9, .ref b10, .ref b11, .int (nI nf), .ref b12, .ref b13, .int bd, .int (-1), .int fa, .ref b14, .ref b15, .ref b16])) H := hM
    obtain ⟨M5, eM5⟩ : ∃ z, z = mUp M y (mO 8 [.ref b1, .ref b2, .ref b3, .ref b4, .ref b5, .int (nI nn), .ref b6, .ref b7, .ref b8, .ref b9, .ref b10, .ref b11, .int (nI nf), .ref b12, .ref b13, .int bd, .int (-1), .int fa, .ref b14, .ref b15, .ref b16]) := ⟨_, rfl⟩
    rw [← eM5] at hM
    have g_b1_ : M5 b1 = some (mI E 10 B) := by rw [eM5]; exact mUp_at (nd_ne hnd 1 0 rfl rfl (by decide)) g_b1
    have g_b2_ : M5 b2 = some (mI E 12 T) := by rw [eM5]; exact mUp_at (nd_ne hnd 2 0 rfl rfl (by decide)) g_b2
    have g_b3_ : M5 b3 = some (mI E 24 LN) := by rw [eM5]; exact mUp_at (nd_ne hnd 3 0 rfl rfl (by decide)) g_b3
    have g_b4_ : M5 b4 = some (mI E 24 SZ) := by rw [eM5]; exact mUp_at (nd_ne hnd 4 0 rfl rfl (by decide)) g_b4
    have g_b5_ : M5 b5 = some (mJ E 960 SM) := by rw [eM5]; exact mUp_at (nd_ne hnd 5 0 rfl rfl (by decide)) g_b5
    have g_b6_ : M5 b6 = some (mI E 12 SO) := by rw [eM5]; exact mUp_at (nd_ne hnd 6 0 rfl rfl (by decide)) g_b6
    have g_b7_ : M5 b7 = some (mI E 48 KN) := by rw [eM5]; exact mUp_at (nd_ne hnd 7 0 rfl rfl (by decide)) g_b7
    have g_b8_ : M5 b8 = some (mI E 12 PI) := by rw [eM5]; exact mUp_at (nd_ne hnd 8 0 rfl rfl (by decide)) g_b8
    have g_b9_ : M5 b9 = some (mZ E 12 ON) := by rw [eM5]; exact mUp_at (nd_ne hnd 9 0 rfl rfl (by decide)) g_b9
    have g_b10_ : M5 b10 = some (mI E 12 PH) := by rw [eM5]; exact mUp_at (nd_ne hnd 10 0 rfl rfl (by decide)) g_b10
    have g_b11_ : M5 b11 = some (mDb E 12 LE) := by rw [eM5]; exact mUp_at (nd_ne hnd 11 0 rfl rfl (by decide)) g_b11
    have g_b12_ : M5 b12 = some (mI E 8 KD) := by rw [eM5]; exact mUp_at (nd_ne hnd 12 0 rfl rfl (by decide)) g_b12
    have g_b13_ : M5 b13 = some (mI E 8 NM) := by rw [eM5]; exact mUp_at (nd_ne hnd 13 0 rfl rfl (by decide)) g_b13
    have g_b14_ : M5 b14 = some (mI E 3 CT) := by rw [eM5]; exact mUp_at (nd_ne hnd 14 0 rfl rfl (by decide)) g_b14
    have g_b15_ : M5 b15 = some (mDb E 40 CM) := by rw [eM5]; exact mUp_at (nd_ne hnd 15 0 rfl rfl (by decide)) g_b15
    have g_b16_ : M5 b16 = some (mJ E 40 MV) := by rw [eM5]; exact mUp_at (nd_ne hnd 16 0 rfl rfl (by decide)) g_b16
    have g_b1 := g_b1_
    have g_b2 := g_b2_
    have g_b3 := g_b3_
    have g_b4 := g_b4_
    have g_b5 := g_b5_
    have g_b6 := g_b6_
    have g_b7 := g_b7_
    have g_b8 := g_b8_
    have g_b9 := g_b9_
    have g_b10 := g_b10_
    have g_b11 := g_b11_
    have g_b12 := g_b12_
    have g_b13 := g_b13_
    have g_b14 := g_b14_
    have g_b15 := g_b15_
    have g_b16 := g_b16_
    have g_y : M5 y = some (mO 8 [.ref b1, .ref b2, .ref b3, .ref b4, .ref b5, .int (nI nn), .ref b6, .ref b7, .ref b8, .ref b9, .ref b10, .ref b11, .int (nI nf), .ref b12, .ref b13, .int bd, .int (-1), .int fa, .ref b14, .ref b15, .ref b16]) := by rw [eM5]; exact mUp_self _ _ _
    have hk : kept (nol y b1 b2 b3 b4 b5 b6 b7 b8 b9 b10 b11 b12 b13 b14 b15 b16) M M5 := (by rw [eM5]; exact hk.up (nol_in 0 rfl))
    refine lv_lconst (v := 0) hx hb dX10_next_13 (by decide) ?_
    exact m_lret hx hb hr hlocks hM hS (Nat.le_refl _) (Nat.le_refl _) dX10_next_14 (by refine ⟨(if_neg c_5).symm, ?_, hk⟩; show mR E _ y b1 b2 b3 b4 b5 b6 b7 b8 b9 b10 b11 b12 b13 b14 b15 b16 (nn, ins, nf, fn, bk, rw, bd, (if vI nn i then _ else -1), c2, c3, c4); rw [if_neg c_5]; exact ⟨_, _, _, _, _, _, _, _, _, _, _, _, _, _, _, _, _, ⟨g_y, g_b1, g_b2, g_b3, g_b4, g_b5, g_b6, g_b7, g_b8, g_b9, g_b10, g_b11, g_b12, g_b13, g_b14, g_b15, g_b16⟩, hB, hT, hR, hN, hF, hc2, hc3, hc4⟩)
theorem in_X10_agree_X10 : ∀ w ∈ wsX100, w ∈ wsX10_agree := by decide +kernel
set_option maxHeartbeats 4000000 in
set_option maxRecDepth 100000 in
theorem c_X10_agree (l : Launch) (E : mEnv) (M : mMem) (sz : Nat) (y b1 b2 b3 b4 b5 b6 b7 b8 b9 b10 b11 b12 b13 b14 b15 b16 nn nf : Nat) (ins : Nat → sIn) (fn : Nat → Int32 × Int32) (bk : Nat → Option Nat) (rw : Nat → sRw) (bd st c2 c3 c4 : Int32) (hV : Inv (nn, ins, nf, fn, bk, rw, bd, st, c2, c3, c4)) (hC : mR E M y b1 b2 b3 b4 b5 b6 b7 b8 b9 b10 b11 b12 b13 b14 b15 b16 (nn, ins, nf, fn, bk, rw, bd, st, c2, c3, c4)) (hnd : [y, b1, b2, b3, b4, b5, b6, b7, b8, b9, b10, b11, b12, b13, b14, b15, b16].Nodup) (i f0 n : Int32)    : Met l yX10_agree wsX10_agree ({ frames := 4, cells := 0, slots := 0, locals := 97 }) (mPre E M sz [.ref y, .int i, .int f0, .int n]) (mQi E M sz (fun r u => r = aAgree (nn, ins, nf, fn, bk, rw, bd, st, c2, c3, c4) i f0 n ∧ mR E u y b1 b2 b3 b4 b5 b6 b7 b8 b9 b10 b11 b12 b13 b14 b15 b16 ((nn, ins, nf, fn, bk, rw, bd, st, c2, c3, c4)) ∧ kept (nol y b1 b2 b3 b4 b5 b6 b7 b8 b9 b10 b11 b12 b13 b14 b15 b16) M u)) (0) (0) (mA M sz) := by
  refine m_met [.ref y, .int i, .int f0, .int n] (by decide) rfl (Nat.le_of_ble_eq_true rfl) ?_
  intro p e s m below meth c ls H eH hx hb hr hts hown hlocks hnm hml hsz hE hM hS hA hl
  have hl : lv_has ls 14 [(0, .ref y), (1, .int i), (2, .int f0), (3, .int n)] := hl
  have hC0 := hC
  obtain ⟨fa, B, T, LN, SZ, SM, SO, KN, PI, ON, PH, LE, KD, NM, CT, CM, MV, ⟨g_y, g_b1, g_b2, g_b3, g_b4, g_b5, g_b6, g_b7, g_b8, g_b9, g_b10, g_b11, g_b12, g_b13, g_b14, g_b15, g_b16⟩, hB, hT, hR, hN, hF, hc2, hc3, hc4⟩ := hC
  have hiK := hV.insK
  have h24t := hV.tb24
  have h40 := hV.n40
  obtain ⟨hnn, hnf, hvI, hvD, hv24, hvR, hvF⟩ := id hV
  have h24 : ∀ k, k < 10 → ∀ r, bk k = some r → r < 24 := fun k hk r hr => hv24 r (Or.inl ⟨k, hk, hr⟩)
  have hk : kept (nol y b1 b2 b3 b4 b5 b6 b7 b8 b9 b10 b11 b12 b13 b14 b15 b16) M M := kept.rf
  have g0_y := g_y
  have g0_b1 := g_b1
  have g0_b2 := g_b2
  have g0_b3 := g_b3
  have g0_b4 := g_b4
  have g0_b5 := g_b5
  have g0_b6 := g_b6
  have g0_b7 := g_b7
  have g0_b8 := g_b8
  have g0_b9 := g_b9
  have g0_b10 := g_b10
  have g0_b11 := g_b11
  have g0_b12 := g_b12
  have g0_b13 := g_b13
  have g0_b14 := g_b14
  have g0_b15 := g_b15
  have g0_b16 := g_b16
  refine lv_aload_n hx hb dX10_agree_0 rfl (lv_at hl 0 rfl) ?_
  refine lv_iload_n hx hb dX10_agree_1 rfl (lv_at hl 1 rfl) ?_
  refine m_calli (va_runV (As := [.int i]) (rest := []) ⟨hx, hb, hml, hown, hts⟩ (c_X10_isInst l E M H.size y b1 b2 b3 b4 b5 b6 b7 b8 b9 b10 b11 b12 b13 b14 b15 b16 (nI nf) bd st fa nn hnn i g_y) (cwV 1 hts gX10_agree_X10_isInstrument rfl rfl rfl (by decide +kernel) ⟨Nat.le_of_ble_eq_true rfl, Nat.le_of_ble_eq_true rfl⟩) (m_preV hE hM g_y rfl) rfl rfl hl.1 rfl (lv_room (Nat.le_of_ble_eq_true rfl)) dX10_agree_2 ⟨Nat.le_of_ble_eq_true rfl, Nat.le_of_ble_eq_true rfl⟩) hM hS hA (fun r0 u H locs hw hM hS => ?_)
  obtain ⟨e_r0, eu⟩ := hw
  rw [eu] at hM
  subst e_r0
  refine lv_if_eq (tgt := 32) hx hb dX10_agree_5 (by decide) (fun c_5 => ?_) (fun c_5 => ?_)
  · skip
    rw [bI_eq] at c_5
    have hz : ¬ (vAg nn nf i f0 n) := na1 c_5
    refine lv_iconst (v := 0) hx hb dX10_agree_32 (by decide) ?_
    exact m_zret hx hb hr hlocks hM hS (Nat.le_refl _) (Nat.le_refl _) dX10_agree_33 (by first | exact Or.inl rfl | exact Or.inr rfl) (by exact ⟨(if_neg hz).symm, hC0, hk⟩)
  · skip
    have c5 := c_5
    rw [bI_ne] at c5
    refine lv_iload_n hx hb dX10_agree_8 rfl (lv_at hl 2 rfl) ?_
    refine lv_iconst (v := 0) hx hb dX10_agree_9 (by decide) ?_
    refine lv_aload_n hx hb dX10_agree_10 rfl (lv_at hl 0 rfl) ?_
    refine m_get (ci := 8) (v := .int (nI nf)) (C := RX10) (T := TX10) (N := 21) hx hb hts in_X10_agree_X10 hown hE hM g_y rfl 12 (by decide) (hts (.fieldLink RX10 109 "CallWays2Model" "functions" "I") (by decide +kernel)) (fun _ h9 => h9) rfl dX10_agree_11 ?_
    refine lv_iconst (v := 1) hx hb dX10_agree_14 (by decide) ?_
    refine lv_isub hx hb dX10_agree_15 ?_
    refine m_calli (va_runS (As := [.int f0, .int 0, .int ((nI nf) - 1)]) (rest := []) ⟨hx, hb, hml, hown, hts⟩ (c_X10_in l E M H.size f0 0 (nI nf - 1)) (va_cwS 3 hts gX10_agree_X10_in rfl rfl rfl (by decide +kernel) ⟨Nat.le_of_ble_eq_true rfl, Nat.le_of_ble_eq_true rfl⟩) (m_preS hE hM) rfl rfl hl.1 rfl (lv_room (Nat.le_of_ble_eq_true rfl)) dX10_agree_16 ⟨Nat.le_of_ble_eq_true rfl, Nat.le_of_ble_eq_true rfl⟩) hM hS hA (fun r1 u H locs hw hM hS => ?_)
    obtain ⟨e_r1, eu⟩ := hw
    rw [eu] at hM
    rw [bI_congr (in_m1 (by omega))] at e_r1
    subst e_r1
    refine lv_if_eq (tgt := 32) hx hb dX10_agree_19 (by decide) (fun c_19 => ?_) (fun c_19 => ?_)
    · skip
      rw [bI_eq] at c_19
      have hz : ¬ (vAg nn nf i f0 n) := na2 (na1 c_19)
      refine lv_iconst (v := 0) hx hb dX10_agree_32 (by decide) ?_
      exact m_zret hx hb hr hlocks hM hS (Nat.le_refl _) (Nat.le_refl _) dX10_agree_33 (by first | exact Or.inl rfl | exact Or.inr rfl) (by exact ⟨(if_neg hz).symm, hC0, hk⟩)
    · skip
      rw [bI_ne] at c_19
      refine lv_iload_n hx hb dX10_agree_22 rfl (lv_at hl 3 rfl) ?_
      refine lv_iconst (v := 0) hx hb dX10_agree_23 (by decide) ?_
      refine lv_bipush (v := 40) hx hb dX10_agree_24 (by decide) ?_
      refine m_calli (va_runS (As := [.int n, .int 0, .int 40]) (rest := []) ⟨hx, hb, hml, hown, hts⟩ (c_X10_in l E M H.size n 0 40) (va_cwS 3 hts gX10_agree_X10_in rfl rfl rfl (by decide +kernel) ⟨Nat.le_of_ble_eq_true rfl, Nat.le_of_ble_eq_true rfl⟩) (m_preS hE hM) rfl rfl hl.1 rfl (lv_room (Nat.le_of_ble_eq_true rfl)) dX10_agree_26 ⟨Nat.le_of_ble_eq_true rfl, Nat.le_of_ble_eq_true rfl⟩) hM hS hA (fun r2 u H locs hw hM hS => ?_)
      obtain ⟨e_r2, eu⟩ := hw
      rw [eu] at hM
      rw [bI_congr (in_40)] at e_r2
      subst e_r2
      refine lv_if_ne (tgt := 34) hx hb dX10_agree_29 (by decide) (fun c_29 => ?_) (fun c_29 => ?_)
      · skip
        rw [bI_ne] at c_29
        have hag : vAg nn nf i f0 n := ⟨c5, c_19, c_29⟩
        rw [bI_ne] at c_5
        obtain ⟨j, hj, hij, hjc⟩ := vI_ix c_5 hnn
        subst hij
        rcases hins : ins j with ⟨ci, kf, pi, on, ph, le, tb⟩
        obtain ⟨hSo, hKn, hPi, hOn, hPh, hLe⟩ := hN j (by omega) _ _ _ _ _ _ _ hins
        obtain ⟨hci, hle, hon⟩ := hvI j hj _ _ _ _ _ _ _ hins
        have htbj : tbs ins j = tb := (by show (ins j).2.2.2.2.2.2 = tb; rw [hins])
        have hTb := mTb_of hv24 hvR hR hj (tb := tb) (by rw [hins])
        have hto := tbOK_of hvR hj (tb := tb) (by rw [hins])
        have hgv : gvAt ins rw j = sGive ci kf pi on ph le (tb.map rw) := (by unfold gvAt; rw [hins])
        obtain ⟨q, hq, hqq, hqc⟩ := vI_ix c_19 (by omega)
        subst hqq
        obtain ⟨kn, hkn, ekn⟩ := n_40 c_29
        subst ekn
        have hknc : (nI kn).toNatClampNeg = kn := nI_clamp (by omega)
        have hal : alAt ins rw j (fn q) kn = sAlike ci kf pi on (tb.map rw) (fn q).1 (FP.i2d (fn q).2) kn ph le := (by unfold alAt; rw [hins])
        refine lv_aload_n hx hb dX10_agree_34 rfl (lv_at hl 0 rfl) ?_
        refine m_get (ci := 8) (v := .ref b10) (C := RX10) (T := TX10) (N := 21) hx hb hts in_X10_agree_X10 hown hE hM g_y rfl 10 (by decide) (hts (.fieldLink RX10 39 "CallWays2Model" "phases" "[I") (by decide +kernel)) (fun _ h9 => h9) rfl dX10_agree_35 ?_
        refine lv_iload_n hx hb dX10_agree_38 rfl (lv_at hl 1 rfl) ?_
        refine m_iald hx hb hE hM g_b10 (vp_in_nI (by omega) (by decide)) dX10_agree_39 ?_
        rw [show PH (nI j).toNatClampNeg = ph from by rw [nI_clamp (by omega), hPh]]
        refine lv_istore (lv' := [(4, .int ph), (0, .ref y), (1, .int (nI j)), (2, .int (nI q)), (3, .int (nI kn))]) hx hb dX10_agree_40 hl (by decide) rfl (fun ls hl => ?_)
        refine lv_aload_n hx hb dX10_agree_42 rfl (lv_at hl 1 rfl) ?_
        refine m_get (ci := 8) (v := .ref b11) (C := RX10) (T := TX10) (N := 21) hx hb hts in_X10_agree_X10 hown hE hM g_y rfl 11 (by decide) (hts (.fieldLink RX10 42 "CallWays2Model" "levels" "[D") (by decide +kernel)) (fun _ h9 => h9) rfl dX10_agree_43 ?_
        refine lv_iload_n hx hb dX10_agree_46 rfl (lv_at hl 2 rfl) ?_
        refine m_dald hx hb hE hM g_b11 (vp_in_nI (by omega) (by decide)) dX10_agree_47 ?_
        rw [show LE (nI j).toNatClampNeg = LE j from by rw [nI_clamp (by omega)]]
        refine lv_dstore (lv' := [(5, .double (LE j)), (4, .int ph), (0, .ref y), (1, .int (nI j)), (2, .int (nI q)), (3, .int (nI kn))]) hx hb dX10_agree_48 hl (by decide) rfl (fun ls hl => ?_)
        refine lv_iconst (v := 1) hx hb dX10_agree_50 (by decide) ?_
        refine lv_istore (lv' := [(7, .int 1), (5, .double (LE j)), (4, .int ph), (0, .ref y), (1, .int (nI j)), (2, .int (nI q)), (3, .int (nI kn))]) hx hb dX10_agree_51 hl (by decide) rfl (fun ls hl => ?_)
        refine lv_iconst (v := 1) hx hb dX10_agree_53 (by decide) ?_
        refine lv_istore (lv' := [(8, .int 1), (7, .int 1), (5, .double (LE j)), (4, .int ph), (0, .ref y), (1, .int (nI j)), (2, .int (nI q)), (3, .int (nI kn))]) hx hb dX10_agree_54 hl (by decide) rfl (fun ls hl => ?_)
        refine lv_iconst (v := 0) hx hb dX10_agree_56 (by decide) ?_
        refine lv_istore (lv' := [(9, .int 0), (8, .int 1), (7, .int 1), (5, .double (LE j)), (4, .int ph), (0, .ref y), (1, .int (nI j)), (2, .int (nI q)), (3, .int (nI kn))]) hx hb dX10_agree_57 hl (by decide) rfl (fun ls hl => ?_)
        have tail : ∀ (v9 fa9 ph9 : Int32) (le9 : UInt64) (Mi : mMem) (ls : Array Slot) (H : Heap) (locs : List Loc), v9 = alAt ins rw j (fn q) kn → (v9 = 0 ∨ v9 = 1) → Mi = tri M y b10 b11 (mO 8 [.ref b1, .ref b2, .ref b3, .ref b4, .ref b5, .int (nI nn), .ref b6, .ref b7, .ref b8, .ref b9, .ref b10, .ref b11, .int (nI nf), .ref b12, .ref b13, .int bd, .int st, .int fa9, .ref b14, .ref b15, .ref b16]) (mI E 12 (upd PH j ph9)) (mDb E 12 (sLE ci LE j le9)) → mOK E.1 (mA M sz) Mi H → va_S (mA M sz) s.heap H locs → lv_has ls 14 [(7, .int v9), (5, .double (LE j)), (4, .int ph), (0, .ref y), (1, .int (nI j)), (2, .int (nI q)), (3, .int (nI kn))] → W p l e ({ frames := 4, cells := 0, slots := 0, locals := 97 } : Room) s m #[.ref y, .int (nI j), .int (nI q), .int (nI kn)] below meth c H locs (0) (0) (MQ below (mQi E M sz (fun r u => r = aAgree (nn, ins, nf, fn, bk, rw, bd, st, c2, c3, c4) (nI j) (nI q) (nI kn) ∧ mR E u y b1 b2 b3 b4 b5 b6 b7 b8 b9 b10 b11 b12 b13 b14 b15 b16 ((nn, ins, nf, fn, bk, rw, bd, st, c2, c3, c4)) ∧ kept (nol y b1 b2 b3 b4 b5 b6 b7 b8 b9 b10 b11 b12 b13 b14 b15 b16) M u)) #[.ref y, .int (nI j), .int (nI q), .int (nI kn)] s (0) (0) (mA M sz)) (F0 m 132 ls []) := by
          intro v9 fa9 ph9 le9 Mi ls H locs hv9 hv01 eMi hM hS hl
          have g_b1 : Mi b1 = some (mI E 10 B) := by rw [eMi]; exact tri_ne g0_b1 (nd_ne hnd 1 0 rfl rfl (by decide)) (nd_ne hnd 1 10 rfl rfl (by decide)) (nd_ne hnd 1 11 rfl rfl (by decide))
          have g_b2 : Mi b2 = some (mI E 12 T) := by rw [eMi]; exact tri_ne g0_b2 (nd_ne hnd 2 0 rfl rfl (by decide)) (nd_ne hnd 2 10 rfl rfl (by decide)) (nd_ne hnd 2 11 rfl rfl (by decide))
          have g_b3 : Mi b3 = some (mI E 24 LN) := by rw [eMi]; exact tri_ne g0_b3 (nd_ne hnd 3 0 rfl rfl (by decide)) (nd_ne hnd 3 10 rfl rfl (by decide)) (nd_ne hnd 3 11 rfl rfl (by decide))
          have g_b4 : Mi b4 = some (mI E 24 SZ) := by rw [eMi]; exact tri_ne g0_b4 (nd_ne hnd 4 0 rfl rfl (by decide)) (nd_ne hnd 4 10 rfl rfl (by decide)) (nd_ne hnd 4 11 rfl rfl (by decide))
          have g_b5 : Mi b5 = some (mJ E 960 SM) := by rw [eMi]; exact tri_ne g0_b5 (nd_ne hnd 5 0 rfl rfl (by decide)) (nd_ne hnd 5 10 rfl rfl (by decide)) (nd_ne hnd 5 11 rfl rfl (by decide))
          have g_b6 : Mi b6 = some (mI E 12 SO) := by rw [eMi]; exact tri_ne g0_b6 (nd_ne hnd 6 0 rfl rfl (by decide)) (nd_ne hnd 6 10 rfl rfl (by decide)) (nd_ne hnd 6 11 rfl rfl (by decide))
          have g_b7 : Mi b7 = some (mI E 48 KN) := by rw [eMi]; exact tri_ne g0_b7 (nd_ne hnd 7 0 rfl rfl (by decide)) (nd_ne hnd 7 10 rfl rfl (by decide)) (nd_ne hnd 7 11 rfl rfl (by decide))
          have g_b8 : Mi b8 = some (mI E 12 PI) := by rw [eMi]; exact tri_ne g0_b8 (nd_ne hnd 8 0 rfl rfl (by decide)) (nd_ne hnd 8 10 rfl rfl (by decide)) (nd_ne hnd 8 11 rfl rfl (by decide))
          have g_b9 : Mi b9 = some (mZ E 12 ON) := by rw [eMi]; exact tri_ne g0_b9 (nd_ne hnd 9 0 rfl rfl (by decide)) (nd_ne hnd 9 10 rfl rfl (by decide)) (nd_ne hnd 9 11 rfl rfl (by decide))
          have g_b12 : Mi b12 = some (mI E 8 KD) := by rw [eMi]; exact tri_ne g0_b12 (nd_ne hnd 12 0 rfl rfl (by decide)) (nd_ne hnd 12 10 rfl rfl (by decide)) (nd_ne hnd 12 11 rfl rfl (by decide))
          have g_b13 : Mi b13 = some (mI E 8 NM) := by rw [eMi]; exact tri_ne g0_b13 (nd_ne hnd 13 0 rfl rfl (by decide)) (nd_ne hnd 13 10 rfl rfl (by decide)) (nd_ne hnd 13 11 rfl rfl (by decide))
          have g_b14 : Mi b14 = some (mI E 3 CT) := by rw [eMi]; exact tri_ne g0_b14 (nd_ne hnd 14 0 rfl rfl (by decide)) (nd_ne hnd 14 10 rfl rfl (by decide)) (nd_ne hnd 14 11 rfl rfl (by decide))
          have g_b15 : Mi b15 = some (mDb E 40 CM) := by rw [eMi]; exact tri_ne g0_b15 (nd_ne hnd 15 0 rfl rfl (by decide)) (nd_ne hnd 15 10 rfl rfl (by decide)) (nd_ne hnd 15 11 rfl rfl (by decide))
          have g_b16 : Mi b16 = some (mJ E 40 MV) := by rw [eMi]; exact tri_ne g0_b16 (nd_ne hnd 16 0 rfl rfl (by decide)) (nd_ne hnd 16 10 rfl rfl (by decide)) (nd_ne hnd 16 11 rfl rfl (by decide))
          have g_y : Mi y = some (mO 8 [.ref b1, .ref b2, .ref b3, .ref b4, .ref b5, .int (nI nn), .ref b6, .ref b7, .ref b8, .ref b9, .ref b10, .ref b11, .int (nI nf), .ref b12, .ref b13, .int bd, .int st, .int fa9, .ref b14, .ref b15, .ref b16]) := by rw [eMi]; exact tri_gp (nd_ne hnd 0 10 rfl rfl (by decide)) (nd_ne hnd 0 11 rfl rfl (by decide))
          have g_b10 : Mi b10 = some (mI E 12 (upd PH j ph9)) := by rw [eMi]; exact tri_gx (nd_ne hnd 10 11 rfl rfl (by decide))
          have g_b11 : Mi b11 = some (mDb E 12 (sLE ci LE j le9)) := by rw [eMi]; exact tri_ga
          have hk : kept (nol y b1 b2 b3 b4 b5 b6 b7 b8 b9 b10 b11 b12 b13 b14 b15 b16) M Mi := (by rw [eMi]; exact kept.rf.tri (nol_in 0 rfl) (nol_in 10 rfl) (nol_in 11 rfl))
          refine lv_aload_n hx hb dX10_agree_132 rfl (lv_at hl 3 rfl) ?_
          refine m_get (ci := 8) (v := .ref b10) (C := RX10) (T := TX10) (N := 21) hx hb hts in_X10_agree_X10 hown hE hM g_y rfl 10 (by decide) (hts (.fieldLink RX10 39 "CallWays2Model" "phases" "[I") (by decide +kernel)) (fun _ h9 => h9) rfl dX10_agree_133 ?_
          refine lv_iload_n hx hb dX10_agree_136 rfl (lv_at hl 4 rfl) ?_
          refine lv_iload hx hb dX10_agree_137 (lv_at hl 2 rfl) ?_
          refine m_iast hx hb hE hM hS g_b10 (vp_in_nI (by omega) (by decide)) dX10_agree_139 (fun H locs hM hS => ?_)
          rw [show upd (upd PH j ph9) (nI j).toNatClampNeg ph = PH from by rw [nI_clamp (by omega), upd_up, up_id hPh]] at hM
          have hM : mOK E.1 (mA M sz) (mUp Mi b10 (mI E 12 PH)) H := hM
          obtain ⟨M1, eM1⟩ : ∃ z, z = mUp Mi b10 (mI E 12 PH) := ⟨_, rfl⟩
          rw [← eM1] at hM
          have g_y_ : M1 y = some (mO 8 [.ref b1, .ref b2, .ref b3, .ref b4, .ref b5, .int (nI nn), .ref b6, .ref b7, .ref b8, .ref b9, .ref b10, .ref b11, .int (nI nf), .ref b12, .ref b13, .int bd, .int st, .int fa9, .ref b14, .ref b15, .ref b16]) := by rw [eM1]; exact mUp_at (nd_ne hnd 0 10 rfl rfl (by decide)) g_y
          have g_b1_ : M1 b1 = some (mI E 10 B) := by rw [eM1]; exact mUp_at (nd_ne hnd 1 10 rfl rfl (by decide)) g_b1
          have g_b2_ : M1 b2 = some (mI E 12 T) := by rw [eM1]; exact mUp_at (nd_ne hnd 2 10 rfl rfl (by decide)) g_b2
          have g_b3_ : M1 b3 = some (mI E 24 LN) := by rw [eM1]; exact mUp_at (nd_ne hnd 3 10 rfl rfl (by decide)) g_b3
          have g_b4_ : M1 b4 = some (mI E 24 SZ) := by rw [eM1]; exact mUp_at (nd_ne hnd 4 10 rfl rfl (by decide)) g_b4
          have g_b5_ : M1 b5 = some (mJ E 960 SM) := by rw [eM1]; exact mUp_at (nd_ne hnd 5 10 rfl rfl (by decide)) g_b5
          have g_b6_ : M1 b6 = some (mI E 12 SO) := by rw [eM1]; exact mUp_at (nd_ne hnd 6 10 rfl rfl (by decide)) g_b6
          have g_b7_ : M1 b7 = some (mI E 48 KN) := by rw [eM1]; exact mUp_at (nd_ne hnd 7 10 rfl rfl (by decide)) g_b7
          have g_b8_ : M1 b8 = some (mI E 12 PI) := by rw [eM1]; exact mUp_at (nd_ne hnd 8 10 rfl rfl (by decide)) g_b8
          have g_b9_ : M1 b9 = some (mZ E 12 ON) := by rw [eM1]; exact mUp_at (nd_ne hnd 9 10 rfl rfl (by decide)) g_b9
          have g_b11_ : M1 b11 = some (mDb E 12 (sLE ci LE j le9)) := by rw [eM1]; exact mUp_at (nd_ne hnd 11 10 rfl rfl (by decide)) g_b11
          have g_b12_ : M1 b12 = some (mI E 8 KD) := by rw [eM1]; exact mUp_at (nd_ne hnd 12 10 rfl rfl (by decide)) g_b12
          have g_b13_ : M1 b13 = some (mI E 8 NM) := by rw [eM1]; exact mUp_at (nd_ne hnd 13 10 rfl rfl (by decide)) g_b13
          have g_b14_ : M1 b14 = some (mI E 3 CT) := by rw [eM1]; exact mUp_at (nd_ne hnd 14 10 rfl rfl (by decide)) g_b14
          have g_b15_ : M1 b15 = some (mDb E 40 CM) := by rw [eM1]; exact mUp_at (nd_ne hnd 15 10 rfl rfl (by decide)) g_b15
          have g_b16_ : M1 b16 = some (mJ E 40 MV) := by rw [eM1]; exact mUp_at (nd_ne hnd 16 10 rfl rfl (by decide)) g_b16
          have g_y := g_y_
          have g_b1 := g_b1_
          have g_b2 := g_b2_
          have g_b3 := g_b3_
          have g_b4 := g_b4_
          have g_b5 := g_b5_
          have g_b6 := g_b6_
          have g_b7 := g_b7_
          have g_b8 := g_b8_
          have g_b9 := g_b9_
          have g_b11 := g_b11_
          have g_b12 := g_b12_
          have g_b13 := g_b13_
          have g_b14 := g_b14_
          have g_b15 := g_b15_
          have g_b16 := g_b16_
          have g_b10 : M1 b10 = some (mI E 12 PH) := by rw [eM1]; exact mUp_self _ _ _
          have hk : kept (nol y b1 b2 b3 b4 b5 b6 b7 b8 b9 b10 b11 b12 b13 b14 b15 b16) M M1 := (by rw [eM1]; exact hk.up (nol_in 10 rfl))
          refine lv_aload_n hx hb dX10_agree_140 rfl (lv_at hl 3 rfl) ?_
          refine m_get (ci := 8) (v := .ref b11) (C := RX10) (T := TX10) (N := 21) hx hb hts in_X10_agree_X10 hown hE hM g_y rfl 11 (by decide) (hts (.fieldLink RX10 42 "CallWays2Model" "levels" "[D") (by decide +kernel)) (fun _ h9 => h9) rfl dX10_agree_141 ?_
          refine lv_iload_n hx hb dX10_agree_144 rfl (lv_at hl 4 rfl) ?_
          refine lv_dload hx hb dX10_agree_145 (lv_at hl 1 rfl) ?_
          refine m_dast hx hb hE hM hS g_b11 (vp_in_nI (by omega) (by decide)) dX10_agree_147 (fun H locs hM hS => ?_)
          rw [show vf_upd (sLE ci LE j le9) (nI j).toNatClampNeg (LE j) = LE from by rw [nI_clamp (by omega), sLE_back]] at hM
          have hM : mOK E.1 (mA M sz) (mUp M1 b11 (mDb E 12 LE)) H := hM
          obtain ⟨M2, eM2⟩ : ∃ z, z = mUp M1 b11 (mDb E 12 LE) := ⟨_, rfl⟩
          rw [← eM2] at hM
          have g_y_ : M2 y = some (mO 8 [.ref b1, .ref b2, .ref b3, .ref b4, .ref b5, .int (nI nn), .ref b6, .ref b7, .ref b8, .ref b9, .ref b10, .ref b11, .int (nI nf), .ref b12, .ref b13, .int bd, .int st, .int fa9, .ref b14, .ref b15, .ref b16]) := by rw [eM2]; exact mUp_at (nd_ne hnd 0 11 rfl rfl (by decide)) g_y
          have g_b1_ : M2 b1 = some (mI E 10 B) := by rw [eM2]; exact mUp_at (nd_ne hnd 1 11 rfl rfl (by decide)) g_b1
          have g_b2_ : M2 b2 = some (mI E 12 T) := by rw [eM2]; exact mUp_at (nd_ne hnd 2 11 rfl rfl (by decide)) g_b2
          have g_b3_ : M2 b3 = some (mI E 24 LN) := by rw [eM2]; exact mUp_at (nd_ne hnd 3 11 rfl rfl (by decide)) g_b3
          have g_b4_ : M2 b4 = some (mI E 24 SZ) := by rw [eM2]; exact mUp_at (nd_ne hnd 4 11 rfl rfl (by decide)) g_b4
          have g_b5_ : M2 b5 = some (mJ E 960 SM) := by rw [eM2]; exact mUp_at (nd_ne hnd 5 11 rfl rfl (by decide)) g_b5
          have g_b6_ : M2 b6 = some (mI E 12 SO) := by rw [eM2]; exact mUp_at (nd_ne hnd 6 11 rfl rfl (by decide)) g_b6
          have g_b7_ : M2 b7 = some (mI E 48 KN) := by rw [eM2]; exact mUp_at (nd_ne hnd 7 11 rfl rfl (by decide)) g_b7
          have g_b8_ : M2 b8 = some (mI E 12 PI) := by rw [eM2]; exact mUp_at (nd_ne hnd 8 11 rfl rfl (by decide)) g_b8
          have g_b9_ : M2 b9 = some (mZ E 12 ON) := by rw [eM2]; exact mUp_at (nd_ne hnd 9 11 rfl rfl (by decide)) g_b9
          have g_b10_ : M2 b10 = some (mI E 12 PH) := by rw [eM2]; exact mUp_at (nd_ne hnd 10 11 rfl rfl (by decide)) g_b10
          have g_b12_ : M2 b12 = some (mI E 8 KD) := by rw [eM2]; exact mUp_at (nd_ne hnd 12 11 rfl rfl (by decide)) g_b12
          have g_b13_ : M2 b13 = some (mI E 8 NM) := by rw [eM2]; exact mUp_at (nd_ne hnd 13 11 rfl rfl (by decide)) g_b13
          have g_b14_ : M2 b14 = some (mI E 3 CT) := by rw [eM2]; exact mUp_at (nd_ne hnd 14 11 rfl rfl (by decide)) g_b14
          have g_b15_ : M2 b15 = some (mDb E 40 CM) := by rw [eM2]; exact mUp_at (nd_ne hnd 15 11 rfl rfl (by decide)) g_b15
          have g_b16_ : M2 b16 = some (mJ E 40 MV) := by rw [eM2]; exact mUp_at (nd_ne hnd 16 11 rfl rfl (by decide)) g_b16
          have g_y := g_y_
          have g_b1 := g_b1_
          have g_b2 := g_b2_
          have g_b3 := g_b3_
          have g_b4 := g_b4_
          have g_b5 := g_b5_
          have g_b6 := g_b6_
          have g_b7 := g_b7_
          have g_b8 := g_b8_
          have g_b9 := g_b9_
          have g_b10 := g_b10_
          have g_b12 := g_b12_
          have g_b13 := g_b13_
          have g_b14 := g_b14_
          have g_b15 := g_b15_
          have g_b16 := g_b16_
          have g_b11 : M2 b11 = some (mDb E 12 LE) := by rw [eM2]; exact mUp_self _ _ _
          have hk : kept (nol y b1 b2 b3 b4 b5 b6 b7 b8 b9 b10 b11 b12 b13 b14 b15 b16) M M2 := (by rw [eM2]; exact hk.up (nol_in 11 rfl))
          refine lv_iload hx hb dX10_agree_148 (lv_at hl 0 rfl) ?_
          exact m_zret hx hb hr hlocks hM hS (Nat.le_refl _) (Nat.le_refl _) dX10_agree_150 hv01 (by refine ⟨(by show _ = (if vAg nn nf (nI j) (nI q) (nI kn) then _ else _); rw [if_pos hag, hjc, hqc, hknc]; exact hv9), ⟨_, _, _, _, _, _, _, _, _, _, _, _, _, _, _, _, _, ⟨g_y, g_b1, g_b2, g_b3, g_b4, g_b5, g_b6, g_b7, g_b8, g_b9, g_b10, g_b11, g_b12, g_b13, g_b14, g_b15, g_b16⟩, hB, hT, hR, hN, hF, hc2, hc3, hc4⟩, hk⟩)
        have loop : ∀ (n9 : Nat) (k9 : Nat) (ph9 : Int32) (le9 : UInt64) (fa9 : Int32) (Mi : mMem) (ls : Array Slot) (H : Heap) (locs : List Loc), k9 + n9 = kn → sAlike ci kf pi on (tb.map rw) (fn q).1 (FP.i2d (fn q).2) kn ph le = sAlike ci kf pi on (tb.map rw) (fn q).1 (FP.i2d (fn q).2) n9 ph9 le9 → dL le9 → Mi = tri M y b10 b11 (mO 8 [.ref b1, .ref b2, .ref b3, .ref b4, .ref b5, .int (nI nn), .ref b6, .ref b7, .ref b8, .ref b9, .ref b10, .ref b11, .int (nI nf), .ref b12, .ref b13, .int bd, .int st, .int fa9, .ref b14, .ref b15, .ref b16]) (mI E 12 (upd PH j ph9)) (mDb E 12 (sLE ci LE j le9)) → mOK E.1 (mA M sz) Mi H → va_S (mA M sz) s.heap H locs → lv_has ls 14 [(9, .int (nI k9)), (8, .int 1), (7, .int 1), (5, .double (LE j)), (4, .int ph), (0, .ref y), (1, .int (nI j)), (2, .int (nI q)), (3, .int (nI kn))] → W p l e ({ frames := 4, cells := 0, slots := 0, locals := 97 } : Room) s m #[.ref y, .int (nI j), .int (nI q), .int (nI kn)] below meth c H locs (0) (0) (MQ below (mQi E M sz (fun r u => r = aAgree (nn, ins, nf, fn, bk, rw, bd, st, c2, c3, c4) (nI j) (nI q) (nI kn) ∧ mR E u y b1 b2 b3 b4 b5 b6 b7 b8 b9 b10 b11 b12 b13 b14 b15 b16 ((nn, ins, nf, fn, bk, rw, bd, st, c2, c3, c4)) ∧ kept (nol y b1 b2 b3 b4 b5 b6 b7 b8 b9 b10 b11 b12 b13 b14 b15 b16) M u)) #[.ref y, .int (nI j), .int (nI q), .int (nI kn)] s (0) (0) (mA M sz)) (F0 m 59 ls []) := by
          intro n9
          induction n9 with
          | zero =>
            intro k9 ph9 le9 fa9 Mi ls H locs hk9 hsa hle9 eMi hM hS hl
            have g_b1 : Mi b1 = some (mI E 10 B) := by rw [eMi]; exact tri_ne g0_b1 (nd_ne hnd 1 0 rfl rfl (by decide)) (nd_ne hnd 1 10 rfl rfl (by decide)) (nd_ne hnd 1 11 rfl rfl (by decide))
            have g_b2 : Mi b2 = some (mI E 12 T) := by rw [eMi]; exact tri_ne g0_b2 (nd_ne hnd 2 0 rfl rfl (by decide)) (nd_ne hnd 2 10 rfl rfl (by decide)) (nd_ne hnd 2 11 rfl rfl (by decide))
            have g_b3 : Mi b3 = some (mI E 24 LN) := by rw [eMi]; exact tri_ne g0_b3 (nd_ne hnd 3 0 rfl rfl (by decide)) (nd_ne hnd 3 10 rfl rfl (by decide)) (nd_ne hnd 3 11 rfl rfl (by decide))
            have g_b4 : Mi b4 = some (mI E 24 SZ) := by rw [eMi]; exact tri_ne g0_b4 (nd_ne hnd 4 0 rfl rfl (by decide)) (nd_ne hnd 4 10 rfl rfl (by decide)) (nd_ne hnd 4 11 rfl rfl (by decide))
            have g_b5 : Mi b5 = some (mJ E 960 SM) := by rw [eMi]; exact tri_ne g0_b5 (nd_ne hnd 5 0 rfl rfl (by decide)) (nd_ne hnd 5 10 rfl rfl (by decide)) (nd_ne hnd 5 11 rfl rfl (by decide))
            have g_b6 : Mi b6 = some (mI E 12 SO) := by rw [eMi]; exact tri_ne g0_b6 (nd_ne hnd 6 0 rfl rfl (by decide)) (nd_ne hnd 6 10 rfl rfl (by decide)) (nd_ne hnd 6 11 rfl rfl (by decide))
            have g_b7 : Mi b7 = some (mI E 48 KN) := by rw [eMi]; exact tri_ne g0_b7 (nd_ne hnd 7 0 rfl rfl (by decide)) (nd_ne hnd 7 10 rfl rfl (by decide)) (nd_ne hnd 7 11 rfl rfl (by decide))
            have g_b8 : Mi b8 = some (mI E 12 PI) := by rw [eMi]; exact tri_ne g0_b8 (nd_ne hnd 8 0 rfl rfl (by decide)) (nd_ne hnd 8 10 rfl rfl (by decide)) (nd_ne hnd 8 11 rfl rfl (by decide))
            have g_b9 : Mi b9 = some (mZ E 12 ON) := by rw [eMi]; exact tri_ne g0_b9 (nd_ne hnd 9 0 rfl rfl (by decide)) (nd_ne hnd 9 10 rfl rfl (by decide)) (nd_ne hnd 9 11 rfl rfl (by decide))
            have g_b12 : Mi b12 = some (mI E 8 KD) := by rw [eMi]; exact tri_ne g0_b12 (nd_ne hnd 12 0 rfl rfl (by decide)) (nd_ne hnd 12 10 rfl rfl (by decide)) (nd_ne hnd 12 11 rfl rfl (by decide))
            have g_b13 : Mi b13 = some (mI E 8 NM) := by rw [eMi]; exact tri_ne g0_b13 (nd_ne hnd 13 0 rfl rfl (by decide)) (nd_ne hnd 13 10 rfl rfl (by decide)) (nd_ne hnd 13 11 rfl rfl (by decide))
            have g_b14 : Mi b14 = some (mI E 3 CT) := by rw [eMi]; exact tri_ne g0_b14 (nd_ne hnd 14 0 rfl rfl (by decide)) (nd_ne hnd 14 10 rfl rfl (by decide)) (nd_ne hnd 14 11 rfl rfl (by decide))
            have g_b15 : Mi b15 = some (mDb E 40 CM) := by rw [eMi]; exact tri_ne g0_b15 (nd_ne hnd 15 0 rfl rfl (by decide)) (nd_ne hnd 15 10 rfl rfl (by decide)) (nd_ne hnd 15 11 rfl rfl (by decide))
            have g_b16 : Mi b16 = some (mJ E 40 MV) := by rw [eMi]; exact tri_ne g0_b16 (nd_ne hnd 16 0 rfl rfl (by decide)) (nd_ne hnd 16 10 rfl rfl (by decide)) (nd_ne hnd 16 11 rfl rfl (by decide))
            have g_y : Mi y = some (mO 8 [.ref b1, .ref b2, .ref b3, .ref b4, .ref b5, .int (nI nn), .ref b6, .ref b7, .ref b8, .ref b9, .ref b10, .ref b11, .int (nI nf), .ref b12, .ref b13, .int bd, .int st, .int fa9, .ref b14, .ref b15, .ref b16]) := by rw [eMi]; exact tri_gp (nd_ne hnd 0 10 rfl rfl (by decide)) (nd_ne hnd 0 11 rfl rfl (by decide))
            have g_b10 : Mi b10 = some (mI E 12 (upd PH j ph9)) := by rw [eMi]; exact tri_gx (nd_ne hnd 10 11 rfl rfl (by decide))
            have g_b11 : Mi b11 = some (mDb E 12 (sLE ci LE j le9)) := by rw [eMi]; exact tri_ga
            have hk : kept (nol y b1 b2 b3 b4 b5 b6 b7 b8 b9 b10 b11 b12 b13 b14 b15 b16) M Mi := (by rw [eMi]; exact kept.rf.tri (nol_in 0 rfl) (nol_in 10 rfl) (nol_in 11 rfl))
            refine lv_iload hx hb dX10_agree_59 (lv_at hl 0 rfl) ?_
            refine lv_iload_n hx hb dX10_agree_61 rfl (lv_at hl 8 rfl) ?_
            refine lv_icmp_ge (tgt := 132) hx hb dX10_agree_62 (by decide) (fun _ => ?_) (fun h9 => False.elim (by revert h9; exact (fun h => h (nI_le (by omega) (by omega)))))
            exact tail 1 fa9 ph9 le9 Mi ls _ _ (by rw [hal, hsa]; rfl) (Or.inr rfl) eMi hM hS (lv_sub hl [2, 3, 4, 5, 6, 7, 8] rfl)
          | succ n9 ih =>
            intro k9 ph9 le9 fa9 Mi ls H locs hk9 hsa hle9 eMi hM hS hl
            have g_b1 : Mi b1 = some (mI E 10 B) := by rw [eMi]; exact tri_ne g0_b1 (nd_ne hnd 1 0 rfl rfl (by decide)) (nd_ne hnd 1 10 rfl rfl (by decide)) (nd_ne hnd 1 11 rfl rfl (by decide))
            have g_b2 : Mi b2 = some (mI E 12 T) := by rw [eMi]; exact tri_ne g0_b2 (nd_ne hnd 2 0 rfl rfl (by decide)) (nd_ne hnd 2 10 rfl rfl (by decide)) (nd_ne hnd 2 11 rfl rfl (by decide))
            have g_b3 : Mi b3 = some (mI E 24 LN) := by rw [eMi]; exact tri_ne g0_b3 (nd_ne hnd 3 0 rfl rfl (by decide)) (nd_ne hnd 3 10 rfl rfl (by decide)) (nd_ne hnd 3 11 rfl rfl (by decide))
            have g_b4 : Mi b4 = some (mI E 24 SZ) := by rw [eMi]; exact tri_ne g0_b4 (nd_ne hnd 4 0 rfl rfl (by decide)) (nd_ne hnd 4 10 rfl rfl (by decide)) (nd_ne hnd 4 11 rfl rfl (by decide))
            have g_b5 : Mi b5 = some (mJ E 960 SM) := by rw [eMi]; exact tri_ne g0_b5 (nd_ne hnd 5 0 rfl rfl (by decide)) (nd_ne hnd 5 10 rfl rfl (by decide)) (nd_ne hnd 5 11 rfl rfl (by decide))
            have g_b6 : Mi b6 = some (mI E 12 SO) := by rw [eMi]; exact tri_ne g0_b6 (nd_ne hnd 6 0 rfl rfl (by decide)) (nd_ne hnd 6 10 rfl rfl (by decide)) (nd_ne hnd 6 11 rfl rfl (by decide))
            have g_b7 : Mi b7 = some (mI E 48 KN) := by rw [eMi]; exact tri_ne g0_b7 (nd_ne hnd 7 0 rfl rfl (by decide)) (nd_ne hnd 7 10 rfl rfl (by decide)) (nd_ne hnd 7 11 rfl rfl (by decide))
            have g_b8 : Mi b8 = some (mI E 12 PI) := by rw [eMi]; exact tri_ne g0_b8 (nd_ne hnd 8 0 rfl rfl (by decide)) (nd_ne hnd 8 10 rfl rfl (by decide)) (nd_ne hnd 8 11 rfl rfl (by decide))
            have g_b9 : Mi b9 = some (mZ E 12 ON) := by rw [eMi]; exact tri_ne g0_b9 (nd_ne hnd 9 0 rfl rfl (by decide)) (nd_ne hnd 9 10 rfl rfl (by decide)) (nd_ne hnd 9 11 rfl rfl (by decide))
            have g_b12 : Mi b12 = some (mI E 8 KD) := by rw [eMi]; exact tri_ne g0_b12 (nd_ne hnd 12 0 rfl rfl (by decide)) (nd_ne hnd 12 10 rfl rfl (by decide)) (nd_ne hnd 12 11 rfl rfl (by decide))
            have g_b13 : Mi b13 = some (mI E 8 NM) := by rw [eMi]; exact tri_ne g0_b13 (nd_ne hnd 13 0 rfl rfl (by decide)) (nd_ne hnd 13 10 rfl rfl (by decide)) (nd_ne hnd 13 11 rfl rfl (by decide))
            have g_b14 : Mi b14 = some (mI E 3 CT) := by rw [eMi]; exact tri_ne g0_b14 (nd_ne hnd 14 0 rfl rfl (by decide)) (nd_ne hnd 14 10 rfl rfl (by decide)) (nd_ne hnd 14 11 rfl rfl (by decide))
            have g_b15 : Mi b15 = some (mDb E 40 CM) := by rw [eMi]; exact tri_ne g0_b15 (nd_ne hnd 15 0 rfl rfl (by decide)) (nd_ne hnd 15 10 rfl rfl (by decide)) (nd_ne hnd 15 11 rfl rfl (by decide))
            have g_b16 : Mi b16 = some (mJ E 40 MV) := by rw [eMi]; exact tri_ne g0_b16 (nd_ne hnd 16 0 rfl rfl (by decide)) (nd_ne hnd 16 10 rfl rfl (by decide)) (nd_ne hnd 16 11 rfl rfl (by decide))
            have g_y : Mi y = some (mO 8 [.ref b1, .ref b2, .ref b3, .ref b4, .ref b5, .int (nI nn), .ref b6, .ref b7, .ref b8, .ref b9, .ref b10, .ref b11, .int (nI nf), .ref b12, .ref b13, .int bd, .int st, .int fa9, .ref b14, .ref b15, .ref b16]) := by rw [eMi]; exact tri_gp (nd_ne hnd 0 10 rfl rfl (by decide)) (nd_ne hnd 0 11 rfl rfl (by decide))
            have g_b10 : Mi b10 = some (mI E 12 (upd PH j ph9)) := by rw [eMi]; exact tri_gx (nd_ne hnd 10 11 rfl rfl (by decide))
            have g_b11 : Mi b11 = some (mDb E 12 (sLE ci LE j le9)) := by rw [eMi]; exact tri_ga
            have hk : kept (nol y b1 b2 b3 b4 b5 b6 b7 b8 b9 b10 b11 b12 b13 b14 b15 b16) M Mi := (by rw [eMi]; exact kept.rf.tri (nol_in 0 rfl) (nol_in 10 rfl) (nol_in 11 rfl))
            refine lv_iload hx hb dX10_agree_59 (lv_at hl 0 rfl) ?_
            refine lv_iload_n hx hb dX10_agree_61 rfl (lv_at hl 8 rfl) ?_
            refine lv_icmp_ge (tgt := 132) hx hb dX10_agree_62 (by decide) (fun h9 => False.elim (by revert h9; exact (fun h => absurd h (nI_ge (by omega) (by omega))))) (fun _ => ?_)
            refine lv_iload hx hb dX10_agree_65 (lv_at hl 2 rfl) ?_
            refine lv_if_eq (tgt := 132) hx hb dX10_agree_67 (by decide) (fun h9 => False.elim (by revert h9; exact (fun h => absurd h (by decide)))) (fun _ => ?_)
            refine lv_iload hx hb dX10_agree_70 (lv_at hl 1 rfl) ?_
            refine lv_if_eq (tgt := 132) hx hb dX10_agree_72 (by decide) (fun h9 => False.elim (by revert h9; exact (fun h => absurd h (by decide)))) (fun _ => ?_)
            refine lv_aload_n hx hb dX10_agree_75 rfl (lv_at hl 5 rfl) ?_
            refine lv_iload_n hx hb dX10_agree_76 rfl (lv_at hl 6 rfl) ?_
            refine m_calld (va_runV (As := [.int (nI j)]) (rest := []) ⟨hx, hb, hml, hown, hts⟩ (c_X10_sample l E Mi H.size y b1 b2 b3 b4 b5 b6 b7 b8 b9 b10 b11 b12 b13 b14 b15 b16 (nI nn) (nI nf) bd st fa9 T LN SZ SM SO KN PI ON (upd PH j ph9) (sLE ci LE j le9) j (by omega) ci hci kf pi on ph9 le9 tb rw (hSo hj) hKn hPi hOn upd_s (fun z => sLE_s z) hle9 (by rw [hT j (by omega), htbj]) hTb (nd_ne hnd 2 10 rfl rfl (by decide)) (nd_ne hnd 6 10 rfl rfl (by decide)) (nd_ne hnd 8 10 rfl rfl (by decide)) (nd_ne hnd 9 10 rfl rfl (by decide)) g_y g_b2 g_b3 g_b4 g_b5 g_b6 g_b7 g_b8 g_b9 g_b10 g_b11) (cwV 1 hts gX10_agree_X10_sample rfl rfl rfl (by decide +kernel) ⟨Nat.le_of_ble_eq_true rfl, Nat.le_of_ble_eq_true rfl⟩) (m_preV hE hM g_y rfl) rfl rfl hl.1 rfl (lv_room (Nat.le_of_ble_eq_true rfl)) dX10_agree_77 ⟨Nat.le_of_ble_eq_true rfl, Nat.le_of_ble_eq_true rfl⟩) hM hS hA (fun r6 M3 H locs hw hM hS => ?_)
            obtain ⟨e_r6, eM3⟩ := hw
            subst e_r6
            rw [eMi, tri_tri (nd_ne hnd 0 10 rfl rfl (by decide)) (nd_ne hnd 0 11 rfl rfl (by decide)) (nd_ne hnd 10 11 rfl rfl (by decide)), upd_up, sLE_up] at eM3
            have g_b1 : M3 b1 = some (mI E 10 B) := by rw [eM3]; exact tri_ne g0_b1 (nd_ne hnd 1 0 rfl rfl (by decide)) (nd_ne hnd 1 10 rfl rfl (by decide)) (nd_ne hnd 1 11 rfl rfl (by decide))
            have g_b2 : M3 b2 = some (mI E 12 T) := by rw [eM3]; exact tri_ne g0_b2 (nd_ne hnd 2 0 rfl rfl (by decide)) (nd_ne hnd 2 10 rfl rfl (by decide)) (nd_ne hnd 2 11 rfl rfl (by decide))
            have g_b3 : M3 b3 = some (mI E 24 LN) := by rw [eM3]; exact tri_ne g0_b3 (nd_ne hnd 3 0 rfl rfl (by decide)) (nd_ne hnd 3 10 rfl rfl (by decide)) (nd_ne hnd 3 11 rfl rfl (by decide))
            have g_b4 : M3 b4 = some (mI E 24 SZ) := by rw [eM3]; exact tri_ne g0_b4 (nd_ne hnd 4 0 rfl rfl (by decide)) (nd_ne hnd 4 10 rfl rfl (by decide)) (nd_ne hnd 4 11 rfl rfl (by decide))
            have g_b5 : M3 b5 = some (mJ E 960 SM) := by rw [eM3]; exact tri_ne g0_b5 (nd_ne hnd 5 0 rfl rfl (by decide)) (nd_ne hnd 5 10 rfl rfl (by decide)) (nd_ne hnd 5 11 rfl rfl (by decide))
            have g_b6 : M3 b6 = some (mI E 12 SO) := by rw [eM3]; exact tri_ne g0_b6 (nd_ne hnd 6 0 rfl rfl (by decide)) (nd_ne hnd 6 10 rfl rfl (by decide)) (nd_ne hnd 6 11 rfl rfl (by decide))
            have g_b7 : M3 b7 = some (mI E 48 KN) := by rw [eM3]; exact tri_ne g0_b7 (nd_ne hnd 7 0 rfl rfl (by decide)) (nd_ne hnd 7 10 rfl rfl (by decide)) (nd_ne hnd 7 11 rfl rfl (by decide))
            have g_b8 : M3 b8 = some (mI E 12 PI) := by rw [eM3]; exact tri_ne g0_b8 (nd_ne hnd 8 0 rfl rfl (by decide)) (nd_ne hnd 8 10 rfl rfl (by decide)) (nd_ne hnd 8 11 rfl rfl (by decide))
            have g_b9 : M3 b9 = some (mZ E 12 ON) := by rw [eM3]; exact tri_ne g0_b9 (nd_ne hnd 9 0 rfl rfl (by decide)) (nd_ne hnd 9 10 rfl rfl (by decide)) (nd_ne hnd 9 11 rfl rfl (by decide))
            have g_b12 : M3 b12 = some (mI E 8 KD) := by rw [eM3]; exact tri_ne g0_b12 (nd_ne hnd 12 0 rfl rfl (by decide)) (nd_ne hnd 12 10 rfl rfl (by decide)) (nd_ne hnd 12 11 rfl rfl (by decide))
            have g_b13 : M3 b13 = some (mI E 8 NM) := by rw [eM3]; exact tri_ne g0_b13 (nd_ne hnd 13 0 rfl rfl (by decide)) (nd_ne hnd 13 10 rfl rfl (by decide)) (nd_ne hnd 13 11 rfl rfl (by decide))
            have g_b14 : M3 b14 = some (mI E 3 CT) := by rw [eM3]; exact tri_ne g0_b14 (nd_ne hnd 14 0 rfl rfl (by decide)) (nd_ne hnd 14 10 rfl rfl (by decide)) (nd_ne hnd 14 11 rfl rfl (by decide))
            have g_b15 : M3 b15 = some (mDb E 40 CM) := by rw [eM3]; exact tri_ne g0_b15 (nd_ne hnd 15 0 rfl rfl (by decide)) (nd_ne hnd 15 10 rfl rfl (by decide)) (nd_ne hnd 15 11 rfl rfl (by decide))
            have g_b16 : M3 b16 = some (mJ E 40 MV) := by rw [eM3]; exact tri_ne g0_b16 (nd_ne hnd 16 0 rfl rfl (by decide)) (nd_ne hnd 16 10 rfl rfl (by decide)) (nd_ne hnd 16 11 rfl rfl (by decide))
            have g_y : M3 y = some (mO 8 [.ref b1, .ref b2, .ref b3, .ref b4, .ref b5, .int (nI nn), .ref b6, .ref b7, .ref b8, .ref b9, .ref b10, .ref b11, .int (nI nf), .ref b12, .ref b13, .int bd, .int st, .int ((sGive ci kf pi on ph9 le9 (tb.map rw)).1), .ref b14, .ref b15, .ref b16]) := by rw [eM3]; exact tri_gp (nd_ne hnd 0 10 rfl rfl (by decide)) (nd_ne hnd 0 11 rfl rfl (by decide))
            have g_b10 : M3 b10 = some (mI E 12 (upd PH j (ph9 + 1))) := by rw [eM3]; exact tri_gx (nd_ne hnd 10 11 rfl rfl (by decide))
            have g_b11 : M3 b11 = some (mDb E 12 (sLE ci LE j (sGive ci kf pi on ph9 le9 (tb.map rw)).2.2)) := by rw [eM3]; exact tri_ga
            have hk : kept (nol y b1 b2 b3 b4 b5 b6 b7 b8 b9 b10 b11 b12 b13 b14 b15 b16) M M3 := (by rw [eM3]; exact kept.rf.tri (nol_in 0 rfl) (nol_in 10 rfl) (nol_in 11 rfl))
            refine lv_dstore (lv' := [(10, .double ((sGive ci kf pi on ph9 le9 (tb.map rw)).2.1)), (9, .int (nI k9)), (8, .int 1), (7, .int 1), (5, .double (LE j)), (4, .int ph), (0, .ref y), (1, .int (nI j)), (2, .int (nI q)), (3, .int (nI kn))]) hx hb dX10_agree_80 hl (by decide) rfl (fun ls hl => ?_)
            refine lv_aload_n hx hb dX10_agree_82 rfl (lv_at hl 6 rfl) ?_
            refine m_get (ci := 8) (v := .int ((sGive ci kf pi on ph9 le9 (tb.map rw)).1)) (C := RX10) (T := TX10) (N := 21) hx hb hts in_X10_agree_X10 hown hE hM g_y rfl 17 (by decide) (hts (.fieldLink RX10 112 "CallWays2Model" "failure" "I") (by decide +kernel)) (fun _ h9 => h9) rfl dX10_agree_83 ?_
            refine lv_if_eq (tgt := 95) hx hb dX10_agree_86 (by decide) (fun c_86 => ?_) (fun c_86 => ?_)
            · skip
              have hg0 : (sGive ci kf pi on ph9 le9 (tb.map rw)).1 = 0 := c_86
              refine lv_aload_n hx hb dX10_agree_95 rfl (lv_at hl 6 rfl) ?_
              refine lv_iload_n hx hb dX10_agree_96 rfl (lv_at hl 8 rfl) ?_
              refine lv_dload hx hb dX10_agree_97 (lv_at hl 0 rfl) ?_
              refine m_calld (va_runV (As := [.int (nI q), .double ((sGive ci kf pi on ph9 le9 (tb.map rw)).2.1)]) (rest := []) ⟨hx, hb, hml, hown, hts⟩ (c_X10_through l E M3 H.size y b1 b2 b3 b4 b5 b6 b7 b8 b9 b10 b11 b12 b13 b14 b15 b16 (nI nn) (nI nf) bd st ((sGive ci kf pi on ph9 le9 (tb.map rw)).1) KD NM q (by omega) ((sGive ci kf pi on ph9 le9 (tb.map rw)).2.1) ((dB_give hle9 hto).fin (by decide)) (fn q).1 (fn q).2 (hF q hq).1 (hF q hq).2 (hvF q hq) g_y g_b12 g_b13) (cwV 2 hts gX10_agree_X10_through rfl rfl rfl (by decide +kernel) ⟨Nat.le_of_ble_eq_true rfl, Nat.le_of_ble_eq_true rfl⟩) (m_preV hE hM g_y rfl) rfl rfl hl.1 rfl (lv_room (Nat.le_of_ble_eq_true rfl)) dX10_agree_99 ⟨Nat.le_of_ble_eq_true rfl, Nat.le_of_ble_eq_true rfl⟩) hM hS hA (fun r5 M4 H locs hw hM hS => ?_)
              obtain ⟨e_r5, eM4⟩ := hw
              rw [eM3, tri_p (nd_ne hnd 0 10 rfl rfl (by decide)) (nd_ne hnd 0 11 rfl rfl (by decide))] at eM4
              by_cases hr : sRef (fn q).1 (FP.i2d (fn q).2) ((sGive ci kf pi on ph9 le9 (tb.map rw)).2.1)
              · rw [if_pos hr] at e_r5 eM4
                subst e_r5
                have g_b1 : M4 b1 = some (mI E 10 B) := by rw [eM4]; exact tri_ne g0_b1 (nd_ne hnd 1 0 rfl rfl (by decide)) (nd_ne hnd 1 10 rfl rfl (by decide)) (nd_ne hnd 1 11 rfl rfl (by decide))
                have g_b2 : M4 b2 = some (mI E 12 T) := by rw [eM4]; exact tri_ne g0_b2 (nd_ne hnd 2 0 rfl rfl (by decide)) (nd_ne hnd 2 10 rfl rfl (by decide)) (nd_ne hnd 2 11 rfl rfl (by decide))
                have g_b3 : M4 b3 = some (mI E 24 LN) := by rw [eM4]; exact tri_ne g0_b3 (nd_ne hnd 3 0 rfl rfl (by decide)) (nd_ne hnd 3 10 rfl rfl (by decide)) (nd_ne hnd 3 11 rfl rfl (by decide))
                have g_b4 : M4 b4 = some (mI E 24 SZ) := by rw [eM4]; exact tri_ne g0_b4 (nd_ne hnd 4 0 rfl rfl (by decide)) (nd_ne hnd 4 10 rfl rfl (by decide)) (nd_ne hnd 4 11 rfl rfl (by decide))
                have g_b5 : M4 b5 = some (mJ E 960 SM) := by rw [eM4]; exact tri_ne g0_b5 (nd_ne hnd 5 0 rfl rfl (by decide)) (nd_ne hnd 5 10 rfl rfl (by decide)) (nd_ne hnd 5 11 rfl rfl (by decide))
                have g_b6 : M4 b6 = some (mI E 12 SO) := by rw [eM4]; exact tri_ne g0_b6 (nd_ne hnd 6 0 rfl rfl (by decide)) (nd_ne hnd 6 10 rfl rfl (by decide)) (nd_ne hnd 6 11 rfl rfl (by decide))
                have g_b7 : M4 b7 = some (mI E 48 KN) := by rw [eM4]; exact tri_ne g0_b7 (nd_ne hnd 7 0 rfl rfl (by decide)) (nd_ne hnd 7 10 rfl rfl (by decide)) (nd_ne hnd 7 11 rfl rfl (by decide))
                have g_b8 : M4 b8 = some (mI E 12 PI) := by rw [eM4]; exact tri_ne g0_b8 (nd_ne hnd 8 0 rfl rfl (by decide)) (nd_ne hnd 8 10 rfl rfl (by decide)) (nd_ne hnd 8 11 rfl rfl (by decide))
                have g_b9 : M4 b9 = some (mZ E 12 ON) := by rw [eM4]; exact tri_ne g0_b9 (nd_ne hnd 9 0 rfl rfl (by decide)) (nd_ne hnd 9 10 rfl rfl (by decide)) (nd_ne hnd 9 11 rfl rfl (by decide))
                have g_b12 : M4 b12 = some (mI E 8 KD) := by rw [eM4]; exact tri_ne g0_b12 (nd_ne hnd 12 0 rfl rfl (by decide)) (nd_ne hnd 12 10 rfl rfl (by decide)) (nd_ne hnd 12 11 rfl rfl (by decide))
                have g_b13 : M4 b13 = some (mI E 8 NM) := by rw [eM4]; exact tri_ne g0_b13 (nd_ne hnd 13 0 rfl rfl (by decide)) (nd_ne hnd 13 10 rfl rfl (by decide)) (nd_ne hnd 13 11 rfl rfl (by decide))
                have g_b14 : M4 b14 = some (mI E 3 CT) := by rw [eM4]; exact tri_ne g0_b14 (nd_ne hnd 14 0 rfl rfl (by decide)) (nd_ne hnd 14 10 rfl rfl (by decide)) (nd_ne hnd 14 11 rfl rfl (by decide))
                have g_b15 : M4 b15 = some (mDb E 40 CM) := by rw [eM4]; exact tri_ne g0_b15 (nd_ne hnd 15 0 rfl rfl (by decide)) (nd_ne hnd 15 10 rfl rfl (by decide)) (nd_ne hnd 15 11 rfl rfl (by decide))
                have g_b16 : M4 b16 = some (mJ E 40 MV) := by rw [eM4]; exact tri_ne g0_b16 (nd_ne hnd 16 0 rfl rfl (by decide)) (nd_ne hnd 16 10 rfl rfl (by decide)) (nd_ne hnd 16 11 rfl rfl (by decide))
                have g_y : M4 y = some (mO 8 [.ref b1, .ref b2, .ref b3, .ref b4, .ref b5, .int (nI nn), .ref b6, .ref b7, .ref b8, .ref b9, .ref b10, .ref b11, .int (nI nf), .ref b12, .ref b13, .int bd, .int st, .int (-3), .ref b14, .ref b15, .ref b16]) := by rw [eM4]; exact tri_gp (nd_ne hnd 0 10 rfl rfl (by decide)) (nd_ne hnd 0 11 rfl rfl (by decide))
                have g_b10 : M4 b10 = some (mI E 12 (upd PH j (ph9 + 1))) := by rw [eM4]; exact tri_gx (nd_ne hnd 10 11 rfl rfl (by decide))
                have g_b11 : M4 b11 = some (mDb E 12 (sLE ci LE j (sGive ci kf pi on ph9 le9 (tb.map rw)).2.2)) := by rw [eM4]; exact tri_ga
                have hk : kept (nol y b1 b2 b3 b4 b5 b6 b7 b8 b9 b10 b11 b12 b13 b14 b15 b16) M M4 := (by rw [eM4]; exact kept.rf.tri (nol_in 0 rfl) (nol_in 10 rfl) (nol_in 11 rfl))
                refine lv_dstore (lv' := [(12, .double FP.dconst0), (10, .double ((sGive ci kf pi on ph9 le9 (tb.map rw)).2.1)), (9, .int (nI k9)), (8, .int 1), (7, .int 1), (5, .double (LE j)), (4, .int ph), (0, .ref y), (1, .int (nI j)), (2, .int (nI q)), (3, .int (nI kn))]) hx hb dX10_agree_102 hl (by decide) rfl (fun ls hl => ?_)
                refine lv_aload_n hx hb dX10_agree_104 rfl (lv_at hl 7 rfl) ?_
                refine m_get (ci := 8) (v := .int (-3)) (C := RX10) (T := TX10) (N := 21) hx hb hts in_X10_agree_X10 hown hE hM g_y rfl 17 (by decide) (hts (.fieldLink RX10 112 "CallWays2Model" "failure" "I") (by decide +kernel)) (fun _ h9 => h9) rfl dX10_agree_105 ?_
                refine lv_if_ne (tgt := 123) hx hb dX10_agree_108 (by decide) (fun _ => ?_) (fun h9 => False.elim (by revert h9; exact (fun h => absurd h (by decide))))
                refine lv_iconst (v := 0) hx hb dX10_agree_123 (by decide) ?_
                refine lv_istore (lv' := [(7, .int 0), (12, .double FP.dconst0), (10, .double ((sGive ci kf pi on ph9 le9 (tb.map rw)).2.1)), (9, .int (nI k9)), (8, .int 1), (5, .double (LE j)), (4, .int ph), (0, .ref y), (1, .int (nI j)), (2, .int (nI q)), (3, .int (nI kn))]) hx hb dX10_agree_124 hl (by decide) rfl (fun ls hl => ?_)
                refine lv_iinc (v := ((nI k9) + 1)) (lv' := [(9, .int ((nI k9) + 1)), (7, .int 0), (12, .double FP.dconst0), (10, .double ((sGive ci kf pi on ph9 le9 (tb.map rw)).2.1)), (8, .int 1), (5, .double (LE j)), (4, .int ph), (0, .ref y), (1, .int (nI j)), (2, .int (nI q)), (3, .int (nI kn))]) hx hb dX10_agree_126 hl (k := 3) rfl rfl (by decide) rfl (fun ls hl => ?_)
                refine lv_goto (tgt := 59) hx hb dX10_agree_129 (by decide) ?_
                refine lv_iload hx hb dX10_agree_59 (lv_at hl 0 rfl) ?_
                refine lv_iload_n hx hb dX10_agree_61 rfl (lv_at hl 10 rfl) ?_
                refine lv_icmp_ge (tgt := 132) hx hb dX10_agree_62 (by decide) (fun c_62 => ?_) (fun c_62 => ?_)
                · skip
                  exact tail 0 _ (ph9 + 1) (sGive ci kf pi on ph9 le9 (tb.map rw)).2.2 M4 ls _ _ (by rw [hal, hsa, al_r hg0 hr]) (Or.inl rfl) eM4 hM hS (lv_sub hl [1, 5, 6, 7, 8, 9, 10] rfl)
                · skip
                  refine lv_iload hx hb dX10_agree_65 (lv_at hl 1 rfl) ?_
                  refine lv_if_eq (tgt := 132) hx hb dX10_agree_67 (by decide) (fun _ => ?_) (fun h9 => False.elim (by revert h9; exact (fun h => h rfl)))
                  exact tail 0 _ (ph9 + 1) (sGive ci kf pi on ph9 le9 (tb.map rw)).2.2 M4 ls _ _ (by rw [hal, hsa, al_r hg0 hr]) (Or.inl rfl) eM4 hM hS (lv_sub hl [1, 5, 6, 7, 8, 9, 10] rfl)
              · rw [if_neg hr] at e_r5 eM4
                subst e_r5
                have g_b1 : M4 b1 = some (mI E 10 B) := by rw [eM4]; exact tri_ne g0_b1 (nd_ne hnd 1 0 rfl rfl (by decide)) (nd_ne hnd 1 10 rfl rfl (by decide)) (nd_ne hnd 1 11 rfl rfl (by decide))
                have g_b2 : M4 b2 = some (mI E 12 T) := by rw [eM4]; exact tri_ne g0_b2 (nd_ne hnd 2 0 rfl rfl (by decide)) (nd_ne hnd 2 10 rfl rfl (by decide)) (nd_ne hnd 2 11 rfl rfl (by decide))
                have g_b3 : M4 b3 = some (mI E 24 LN) := by rw [eM4]; exact tri_ne g0_b3 (nd_ne hnd 3 0 rfl rfl (by decide)) (nd_ne hnd 3 10 rfl rfl (by decide)) (nd_ne hnd 3 11 rfl rfl (by decide))
                have g_b4 : M4 b4 = some (mI E 24 SZ) := by rw [eM4]; exact tri_ne g0_b4 (nd_ne hnd 4 0 rfl rfl (by decide)) (nd_ne hnd 4 10 rfl rfl (by decide)) (nd_ne hnd 4 11 rfl rfl (by decide))
                have g_b5 : M4 b5 = some (mJ E 960 SM) := by rw [eM4]; exact tri_ne g0_b5 (nd_ne hnd 5 0 rfl rfl (by decide)) (nd_ne hnd 5 10 rfl rfl (by decide)) (nd_ne hnd 5 11 rfl rfl (by decide))
                have g_b6 : M4 b6 = some (mI E 12 SO) := by rw [eM4]; exact tri_ne g0_b6 (nd_ne hnd 6 0 rfl rfl (by decide)) (nd_ne hnd 6 10 rfl rfl (by decide)) (nd_ne hnd 6 11 rfl rfl (by decide))
                have g_b7 : M4 b7 = some (mI E 48 KN) := by rw [eM4]; exact tri_ne g0_b7 (nd_ne hnd 7 0 rfl rfl (by decide)) (nd_ne hnd 7 10 rfl rfl (by decide)) (nd_ne hnd 7 11 rfl rfl (by decide))
                have g_b8 : M4 b8 = some (mI E 12 PI) := by rw [eM4]; exact tri_ne g0_b8 (nd_ne hnd 8 0 rfl rfl (by decide)) (nd_ne hnd 8 10 rfl rfl (by decide)) (nd_ne hnd 8 11 rfl rfl (by decide))
                have g_b9 : M4 b9 = some (mZ E 12 ON) := by rw [eM4]; exact tri_ne g0_b9 (nd_ne hnd 9 0 rfl rfl (by decide)) (nd_ne hnd 9 10 rfl rfl (by decide)) (nd_ne hnd 9 11 rfl rfl (by decide))
                have g_b12 : M4 b12 = some (mI E 8 KD) := by rw [eM4]; exact tri_ne g0_b12 (nd_ne hnd 12 0 rfl rfl (by decide)) (nd_ne hnd 12 10 rfl rfl (by decide)) (nd_ne hnd 12 11 rfl rfl (by decide))
                have g_b13 : M4 b13 = some (mI E 8 NM) := by rw [eM4]; exact tri_ne g0_b13 (nd_ne hnd 13 0 rfl rfl (by decide)) (nd_ne hnd 13 10 rfl rfl (by decide)) (nd_ne hnd 13 11 rfl rfl (by decide))
                have g_b14 : M4 b14 = some (mI E 3 CT) := by rw [eM4]; exact tri_ne g0_b14 (nd_ne hnd 14 0 rfl rfl (by decide)) (nd_ne hnd 14 10 rfl rfl (by decide)) (nd_ne hnd 14 11 rfl rfl (by decide))
                have g_b15 : M4 b15 = some (mDb E 40 CM) := by rw [eM4]; exact tri_ne g0_b15 (nd_ne hnd 15 0 rfl rfl (by decide)) (nd_ne hnd 15 10 rfl rfl (by decide)) (nd_ne hnd 15 11 rfl rfl (by decide))
                have g_b16 : M4 b16 = some (mJ E 40 MV) := by rw [eM4]; exact tri_ne g0_b16 (nd_ne hnd 16 0 rfl rfl (by decide)) (nd_ne hnd 16 10 rfl rfl (by decide)) (nd_ne hnd 16 11 rfl rfl (by decide))
                have g_y : M4 y = some (mO 8 [.ref b1, .ref b2, .ref b3, .ref b4, .ref b5, .int (nI nn), .ref b6, .ref b7, .ref b8, .ref b9, .ref b10, .ref b11, .int (nI nf), .ref b12, .ref b13, .int bd, .int st, .int ((sGive ci kf pi on ph9 le9 (tb.map rw)).1), .ref b14, .ref b15, .ref b16]) := by rw [eM4]; exact tri_gp (nd_ne hnd 0 10 rfl rfl (by decide)) (nd_ne hnd 0 11 rfl rfl (by decide))
                have g_b10 : M4 b10 = some (mI E 12 (upd PH j (ph9 + 1))) := by rw [eM4]; exact tri_gx (nd_ne hnd 10 11 rfl rfl (by decide))
                have g_b11 : M4 b11 = some (mDb E 12 (sLE ci LE j (sGive ci kf pi on ph9 le9 (tb.map rw)).2.2)) := by rw [eM4]; exact tri_ga
                have hk : kept (nol y b1 b2 b3 b4 b5 b6 b7 b8 b9 b10 b11 b12 b13 b14 b15 b16) M M4 := (by rw [eM4]; exact kept.rf.tri (nol_in 0 rfl) (nol_in 10 rfl) (nol_in 11 rfl))
                refine lv_dstore (lv' := [(12, .double (sPass (fn q).1 (FP.i2d (fn q).2) ((sGive ci kf pi on ph9 le9 (tb.map rw)).2.1))), (10, .double ((sGive ci kf pi on ph9 le9 (tb.map rw)).2.1)), (9, .int (nI k9)), (8, .int 1), (7, .int 1), (5, .double (LE j)), (4, .int ph), (0, .ref y), (1, .int (nI j)), (2, .int (nI q)), (3, .int (nI kn))]) hx hb dX10_agree_102 hl (by decide) rfl (fun ls hl => ?_)
                refine lv_aload_n hx hb dX10_agree_104 rfl (lv_at hl 7 rfl) ?_
                refine m_get (ci := 8) (v := .int ((sGive ci kf pi on ph9 le9 (tb.map rw)).1)) (C := RX10) (T := TX10) (N := 21) hx hb hts in_X10_agree_X10 hown hE hM g_y rfl 17 (by decide) (hts (.fieldLink RX10 112 "CallWays2Model" "failure" "I") (by decide +kernel)) (fun _ h9 => h9) rfl dX10_agree_105 ?_
                refine lv_if_ne (tgt := 123) hx hb dX10_agree_108 (by decide) (fun h9 => False.elim (by revert h9; exact (fun h => h hg0))) (fun _ => ?_)
                refine lv_dload hx hb dX10_agree_111 (lv_at hl 1 rfl) ?_
                refine lv_dload hx hb dX10_agree_113 (lv_at hl 0 rfl) ?_
                refine lv_dcmp hx hb dX10_agree_115 ?_
                refine lv_if_ne (tgt := 123) hx hb dX10_agree_116 (by decide) (fun c_116 => ?_) (fun c_116 => ?_)
                · skip
                  rw [cmpv_eq] at c_116
                  refine lv_iconst (v := 0) hx hb dX10_agree_123 (by decide) ?_
                  refine lv_istore (lv' := [(7, .int 0), (12, .double (sPass (fn q).1 (FP.i2d (fn q).2) ((sGive ci kf pi on ph9 le9 (tb.map rw)).2.1))), (10, .double ((sGive ci kf pi on ph9 le9 (tb.map rw)).2.1)), (9, .int (nI k9)), (8, .int 1), (5, .double (LE j)), (4, .int ph), (0, .ref y), (1, .int (nI j)), (2, .int (nI q)), (3, .int (nI kn))]) hx hb dX10_agree_124 hl (by decide) rfl (fun ls hl => ?_)
                  refine lv_iinc (v := ((nI k9) + 1)) (lv' := [(9, .int ((nI k9) + 1)), (7, .int 0), (12, .double (sPass (fn q).1 (FP.i2d (fn q).2) ((sGive ci kf pi on ph9 le9 (tb.map rw)).2.1))), (10, .double ((sGive ci kf pi on ph9 le9 (tb.map rw)).2.1)), (8, .int 1), (5, .double (LE j)), (4, .int ph), (0, .ref y), (1, .int (nI j)), (2, .int (nI q)), (3, .int (nI kn))]) hx hb dX10_agree_126 hl (k := 3) rfl rfl (by decide) rfl (fun ls hl => ?_)
                  refine lv_goto (tgt := 59) hx hb dX10_agree_129 (by decide) ?_
                  refine lv_iload hx hb dX10_agree_59 (lv_at hl 0 rfl) ?_
                  refine lv_iload_n hx hb dX10_agree_61 rfl (lv_at hl 10 rfl) ?_
                  refine lv_icmp_ge (tgt := 132) hx hb dX10_agree_62 (by decide) (fun c_62 => ?_) (fun c_62 => ?_)
                  · skip
                    exact tail 0 _ (ph9 + 1) (sGive ci kf pi on ph9 le9 (tb.map rw)).2.2 M4 ls _ _ (by rw [hal, hsa, al_n hg0 hr (fun z => c_116 (dcmp_sym.mp z))]) (Or.inl rfl) eM4 hM hS (lv_sub hl [1, 5, 6, 7, 8, 9, 10] rfl)
                  · skip
                    refine lv_iload hx hb dX10_agree_65 (lv_at hl 1 rfl) ?_
                    refine lv_if_eq (tgt := 132) hx hb dX10_agree_67 (by decide) (fun _ => ?_) (fun h9 => False.elim (by revert h9; exact (fun h => h rfl)))
                    exact tail 0 _ (ph9 + 1) (sGive ci kf pi on ph9 le9 (tb.map rw)).2.2 M4 ls _ _ (by rw [hal, hsa, al_n hg0 hr (fun z => c_116 (dcmp_sym.mp z))]) (Or.inl rfl) eM4 hM hS (lv_sub hl [1, 5, 6, 7, 8, 9, 10] rfl)
                · skip
                  rw [cmpv_eq] at c_116
                  refine lv_iconst (v := 1) hx hb dX10_agree_119 (by decide) ?_
                  refine lv_goto (tgt := 124) hx hb dX10_agree_120 (by decide) ?_
                  refine lv_istore (lv' := [(7, .int 1), (12, .double (sPass (fn q).1 (FP.i2d (fn q).2) ((sGive ci kf pi on ph9 le9 (tb.map rw)).2.1))), (10, .double ((sGive ci kf pi on ph9 le9 (tb.map rw)).2.1)), (9, .int (nI k9)), (8, .int 1), (5, .double (LE j)), (4, .int ph), (0, .ref y), (1, .int (nI j)), (2, .int (nI q)), (3, .int (nI kn))]) hx hb dX10_agree_124 hl (by decide) rfl (fun ls hl => ?_)
                  refine lv_iinc (v := ((nI k9) + 1)) (lv' := [(9, .int ((nI k9) + 1)), (7, .int 1), (12, .double (sPass (fn q).1 (FP.i2d (fn q).2) ((sGive ci kf pi on ph9 le9 (tb.map rw)).2.1))), (10, .double ((sGive ci kf pi on ph9 le9 (tb.map rw)).2.1)), (8, .int 1), (5, .double (LE j)), (4, .int ph), (0, .ref y), (1, .int (nI j)), (2, .int (nI q)), (3, .int (nI kn))]) hx hb dX10_agree_126 hl (k := 3) rfl rfl (by decide) rfl (fun ls hl => ?_)
                  refine lv_goto (tgt := 59) hx hb dX10_agree_129 (by decide) ?_
                  rw [nI_1] at hl
                  exact ih (k9 + 1) (ph9 + 1) (sGive ci kf pi on ph9 le9 (tb.map rw)).2.2 _ M4 ls _ _ (by omega) (by rw [hsa, al_y hg0 hr (dcmp_sym.mp c_116)]) (dL_give hle9) eM4 hM hS (lv_sub hl [0, 4, 1, 5, 6, 7, 8, 9, 10] rfl)
            · skip
              have hg0 : ¬ (sGive ci kf pi on ph9 le9 (tb.map rw)).1 = 0 := c_86
              refine lv_iconst (v := 0) hx hb dX10_agree_89 (by decide) ?_
              refine lv_istore (lv' := [(8, .int 0), (10, .double ((sGive ci kf pi on ph9 le9 (tb.map rw)).2.1)), (9, .int (nI k9)), (7, .int 1), (5, .double (LE j)), (4, .int ph), (0, .ref y), (1, .int (nI j)), (2, .int (nI q)), (3, .int (nI kn))]) hx hb dX10_agree_90 hl (by decide) rfl (fun ls hl => ?_)
              refine lv_goto (tgt := 126) hx hb dX10_agree_92 (by decide) ?_
              refine lv_iinc (v := ((nI k9) + 1)) (lv' := [(9, .int ((nI k9) + 1)), (8, .int 0), (10, .double ((sGive ci kf pi on ph9 le9 (tb.map rw)).2.1)), (7, .int 1), (5, .double (LE j)), (4, .int ph), (0, .ref y), (1, .int (nI j)), (2, .int (nI q)), (3, .int (nI kn))]) hx hb dX10_agree_126 hl (k := 2) rfl rfl (by decide) rfl (fun ls hl => ?_)
              refine lv_goto (tgt := 59) hx hb dX10_agree_129 (by decide) ?_
              refine lv_iload hx hb dX10_agree_59 (lv_at hl 0 rfl) ?_
              refine lv_iload_n hx hb dX10_agree_61 rfl (lv_at hl 9 rfl) ?_
              refine lv_icmp_ge (tgt := 132) hx hb dX10_agree_62 (by decide) (fun c_62 => ?_) (fun c_62 => ?_)
              · skip
                exact tail 1 _ (ph9 + 1) (sGive ci kf pi on ph9 le9 (tb.map rw)).2.2 M3 ls _ _ (by rw [hal, hsa, al_f hg0]) (Or.inr rfl) eM3 hM hS (lv_sub hl [3, 4, 5, 6, 7, 8, 9] rfl)
              · skip
                refine lv_iload hx hb dX10_agree_65 (lv_at hl 3 rfl) ?_
                refine lv_if_eq (tgt := 132) hx hb dX10_agree_67 (by decide) (fun h9 => False.elim (by revert h9; exact (fun h => absurd h (by decide)))) (fun _ => ?_)
                refine lv_iload hx hb dX10_agree_70 (lv_at hl 1 rfl) ?_
                refine lv_if_eq (tgt := 132) hx hb dX10_agree_72 (by decide) (fun _ => ?_) (fun h9 => False.elim (by revert h9; exact (fun h => h rfl)))
                exact tail 1 _ (ph9 + 1) (sGive ci kf pi on ph9 le9 (tb.map rw)).2.2 M3 ls _ _ (by rw [hal, hsa, al_f hg0]) (Or.inr rfl) eM3 hM hS (lv_sub hl [3, 4, 5, 6, 7, 8, 9] rfl)
        exact loop kn 0 ph le fa M ls _ _ (by omega) rfl hle (by rw [up_id hPh, sLE_id (fun z => hLe (Or.inr z))]; exact (tri_id g_y g_b10 g_b11).symm) hM hS (lv_sub hl [0, 1, 2, 3, 4, 5, 6, 7, 8] rfl)
      · skip
        rw [bI_eq] at c_29
        have hz : ¬ (vAg nn nf i f0 n) := na2 (na2 c_29)
        refine lv_iconst (v := 0) hx hb dX10_agree_32 (by decide) ?_
        exact m_zret hx hb hr hlocks hM hS (Nat.le_refl _) (Nat.le_refl _) dX10_agree_33 (by first | exact Or.inl rfl | exact Or.inr rfl) (by exact ⟨(if_neg hz).symm, hC0, hk⟩)
