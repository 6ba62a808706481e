def tri (M : mMem) (p x a : Nat) (X Y Z : va_E) : mMem := mUp (mUp (mUp M p X) x Y) a Z
theorem tri_p {M : mMem} {p x a : Nat} {X Y Z X' : va_E} (h1 : p ≠ x) (h2 : p ≠ a) : mUp (tri M p x a X Y Z) p X' = tri M p x a X' Y Z := by
  funext q
  by_cases hp : q = p
  · subst hp
    simp [tri, mUp, h1, h2]
  · simp [tri, mUp, hp]
theorem tri_x {M : mMem} {p x a : Nat} {X Y Z Y' : va_E} (h1 : x ≠ a) : mUp (tri M p x a X Y Z) x Y' = tri M p x a X Y' Z := by
  funext q
  by_cases hp : q = x
  · subst hp
    simp [tri, mUp, h1]
  · simp [tri, mUp, hp]
theorem tri_a {M : mMem} {p x a : Nat} {X Y Z Z' : va_E} : mUp (tri M p x a X Y Z) a Z' = tri M p x a X Y Z' := by
  unfold tri
  rw [mUp_up]
theorem tri_id {M : mMem} {p x a : Nat} {X Y Z : va_E} (hp : M p = some X) (hx : M x = some Y) (ha : M a = some Z) : tri M p x a X Y Z = M := by
  unfold tri
  rw [mUp_id hp, mUp_id hx, mUp_id ha]
theorem tri_ne {M : mMem} {p x a q : Nat} {X Y Z e : va_E} (h : M q = some e) (h1 : q ≠ p) (h2 : q ≠ x) (h3 : q ≠ a) : tri M p x a X Y Z q = some e := mUp_at h3 (mUp_at h2 (mUp_at h1 h))
theorem tri_gp {M : mMem} {p x a : Nat} {X Y Z : va_E} (h1 : p ≠ x) (h2 : p ≠ a) : tri M p x a X Y Z p = some X := mUp_at h2 (mUp_at h1 (mUp_self _ _ _))
theorem tri_gx {M : mMem} {p x a : Nat} {X Y Z : va_E} (h1 : x ≠ a) : tri M p x a X Y Z x = some Y := mUp_at h1 (mUp_self _ _ _)
theorem tri_ga {M : mMem} {p x a : Nat} {X Y Z : va_E} : tri M p x a X Y Z a = some Z := mUp_self _ _ _
/-! a run of samples: the instrument's phase and level behind n of them, the sample itself, the first that fails -/
def sSt (ci : Nat) (kf : Nat → Int32) (pi on : Int32) (tb : tbT) (ph0 : Int32) (le0 : UInt64) : Nat → Int32 × UInt64
  | 0 => (ph0, le0)
  | n + 1 => ((sSt ci kf pi on tb ph0 le0 n).1 + 1, (sGive ci kf pi on (sSt ci kf pi on tb ph0 le0 n).1 (sSt ci kf pi on tb ph0 le0 n).2 tb).2.2)
def sSm (ci : Nat) (kf : Nat → Int32) (pi on : Int32) (tb : tbT) (ph0 : Int32) (le0 : UInt64) (i : Nat) : Int32 × UInt64 × UInt64 := sGive ci kf pi on (sSt ci kf pi on tb ph0 le0 i).1 (sSt ci kf pi on tb ph0 le0 i).2 tb
abbrev fuT : Type := Option (Int32 × UInt64)
def rfO (fu : fuT) (x : UInt64) : Bool := match fu with | none => false | some q => decide (sRef q.1 q.2 x)
def psO (fu : fuT) (x : UInt64) : UInt64 := match fu with | none => x | some q => sPass q.1 q.2 x
def sGo (ci : Nat) (kf : Nat → Int32) (pi on : Int32) (tb : tbT) (ph0 : Int32) (le0 : UInt64) (fu : fuT) : Nat → Nat → Int32 × Nat
  | i, 0 => (0, i)
  | i, n + 1 => if (sSm ci kf pi on tb ph0 le0 i).1 = 0 then (if rfO fu (sSm ci kf pi on tb ph0 le0 i).2.1 = true then (-3, i + 1) else sGo ci kf pi on tb ph0 le0 fu (i + 1) n) else ((sSm ci kf pi on tb ph0 le0 i).1, i + 1)
section GO
variable {ci : Nat} {kf : Nat → Int32} {pi on : Int32} {tb : tbT} {ph0 : Int32} {le0 : UInt64} {fu : fuT} {i n : Nat}
theorem go_f (h : ¬ (sSm ci kf pi on tb ph0 le0 i).1 = 0) : sGo ci kf pi on tb ph0 le0 fu i (n + 1) = ((sSm ci kf pi on tb ph0 le0 i).1, i + 1) := by rw [sGo, if_neg h]
theorem go_r (h : (sSm ci kf pi on tb ph0 le0 i).1 = 0) (h1 : rfO fu (sSm ci kf pi on tb ph0 le0 i).2.1 = true) : sGo ci kf pi on tb ph0 le0 fu i (n + 1) = (-3, i + 1) := by rw [sGo, if_pos h, if_pos h1]
theorem go_y (h : (sSm ci kf pi on tb ph0 le0 i).1 = 0) (h1 : ¬ rfO fu (sSm ci kf pi on tb ph0 le0 i).2.1 = true) : sGo ci kf pi on tb ph0 le0 fu i (n + 1) = sGo ci kf pi on tb ph0 le0 fu (i + 1) n := by rw [sGo, if_pos h, if_neg h1]
theorem dL_st (h : dL le0) : ∀ n, dL (sSt ci kf pi on tb ph0 le0 n).2
  | 0 => h
  | n + 1 => dL_give (dL_st h n)
end GO
theorem c4_add (c4 : Int32) (i : Nat) : c4 + nI i + 1 = c4 + nI (i + 1) := by rw [Int32.add_assoc, nI_1]
theorem tbAt_tri {E : mEnv} {M : mMem} {tab : Option Nat} {tb : tbT} {p x a ci : Nat} {fs fs' gs gs' : List Value} {n : Nat} {w : Nat → UInt64} (h : tbAt E M tab tb) (hp : M p = some (mO ci fs)) (hx : M x = some (mO 7 gs)) (hc : insK ci) {n0 : Nat} {w0 : Nat → UInt64} (hma : M a = some (mDb E n0 w0)) (ha : ∀ t (v : Int32 × Nat), tab = some t → M t = some (mO 5 [.int v.1, .ref v.2]) → v.2 ≠ a) : tbAt E (tri M p x a (mO ci fs') (mO 7 gs') (mDb E n w)) tab tb := by
  cases tab with
  | none => cases tb with
    | none => trivial
    | some d => exact h.elim
  | some t => cases tb with
    | none => exact h.elim
    | some d =>
      obtain ⟨v, k1, k2⟩ := h
      have e1 : v ≠ a := ha t (d.1, v) rfl k1
      exact ⟨v, tri_ne k1 (m_ne k1 hp (fun q => by simp at q; exact (insK_ne hc).2.1 q.1.symm)) (m_ne k1 hx (by simp)) (m_ne k1 hma (by simp)), tri_ne k2 (m_ne k2 hp (by simp)) (m_ne k2 hx (by simp)) e1⟩
theorem vf_us {f : Nat → UInt64} {k : Nat} {x : UInt64} : vf_upd f k x k = x := by simp [vf_upd]
theorem upd_all {w g : Nat → UInt64} {i : Nat} (h : ∀ j, j < i → w j = g j) : ∀ j, j < i + 1 → vf_upd w i (g i) j = g j := by
  intro j hj
  by_cases hji : j = i
  · subst hji
    simp [vf_upd]
  · simp only [vf_upd, hji, if_false]
    exact h j (by omega)
theorem vf_un {f : Nat → UInt64} {k j : Nat} {x : UInt64} (h : j ≠ k) : vf_upd f k x j = f j := by simp [vf_upd, h]
theorem in_X9_gather_I : ∀ w ∈ wsX00 ++ wsX20 ++ wsX40 ++ wsX60 ++ wsX80, w ∈ wsX9_gather := by decide +kernel
theorem in_X9_gather_X9 : ∀ w ∈ wsX90, w ∈ wsX9_gather := by decide +kernel
set_option maxHeartbeats 4000000 in
set_option maxRecDepth 100000 in
theorem c_X9_gather_n (l : Launch) (E : mEnv) (M : mMem) (sz : Nat) (ci : Nat) (hci : insK ci) (x a1 a2 a3 a4 nn nf p0 q0 k : Nat) (bd st c2 c3 c4 : Int32) (wt : Nat → UInt64) (kf : Nat → Int32) (pi on ph0 fl0 : Int32) (le0 : UInt64) (tab : Option Nat) (tb : tbT) (htb0 : tbAt E M tab tb) (hto : tbOK tb) (hle0 : dL le0) (hk40 : k ≤ 40) (g_x : M x = some (mO 7 [.ref a1, .ref a2, .ref a3, .ref a4, .int (nI nn), .int (nI nf), .int bd, .int st, .int c2, .int c3, .int c4])) (g_a4 : M a4 = some (mDb E 40 wt)) (g_p0 : M p0 = some (mO ci [.ref q0, .int pi, .int on, .int ph0, .double le0, va_rf (tab), .int fl0])) (g_q0 : M q0 = some (mI E 4 kf)) (hA4 : ∀ (t : Nat) (v : Int32 × Nat), tab = some t → M t = some (mO 5 [.int v.1, .ref v.2]) → v.2 ≠ a4) : Met l yX9_gather wsX9_gather ({ frames := 4, cells := 0, slots := 0, locals := 88 }) (mPre E M sz [.ref x, .ref p0, .null, .int (nI k)]) (mQi E M sz (fun r u => r = (sGo ci kf pi on tb ph0 le0 none 0 k).1 ∧ ∃ (fl : Int32) (w : Nat → UInt64), u = tri M p0 x a4 (mO ci [.ref q0, .int pi, .int on, .int ((sSt ci kf pi on tb ph0 le0 (sGo ci kf pi on tb ph0 le0 none 0 k).2).1), .double ((sSt ci kf pi on tb ph0 le0 (sGo ci kf pi on tb ph0 le0 none 0 k).2).2), va_rf (tab), .int fl]) (mO 7 [.ref a1, .ref a2, .ref a3, .ref a4, .int (nI nn), .int (nI nf), .int bd, .int st, .int c2, .int c3, .int (c4 + nI (sGo ci kf pi on tb ph0 le0 none 0 k).2)]) (mDb E 40 w) ∧ ((sGo ci kf pi on tb ph0 le0 none 0 k).1 = 0 → ∀ j, j < k → w j = psO none (sSm ci kf pi on tb ph0 le0 j).2.1))) (0) (0) (mA M sz) := by
  refine m_met [.ref x, .ref p0, .null, .int (nI k)] (by decide) rfl (Nat.le_of_ble_eq_true rfl) ?_
  intro p e s m below meth c ls H eH hx hb hr hts hown hlocks hnm hml hsz hE hM hS hA hl
  have hl : lv_has ls 7 [(0, .ref x), (1, .ref p0), (2, .null), (3, .int (nI k))] := hl
  have h_xp : x ≠ p0 := m_ne g_x g_p0 (by simp)
  have h_ap : a4 ≠ p0 := m_ne g_a4 g_p0 (by simp)
  have h_xa : x ≠ a4 := m_ne g_x g_a4 (by simp)
  have loop : ∀ (n9 i9 : Nat) (fl : Int32) (w : Nat → UInt64) (Mi : mMem) (ls : Array Slot) (H : Heap) (locs : List Loc), i9 + n9 = k → sGo ci kf pi on tb ph0 le0 none 0 k = sGo ci kf pi on tb ph0 le0 none i9 n9 → Mi = tri M p0 x a4 (mO ci [.ref q0, .int pi, .int on, .int ((sSt ci kf pi on tb ph0 le0 i9).1), .double ((sSt ci kf pi on tb ph0 le0 i9).2), va_rf (tab), .int fl]) (mO 7 [.ref a1, .ref a2, .ref a3, .ref a4, .int (nI nn), .int (nI nf), .int bd, .int st, .int c2, .int c3, .int (c4 + nI i9)]) (mDb E 40 w) → (∀ j, j < i9 → w j = psO none (sSm ci kf pi on tb ph0 le0 j).2.1) → mOK E.1 (mA M sz) Mi H → va_S (mA M sz) s.heap H locs → lv_has ls 7 [(4, .int (nI i9)), (0, .ref x), (1, .ref p0), (2, .null), (3, .int (nI k))] → W p l e ({ frames := 4, cells := 0, slots := 0, locals := 88 } : Room) s m #[.ref x, .ref p0, .null, .int (nI k)] below meth c H locs 0 0 (MQ below (mQi E M sz (fun r u => r = (sGo ci kf pi on tb ph0 le0 none 0 k).1 ∧ ∃ (fl : Int32) (w : Nat → UInt64), u = tri M p0 x a4 (mO ci [.ref q0, .int pi, .int on, .int ((sSt ci kf pi on tb ph0 le0 (sGo ci kf pi on tb ph0 le0 none 0 k).2).1), .double ((sSt ci kf pi on tb ph0 le0 (sGo ci kf pi on tb ph0 le0 none 0 k).2).2), va_rf (tab), .int fl]) (mO 7 [.ref a1, .ref a2, .ref a3, .ref a4, .int (nI nn), .int (nI nf), .int bd, .int st, .int c2, .int c3, .int (c4 + nI (sGo ci kf pi on tb ph0 le0 none 0 k).2)]) (mDb E 40 w) ∧ ((sGo ci kf pi on tb ph0 le0 none 0 k).1 = 0 → ∀ j, j < k → w j = psO none (sSm ci kf pi on tb ph0 le0 j).2.1))) #[.ref x, .ref p0, .null, .int (nI k)] s (0) (0) (mA M sz)) (F0 m 3 ls []) := by
    intro n9
    induction n9 with
    | zero =>
      intro i9 fl w Mi ls H locs hn9 hf9 eMi hw9 hM hS hl
      have hq0 : Mi q0 = some (mI E 4 kf) := by rw [eMi]; exact tri_ne g_q0 (m_ne g_q0 g_p0 (by simp)) (m_ne g_q0 g_x (by simp)) (m_ne g_q0 g_a4 (by simp))
      have htb : tbAt E Mi tab tb := by rw [eMi]; exact tbAt_tri htb0 g_p0 g_x hci g_a4 hA4
      have hp0 : Mi p0 = some (mO ci [.ref q0, .int pi, .int on, .int ((sSt ci kf pi on tb ph0 le0 i9).1), .double ((sSt ci kf pi on tb ph0 le0 i9).2), va_rf (tab), .int fl]) := by rw [eMi]; exact tri_gp (Ne.symm h_xp) (Ne.symm h_ap)
      have hxx : Mi x = some (mO 7 [.ref a1, .ref a2, .ref a3, .ref a4, .int (nI nn), .int (nI nf), .int bd, .int st, .int c2, .int c3, .int (c4 + nI i9)]) := by rw [eMi]; exact tri_gx h_xa
      have ha4 : Mi a4 = some (mDb E 40 w) := by rw [eMi]; exact tri_ga
      have g_q0 := hq0
      have g_p0 := hp0
      have g_x := hxx
      have g_a4 := ha4
      refine lv_iload hx hb dX9_gather_3 (lv_at hl 0 rfl) ?_
      refine lv_iload_n hx hb dX9_gather_5 rfl (lv_at hl 4 rfl) ?_
      refine lv_icmp_ge (tgt := 81) hx hb dX9_gather_6 (by decide) (fun _ => ?_) (fun h9 => False.elim (by revert h9; exact (fun h => h (nI_le (by omega) (by omega)))))
      refine lv_iconst (v := 0) hx hb dX9_gather_81 (by decide) ?_
      exact m_iret hx hb hr hlocks hM hS (Nat.le_refl _) (Nat.le_refl _) dX9_gather_82 (by rw [hf9]; exact ⟨rfl, fl, w, eMi, fun _ j hj => hw9 j (by omega)⟩)
    | succ n9 ih =>
      intro i9 fl w Mi ls H locs hn9 hf9 eMi hw9 hM hS hl
      have hq0 : Mi q0 = some (mI E 4 kf) := by rw [eMi]; exact tri_ne g_q0 (m_ne g_q0 g_p0 (by simp)) (m_ne g_q0 g_x (by simp)) (m_ne g_q0 g_a4 (by simp))
      have htb : tbAt E Mi tab tb := by rw [eMi]; exact tbAt_tri htb0 g_p0 g_x hci g_a4 hA4
      have hp0 : Mi p0 = some (mO ci [.ref q0, .int pi, .int on, .int ((sSt ci kf pi on tb ph0 le0 i9).1), .double ((sSt ci kf pi on tb ph0 le0 i9).2), va_rf (tab), .int fl]) := by rw [eMi]; exact tri_gp (Ne.symm h_xp) (Ne.symm h_ap)
      have hxx : Mi x = some (mO 7 [.ref a1, .ref a2, .ref a3, .ref a4, .int (nI nn), .int (nI nf), .int bd, .int st, .int c2, .int c3, .int (c4 + nI i9)]) := by rw [eMi]; exact tri_gx h_xa
      have ha4 : Mi a4 = some (mDb E 40 w) := by rw [eMi]; exact tri_ga
      have g_q0 := hq0
      have g_p0 := hp0
      have g_x := hxx
      have g_a4 := ha4
      refine lv_iload hx hb dX9_gather_3 (lv_at hl 0 rfl) ?_
      refine lv_iload_n hx hb dX9_gather_5 rfl (lv_at hl 4 rfl) ?_
      refine lv_icmp_ge (tgt := 81) hx hb dX9_gather_6 (by decide) (fun h9 => False.elim (by revert h9; exact (fun h => absurd h (nI_ge (by omega) (by omega))))) (fun _ => ?_)
      refine lv_aload_n hx hb dX9_gather_9 rfl (lv_at hl 2 rfl) ?_
      have hMr := hM
      have hrun : va_Run p l e ({ frames := 4, cells := 0, slots := 0, locals := 88 } : Room) s m #[.ref x, .ref p0, .null, .int (nI k)] below meth c H locs 0 0 0 0 (F0 m 10 ls [.ref p0]) [] (mQd E Mi H.size (fun r u => r = (sSm ci kf pi on tb ph0 le0 i9).2.1 ∧ u = mUp Mi p0 (mO ci [.ref q0, .int pi, .int on, .int ((sSt ci kf pi on tb ph0 le0 i9).1 + 1), .double ((sSm ci kf pi on tb ph0 le0 i9).2.2), va_rf (tab), .int ((sSm ci kf pi on tb ph0 le0 i9).1)])) #[.ref p0]) (mA Mi H.size) := by
        rcases hci with rfl | rfl | rfl | rfl | rfl
        · exact va_runU (As := []) (rest := []) ⟨hx, hb, hml, hown, hts⟩ (c_X5_ask l E Mi H.size 0 (by unfold insK; decide) p0 q0 pi on (sSt 0 kf pi on tb ph0 le0 i9).1 (sSt 0 kf pi on tb ph0 le0 i9).2 tab kf tb fl htb (dL_st hle0 i9) (fun d hd => by have := (hto d hd).1; omega) g_p0 g_q0) (va_cwU 0 hts gX9_gather_X5_ask_u160X0 rfl rfl rfl rfl (by decide +kernel) ⟨Nat.le_of_ble_eq_true rfl, Nat.le_of_ble_eq_true rfl⟩) (m_preV hE hMr g_p0 rfl) rfl rfl hl.1 rfl (lv_room (Nat.le_of_ble_eq_true rfl)) dX9_gather_10 ⟨Nat.le_of_ble_eq_true rfl, Nat.le_of_ble_eq_true rfl⟩
        · exact va_runU (As := []) (rest := []) ⟨hx, hb, hml, hown, hts⟩ (c_X5_ask l E Mi H.size 1 (by unfold insK; decide) p0 q0 pi on (sSt 1 kf pi on tb ph0 le0 i9).1 (sSt 1 kf pi on tb ph0 le0 i9).2 tab kf tb fl htb (dL_st hle0 i9) (fun d hd => by have := (hto d hd).1; omega) g_p0 g_q0) (va_cwU 0 hts gX9_gather_X5_ask_u160X2 rfl rfl rfl rfl (by decide +kernel) ⟨Nat.le_of_ble_eq_true rfl, Nat.le_of_ble_eq_true rfl⟩) (m_preV hE hMr g_p0 rfl) rfl rfl hl.1 rfl (lv_room (Nat.le_of_ble_eq_true rfl)) dX9_gather_10 ⟨Nat.le_of_ble_eq_true rfl, Nat.le_of_ble_eq_true rfl⟩
        · exact va_runU (As := []) (rest := []) ⟨hx, hb, hml, hown, hts⟩ (c_X5_ask l E Mi H.size 3 (by unfold insK; decide) p0 q0 pi on (sSt 3 kf pi on tb ph0 le0 i9).1 (sSt 3 kf pi on tb ph0 le0 i9).2 tab kf tb fl htb (dL_st hle0 i9) (fun d hd => by have := (hto d hd).1; omega) g_p0 g_q0) (va_cwU 0 hts gX9_gather_X5_ask_u160X4 rfl rfl rfl rfl (by decide +kernel) ⟨Nat.le_of_ble_eq_true rfl, Nat.le_of_ble_eq_true rfl⟩) (m_preV hE hMr g_p0 rfl) rfl rfl hl.1 rfl (lv_room (Nat.le_of_ble_eq_true rfl)) dX9_gather_10 ⟨Nat.le_of_ble_eq_true rfl, Nat.le_of_ble_eq_true rfl⟩
        · exact va_runU (As := []) (rest := []) ⟨hx, hb, hml, hown, hts⟩ (c_X5_ask l E Mi H.size 4 (by unfold insK; decide) p0 q0 pi on (sSt 4 kf pi on tb ph0 le0 i9).1 (sSt 4 kf pi on tb ph0 le0 i9).2 tab kf tb fl htb (dL_st hle0 i9) (fun d hd => by have := (hto d hd).1; omega) g_p0 g_q0) (va_cwU 0 hts gX9_gather_X5_ask_u160X6 rfl rfl rfl rfl (by decide +kernel) ⟨Nat.le_of_ble_eq_true rfl, Nat.le_of_ble_eq_true rfl⟩) (m_preV hE hMr g_p0 rfl) rfl rfl hl.1 rfl (lv_room (Nat.le_of_ble_eq_true rfl)) dX9_gather_10 ⟨Nat.le_of_ble_eq_true rfl, Nat.le_of_ble_eq_true rfl⟩
        · exact va_runU (As := []) (rest := []) ⟨hx, hb, hml, hown, hts⟩ (c_X5_ask l E Mi H.size 6 (by unfold insK; decide) p0 q0 pi on (sSt 6 kf pi on tb ph0 le0 i9).1 (sSt 6 kf pi on tb ph0 le0 i9).2 tab kf tb fl htb (dL_st hle0 i9) (fun d hd => by have := (hto d hd).1; omega) g_p0 g_q0) (va_cwU 0 hts gX9_gather_X5_ask_u160X8 rfl rfl rfl rfl (by decide +kernel) ⟨Nat.le_of_ble_eq_true rfl, Nat.le_of_ble_eq_true rfl⟩) (m_preV hE hMr g_p0 rfl) rfl rfl hl.1 rfl (lv_room (Nat.le_of_ble_eq_true rfl)) dX9_gather_10 ⟨Nat.le_of_ble_eq_true rfl, Nat.le_of_ble_eq_true rfl⟩
      refine m_calld hrun hM hS hA (fun rd M1 H locs hw hM hS => ?_)
      obtain ⟨e_rd, eM1⟩ := hw
      subst e_rd
      have g_x_ : M1 x = some (mO 7 [.ref a1, .ref a2, .ref a3, .ref a4, .int (nI nn), .int (nI nf), .int bd, .int st, .int c2, .int c3, .int (c4 + nI i9)]) := by rw [eM1]; exact mUp_at h_xp g_x
      have g_a4_ : M1 a4 = some (mDb E 40 w) := by rw [eM1]; exact mUp_at h_ap g_a4
      have g_q0_ : M1 q0 = some (mI E 4 kf) := by rw [eM1]; exact mUp_at (m_ne g_q0 g_p0 (by simp)) g_q0
      have g_x := g_x_
      have g_a4 := g_a4_
      have g_q0 := g_q0_
      have g_p0 : M1 p0 = some (mO ci [.ref q0, .int pi, .int on, .int ((sSt ci kf pi on tb ph0 le0 i9).1 + 1), .double ((sSm ci kf pi on tb ph0 le0 i9).2.2), va_rf (tab), .int ((sSm ci kf pi on tb ph0 le0 i9).1)]) := by rw [eM1]; exact mUp_self _ _ _
      have hxd : dB 1061 (sSm ci kf pi on tb ph0 le0 i9).2.1 := dB_give (dL_st hle0 i9) hto
      refine lv_dstore (lv' := [(5, .double ((sSm ci kf pi on tb ph0 le0 i9).2.1)), (4, .int (nI i9)), (0, .ref x), (1, .ref p0), (2, .null), (3, .int (nI k))]) hx hb dX9_gather_13 hl (by decide) rfl (fun ls hl => ?_)
      refine lv_aload_n hx hb dX9_gather_15 rfl (lv_at hl 2 rfl) ?_
      refine lv_dup hx hb dX9_gather_16 rfl ?_
      refine m_get (ci := 7) (v := .int (c4 + nI i9)) (C := RX9) (T := TX9) (N := 11) hx hb hts in_X9_gather_X9 hown hE hM g_x rfl 10 (by decide) (hts (.fieldLink RX9 173 "CallWays2" "samplesAsked" "I") (by decide +kernel)) (fun _ h9 => h9) rfl dX9_gather_17 ?_
      refine lv_iconst (v := 1) hx hb dX9_gather_20 (by decide) ?_
      refine lv_iadd hx hb dX9_gather_21 ?_
      refine m_put (ci := 7) (v := .int ((c4 + nI i9) + 1)) (ty := .int) (C := RX9) (T := TX9) (N := 11) hx hb hts in_X9_gather_X9 tyX9 tyX9_ok nmX9 hown hE hM hS g_x rfl 10 (by decide) (hts (.fieldLink RX9 173 "CallWays2" "samplesAsked" "I") (by decide +kernel)) (fun _ h9 => h9) rfl (by decide +kernel) rfl rfl (Nat.le_of_ble_eq_true rfl) dX9_gather_22 (fun H locs hM hS => ?_)
      have hM : mOK E.1 (mA M sz) (mUp M1 x (mO 7 [.ref a1, .ref a2, .ref a3, .ref a4, .int (nI nn), .int (nI nf), .int bd, .int st, .int c2, .int c3, .int ((c4 + nI i9) + 1)])) H := hM
      obtain ⟨M2, eM2⟩ : ∃ z, z = mUp M1 x (mO 7 [.ref a1, .ref a2, .ref a3, .ref a4, .int (nI nn), .int (nI nf), .int bd, .int st, .int c2, .int c3, .int ((c4 + nI i9) + 1)]) := ⟨_, rfl⟩
      rw [← eM2] at hM
      have g_a4_ : M2 a4 = some (mDb E 40 w) := by rw [eM2]; exact mUp_at (m_ne g_a4 g_x (by simp)) g_a4
      have g_p0_ : M2 p0 = some (mO ci [.ref q0, .int pi, .int on, .int ((sSt ci kf pi on tb ph0 le0 i9).1 + 1), .double ((sSm ci kf pi on tb ph0 le0 i9).2.2), va_rf (tab), .int ((sSm ci kf pi on tb ph0 le0 i9).1)]) := by rw [eM2]; exact mUp_at (Ne.symm h_xp) g_p0
      have g_q0_ : M2 q0 = some (mI E 4 kf) := by rw [eM2]; exact mUp_at (m_ne g_q0 g_x (by simp)) g_q0
      have g_a4 := g_a4_
      have g_p0 := g_p0_
      have g_q0 := g_q0_
      have g_x : M2 x = some (mO 7 [.ref a1, .ref a2, .ref a3, .ref a4, .int (nI nn), .int (nI nf), .int bd, .int st, .int c2, .int c3, .int ((c4 + nI i9) + 1)]) := by rw [eM2]; exact mUp_self _ _ _
      refine lv_aload_n hx hb dX9_gather_25 rfl (lv_at hl 3 rfl) ?_
      refine m_getI (v := .int ((sSm ci kf pi on tb ph0 le0 i9).1)) hx hb hts in_X9_gather_I hown hE hM g_p0 hci 6 (by decide) (hts (.fieldLink RX9 164 "CallWays2$Instrument" "failure" "I") (by decide +kernel)) (fun _ h9 => h9) rfl dX9_gather_26 ?_
      refine lv_if_eq (tgt := 37) hx hb dX9_gather_29 (by decide) (fun c_29 => ?_) (fun c_29 => ?_)
      · skip
        refine lv_aload_nN hx hb dX9_gather_37 rfl (lv_at hl 4 rfl) ?_
        refine lv_ifnullN (tgt := 53) hx hb dX9_gather_38 (by decide) ?_
        refine lv_aload_n hx hb dX9_gather_53 rfl (lv_at hl 2 rfl) ?_
        refine m_get (ci := 7) (v := .ref a4) (C := RX9) (T := TX9) (N := 11) hx hb hts in_X9_gather_X9 hown hE hM g_x rfl 3 (by decide) (hts (.fieldLink RX9 27 "CallWays2" "waiting" "[D") (by decide +kernel)) (fun _ h9 => h9) rfl dX9_gather_54 ?_
        refine lv_iload hx hb dX9_gather_57 (lv_at hl 1 rfl) ?_
        refine lv_aload_nN hx hb dX9_gather_59 rfl (lv_at hl 4 rfl) ?_
        refine lv_ifnonnullN hx hb dX9_gather_60 ?_
        refine lv_dload hx hb dX9_gather_63 (lv_at hl 0 rfl) ?_
        refine lv_goto (tgt := 74) hx hb dX9_gather_65 (by decide) ?_
        refine m_dast hx hb hE hM hS g_a4 (vp_in_nI (by omega) (by decide)) dX9_gather_74 (fun H locs hM hS => ?_)
        rw [show vf_upd w (nI i9).toNatClampNeg ((sSm ci kf pi on tb ph0 le0 i9).2.1) = vf_upd w i9 (psO none (sSm ci kf pi on tb ph0 le0 i9).2.1) from by rw [nI_clamp (by omega)]; rfl] at hM
        have hM : mOK E.1 (mA M sz) (mUp M2 a4 (mDb E 40 (vf_upd w i9 (psO none (sSm ci kf pi on tb ph0 le0 i9).2.1)))) H := hM
        obtain ⟨M3, eM3⟩ : ∃ z, z = mUp M2 a4 (mDb E 40 (vf_upd w i9 (psO none (sSm ci kf pi on tb ph0 le0 i9).2.1))) := ⟨_, rfl⟩
        rw [← eM3] at hM
        have g_x_ : M3 x = some (mO 7 [.ref a1, .ref a2, .ref a3, .ref a4, .int (nI nn), .int (nI nf), .int bd, .int st, .int c2, .int c3, .int ((c4 + nI i9) + 1)]) := by rw [eM3]; exact mUp_at (m_ne g_x g_a4 (by simp)) g_x
        have g_p0_ : M3 p0 = some (mO ci [.ref q0, .int pi, .int on, .int ((sSt ci kf pi on tb ph0 le0 i9).1 + 1), .double ((sSm ci kf pi on tb ph0 le0 i9).2.2), va_rf (tab), .int ((sSm ci kf pi on tb ph0 le0 i9).1)]) := by rw [eM3]; exact mUp_at (Ne.symm h_ap) g_p0
        have g_q0_ : M3 q0 = some (mI E 4 kf) := by rw [eM3]; exact mUp_at (m_ne g_q0 g_a4 (by simp)) g_q0
        have g_x := g_x_
        have g_p0 := g_p0_
        have g_q0 := g_q0_
        have g_a4 : M3 a4 = some (mDb E 40 (vf_upd w i9 (psO none (sSm ci kf pi on tb ph0 le0 i9).2.1))) := by rw [eM3]; exact mUp_self _ _ _
        refine lv_iinc (v := ((nI i9) + 1)) (lv' := [(4, .int ((nI i9) + 1)), (5, .double ((sSm ci kf pi on tb ph0 le0 i9).2.1)), (0, .ref x), (1, .ref p0), (2, .null), (3, .int (nI k))]) hx hb dX9_gather_75 hl (k := 1) rfl rfl (by decide) rfl (fun ls hl => ?_)
        refine lv_goto (tgt := 3) hx hb dX9_gather_78 (by decide) ?_
        rw [nI_1] at hl
        exact ih (i9 + 1) _ _ M3 ls _ _ (by omega) (hf9.trans (go_y c_29 (by simp [rfO]))) (by rw [eM3, eM2, eM1, eMi, tri_p (Ne.symm h_xp) (Ne.symm h_ap), tri_x h_xa, tri_a, c4_add]; rfl) (upd_all (g := fun j => psO none (sSm ci kf pi on tb ph0 le0 j).2.1) hw9) hM hS (lv_sub hl [0, 2, 3, 4, 5] rfl)
      · skip
        refine lv_aload_n hx hb dX9_gather_32 rfl (lv_at hl 3 rfl) ?_
        refine m_getI (v := .int ((sSm ci kf pi on tb ph0 le0 i9).1)) hx hb hts in_X9_gather_I hown hE hM g_p0 hci 6 (by decide) (hts (.fieldLink RX9 164 "CallWays2$Instrument" "failure" "I") (by decide +kernel)) (fun _ h9 => h9) rfl dX9_gather_33 ?_
        exact m_iret hx hb hr hlocks hM hS (Nat.le_refl _) (Nat.le_refl _) dX9_gather_36 (by rw [hf9, go_f c_29]; exact ⟨rfl, _, w, (by rw [eM2, eM1, eMi, tri_p (Ne.symm h_xp) (Ne.symm h_ap), tri_x h_xa, c4_add]; rfl), fun h => absurd h c_29⟩)
  refine lv_iconst (v := 0) hx hb dX9_gather_0 (by decide) ?_
  refine lv_istore (lv' := [(4, .int 0), (0, .ref x), (1, .ref p0), (2, .null), (3, .int (nI k))]) hx hb dX9_gather_1 hl (by decide) rfl (fun ls hl => ?_)
  exact loop k 0 fl0 wt M ls _ _ (by omega) rfl (by rw [show c4 + nI 0 = c4 from Int32.add_zero c4]; exact (tri_id g_p0 g_x g_a4).symm) (fun j hj => absurd hj (by omega)) hM hS (lv_sub hl [0, 1, 2, 3, 4] rfl)
set_option maxHeartbeats 4000000 in
set_option maxRecDepth 100000 in
theorem c_X9_gather_s (l : Launch) (E : mEnv) (M : mMem) (sz : Nat) (ci : Nat) (hci : insK ci) (x a1 a2 a3 a4 nn nf p0 q0 fq k : Nat) (bd st c2 c3 c4 : Int32) (wt : Nat → UInt64) (kf : Nat → Int32) (pi on ph0 fl0 kd : Int32) (le0 a : UInt64) (tab : Option Nat) (tb : tbT) (htb0 : tbAt E M tab tb) (hto : tbOK tb) (hle0 : dL le0) (ha : dB 1056 a) (hk40 : k ≤ 40) (g_x : M x = some (mO 7 [.ref a1, .ref a2, .ref a3, .ref a4, .int (nI nn), .int (nI nf), .int bd, .int st, .int c2, .int c3, .int c4])) (g_a4 : M a4 = some (mDb E 40 wt)) (g_p0 : M p0 = some (mO ci [.ref q0, .int pi, .int on, .int ph0, .double le0, va_rf (tab), .int fl0])) (g_q0 : M q0 = some (mI E 4 kf)) (g_fq : M fq = some (mO 2 [.int kd, .double a])) (hA4 : ∀ (t : Nat) (v : Int32 × Nat), tab = some t → M t = some (mO 5 [.int v.1, .ref v.2]) → v.2 ≠ a4) : Met l yX9_gather wsX9_gather ({ frames := 4, cells := 0, slots := 0, locals := 88 }) (mPre E M sz [.ref x, .ref p0, .ref fq, .int (nI k)]) (mQi E M sz (fun r u => r = (sGo ci kf pi on tb ph0 le0 (some (kd, a)) 0 k).1 ∧ ∃ (fl : Int32) (w : Nat → UInt64), u = tri M p0 x a4 (mO ci [.ref q0, .int pi, .int on, .int ((sSt ci kf pi on tb ph0 le0 (sGo ci kf pi on tb ph0 le0 (some (kd, a)) 0 k).2).1), .double ((sSt ci kf pi on tb ph0 le0 (sGo ci kf pi on tb ph0 le0 (some (kd, a)) 0 k).2).2), va_rf (tab), .int fl]) (mO 7 [.ref a1, .ref a2, .ref a3, .ref a4, .int (nI nn), .int (nI nf), .int bd, .int st, .int c2, .int c3, .int (c4 + nI (sGo ci kf pi on tb ph0 le0 (some (kd, a)) 0 k).2)]) (mDb E 40 w) ∧ ((sGo ci kf pi on tb ph0 le0 (some (kd, a)) 0 k).1 = 0 → ∀ j, j < k → w j = psO (some (kd, a)) (sSm ci kf pi on tb ph0 le0 j).2.1))) (0) (0) (mA M sz) := by
  refine m_met [.ref x, .ref p0, .ref fq, .int (nI k)] (by decide) rfl (Nat.le_of_ble_eq_true rfl) ?_
  intro p e s m below meth c ls H eH hx hb hr hts hown hlocks hnm hml hsz hE hM hS hA hl
  have hl : lv_has ls 7 [(0, .ref x), (1, .ref p0), (2, .ref fq), (3, .int (nI k))] := hl
  have h_xp : x ≠ p0 := m_ne g_x g_p0 (by simp)
  have h_ap : a4 ≠ p0 := m_ne g_a4 g_p0 (by simp)
  have h_xa : x ≠ a4 := m_ne g_x g_a4 (by simp)
  have h_fp : fq ≠ p0 := m_ne g_fq g_p0 (fun q => by simp at q)
  have h_fx : fq ≠ x := m_ne g_fq g_x (by simp)
  have loop : ∀ (n9 i9 : Nat) (fl : Int32) (w : Nat → UInt64) (Mi : mMem) (ls : Array Slot) (H : Heap) (locs : List Loc), i9 + n9 = k → sGo ci kf pi on tb ph0 le0 (some (kd, a)) 0 k = sGo ci kf pi on tb ph0 le0 (some (kd, a)) i9 n9 → Mi = tri M p0 x a4 (mO ci [.ref q0, .int pi, .int on, .int ((sSt ci kf pi on tb ph0 le0 i9).1), .double ((sSt ci kf pi on tb ph0 le0 i9).2), va_rf (tab), .int fl]) (mO 7 [.ref a1, .ref a2, .ref a3, .ref a4, .int (nI nn), .int (nI nf), .int bd, .int st, .int c2, .int c3, .int (c4 + nI i9)]) (mDb E 40 w) → (∀ j, j < i9 → w j = psO (some (kd, a)) (sSm ci kf pi on tb ph0 le0 j).2.1) → mOK E.1 (mA M sz) Mi H → va_S (mA M sz) s.heap H locs → lv_has ls 7 [(4, .int (nI i9)), (0, .ref x), (1, .ref p0), (2, .ref fq), (3, .int (nI k))] → W p l e ({ frames := 4, cells := 0, slots := 0, locals := 88 } : Room) s m #[.ref x, .ref p0, .ref fq, .int (nI k)] below meth c H locs 0 0 (MQ below (mQi E M sz (fun r u => r = (sGo ci kf pi on tb ph0 le0 (some (kd, a)) 0 k).1 ∧ ∃ (fl : Int32) (w : Nat → UInt64), u = tri M p0 x a4 (mO ci [.ref q0, .int pi, .int on, .int ((sSt ci kf pi on tb ph0 le0 (sGo ci kf pi on tb ph0 le0 (some (kd, a)) 0 k).2).1), .double ((sSt ci kf pi on tb ph0 le0 (sGo ci kf pi on tb ph0 le0 (some (kd, a)) 0 k).2).2), va_rf (tab), .int fl]) (mO 7 [.ref a1, .ref a2, .ref a3, .ref a4, .int (nI nn), .int (nI nf), .int bd, .int st, .int c2, .int c3, .int (c4 + nI (sGo ci kf pi on tb ph0 le0 (some (kd, a)) 0 k).2)]) (mDb E 40 w) ∧ ((sGo ci kf pi on tb ph0 le0 (some (kd, a)) 0 k).1 = 0 → ∀ j, j < k → w j = psO (some (kd, a)) (sSm ci kf pi on tb ph0 le0 j).2.1))) #[.ref x, .ref p0, .ref fq, .int (nI k)] s (0) (0) (mA M sz)) (F0 m 3 ls []) := by
    intro n9
    induction n9 with
    | zero =>
      intro i9 fl w Mi ls H locs hn9 hf9 eMi hw9 hM hS hl
      have hq0 : Mi q0 = some (mI E 4 kf) := by rw [eMi]; exact tri_ne g_q0 (m_ne g_q0 g_p0 (by simp)) (m_ne g_q0 g_x (by simp)) (m_ne g_q0 g_a4 (by simp))
      have hfq : Mi fq = some (mO 2 [.int kd, .double a]) := by rw [eMi]; exact tri_ne g_fq h_fp h_fx (m_ne g_fq g_a4 (by simp))
      have htb : tbAt E Mi tab tb := by rw [eMi]; exact tbAt_tri htb0 g_p0 g_x hci g_a4 hA4
      have hp0 : Mi p0 = some (mO ci [.ref q0, .int pi, .int on, .int ((sSt ci kf pi on tb ph0 le0 i9).1), .double ((sSt ci kf pi on tb ph0 le0 i9).2), va_rf (tab), .int fl]) := by rw [eMi]; exact tri_gp (Ne.symm h_xp) (Ne.symm h_ap)
      have hxx : Mi x = some (mO 7 [.ref a1, .ref a2, .ref a3, .ref a4, .int (nI nn), .int (nI nf), .int bd, .int st, .int c2, .int c3, .int (c4 + nI i9)]) := by rw [eMi]; exact tri_gx h_xa
      have ha4 : Mi a4 = some (mDb E 40 w) := by rw [eMi]; exact tri_ga
      have g_q0 := hq0
      have g_p0 := hp0
      have g_x := hxx
      have g_a4 := ha4
      have g_fq := hfq
      refine lv_iload hx hb dX9_gather_3 (lv_at hl 0 rfl) ?_
      refine lv_iload_n hx hb dX9_gather_5 rfl (lv_at hl 4 rfl) ?_
      refine lv_icmp_ge (tgt := 81) hx hb dX9_gather_6 (by decide) (fun _ => ?_) (fun h9 => False.elim (by revert h9; exact (fun h => h (nI_le (by omega) (by omega)))))
      refine lv_iconst (v := 0) hx hb dX9_gather_81 (by decide) ?_
      exact m_iret hx hb hr hlocks hM hS (Nat.le_refl _) (Nat.le_refl _) dX9_gather_82 (by rw [hf9]; exact ⟨rfl, fl, w, eMi, fun _ j hj => hw9 j (by omega)⟩)
    | succ n9 ih =>
      intro i9 fl w Mi ls H locs hn9 hf9 eMi hw9 hM hS hl
      have hq0 : Mi q0 = some (mI E 4 kf) := by rw [eMi]; exact tri_ne g_q0 (m_ne g_q0 g_p0 (by simp)) (m_ne g_q0 g_x (by simp)) (m_ne g_q0 g_a4 (by simp))
      have hfq : Mi fq = some (mO 2 [.int kd, .double a]) := by rw [eMi]; exact tri_ne g_fq h_fp h_fx (m_ne g_fq g_a4 (by simp))
      have htb : tbAt E Mi tab tb := by rw [eMi]; exact tbAt_tri htb0 g_p0 g_x hci g_a4 hA4
      have hp0 : Mi p0 = some (mO ci [.ref q0, .int pi, .int on, .int ((sSt ci kf pi on tb ph0 le0 i9).1), .double ((sSt ci kf pi on tb ph0 le0 i9).2), va_rf (tab), .int fl]) := by rw [eMi]; exact tri_gp (Ne.symm h_xp) (Ne.symm h_ap)
      have hxx : Mi x = some (mO 7 [.ref a1, .ref a2, .ref a3, .ref a4, .int (nI nn), .int (nI nf), .int bd, .int st, .int c2, .int c3, .int (c4 + nI i9)]) := by rw [eMi]; exact tri_gx h_xa
      have ha4 : Mi a4 = some (mDb E 40 w) := by rw [eMi]; exact tri_ga
      have g_q0 := hq0
      have g_p0 := hp0
      have g_x := hxx
      have g_a4 := ha4
      have g_fq := hfq
      refine lv_iload hx hb dX9_gather_3 (lv_at hl 0 rfl) ?_
      refine lv_iload_n hx hb dX9_gather_5 rfl (lv_at hl 4 rfl) ?_
      refine lv_icmp_ge (tgt := 81) hx hb dX9_gather_6 (by decide) (fun h9 => False.elim (by revert h9; exact (fun h => absurd h (nI_ge (by omega) (by omega))))) (fun _ => ?_)
      refine lv_aload_n hx hb dX9_gather_9 rfl (lv_at hl 2 rfl) ?_
      have hMr := hM
      have hrun : va_Run p l e ({ frames := 4, cells := 0, slots := 0, locals := 88 } : Room) s m #[.ref x, .ref p0, .ref fq, .int (nI k)] below meth c H locs 0 0 0 0 (F0 m 10 ls [.ref p0]) [] (mQd E Mi H.size (fun r u => r = (sSm ci kf pi on tb ph0 le0 i9).2.1 ∧ u = mUp Mi p0 (mO ci [.ref q0, .int pi, .int on, .int ((sSt ci kf pi on tb ph0 le0 i9).1 + 1), .double ((sSm ci kf pi on tb ph0 le0 i9).2.2), va_rf (tab), .int ((sSm ci kf pi on tb ph0 le0 i9).1)])) #[.ref p0]) (mA Mi H.size) := by
        rcases hci with rfl | rfl | rfl | rfl | rfl
        · exact va_runU (As := []) (rest := []) ⟨hx, hb, hml, hown, hts⟩ (c_X5_ask l E Mi H.size 0 (by unfold insK; decide) p0 q0 pi on (sSt 0 kf pi on tb ph0 le0 i9).1 (sSt 0 kf pi on tb ph0 le0 i9).2 tab kf tb fl htb (dL_st hle0 i9) (fun d hd => by have := (hto d hd).1; omega) g_p0 g_q0) (va_cwU 0 hts gX9_gather_X5_ask_u160X0 rfl rfl rfl rfl (by decide +kernel) ⟨Nat.le_of_ble_eq_true rfl, Nat.le_of_ble_eq_true rfl⟩) (m_preV hE hMr g_p0 rfl) rfl rfl hl.1 rfl (lv_room (Nat.le_of_ble_eq_true rfl)) dX9_gather_10 ⟨Nat.le_of_ble_eq_true rfl, Nat.le_of_ble_eq_true rfl⟩
        · exact va_runU (As := []) (rest := []) ⟨hx, hb, hml, hown, hts⟩ (c_X5_ask l E Mi H.size 1 (by unfold insK; decide) p0 q0 pi on (sSt 1 kf pi on tb ph0 le0 i9).1 (sSt 1 kf pi on tb ph0 le0 i9).2 tab kf tb fl htb (dL_st hle0 i9) (fun d hd => by have := (hto d hd).1; omega) g_p0 g_q0) (va_cwU 0 hts gX9_gather_X5_ask_u160X2 rfl rfl rfl rfl (by decide +kernel) ⟨Nat.le_of_ble_eq_true rfl, Nat.le_of_ble_eq_true rfl⟩) (m_preV hE hMr g_p0 rfl) rfl rfl hl.1 rfl (lv_room (Nat.le_of_ble_eq_true rfl)) dX9_gather_10 ⟨Nat.le_of_ble_eq_true rfl, Nat.le_of_ble_eq_true rfl⟩
        · exact va_runU (As := []) (rest := []) ⟨hx, hb, hml, hown, hts⟩ (c_X5_ask l E Mi H.size 3 (by unfold insK; decide) p0 q0 pi on (sSt 3 kf pi on tb ph0 le0 i9).1 (sSt 3 kf pi on tb ph0 le0 i9).2 tab kf tb fl htb (dL_st hle0 i9) (fun d hd => by have := (hto d hd).1; omega) g_p0 g_q0) (va_cwU 0 hts gX9_gather_X5_ask_u160X4 rfl rfl rfl rfl (by decide +kernel) ⟨Nat.le_of_ble_eq_true rfl, Nat.le_of_ble_eq_true rfl⟩) (m_preV hE hMr g_p0 rfl) rfl rfl hl.1 rfl (lv_room (Nat.le_of_ble_eq_true rfl)) dX9_gather_10 ⟨Nat.le_of_ble_eq_true rfl, Nat.le_of_ble_eq_true rfl⟩
        · exact va_runU (As := []) (rest := []) ⟨hx, hb, hml, hown, hts⟩ (c_X5_ask l E Mi H.size 4 (by unfold insK; decide) p0 q0 pi on (sSt 4 kf pi on tb ph0 le0 i9).1 (sSt 4 kf pi on tb ph0 le0 i9).2 tab kf tb fl htb (dL_st hle0 i9) (fun d hd => by have := (hto d hd).1; omega) g_p0 g_q0) (va_cwU 0 hts gX9_gather_X5_ask_u160X6 rfl rfl rfl rfl (by decide +kernel) ⟨Nat.le_of_ble_eq_true rfl, Nat.le_of_ble_eq_true rfl⟩) (m_preV hE hMr g_p0 rfl) rfl rfl hl.1 rfl (lv_room (Nat.le_of_ble_eq_true rfl)) dX9_gather_10 ⟨Nat.le_of_ble_eq_true rfl, Nat.le_of_ble_eq_true rfl⟩
        · exact va_runU (As := []) (rest := []) ⟨hx, hb, hml, hown, hts⟩ (c_X5_ask l E Mi H.size 6 (by unfold insK; decide) p0 q0 pi on (sSt 6 kf pi on tb ph0 le0 i9).1 (sSt 6 kf pi on tb ph0 le0 i9).2 tab kf tb fl htb (dL_st hle0 i9) (fun d hd => by have := (hto d hd).1; omega) g_p0 g_q0) (va_cwU 0 hts gX9_gather_X5_ask_u160X8 rfl rfl rfl rfl (by decide +kernel) ⟨Nat.le_of_ble_eq_true rfl, Nat.le_of_ble_eq_true rfl⟩) (m_preV hE hMr g_p0 rfl) rfl rfl hl.1 rfl (lv_room (Nat.le_of_ble_eq_true rfl)) dX9_gather_10 ⟨Nat.le_of_ble_eq_true rfl, Nat.le_of_ble_eq_true rfl⟩
      refine m_calld hrun hM hS hA (fun rd M1 H locs hw hM hS => ?_)
      obtain ⟨e_rd, eM1⟩ := hw
      subst e_rd
      have g_x_ : M1 x = some (mO 7 [.ref a1, .ref a2, .ref a3, .ref a4, .int (nI nn), .int (nI nf), .int bd, .int st, .int c2, .int c3, .int (c4 + nI i9)]) := by rw [eM1]; exact mUp_at h_xp g_x
      have g_a4_ : M1 a4 = some (mDb E 40 w) := by rw [eM1]; exact mUp_at h_ap g_a4
      have g_q0_ : M1 q0 = some (mI E 4 kf) := by rw [eM1]; exact mUp_at (m_ne g_q0 g_p0 (by simp)) g_q0
      have g_fq_ : M1 fq = some (mO 2 [.int kd, .double a]) := by rw [eM1]; exact mUp_at h_fp g_fq
      have g_x := g_x_
      have g_a4 := g_a4_
      have g_q0 := g_q0_
      have g_fq := g_fq_
      have g_p0 : M1 p0 = some (mO ci [.ref q0, .int pi, .int on, .int ((sSt ci kf pi on tb ph0 le0 i9).1 + 1), .double ((sSm ci kf pi on tb ph0 le0 i9).2.2), va_rf (tab), .int ((sSm ci kf pi on tb ph0 le0 i9).1)]) := by rw [eM1]; exact mUp_self _ _ _
      have hxd : dB 1061 (sSm ci kf pi on tb ph0 le0 i9).2.1 := dB_give (dL_st hle0 i9) hto
      refine lv_dstore (lv' := [(5, .double ((sSm ci kf pi on tb ph0 le0 i9).2.1)), (4, .int (nI i9)), (0, .ref x), (1, .ref p0), (2, .ref fq), (3, .int (nI k))]) hx hb dX9_gather_13 hl (by decide) rfl (fun ls hl => ?_)
      refine lv_aload_n hx hb dX9_gather_15 rfl (lv_at hl 2 rfl) ?_
      refine lv_dup hx hb dX9_gather_16 rfl ?_
      refine m_get (ci := 7) (v := .int (c4 + nI i9)) (C := RX9) (T := TX9) (N := 11) hx hb hts in_X9_gather_X9 hown hE hM g_x rfl 10 (by decide) (hts (.fieldLink RX9 173 "CallWays2" "samplesAsked" "I") (by decide +kernel)) (fun _ h9 => h9) rfl dX9_gather_17 ?_
      refine lv_iconst (v := 1) hx hb dX9_gather_20 (by decide) ?_
      refine lv_iadd hx hb dX9_gather_21 ?_
      refine m_put (ci := 7) (v := .int ((c4 + nI i9) + 1)) (ty := .int) (C := RX9) (T := TX9) (N := 11) hx hb hts in_X9_gather_X9 tyX9 tyX9_ok nmX9 hown hE hM hS g_x rfl 10 (by decide) (hts (.fieldLink RX9 173 "CallWays2" "samplesAsked" "I") (by decide +kernel)) (fun _ h9 => h9) rfl (by decide +kernel) rfl rfl (Nat.le_of_ble_eq_true rfl) dX9_gather_22 (fun H locs hM hS => ?_)
      have hM : mOK E.1 (mA M sz) (mUp M1 x (mO 7 [.ref a1, .ref a2, .ref a3, .ref a4, .int (nI nn), .int (nI nf), .int bd, .int st, .int c2, .int c3, .int ((c4 + nI i9) + 1)])) H := hM
      obtain ⟨M2, eM2⟩ : ∃ z, z = mUp M1 x (mO 7 [.ref a1, .ref a2, .ref a3, .ref a4, .int (nI nn), .int (nI nf), .int bd, .int st, .int c2, .int c3, .int ((c4 + nI i9) + 1)]) := ⟨_, rfl⟩
      rw [← eM2] at hM
      have g_a4_ : M2 a4 = some (mDb E 40 w) := by rw [eM2]; exact mUp_at (m_ne g_a4 g_x (by simp)) g_a4
      have g_p0_ : M2 p0 = some (mO ci [.ref q0, .int pi, .int on, .int ((sSt ci kf pi on tb ph0 le0 i9).1 + 1), .double ((sSm ci kf pi on tb ph0 le0 i9).2.2), va_rf (tab), .int ((sSm ci kf pi on tb ph0 le0 i9).1)]) := by rw [eM2]; exact mUp_at (Ne.symm h_xp) g_p0
      have g_q0_ : M2 q0 = some (mI E 4 kf) := by rw [eM2]; exact mUp_at (m_ne g_q0 g_x (by simp)) g_q0
      have g_fq_ : M2 fq = some (mO 2 [.int kd, .double a]) := by rw [eM2]; exact mUp_at h_fx g_fq
      have g_a4 := g_a4_
      have g_p0 := g_p0_
      have g_q0 := g_q0_
      have g_fq := g_fq_
      have g_x : M2 x = some (mO 7 [.ref a1, .ref a2, .ref a3, .ref a4, .int (nI nn), .int (nI nf), .int bd, .int st, .int c2, .int c3, .int ((c4 + nI i9) + 1)]) := by rw [eM2]; exact mUp_self _ _ _
      refine lv_aload_n hx hb dX9_gather_25 rfl (lv_at hl 3 rfl) ?_
      refine m_getI (v := .int ((sSm ci kf pi on tb ph0 le0 i9).1)) hx hb hts in_X9_gather_I hown hE hM g_p0 hci 6 (by decide) (hts (.fieldLink RX9 164 "CallWays2$Instrument" "failure" "I") (by decide +kernel)) (fun _ h9 => h9) rfl dX9_gather_26 ?_
      refine lv_if_eq (tgt := 37) hx hb dX9_gather_29 (by decide) (fun c_29 => ?_) (fun c_29 => ?_)
      · skip
        refine lv_aload_n hx hb dX9_gather_37 rfl (lv_at hl 4 rfl) ?_
        refine lv_ifnull hx hb dX9_gather_38 ?_
        refine lv_aload_n hx hb dX9_gather_41 rfl (lv_at hl 4 rfl) ?_
        refine lv_dload hx hb dX9_gather_42 (lv_at hl 0 rfl) ?_
        refine m_calli (va_runV (As := [.double ((sSm ci kf pi on tb ph0 le0 i9).2.1)]) (rest := []) ⟨hx, hb, hml, hown, hts⟩ (c_X3_refuses l E M2 H.size fq kd a (sSm ci kf pi on tb ph0 le0 i9).2.1 g_fq) (cwV 1 hts gX9_gather_X3_refuses rfl rfl rfl (by decide +kernel) ⟨Nat.le_of_ble_eq_true rfl, Nat.le_of_ble_eq_true rfl⟩) (m_preV hE hM g_fq rfl) rfl rfl hl.1 rfl (lv_room (Nat.le_of_ble_eq_true rfl)) dX9_gather_44 ⟨Nat.le_of_ble_eq_true rfl, Nat.le_of_ble_eq_true rfl⟩) hM hS hA (fun r1 u H locs hw hM hS => ?_)
        obtain ⟨e_r1, eu⟩ := hw
        rw [eu] at hM
        subst e_r1
        refine lv_if_eq (tgt := 53) hx hb dX9_gather_47 (by decide) (fun c_47 => ?_) (fun c_47 => ?_)
        · skip
          rw [bI_eq] at c_47
          refine lv_aload_n hx hb dX9_gather_53 rfl (lv_at hl 2 rfl) ?_
          refine m_get (ci := 7) (v := .ref a4) (C := RX9) (T := TX9) (N := 11) hx hb hts in_X9_gather_X9 hown hE hM g_x rfl 3 (by decide) (hts (.fieldLink RX9 27 "CallWays2" "waiting" "[D") (by decide +kernel)) (fun _ h9 => h9) rfl dX9_gather_54 ?_
          refine lv_iload hx hb dX9_gather_57 (lv_at hl 1 rfl) ?_
          refine lv_aload_n hx hb dX9_gather_59 rfl (lv_at hl 4 rfl) ?_
          refine lv_ifnonnull (tgt := 68) hx hb dX9_gather_60 (by decide) ?_
          refine lv_aload_n hx hb dX9_gather_68 rfl (lv_at hl 4 rfl) ?_
          refine lv_dload hx hb dX9_gather_69 (lv_at hl 0 rfl) ?_
          refine m_calld (va_runV (As := [.double ((sSm ci kf pi on tb ph0 le0 i9).2.1)]) (rest := [.int (nI i9), .ref a4]) ⟨hx, hb, hml, hown, hts⟩ (c_X3_pass l E M2 H.size fq kd a (sSm ci kf pi on tb ph0 le0 i9).2.1 (hxd.fin (by decide)) (ha.fin (by decide)) g_fq) (cwV 1 hts gX9_gather_X3_pass rfl rfl rfl (by decide +kernel) ⟨Nat.le_of_ble_eq_true rfl, Nat.le_of_ble_eq_true rfl⟩) (m_preV hE hM g_fq rfl) rfl rfl hl.1 rfl (lv_room (Nat.le_of_ble_eq_true rfl)) dX9_gather_71 ⟨Nat.le_of_ble_eq_true rfl, Nat.le_of_ble_eq_true rfl⟩) hM hS hA (fun r2 u H locs hw hM hS => ?_)
          obtain ⟨e_r2, eu⟩ := hw
          rw [eu] at hM
          subst e_r2
          refine m_dast hx hb hE hM hS g_a4 (vp_in_nI (by omega) (by decide)) dX9_gather_74 (fun H locs hM hS => ?_)
          rw [show vf_upd w (nI i9).toNatClampNeg (sPass kd a (sSm ci kf pi on tb ph0 le0 i9).2.1) = vf_upd w i9 (psO (some (kd, a)) (sSm ci kf pi on tb ph0 le0 i9).2.1) from by rw [nI_clamp (by omega)]; rfl] at hM
          have hM : mOK E.1 (mA M sz) (mUp M2 a4 (mDb E 40 (vf_upd w i9 (psO (some (kd, a)) (sSm ci kf pi on tb ph0 le0 i9).2.1)))) H := hM
          obtain ⟨M3, eM3⟩ : ∃ z, z = mUp M2 a4 (mDb E 40 (vf_upd w i9 (psO (some (kd, a)) (sSm ci kf pi on tb ph0 le0 i9).2.1))) := ⟨_, rfl⟩
          rw [← eM3] at hM
          have g_x_ : M3 x = some (mO 7 [.ref a1, .ref a2, .ref a3, .ref a4, .int (nI nn), .int (nI nf), .int bd, .int st, .int c2, .int c3, .int ((c4 + nI i9) + 1)]) := by rw [eM3]; exact mUp_at (m_ne g_x g_a4 (by simp)) g_x
          have g_p0_ : M3 p0 = some (mO ci [.ref q0, .int pi, .int on, .int ((sSt ci kf pi on tb ph0 le0 i9).1 + 1), .double ((sSm ci kf pi on tb ph0 le0 i9).2.2), va_rf (tab), .int ((sSm ci kf pi on tb ph0 le0 i9).1)]) := by rw [eM3]; exact mUp_at (Ne.symm h_ap) g_p0
          have g_q0_ : M3 q0 = some (mI E 4 kf) := by rw [eM3]; exact mUp_at (m_ne g_q0 g_a4 (by simp)) g_q0
          have g_fq_ : M3 fq = some (mO 2 [.int kd, .double a]) := by rw [eM3]; exact mUp_at (m_ne g_fq g_a4 (by simp)) g_fq
          have g_x := g_x_
          have g_p0 := g_p0_
          have g_q0 := g_q0_
          have g_fq := g_fq_
          have g_a4 : M3 a4 = some (mDb E 40 (vf_upd w i9 (psO (some (kd, a)) (sSm ci kf pi on tb ph0 le0 i9).2.1))) := by rw [eM3]; exact mUp_self _ _ _
          refine lv_iinc (v := ((nI i9) + 1)) (lv' := [(4, .int ((nI i9) + 1)), (5, .double ((sSm ci kf pi on tb ph0 le0 i9).2.1)), (0, .ref x), (1, .ref p0), (2, .ref fq), (3, .int (nI k))]) hx hb dX9_gather_75 hl (k := 1) rfl rfl (by decide) rfl (fun ls hl => ?_)
          refine lv_goto (tgt := 3) hx hb dX9_gather_78 (by decide) ?_
          rw [nI_1] at hl
          exact ih (i9 + 1) _ _ M3 ls _ _ (by omega) (hf9.trans (go_y c_29 (by simp only [rfO, decide_eq_true_eq]; exact c_47))) (by rw [eM3, eM2, eM1, eMi, tri_p (Ne.symm h_xp) (Ne.symm h_ap), tri_x h_xa, tri_a, c4_add]; rfl) (upd_all (g := fun j => psO (some (kd, a)) (sSm ci kf pi on tb ph0 le0 j).2.1) hw9) hM hS (lv_sub hl [0, 2, 3, 4, 5] rfl)
        · skip
          rw [bI_ne] at c_47
          refine lv_bipush (v := -3) hx hb dX9_gather_50 (by decide) ?_
          exact m_iret hx hb hr hlocks hM hS (Nat.le_refl _) (Nat.le_refl _) dX9_gather_52 (by rw [hf9, go_r c_29 (by simp only [rfO, decide_eq_true_eq]; exact c_47)]; exact ⟨rfl, _, w, (by rw [eM2, eM1, eMi, tri_p (Ne.symm h_xp) (Ne.symm h_ap), tri_x h_xa, c4_add]; rfl), fun h => absurd h (show ¬ (-3 : Int32) = 0 by decide)⟩)
      · skip
        refine lv_aload_n hx hb dX9_gather_32 rfl (lv_at hl 3 rfl) ?_
        refine m_getI (v := .int ((sSm ci kf pi on tb ph0 le0 i9).1)) hx hb hts in_X9_gather_I hown hE hM g_p0 hci 6 (by decide) (hts (.fieldLink RX9 164 "CallWays2$Instrument" "failure" "I") (by decide +kernel)) (fun _ h9 => h9) rfl dX9_gather_33 ?_
        exact m_iret hx hb hr hlocks hM hS (Nat.le_refl _) (Nat.le_refl _) dX9_gather_36 (by rw [hf9, go_f c_29]; exact ⟨rfl, _, w, (by rw [eM2, eM1, eMi, tri_p (Ne.symm h_xp) (Ne.symm h_ap), tri_x h_xa, c4_add]; rfl), fun h => absurd h c_29⟩)
  refine lv_iconst (v := 0) hx hb dX9_gather_0 (by decide) ?_
  refine lv_istore (lv' := [(4, .int 0), (0, .ref x), (1, .ref p0), (2, .ref fq), (3, .int (nI k))]) hx hb dX9_gather_1 hl (by decide) rfl (fun ls hl => ?_)
  exact loop k 0 fl0 wt M ls _ _ (by omega) rfl (by rw [show c4 + nI 0 = c4 from Int32.add_zero c4]; exact (tri_id g_p0 g_x g_a4).symm) (fun j hj => absurd hj (by omega)) hM hS (lv_sub hl [0, 1, 2, 3, 4] rfl)
def dlv (f : Nat → UInt64) (a : Nat) (g : Nat → UInt64) (i : Nat) : Nat → UInt64 := fun j => if a ≤ j ∧ j < a + i then g (j - a) else f j
theorem dlv_0 {f g : Nat → UInt64} {a : Nat} : dlv f a g 0 = f := by
  funext j
  simp only [dlv]
  rw [if_neg (by omega)]
theorem dlv_s {f g : Nat → UInt64} {a i : Nat} : vf_upd (dlv f a g i) (a + i) (g i) = dlv f a g (i + 1) := by
  funext j
  by_cases h : j = a + i
  · subst h
    simp only [vf_upd, dlv, if_true]
    rw [if_pos (by omega), Nat.add_sub_cancel_left]
  · simp only [vf_upd, dlv, h, if_false]
    by_cases h1 : a ≤ j ∧ j < a + i
    · rw [if_pos h1, if_pos (by omega)]
    · rw [if_neg h1, if_neg (by omega)]
theorem dlv_c {f g g' : Nat → UInt64} {a i : Nat} (h : ∀ j, j < i → g j = g' j) : dlv f a g i = dlv f a g' i := by
  funext j
  simp only [dlv]
  by_cases h1 : a ≤ j ∧ j < a + i
  · rw [if_pos h1, if_pos h1, h _ (by omega)]
  · rw [if_neg h1, if_neg h1]
theorem fin_c0 : FP.Core.DFin FP.dconst0 := fin_0
theorem in_X9_deliver_X9 : ∀ w ∈ wsX90, w ∈ wsX9_deliver := by decide +kernel
set_option maxHeartbeats 4000000 in
set_option maxRecDepth 100000 in
theorem c_X9_deliver (l : Launch) (E : mEnv) (M : mMem) (sz : Nat) (x a1 a2 a3 a4 nn nf s1 v1 n1 a k : Nat) (bd st c2 c3 c4 lane fw : Int32) (wt f1 : Nat → UInt64) (hva : v1 ≠ a4) (hk40 : k ≤ 40) (hn1 : n1 ≤ 40) (hak : a + k ≤ n1) (hfw : fw = 0 → ∀ j, j < k → FP.Core.DFin (wt j)) (g_x : M x = some (mO 7 [.ref a1, .ref a2, .ref a3, .ref a4, .int (nI nn), .int (nI nf), .int bd, .int st, .int c2, .int c3, .int c4])) (g_a4 : M a4 = some (mDb E 40 wt)) (g_s1 : M s1 = some (mO 5 [.int lane, .ref v1])) (g_v1 : M v1 = some (mDb E n1 f1))  : Met l yX9_deliver wsX9_deliver ({ frames := 2, cells := 0, slots := 0, locals := 45 }) (mPre E M sz [.ref x, .ref s1, .int (nI a), .int (nI k), .int fw]) (mQv E M sz (fun u => u = mUp M v1 (mDb E n1 (dlv f1 a (fun q => sTurn lane (if fw = 0 then wt q else FP.dconst0)) k)))) (0) (0) (mA M sz) := by
  refine m_met [.ref x, .ref s1, .int (nI a), .int (nI k), .int fw] (by decide) rfl (Nat.le_of_ble_eq_true rfl) ?_
  intro p e s m below meth c ls H eH hx hb hr hts hown hlocks hnm hml hsz hE hM hS hA hl
  have hl : lv_has ls 6 [(0, .ref x), (1, .ref s1), (2, .int (nI a)), (3, .int (nI k)), (4, .int fw)] := hl
  have loop : ∀ (n9 i9 : Nat) (Mi : mMem) (ls : Array Slot) (H : Heap) (locs : List Loc), i9 + n9 = k → Mi = mUp M v1 (mDb E n1 (dlv f1 a (fun q => sTurn lane (if fw = 0 then wt q else FP.dconst0)) i9)) → mOK E.1 (mA M sz) Mi H → va_S (mA M sz) s.heap H locs → lv_has ls 6 [(5, .int (nI i9)), (0, .ref x), (1, .ref s1), (2, .int (nI a)), (3, .int (nI k)), (4, .int fw)] → W p l e ({ frames := 2, cells := 0, slots := 0, locals := 45 } : Room) s m #[.ref x, .ref s1, .int (nI a), .int (nI k), .int fw] below meth c H locs 0 0 (MQ below (mQv E M sz (fun u => u = mUp M v1 (mDb E n1 (dlv f1 a (fun q => sTurn lane (if fw = 0 then wt q else FP.dconst0)) k)))) #[.ref x, .ref s1, .int (nI a), .int (nI k), .int fw] s (0) (0) (mA M sz)) (F0 m 3 ls []) := by
    intro n9
    induction n9 with
    | zero =>
      intro i9 Mi ls H locs hn9 eMi hM hS hl
      have hh_x : Mi x = some (mO 7 [.ref a1, .ref a2, .ref a3, .ref a4, .int (nI nn), .int (nI nf), .int bd, .int st, .int c2, .int c3, .int c4]) := by rw [eMi]; exact mUp_at (m_ne g_x g_v1 (by simp)) g_x
      have hh_a4 : Mi a4 = some (mDb E 40 wt) := by rw [eMi]; exact mUp_at (Ne.symm hva) g_a4
      have hh_s1 : Mi s1 = some (mO 5 [.int lane, .ref v1]) := by rw [eMi]; exact mUp_at (m_ne g_s1 g_v1 (by simp)) g_s1
      have hh_v1 : Mi v1 = some (mDb E n1 (dlv f1 a (fun q => sTurn lane (if fw = 0 then wt q else FP.dconst0)) i9)) := by rw [eMi]; exact mUp_self _ _ _
      have g_x := hh_x
      have g_a4 := hh_a4
      have g_s1 := hh_s1
      have g_v1 := hh_v1
      refine lv_iload hx hb dX9_deliver_3 (lv_at hl 0 rfl) ?_
      refine lv_iload_n hx hb dX9_deliver_5 rfl (lv_at hl 4 rfl) ?_
      refine lv_icmp_ge (tgt := 39) hx hb dX9_deliver_6 (by decide) (fun _ => ?_) (fun h9 => False.elim (by revert h9; exact (fun h => h (nI_le (by omega) (by omega)))))
      exact m_vret hx hb hr hlocks hM hS (Nat.le_refl _) (Nat.le_refl _) dX9_deliver_39 (by show _ = _; rw [eMi, show i9 = k by omega])
    | succ n9 ih =>
      intro i9 Mi ls H locs hn9 eMi hM hS hl
      have hh_x : Mi x = some (mO 7 [.ref a1, .ref a2, .ref a3, .ref a4, .int (nI nn), .int (nI nf), .int bd, .int st, .int c2, .int c3, .int c4]) := by rw [eMi]; exact mUp_at (m_ne g_x g_v1 (by simp)) g_x
      have hh_a4 : Mi a4 = some (mDb E 40 wt) := by rw [eMi]; exact mUp_at (Ne.symm hva) g_a4
      have hh_s1 : Mi s1 = some (mO 5 [.int lane, .ref v1]) := by rw [eMi]; exact mUp_at (m_ne g_s1 g_v1 (by simp)) g_s1
      have hh_v1 : Mi v1 = some (mDb E n1 (dlv f1 a (fun q => sTurn lane (if fw = 0 then wt q else FP.dconst0)) i9)) := by rw [eMi]; exact mUp_self _ _ _
      have g_x := hh_x
      have g_a4 := hh_a4
      have g_s1 := hh_s1
      have g_v1 := hh_v1
      refine lv_iload hx hb dX9_deliver_3 (lv_at hl 0 rfl) ?_
      refine lv_iload_n hx hb dX9_deliver_5 rfl (lv_at hl 4 rfl) ?_
      refine lv_icmp_ge (tgt := 39) hx hb dX9_deliver_6 (by decide) (fun h9 => False.elim (by revert h9; exact (fun h => absurd h (nI_ge (by omega) (by omega))))) (fun _ => ?_)
      refine lv_aload_n hx hb dX9_deliver_9 rfl (lv_at hl 2 rfl) ?_
      refine lv_iload_n hx hb dX9_deliver_10 rfl (lv_at hl 3 rfl) ?_
      refine lv_iload hx hb dX9_deliver_11 (lv_at hl 0 rfl) ?_
      refine lv_iadd hx hb dX9_deliver_13 ?_
      refine lv_iload hx hb dX9_deliver_14 (lv_at hl 5 rfl) ?_
      refine lv_if_ne (tgt := 29) hx hb dX9_deliver_16 (by decide) (fun c_16 => ?_) (fun c_16 => ?_)
      · skip
        refine lv_dconst0 hx hb dX9_deliver_29 ?_
        rw [nI_add]
        have hval : (if fw = 0 then wt i9 else FP.dconst0) = FP.dconst0 := if_neg c_16
        refine m_callv (va_runV (As := [.int (nI (a + i9)), .double FP.dconst0]) (rest := []) ⟨hx, hb, hml, hown, hts⟩ (c_X7_set l E Mi H.size s1 v1 n1 lane (dlv f1 a (fun q => sTurn lane (if fw = 0 then wt q else FP.dconst0)) i9) (nI (a + i9)) FP.dconst0 fin_c0 (vp_in_nI (by omega) (by omega)) g_s1 g_v1) (cwV 2 hts gX9_deliver_X7_set rfl rfl rfl (by decide +kernel) ⟨Nat.le_of_ble_eq_true rfl, Nat.le_of_ble_eq_true rfl⟩) (m_preV hE hM g_s1 rfl) rfl rfl hl.1 rfl (lv_room (Nat.le_of_ble_eq_true rfl)) dX9_deliver_30 ⟨Nat.le_of_ble_eq_true rfl, Nat.le_of_ble_eq_true rfl⟩) hM hS hA (fun M2 H locs hw hM hS => ?_)
        have eM2 := hw
        rw [nI_clamp (by omega), show sTurn lane FP.dconst0 = (fun q => sTurn lane (if fw = 0 then wt q else FP.dconst0)) i9 from (by show _ = sTurn lane (if fw = 0 then wt i9 else FP.dconst0); rw [hval]), dlv_s] at eM2
        refine lv_iinc (v := ((nI i9) + 1)) (lv' := [(5, .int ((nI i9) + 1)), (0, .ref x), (1, .ref s1), (2, .int (nI a)), (3, .int (nI k)), (4, .int fw)]) hx hb dX9_deliver_33 hl (k := 0) rfl rfl (by decide) rfl (fun ls hl => ?_)
        refine lv_goto (tgt := 3) hx hb dX9_deliver_36 (by decide) ?_
        rw [nI_1] at hl
        exact ih (i9 + 1) M2 ls _ _ (by omega) (by rw [eM2, eMi, mUp_up]) hM hS (lv_sub hl [0, 1, 2, 3, 4, 5] rfl)
      · skip
        refine lv_aload_n hx hb dX9_deliver_19 rfl (lv_at hl 1 rfl) ?_
        refine m_get (ci := 7) (v := .ref a4) (C := RX9) (T := TX9) (N := 11) hx hb hts in_X9_deliver_X9 hown hE hM g_x rfl 3 (by decide) (hts (.fieldLink RX9 27 "CallWays2" "waiting" "[D") (by decide +kernel)) (fun _ h9 => h9) rfl dX9_deliver_20 ?_
        refine lv_iload hx hb dX9_deliver_23 (lv_at hl 0 rfl) ?_
        refine m_dald hx hb hE hM g_a4 (vp_in_nI (by omega) (by decide)) dX9_deliver_25 ?_
        rw [show wt (nI i9).toNatClampNeg = wt i9 from by rw [nI_clamp (by omega)]]
        refine lv_goto (tgt := 30) hx hb dX9_deliver_26 (by decide) ?_
        rw [nI_add]
        have hval : (if fw = 0 then wt i9 else FP.dconst0) = wt i9 := (by rw [if_pos c_16])
        refine m_callv (va_runV (As := [.int (nI (a + i9)), .double (wt i9)]) (rest := []) ⟨hx, hb, hml, hown, hts⟩ (c_X7_set l E Mi H.size s1 v1 n1 lane (dlv f1 a (fun q => sTurn lane (if fw = 0 then wt q else FP.dconst0)) i9) (nI (a + i9)) (wt i9) (hfw c_16 i9 (by omega)) (vp_in_nI (by omega) (by omega)) g_s1 g_v1) (cwV 2 hts gX9_deliver_X7_set rfl rfl rfl (by decide +kernel) ⟨Nat.le_of_ble_eq_true rfl, Nat.le_of_ble_eq_true rfl⟩) (m_preV hE hM g_s1 rfl) rfl rfl hl.1 rfl (lv_room (Nat.le_of_ble_eq_true rfl)) dX9_deliver_30 ⟨Nat.le_of_ble_eq_true rfl, Nat.le_of_ble_eq_true rfl⟩) hM hS hA (fun M4 H locs hw hM hS => ?_)
        have eM4 := hw
        rw [nI_clamp (by omega), show sTurn lane (wt i9) = (fun q => sTurn lane (if fw = 0 then wt q else FP.dconst0)) i9 from (by show _ = sTurn lane (if fw = 0 then wt i9 else FP.dconst0); rw [hval]), dlv_s] at eM4
        refine lv_iinc (v := ((nI i9) + 1)) (lv' := [(5, .int ((nI i9) + 1)), (0, .ref x), (1, .ref s1), (2, .int (nI a)), (3, .int (nI k)), (4, .int fw)]) hx hb dX9_deliver_33 hl (k := 0) rfl rfl (by decide) rfl (fun ls hl => ?_)
        refine lv_goto (tgt := 3) hx hb dX9_deliver_36 (by decide) ?_
        rw [nI_1] at hl
        exact ih (i9 + 1) M4 ls _ _ (by omega) (by rw [eM4, eMi, mUp_up]) hM hS (lv_sub hl [0, 1, 2, 3, 4, 5] rfl)
  refine lv_iconst (v := 0) hx hb dX9_deliver_0 (by decide) ?_
  refine lv_istore (lv' := [(5, .int 0), (0, .ref x), (1, .ref s1), (2, .int (nI a)), (3, .int (nI k)), (4, .int fw)]) hx hb dX9_deliver_1 hl (by decide) rfl (fun ls hl => ?_)
  exact loop k 0 M ls _ _ (by omega) (by rw [dlv_0]; exact (mUp_id g_v1).symm) hM hS (lv_sub hl [0, 1, 2, 3, 4, 5] rfl)
