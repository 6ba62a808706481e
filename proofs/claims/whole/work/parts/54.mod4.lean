/-- taken: one of the first k has the row -/
def tkn (f : Nat → Option Nat) (r : Nat) (t : Int32) : Nat → Int32
  | 0 => t
  | k + 1 => if tkn f r t k = 0 then (if f k = some r then 1 else 0) else 1
theorem tkn_t {f : Nat → Option Nat} {r k : Nat} {t : Int32} (h : ¬ tkn f r t k = 0) : tkn f r t (k + 1) = 1 := by rw [tkn, if_neg h]
theorem tkn_y {f : Nat → Option Nat} {r k : Nat} {t : Int32} (h : tkn f r t k = 0) (h1 : f k = some r) : tkn f r t (k + 1) = 1 := by rw [tkn, if_pos h, if_pos h1]
theorem tkn_n {f : Nat → Option Nat} {r k : Nat} {t : Int32} (h : tkn f r t k = 0) (h1 : ¬ f k = some r) : tkn f r t (k + 1) = 0 := by rw [tkn, if_pos h, if_neg h1]
theorem tkn_01 {f : Nat → Option Nat} {r : Nat} {t : Int32} (ht : t = 0 ∨ t = 1) : ∀ k, tkn f r t k = 0 ∨ tkn f r t k = 1
  | 0 => ht
  | k + 1 => by
    by_cases h : tkn f r t k = 0
    · by_cases h1 : f k = some r
      · exact Or.inr (tkn_y h h1)
      · exact Or.inl (tkn_n h h1)
    · exact Or.inr (tkn_t h)
theorem tkn_0 {f : Nat → Option Nat} {r : Nat} {t : Int32} : ∀ k, tkn f r t k = 0 ↔ t = 0 ∧ ∀ q, q < k → ¬ f q = some r
  | 0 => by
    show t = 0 ↔ _
    exact ⟨fun h => ⟨h, fun q hq => absurd hq (Nat.not_lt_zero q)⟩, fun h => h.1⟩
  | k + 1 => by
    constructor
    · intro h
      by_cases h0 : tkn f r t k = 0
      · by_cases h1 : f k = some r
        · rw [tkn_y h0 h1] at h
          exact absurd h (by decide)
        · obtain ⟨e1, e2⟩ := (tkn_0 k).mp h0
          refine ⟨e1, fun q hq => ?_⟩
          by_cases hqk : q = k
          · subst hqk; exact h1
          · exact e2 q (by omega)
      · rw [tkn_t h0] at h
        exact absurd h (by decide)
    · rintro ⟨h1, h2⟩
      exact tkn_n ((tkn_0 k).mpr ⟨h1, fun q hq => h2 q (by omega)⟩) (h2 k (by omega))
theorem tkn_u {bk tb : Nat → Option Nat} {r : Nat} : tkn tb r (tkn bk r 0 10) 12 = 0 ↔ usedB bk tb r = false := by
  rw [tkn_0, tkn_0]
  constructor
  · rintro ⟨⟨_, h1⟩, h2⟩
    cases h : usedB bk tb r with
    | false => rfl
    | true =>
      rcases usedB_iff.mp h with ⟨k, hk, he⟩ | ⟨k, hk, he⟩
      · exact absurd he (h1 k hk)
      · exact absurd he (h2 k hk)
  · intro h
    refine ⟨⟨rfl, fun q hq he => ?_⟩, fun q hq he => ?_⟩
    · rw [usedB_iff.mpr (Or.inl ⟨q, hq, he⟩)] at h; cases h
    · rw [usedB_iff.mpr (Or.inr ⟨q, hq, he⟩)] at h; cases h
theorem fr_eq {bk tb : Nat → Option Nat} {r : Nat} (h : r ≤ fresh bk tb) (h1 : usedB bk tb r = false) : r = fresh bk tb := by
  by_cases h2 : r < fresh bk tb
  · rw [fresh_min h2] at h1; cases h1
  · omega
theorem fr_lt {bk tb : Nat → Option Nat} {r : Nat} (h : r ≤ fresh bk tb) (h1 : ¬ usedB bk tb r = false) : r + 1 ≤ fresh bk tb := by
  by_cases h2 : r = fresh bk tb
  · subst h2; exact absurd (fresh_un bk tb) h1
  · omega
theorem le_lit (b : Nat) {k : Nat} (hb : b < 2 ^ 31) (hk : k < 2 ^ 31) (h : b ≤ k) : nI b ≤ nI k := (nI_leI hb hk).mpr h
theorem lt_lit (b : Nat) {k : Nat} (hb : b < 2 ^ 31) (h : k < b) (h1 : nI b ≤ nI k) : False := by
  rw [nI_leI hb (by omega)] at h1
  omega
def zro (f : Nat → Int64) (a k : Nat) : Nat → Int64 := fun q => if a ≤ q ∧ q < a + k then 0 else f q
theorem zro_0 {f : Nat → Int64} {a : Nat} : zro f a 0 = f := by
  funext q
  simp only [zro]
  rw [if_neg (by omega)]
theorem zro_s {f : Nat → Int64} {a k : Nat} : vp_updL (zro f a k) (a + k) 0 = zro f a (k + 1) := by
  funext q
  by_cases h : q = a + k
  · subst h
    simp only [vp_updL, zro, if_true]
    rw [if_pos (by omega)]
  · simp only [vp_updL, zro, h, if_false]
    by_cases h1 : a ≤ q ∧ q < a + k
    · rw [if_pos h1, if_pos (by omega)]
    · rw [if_neg h1, if_neg (by omega)]
theorem cpy_0 {α : Type} {f g : Nat → α} {a b : Nat} : va_cpy f g a b 0 = g := by
  funext q
  simp only [va_cpy]
  rw [if_neg (by omega)]
theorem cpy_s {f g : Nat → Int64} {a b k : Nat} : vp_updL (va_cpy f g a b k) (b + k) (f (a + k)) = va_cpy f g a b (k + 1) := by
  funext q
  by_cases h : q = b + k
  · subst h
    simp only [vp_updL, va_cpy, if_true]
    rw [if_pos (by omega), Nat.add_sub_cancel_left]
  · simp only [vp_updL, va_cpy, h, if_false]
    by_cases h1 : b ≤ q ∧ q < b + k
    · rw [if_pos h1, if_pos (by omega)]
    · rw [if_neg h1, if_neg (by omega)]
theorem in_X10_freshRow_X10 : ∀ w ∈ wsX100, w ∈ wsX10_freshRow := by decide +kernel
set_option maxHeartbeats 4000000 in
set_option maxRecDepth 100000 in
theorem c_X10_freshRow (l : Launch) (E : mEnv) (M : mMem) (sz : Nat) (y b1 b2 b3 b4 b5 b6 b7 b8 b9 b10 b11 b12 b13 b14 b15 b16 : Nat) (ni nf0 bd st fa : Int32) (B : Nat → Int32) (T : Nat → Int32) (LN : Nat → Int32) (SZ : Nat → Int32) (SM : Nat → Int64) (bk tb : Nat → Option Nat) (fr : Nat) (efr : fr = fresh bk tb) (lane n : Int32) (hB : ∀ k, k < 10 → B k = rI (bk k)) (hT : ∀ k, k < 12 → T k = rI (tb k)) (h24 : ∀ k, k < 10 → ∀ r, bk k = some r → r < 24) (h24t : ∀ k, k < 12 → ∀ r, tb k = some r → r < 24) (n34 : b3 ≠ b4) (g_y : M y = some (mO 8 [.ref b1, .ref b2, .ref b3, .ref b4, .ref b5, .int ni, .ref b6, .ref b7, .ref b8, .ref b9, .ref b10, .ref b11, .int nf0, .ref b12, .ref b13, .int bd, .int st, .int fa, .ref b14, .ref b15, .ref b16])) (g_b1 : M b1 = some (mI E 10 B)) (g_b2 : M b2 = some (mI E 12 T)) (g_b3 : M b3 = some (mI E 24 LN)) (g_b4 : M b4 = some (mI E 24 SZ)) (g_b5 : M b5 = some (mJ E 960 SM))  : Met l yX10_freshRow wsX10_freshRow ({ frames := 0, cells := 0, slots := 0, locals := 0 }) (mPre E M sz [.ref y, .int lane, .int n]) (mQi E M sz (fun r u => r = nI fr ∧ u = tri M b3 b4 b5 (mI E 24 (upd LN fr lane)) (mI E 24 (upd SZ fr n)) (mJ E 960 (zro SM (40 * fr) 40)))) (0) (0) (mA M sz) := by
  refine m_met [.ref y, .int lane, .int n] (by decide) rfl (Nat.le_of_ble_eq_true rfl) ?_
  intro p e s m below meth c ls H eH hx hb hr hts hown hlocks hnm hml hsz hE hM hS hA hl
  have hl : lv_has ls 6 [(0, .ref y), (1, .int lane), (2, .int n)] := hl
  have hfr : fr < 24 := (by rw [efr]; exact fresh_lt bk tb)
  have y3 : y ≠ b3 := m_ne g_y g_b3 (by simp)
  have y4 : y ≠ b4 := m_ne g_y g_b4 (by simp)
  have y5 : y ≠ b5 := m_ne g_y g_b5 (by simp)
  have n35 : b3 ≠ b5 := m_ne g_b3 g_b5 (by simp)
  have n45 : b4 ≠ b5 := m_ne g_b4 g_b5 (by simp)
  have g0_b5 := g_b5
  have loop3 : ∀ (n9 : Nat) (k9 : Nat) (Mi : mMem) (ls : Array Slot) (H : Heap) (locs : List Loc), k9 + n9 = 40 → Mi = tri M b3 b4 b5 (mI E 24 (upd LN fr lane)) (mI E 24 (upd SZ fr n)) (mJ E 960 (zro SM (40 * fr) k9)) → mOK E.1 (mA M sz) Mi H → va_S (mA M sz) s.heap H locs → lv_has ls 6 [(5, .int (nI k9)), (3, .int (nI fr)), (0, .ref y), (1, .int lane), (2, .int n)] → W p l e ({ frames := 0, cells := 0, slots := 0, locals := 0 } : Room) s m #[.ref y, .int lane, .int n] below meth c H locs (0) (0) (MQ below (mQi E M sz (fun r u => r = nI fr ∧ u = tri M b3 b4 b5 (mI E 24 (upd LN fr lane)) (mI E 24 (upd SZ fr n)) (mJ E 960 (zro SM (40 * fr) 40)))) #[.ref y, .int lane, .int n] s (0) (0) (mA M sz)) (F0 m 124 ls []) := by
    intro n9
    induction n9 with
    | zero =>
      intro k9 Mi ls H locs hk eMi hM hS hl
      have hh_y : Mi y = some (mO 8 [.ref b1, .ref b2, .ref b3, .ref b4, .ref b5, .int ni, .ref b6, .ref b7, .ref b8, .ref b9, .ref b10, .ref b11, .int nf0, .ref b12, .ref b13, .int bd, .int st, .int fa, .ref b14, .ref b15, .ref b16]) := by rw [eMi]; exact tri_ne g_y y3 y4 y5
      have hh_b5 : Mi b5 = some (mJ E 960 (zro SM (40 * fr) k9)) := by rw [eMi]; exact tri_ga
      have g_y := hh_y
      have g_b5 := hh_b5
      refine lv_iload hx hb dX10_freshRow_124 (lv_at hl 0 rfl) ?_
      refine lv_bipush (v := 40) hx hb dX10_freshRow_126 (by decide) ?_
      refine lv_icmp_ge (tgt := 150) hx hb dX10_freshRow_128 (by decide) (fun _ => ?_) (fun h9 => False.elim (by revert h9; exact (fun h => h (le_lit 40 (by decide) (by omega) (by omega)))))
      refine lv_iload_n hx hb dX10_freshRow_150 rfl (lv_at hl 1 rfl) ?_
      exact m_iret hx hb hr hlocks hM hS (Nat.le_refl _) (Nat.le_refl _) dX10_freshRow_151 (by refine ⟨rfl, ?_⟩; rw [eMi, show k9 = 40 by omega])
    | succ n9 ih =>
      intro k9 Mi ls H locs hk eMi hM hS hl
      have hh_y : Mi y = some (mO 8 [.ref b1, .ref b2, .ref b3, .ref b4, .ref b5, .int ni, .ref b6, .ref b7, .ref b8, .ref b9, .ref b10, .ref b11, .int nf0, .ref b12, .ref b13, .int bd, .int st, .int fa, .ref b14, .ref b15, .ref b16]) := by rw [eMi]; exact tri_ne g_y y3 y4 y5
      have hh_b5 : Mi b5 = some (mJ E 960 (zro SM (40 * fr) k9)) := by rw [eMi]; exact tri_ga
      have g_y := hh_y
      have g_b5 := hh_b5
      refine lv_iload hx hb dX10_freshRow_124 (lv_at hl 0 rfl) ?_
      refine lv_bipush (v := 40) hx hb dX10_freshRow_126 (by decide) ?_
      refine lv_icmp_ge (tgt := 150) hx hb dX10_freshRow_128 (by decide) (fun h9 => False.elim (by revert h9; exact (fun h => lt_lit 40 (by decide) (by omega) h))) (fun _ => ?_)
      refine lv_aload_n hx hb dX10_freshRow_131 rfl (lv_at hl 2 rfl) ?_
      refine m_get (ci := 8) (v := .ref b5) (C := RX10) (T := TX10) (N := 21) hx hb hts in_X10_freshRow_X10 hown hE hM g_y rfl 4 (by decide) (hts (.fieldLink RX10 22 "CallWays2Model" "samples" "[J") (by decide +kernel)) (fun _ h9 => h9) rfl dX10_freshRow_132 ?_
      refine lv_bipush (v := 40) hx hb dX10_freshRow_135 (by decide) ?_
      refine lv_iload_n hx hb dX10_freshRow_137 rfl (lv_at hl 1 rfl) ?_
      refine lv_imul hx hb dX10_freshRow_138 ?_
      refine lv_iload hx hb dX10_freshRow_139 (lv_at hl 0 rfl) ?_
      refine lv_iadd hx hb dX10_freshRow_141 ?_
      refine lv_lconst (v := 0) hx hb dX10_freshRow_142 (by decide) ?_
      rw [show (40 : Int32) * nI fr + nI k9 = nI (40 * fr + k9) from k40 fr k9]
      refine m_last hx hb hE hM hS g_b5 (in_k40 hfr (by omega)) dX10_freshRow_143 (fun H locs hM hS => ?_)
      rw [show vp_updL (zro SM (40 * fr) k9) (nI (40 * fr + k9)).toNatClampNeg 0 = zro SM (40 * fr) (k9 + 1) from by rw [nI_clamp (by omega), zro_s]] at hM
      have hM : mOK E.1 (mA M sz) (mUp Mi b5 (mJ E 960 (zro SM (40 * fr) (k9 + 1)))) H := hM
      obtain ⟨M1, eM1⟩ : ∃ z, z = mUp Mi b5 (mJ E 960 (zro SM (40 * fr) (k9 + 1))) := ⟨_, rfl⟩
      rw [← eM1] at hM
      have g_y_ : M1 y = some (mO 8 [.ref b1, .ref b2, .ref b3, .ref b4, .ref b5, .int ni, .ref b6, .ref b7, .ref b8, .ref b9, .ref b10, .ref b11, .int nf0, .ref b12, .ref b13, .int bd, .int st, .int fa, .ref b14, .ref b15, .ref b16]) := by rw [eM1]; exact mUp_at (m_ne g_y g_b5 (by simp)) g_y
      have g_y := g_y_
      have g_b5 : M1 b5 = some (mJ E 960 (zro SM (40 * fr) (k9 + 1))) := by rw [eM1]; exact mUp_self _ _ _
      refine lv_iinc (v := ((nI k9) + 1)) (lv' := [(5, .int ((nI k9) + 1)), (3, .int (nI fr)), (0, .ref y), (1, .int lane), (2, .int n)]) hx hb dX10_freshRow_144 hl (k := 0) rfl rfl (by decide) rfl (fun ls hl => ?_)
      refine lv_goto (tgt := 124) hx hb dX10_freshRow_147 (by decide) ?_
      rw [nI_1] at hl
      exact ih (k9 + 1) M1 ls _ _ (by omega) (by rw [eM1, eMi, tri_a]) hM hS (lv_sub hl [0, 1, 2, 3, 4] rfl)
  have tail : ∀ (ls : Array Slot), lv_has ls 6 [(3, .int (nI fr)), (0, .ref y), (1, .int lane), (2, .int n)] → W p l e ({ frames := 0, cells := 0, slots := 0, locals := 0 } : Room) s m #[.ref y, .int lane, .int n] below meth c H [] (0) (0) (MQ below (mQi E M sz (fun r u => r = nI fr ∧ u = tri M b3 b4 b5 (mI E 24 (upd LN fr lane)) (mI E 24 (upd SZ fr n)) (mJ E 960 (zro SM (40 * fr) 40)))) #[.ref y, .int lane, .int n] s (0) (0) (mA M sz)) (F0 m 107 ls []) := by
    intro ls hl
    refine lv_aload_n hx hb dX10_freshRow_107 rfl (lv_at hl 1 rfl) ?_
    refine m_get (ci := 8) (v := .ref b3) (C := RX10) (T := TX10) (N := 21) hx hb hts in_X10_freshRow_X10 hown hE hM g_y rfl 2 (by decide) (hts (.fieldLink RX10 16 "CallWays2Model" "laneOf" "[I") (by decide +kernel)) (fun _ h9 => h9) rfl dX10_freshRow_108 ?_
    refine lv_iload_n hx hb dX10_freshRow_111 rfl (lv_at hl 0 rfl) ?_
    refine lv_iload_n hx hb dX10_freshRow_112 rfl (lv_at hl 2 rfl) ?_
    refine m_iast hx hb hE hM hS g_b3 (vp_in_nI hfr (by decide)) dX10_freshRow_113 (fun H locs hM hS => ?_)
    rw [show upd LN (nI fr).toNatClampNeg lane = upd LN fr lane from by rw [nI_clamp (by omega)]] at hM
    have hM : mOK E.1 (mA M sz) (mUp M b3 (mI E 24 (upd LN fr lane))) H := hM
    obtain ⟨M2, eM2⟩ : ∃ z, z = mUp M b3 (mI E 24 (upd LN fr lane)) := ⟨_, rfl⟩
    rw [← eM2] at hM
    have g_y_ : M2 y = some (mO 8 [.ref b1, .ref b2, .ref b3, .ref b4, .ref b5, .int ni, .ref b6, .ref b7, .ref b8, .ref b9, .ref b10, .ref b11, .int nf0, .ref b12, .ref b13, .int bd, .int st, .int fa, .ref b14, .ref b15, .ref b16]) := by rw [eM2]; exact mUp_at (m_ne g_y g_b3 (by simp)) g_y
    have g_b1_ : M2 b1 = some (mI E 10 B) := by rw [eM2]; exact mUp_at (m_ne g_b1 g_b3 (by simp)) g_b1
    have g_b2_ : M2 b2 = some (mI E 12 T) := by rw [eM2]; exact mUp_at (m_ne g_b2 g_b3 (by simp)) g_b2
    have g_b4_ : M2 b4 = some (mI E 24 SZ) := by rw [eM2]; exact mUp_at (Ne.symm n34) g_b4
    have g_b5_ : M2 b5 = some (mJ E 960 SM) := by rw [eM2]; exact mUp_at (m_ne g_b5 g_b3 (by simp)) g_b5
    have g_y := g_y_
    have g_b1 := g_b1_
    have g_b2 := g_b2_
    have g_b4 := g_b4_
    have g_b5 := g_b5_
    have g_b3 : M2 b3 = some (mI E 24 (upd LN fr lane)) := by rw [eM2]; exact mUp_self _ _ _
    refine lv_aload_n hx hb dX10_freshRow_114 rfl (lv_at hl 1 rfl) ?_
    refine m_get (ci := 8) (v := .ref b4) (C := RX10) (T := TX10) (N := 21) hx hb hts in_X10_freshRow_X10 hown hE hM g_y rfl 3 (by decide) (hts (.fieldLink RX10 19 "CallWays2Model" "sizeOf" "[I") (by decide +kernel)) (fun _ h9 => h9) rfl dX10_freshRow_115 ?_
    refine lv_iload_n hx hb dX10_freshRow_118 rfl (lv_at hl 0 rfl) ?_
    refine lv_iload_n hx hb dX10_freshRow_119 rfl (lv_at hl 3 rfl) ?_
    refine m_iast hx hb hE hM hS g_b4 (vp_in_nI hfr (by decide)) dX10_freshRow_120 (fun H locs hM hS => ?_)
    rw [show upd SZ (nI fr).toNatClampNeg n = upd SZ fr n from by rw [nI_clamp (by omega)]] at hM
    have hM : mOK E.1 (mA M sz) (mUp M2 b4 (mI E 24 (upd SZ fr n))) H := hM
    obtain ⟨M3, eM3⟩ : ∃ z, z = mUp M2 b4 (mI E 24 (upd SZ fr n)) := ⟨_, rfl⟩
    rw [← eM3] at hM
    have g_y_ : M3 y = some (mO 8 [.ref b1, .ref b2, .ref b3, .ref b4, .ref b5, .int ni, .ref b6, .ref b7, .ref b8, .ref b9, .ref b10, .ref b11, .int nf0, .ref b12, .ref b13, .int bd, .int st, .int fa, .ref b14, .ref b15, .ref b16]) := by rw [eM3]; exact mUp_at (m_ne g_y g_b4 (by simp)) g_y
    have g_b1_ : M3 b1 = some (mI E 10 B) := by rw [eM3]; exact mUp_at (m_ne g_b1 g_b4 (by simp)) g_b1
    have g_b2_ : M3 b2 = some (mI E 12 T) := by rw [eM3]; exact mUp_at (m_ne g_b2 g_b4 (by simp)) g_b2
    have g_b3_ : M3 b3 = some (mI E 24 (upd LN fr lane)) := by rw [eM3]; exact mUp_at n34 g_b3
    have g_b5_ : M3 b5 = some (mJ E 960 SM) := by rw [eM3]; exact mUp_at (m_ne g_b5 g_b4 (by simp)) g_b5
    have g_y := g_y_
    have g_b1 := g_b1_
    have g_b2 := g_b2_
    have g_b3 := g_b3_
    have g_b5 := g_b5_
    have g_b4 : M3 b4 = some (mI E 24 (upd SZ fr n)) := by rw [eM3]; exact mUp_self _ _ _
    refine lv_iconst (v := 0) hx hb dX10_freshRow_121 (by decide) ?_
    refine lv_istore (lv' := [(5, .int 0), (3, .int (nI fr)), (0, .ref y), (1, .int lane), (2, .int n)]) hx hb dX10_freshRow_122 hl (by decide) rfl (fun ls hl => ?_)
    exact loop3 40 0 M3 ls _ _ (by omega) (by rw [eM3, eM2]; unfold tri; rw [zro_0]; exact (mUp_id (mUp_at (Ne.symm n45) (mUp_at (Ne.symm n35) g0_b5))).symm) hM hS (lv_sub hl [0, 1, 2, 3, 4] rfl)
  have loop2 : ∀ (n9 : Nat) (r : Nat) (k9 : Nat) (ls : Array Slot), r < 24 → k9 + n9 = 12 → (∀ ls : Array Slot, lv_has ls 6 [(4, .int (tkn tb r (tkn bk r 0 10) 12)), (3, .int (nI r)), (0, .ref y), (1, .int lane), (2, .int n)] → W p l e ({ frames := 0, cells := 0, slots := 0, locals := 0 } : Room) s m #[.ref y, .int lane, .int n] below meth c H [] (0) (0) (MQ below (mQi E M sz (fun r u => r = nI fr ∧ u = tri M b3 b4 b5 (mI E 24 (upd LN fr lane)) (mI E 24 (upd SZ fr n)) (mJ E 960 (zro SM (40 * fr) 40)))) #[.ref y, .int lane, .int n] s (0) (0) (mA M sz)) (F0 m 91 ls [])) → lv_has ls 6 [(5, .int (nI k9)), (4, .int (tkn tb r (tkn bk r 0 10) k9)), (3, .int (nI r)), (0, .ref y), (1, .int lane), (2, .int n)] → W p l e ({ frames := 0, cells := 0, slots := 0, locals := 0 } : Room) s m #[.ref y, .int lane, .int n] below meth c H [] (0) (0) (MQ below (mQi E M sz (fun r u => r = nI fr ∧ u = tri M b3 b4 b5 (mI E 24 (upd LN fr lane)) (mI E 24 (upd SZ fr n)) (mJ E 960 (zro SM (40 * fr) 40)))) #[.ref y, .int lane, .int n] s (0) (0) (mA M sz)) (F0 m 55 ls []) := by
    intro n9
    induction n9 with
    | zero =>
      intro r k9 ls hr hk hK hl
      refine lv_iload hx hb dX10_freshRow_55 (lv_at hl 0 rfl) ?_
      refine lv_bipush (v := 12) hx hb dX10_freshRow_57 (by decide) ?_
      refine lv_icmp_ge (tgt := 91) hx hb dX10_freshRow_59 (by decide) (fun _ => ?_) (fun h9 => False.elim (by revert h9; exact (fun h => h (le_lit 12 (by decide) (by omega) (by omega)))))
      rw [show k9 = 12 by omega] at hl
      exact hK ls (lv_sub hl [1, 2, 3, 4, 5] rfl)
    | succ n9 ih =>
      intro r k9 ls hr hk hK hl
      refine lv_iload hx hb dX10_freshRow_55 (lv_at hl 0 rfl) ?_
      refine lv_bipush (v := 12) hx hb dX10_freshRow_57 (by decide) ?_
      refine lv_icmp_ge (tgt := 91) hx hb dX10_freshRow_59 (by decide) (fun h9 => False.elim (by revert h9; exact (fun h => lt_lit 12 (by decide) (by omega) h))) (fun _ => ?_)
      refine lv_iload hx hb dX10_freshRow_62 (lv_at hl 1 rfl) ?_
      refine lv_if_ne (tgt := 78) hx hb dX10_freshRow_64 (by decide) (fun c_64 => ?_) (fun c_64 => ?_)
      · skip
        have htk : tkn tb r (tkn bk r 0 10) (k9 + 1) = 1 := tkn_t c_64
        refine lv_iconst (v := 1) hx hb dX10_freshRow_78 (by decide) ?_
        refine lv_goto (tgt := 83) hx hb dX10_freshRow_79 (by decide) ?_
        refine lv_istore (lv' := [(4, .int 1), (5, .int (nI k9)), (3, .int (nI r)), (0, .ref y), (1, .int lane), (2, .int n)]) hx hb dX10_freshRow_83 hl (by decide) rfl (fun ls hl => ?_)
        refine lv_iinc (v := ((nI k9) + 1)) (lv' := [(5, .int ((nI k9) + 1)), (4, .int 1), (3, .int (nI r)), (0, .ref y), (1, .int lane), (2, .int n)]) hx hb dX10_freshRow_85 hl (k := 1) rfl rfl (by decide) rfl (fun ls hl => ?_)
        refine lv_goto (tgt := 55) hx hb dX10_freshRow_88 (by decide) ?_
        rw [nI_1] at hl
        replace hl : lv_has ls 6 [(5, .int (nI (k9 + 1))), (4, .int (tkn tb r (tkn bk r 0 10) (k9 + 1))), (3, .int (nI r)), (0, .ref y), (1, .int lane), (2, .int n)] := (by rw [htk]; exact hl)
        exact ih r (k9 + 1) ls hr (by omega) hK (lv_sub hl [0, 1, 2, 3, 4, 5] rfl)
      · skip
        refine lv_aload_n hx hb dX10_freshRow_67 rfl (lv_at hl 3 rfl) ?_
        refine m_get (ci := 8) (v := .ref b2) (C := RX10) (T := TX10) (N := 21) hx hb hts in_X10_freshRow_X10 hown hE hM g_y rfl 1 (by decide) (hts (.fieldLink RX10 13 "CallWays2Model" "tables" "[I") (by decide +kernel)) (fun _ h9 => h9) rfl dX10_freshRow_68 ?_
        refine lv_iload hx hb dX10_freshRow_71 (lv_at hl 0 rfl) ?_
        refine m_iald hx hb hE hM g_b2 (vp_in_nI (by omega) (by decide)) dX10_freshRow_73 ?_
        rw [show T (nI k9).toNatClampNeg = rI (tb k9) from by rw [nI_clamp (by omega)]; exact hT k9 (by omega)]
        refine lv_iload_n hx hb dX10_freshRow_74 rfl (lv_at hl 2 rfl) ?_
        refine lv_icmp_ne (tgt := 82) hx hb dX10_freshRow_75 (by decide) (fun c_75 => ?_) (fun c_75 => ?_)
        · skip
          rw [rI_eq (h24t k9 (by omega)) hr] at c_75
          have htk : tkn tb r (tkn bk r 0 10) (k9 + 1) = 0 := tkn_n c_64 c_75
          refine lv_iconst (v := 0) hx hb dX10_freshRow_82 (by decide) ?_
          refine lv_istore (lv' := [(4, .int 0), (5, .int (nI k9)), (3, .int (nI r)), (0, .ref y), (1, .int lane), (2, .int n)]) hx hb dX10_freshRow_83 hl (by decide) rfl (fun ls hl => ?_)
          refine lv_iinc (v := ((nI k9) + 1)) (lv' := [(5, .int ((nI k9) + 1)), (4, .int 0), (3, .int (nI r)), (0, .ref y), (1, .int lane), (2, .int n)]) hx hb dX10_freshRow_85 hl (k := 1) rfl rfl (by decide) rfl (fun ls hl => ?_)
          refine lv_goto (tgt := 55) hx hb dX10_freshRow_88 (by decide) ?_
          rw [nI_1] at hl
          replace hl : lv_has ls 6 [(5, .int (nI (k9 + 1))), (4, .int (tkn tb r (tkn bk r 0 10) (k9 + 1))), (3, .int (nI r)), (0, .ref y), (1, .int lane), (2, .int n)] := (by rw [htk]; exact hl)
          exact ih r (k9 + 1) ls hr (by omega) hK (lv_sub hl [0, 1, 2, 3, 4, 5] rfl)
        · skip
          rw [rI_eq (h24t k9 (by omega)) hr] at c_75
          have htk : tkn tb r (tkn bk r 0 10) (k9 + 1) = 1 := tkn_y c_64 c_75
          refine lv_iconst (v := 1) hx hb dX10_freshRow_78 (by decide) ?_
          refine lv_goto (tgt := 83) hx hb dX10_freshRow_79 (by decide) ?_
          refine lv_istore (lv' := [(4, .int 1), (5, .int (nI k9)), (3, .int (nI r)), (0, .ref y), (1, .int lane), (2, .int n)]) hx hb dX10_freshRow_83 hl (by decide) rfl (fun ls hl => ?_)
          refine lv_iinc (v := ((nI k9) + 1)) (lv' := [(5, .int ((nI k9) + 1)), (4, .int 1), (3, .int (nI r)), (0, .ref y), (1, .int lane), (2, .int n)]) hx hb dX10_freshRow_85 hl (k := 1) rfl rfl (by decide) rfl (fun ls hl => ?_)
          refine lv_goto (tgt := 55) hx hb dX10_freshRow_88 (by decide) ?_
          rw [nI_1] at hl
          replace hl : lv_has ls 6 [(5, .int (nI (k9 + 1))), (4, .int (tkn tb r (tkn bk r 0 10) (k9 + 1))), (3, .int (nI r)), (0, .ref y), (1, .int lane), (2, .int n)] := (by rw [htk]; exact hl)
          exact ih r (k9 + 1) ls hr (by omega) hK (lv_sub hl [0, 1, 2, 3, 4, 5] rfl)
  have loop1 : ∀ (n9 : Nat) (r : Nat) (k9 : Nat) (ls : Array Slot), r < 24 → k9 + n9 = 10 → (∀ ls : Array Slot, lv_has ls 6 [(4, .int (tkn bk r 0 10)), (3, .int (nI r)), (0, .ref y), (1, .int lane), (2, .int n)] → W p l e ({ frames := 0, cells := 0, slots := 0, locals := 0 } : Room) s m #[.ref y, .int lane, .int n] below meth c H [] (0) (0) (MQ below (mQi E M sz (fun r u => r = nI fr ∧ u = tri M b3 b4 b5 (mI E 24 (upd LN fr lane)) (mI E 24 (upd SZ fr n)) (mJ E 960 (zro SM (40 * fr) 40)))) #[.ref y, .int lane, .int n] s (0) (0) (mA M sz)) (F0 m 52 ls [])) → lv_has ls 6 [(5, .int (nI k9)), (4, .int (tkn bk r 0 k9)), (3, .int (nI r)), (0, .ref y), (1, .int lane), (2, .int n)] → W p l e ({ frames := 0, cells := 0, slots := 0, locals := 0 } : Room) s m #[.ref y, .int lane, .int n] below meth c H [] (0) (0) (MQ below (mQi E M sz (fun r u => r = nI fr ∧ u = tri M b3 b4 b5 (mI E 24 (upd LN fr lane)) (mI E 24 (upd SZ fr n)) (mJ E 960 (zro SM (40 * fr) 40)))) #[.ref y, .int lane, .int n] s (0) (0) (mA M sz)) (F0 m 16 ls []) := by
    intro n9
    induction n9 with
    | zero =>
      intro r k9 ls hr hk hK hl
      refine lv_iload hx hb dX10_freshRow_16 (lv_at hl 0 rfl) ?_
      refine lv_bipush (v := 10) hx hb dX10_freshRow_18 (by decide) ?_
      refine lv_icmp_ge (tgt := 52) hx hb dX10_freshRow_20 (by decide) (fun _ => ?_) (fun h9 => False.elim (by revert h9; exact (fun h => h (le_lit 10 (by decide) (by omega) (by omega)))))
      rw [show k9 = 10 by omega] at hl
      exact hK ls (lv_sub hl [1, 2, 3, 4, 5] rfl)
    | succ n9 ih =>
      intro r k9 ls hr hk hK hl
      refine lv_iload hx hb dX10_freshRow_16 (lv_at hl 0 rfl) ?_
      refine lv_bipush (v := 10) hx hb dX10_freshRow_18 (by decide) ?_
      refine lv_icmp_ge (tgt := 52) hx hb dX10_freshRow_20 (by decide) (fun h9 => False.elim (by revert h9; exact (fun h => lt_lit 10 (by decide) (by omega) h))) (fun _ => ?_)
      refine lv_iload hx hb dX10_freshRow_23 (lv_at hl 1 rfl) ?_
      refine lv_if_ne (tgt := 39) hx hb dX10_freshRow_25 (by decide) (fun c_25 => ?_) (fun c_25 => ?_)
      · skip
        have htk : tkn bk r 0 (k9 + 1) = 1 := tkn_t c_25
        refine lv_iconst (v := 1) hx hb dX10_freshRow_39 (by decide) ?_
        refine lv_goto (tgt := 44) hx hb dX10_freshRow_40 (by decide) ?_
        refine lv_istore (lv' := [(4, .int 1), (5, .int (nI k9)), (3, .int (nI r)), (0, .ref y), (1, .int lane), (2, .int n)]) hx hb dX10_freshRow_44 hl (by decide) rfl (fun ls hl => ?_)
        refine lv_iinc (v := ((nI k9) + 1)) (lv' := [(5, .int ((nI k9) + 1)), (4, .int 1), (3, .int (nI r)), (0, .ref y), (1, .int lane), (2, .int n)]) hx hb dX10_freshRow_46 hl (k := 1) rfl rfl (by decide) rfl (fun ls hl => ?_)
        refine lv_goto (tgt := 16) hx hb dX10_freshRow_49 (by decide) ?_
        rw [nI_1] at hl
        replace hl : lv_has ls 6 [(5, .int (nI (k9 + 1))), (4, .int (tkn bk r 0 (k9 + 1))), (3, .int (nI r)), (0, .ref y), (1, .int lane), (2, .int n)] := (by rw [htk]; exact hl)
        exact ih r (k9 + 1) ls hr (by omega) hK (lv_sub hl [0, 1, 2, 3, 4, 5] rfl)
      · skip
        refine lv_aload_n hx hb dX10_freshRow_28 rfl (lv_at hl 3 rfl) ?_
        refine m_get (ci := 8) (v := .ref b1) (C := RX10) (T := TX10) (N := 21) hx hb hts in_X10_freshRow_X10 hown hE hM g_y rfl 0 (by decide) (hts (.fieldLink RX10 7 "CallWays2Model" "blocks" "[I") (by decide +kernel)) (fun _ h9 => h9) rfl dX10_freshRow_29 ?_
        refine lv_iload hx hb dX10_freshRow_32 (lv_at hl 0 rfl) ?_
        refine m_iald hx hb hE hM g_b1 (vp_in_nI (by omega) (by decide)) dX10_freshRow_34 ?_
        rw [show B (nI k9).toNatClampNeg = rI (bk k9) from by rw [nI_clamp (by omega)]; exact hB k9 (by omega)]
        refine lv_iload_n hx hb dX10_freshRow_35 rfl (lv_at hl 2 rfl) ?_
        refine lv_icmp_ne (tgt := 43) hx hb dX10_freshRow_36 (by decide) (fun c_36 => ?_) (fun c_36 => ?_)
        · skip
          rw [rI_eq (h24 k9 (by omega)) hr] at c_36
          have htk : tkn bk r 0 (k9 + 1) = 0 := tkn_n c_25 c_36
          refine lv_iconst (v := 0) hx hb dX10_freshRow_43 (by decide) ?_
          refine lv_istore (lv' := [(4, .int 0), (5, .int (nI k9)), (3, .int (nI r)), (0, .ref y), (1, .int lane), (2, .int n)]) hx hb dX10_freshRow_44 hl (by decide) rfl (fun ls hl => ?_)
          refine lv_iinc (v := ((nI k9) + 1)) (lv' := [(5, .int ((nI k9) + 1)), (4, .int 0), (3, .int (nI r)), (0, .ref y), (1, .int lane), (2, .int n)]) hx hb dX10_freshRow_46 hl (k := 1) rfl rfl (by decide) rfl (fun ls hl => ?_)
          refine lv_goto (tgt := 16) hx hb dX10_freshRow_49 (by decide) ?_
          rw [nI_1] at hl
          replace hl : lv_has ls 6 [(5, .int (nI (k9 + 1))), (4, .int (tkn bk r 0 (k9 + 1))), (3, .int (nI r)), (0, .ref y), (1, .int lane), (2, .int n)] := (by rw [htk]; exact hl)
          exact ih r (k9 + 1) ls hr (by omega) hK (lv_sub hl [0, 1, 2, 3, 4, 5] rfl)
        · skip
          rw [rI_eq (h24 k9 (by omega)) hr] at c_36
          have htk : tkn bk r 0 (k9 + 1) = 1 := tkn_y c_25 c_36
          refine lv_iconst (v := 1) hx hb dX10_freshRow_39 (by decide) ?_
          refine lv_goto (tgt := 44) hx hb dX10_freshRow_40 (by decide) ?_
          refine lv_istore (lv' := [(4, .int 1), (5, .int (nI k9)), (3, .int (nI r)), (0, .ref y), (1, .int lane), (2, .int n)]) hx hb dX10_freshRow_44 hl (by decide) rfl (fun ls hl => ?_)
          refine lv_iinc (v := ((nI k9) + 1)) (lv' := [(5, .int ((nI k9) + 1)), (4, .int 1), (3, .int (nI r)), (0, .ref y), (1, .int lane), (2, .int n)]) hx hb dX10_freshRow_46 hl (k := 1) rfl rfl (by decide) rfl (fun ls hl => ?_)
          refine lv_goto (tgt := 16) hx hb dX10_freshRow_49 (by decide) ?_
          rw [nI_1] at hl
          replace hl : lv_has ls 6 [(5, .int (nI (k9 + 1))), (4, .int (tkn bk r 0 (k9 + 1))), (3, .int (nI r)), (0, .ref y), (1, .int lane), (2, .int n)] := (by rw [htk]; exact hl)
          exact ih r (k9 + 1) ls hr (by omega) hK (lv_sub hl [0, 1, 2, 3, 4, 5] rfl)
  have loop0 : ∀ (n9 : Nat) (r : Nat) (t : Int32) (ls : Array Slot), ((t = 0 ∧ r = fresh bk tb) ∨ (t = 1 ∧ r ≤ fresh bk tb ∧ fresh bk tb + 1 ≤ r + n9)) → lv_has ls 6 [(4, .int t), (3, .int (nI r)), (0, .ref y), (1, .int lane), (2, .int n)] → W p l e ({ frames := 0, cells := 0, slots := 0, locals := 0 } : Room) s m #[.ref y, .int lane, .int n] below meth c H [] (0) (0) (MQ below (mQi E M sz (fun r u => r = nI fr ∧ u = tri M b3 b4 b5 (mI E 24 (upd LN fr lane)) (mI E 24 (upd SZ fr n)) (mJ E 960 (zro SM (40 * fr) 40)))) #[.ref y, .int lane, .int n] s (0) (0) (mA M sz)) (F0 m 5 ls []) := by
    intro n9
    induction n9 with
    | zero =>
      intro r t ls h9 hl
      rcases h9 with ⟨rfl, rfl⟩ | h9
      · skip
        refine lv_iload hx hb dX10_freshRow_5 (lv_at hl 0 rfl) ?_
        refine lv_if_eq (tgt := 107) hx hb dX10_freshRow_7 (by decide) (fun _ => ?_) (fun h9 => False.elim (by revert h9; exact (fun h => h rfl)))
        rw [← efr] at hl
        exact tail ls (lv_sub hl [1, 2, 3, 4] rfl)
      · omega
    | succ n9 ih =>
      intro r t ls h9 hl
      rcases h9 with ⟨rfl, rfl⟩ | h9
      · skip
        refine lv_iload hx hb dX10_freshRow_5 (lv_at hl 0 rfl) ?_
        refine lv_if_eq (tgt := 107) hx hb dX10_freshRow_7 (by decide) (fun _ => ?_) (fun h9 => False.elim (by revert h9; exact (fun h => h rfl)))
        rw [← efr] at hl
        exact tail ls (lv_sub hl [1, 2, 3, 4] rfl)
      · obtain ⟨rfl, h91, h92⟩ := h9
        have hr : r < 24 := by have := fresh_lt bk tb; omega
        refine lv_iload hx hb dX10_freshRow_5 (lv_at hl 0 rfl) ?_
        refine lv_if_eq (tgt := 107) hx hb dX10_freshRow_7 (by decide) (fun h9 => False.elim (by revert h9; exact (fun h => absurd h (by decide)))) (fun _ => ?_)
        refine lv_iconst (v := 0) hx hb dX10_freshRow_10 (by decide) ?_
        refine lv_istore (lv' := [(4, .int 0), (3, .int (nI r)), (0, .ref y), (1, .int lane), (2, .int n)]) hx hb dX10_freshRow_11 hl (by decide) rfl (fun ls hl => ?_)
        refine lv_iconst (v := 0) hx hb dX10_freshRow_13 (by decide) ?_
        refine lv_istore (lv' := [(5, .int 0), (4, .int 0), (3, .int (nI r)), (0, .ref y), (1, .int lane), (2, .int n)]) hx hb dX10_freshRow_14 hl (by decide) rfl (fun ls hl => ?_)
        refine loop1 10 r 0 ls hr (by omega) (fun ls hl => ?_) (lv_sub hl [0, 1, 2, 3, 4, 5] rfl)
        refine lv_iconst (v := 0) hx hb dX10_freshRow_52 (by decide) ?_
        refine lv_istore (lv' := [(5, .int 0), (4, .int (tkn bk r 0 10)), (3, .int (nI r)), (0, .ref y), (1, .int lane), (2, .int n)]) hx hb dX10_freshRow_53 hl (by decide) rfl (fun ls hl => ?_)
        refine loop2 12 r 0 ls hr (by omega) (fun ls hl => ?_) (lv_sub hl [0, 1, 2, 3, 4, 5] rfl)
        refine lv_iload_n hx hb dX10_freshRow_91 rfl (lv_at hl 1 rfl) ?_
        refine lv_iload hx hb dX10_freshRow_92 (lv_at hl 0 rfl) ?_
        refine lv_if_eq (tgt := 101) hx hb dX10_freshRow_94 (by decide) (fun c_94 => ?_) (fun c_94 => ?_)
        · skip
          refine lv_iconst (v := 0) hx hb dX10_freshRow_101 (by decide) ?_
          refine lv_iadd hx hb dX10_freshRow_102 ?_
          refine lv_istore_n (lv' := [(3, .int ((nI r) + 0)), (4, .int (tkn tb r (tkn bk r 0 10) 12)), (0, .ref y), (1, .int lane), (2, .int n)]) hx hb dX10_freshRow_103 rfl hl (by decide) rfl (fun ls hl => ?_)
          refine lv_goto (tgt := 5) hx hb dX10_freshRow_104 (by decide) ?_
          rw [show nI r + 0 = nI r from Int32.add_zero _] at hl
          exact ih r (tkn tb r (tkn bk r 0 10) 12) ls (Or.inl ⟨c_94, fr_eq h91 (tkn_u.mp c_94)⟩) (lv_sub hl [1, 0, 2, 3, 4] rfl)
        · skip
          refine lv_iconst (v := 1) hx hb dX10_freshRow_97 (by decide) ?_
          refine lv_goto (tgt := 102) hx hb dX10_freshRow_98 (by decide) ?_
          refine lv_iadd hx hb dX10_freshRow_102 ?_
          refine lv_istore_n (lv' := [(3, .int ((nI r) + 1)), (4, .int (tkn tb r (tkn bk r 0 10) 12)), (0, .ref y), (1, .int lane), (2, .int n)]) hx hb dX10_freshRow_103 rfl hl (by decide) rfl (fun ls hl => ?_)
          refine lv_goto (tgt := 5) hx hb dX10_freshRow_104 (by decide) ?_
          rw [nI_1] at hl
          exact ih (r + 1) (tkn tb r (tkn bk r 0 10) 12) ls (Or.inr ⟨(tkn_01 (tkn_01 (Or.inl rfl) 10) 12).resolve_left c_94, fr_lt h91 (fun q => c_94 (tkn_u.mpr q)), by omega⟩) (lv_sub hl [1, 0, 2, 3, 4] rfl)
  refine lv_iconst (v := 0) hx hb dX10_freshRow_0 (by decide) ?_
  refine lv_istore_n (lv' := [(3, .int 0), (0, .ref y), (1, .int lane), (2, .int n)]) hx hb dX10_freshRow_1 rfl hl (by decide) rfl (fun ls hl => ?_)
  refine lv_iconst (v := 1) hx hb dX10_freshRow_2 (by decide) ?_
  refine lv_istore (lv' := [(4, .int 1), (3, .int 0), (0, .ref y), (1, .int lane), (2, .int n)]) hx hb dX10_freshRow_3 hl (by decide) rfl (fun ls hl => ?_)
  exact loop0 (fresh bk tb + 1) 0 1 ls (Or.inr ⟨rfl, by omega, by omega⟩) (lv_sub hl [0, 1, 2, 3, 4] rfl)
theorem in_X10_copyOf_X10 : ∀ w ∈ wsX100, w ∈ wsX10_copyOf := by decide +kernel
set_option maxHeartbeats 4000000 in
set_option maxRecDepth 100000 in
theorem c_X10_copyOf (l : Launch) (E : mEnv) (M : mMem) (sz : Nat) (y b1 b2 b3 b4 b5 b6 b7 b8 b9 b10 b11 b12 b13 b14 b15 b16 : Nat) (ni nf0 bd st fa : Int32) (B : Nat → Int32) (T : Nat → Int32) (LN : Nat → Int32) (SZ : Nat → Int32) (SM : Nat → Int64) (bk tb : Nat → Option Nat) (fr w : Nat) (efr : fr = fresh bk tb) (hw24 : w < 24) (hwf : w ≠ fr) (hB : ∀ k, k < 10 → B k = rI (bk k)) (hT : ∀ k, k < 12 → T k = rI (tb k)) (h24 : ∀ k, k < 10 → ∀ r, bk k = some r → r < 24) (h24t : ∀ k, k < 12 → ∀ r, tb k = some r → r < 24) (n34 : b3 ≠ b4) (g_y : M y = some (mO 8 [.ref b1, .ref b2, .ref b3, .ref b4, .ref b5, .int ni, .ref b6, .ref b7, .ref b8, .ref b9, .ref b10, .ref b11, .int nf0, .ref b12, .ref b13, .int bd, .int st, .int fa, .ref b14, .ref b15, .ref b16])) (g_b1 : M b1 = some (mI E 10 B)) (g_b2 : M b2 = some (mI E 12 T)) (g_b3 : M b3 = some (mI E 24 LN)) (g_b4 : M b4 = some (mI E 24 SZ)) (g_b5 : M b5 = some (mJ E 960 SM))  : Met l yX10_copyOf wsX10_copyOf ({ frames := 1, cells := 0, slots := 0, locals := 25 }) (mPre E M sz [.ref y, .int (nI w)]) (mQi E M sz (fun r u => r = nI fr ∧ u = tri M b3 b4 b5 (mI E 24 (upd LN fr (LN w))) (mI E 24 (upd SZ fr (SZ w))) (mJ E 960 (va_cpy SM (zro SM (40 * fr) 40) (40 * w) (40 * fr) 40)))) (0) (0) (mA M sz) := by
  refine m_met [.ref y, .int (nI w)] (by decide) rfl (Nat.le_of_ble_eq_true rfl) ?_
  intro p e s m below meth c ls H eH hx hb hr hts hown hlocks hnm hml hsz hE hM hS hA hl
  have hl : lv_has ls 4 [(0, .ref y), (1, .int (nI w))] := hl
  have hfr : fr < 24 := (by rw [efr]; exact fresh_lt bk tb)
  have y3 : y ≠ b3 := m_ne g_y g_b3 (by simp)
  have y4 : y ≠ b4 := m_ne g_y g_b4 (by simp)
  have y5 : y ≠ b5 := m_ne g_y g_b5 (by simp)
  have n35 : b3 ≠ b5 := m_ne g_b3 g_b5 (by simp)
  have n45 : b4 ≠ b5 := m_ne g_b4 g_b5 (by simp)
  have hrd : ∀ k, k < 40 → ∀ i, va_cpy SM (zro SM (40 * fr) 40) (40 * w) (40 * fr) i (40 * w + k) = SM (40 * w + k) ∨ 40 < i := (by intro k hk i; by_cases hi : 40 < i; exact Or.inr hi; refine Or.inl ?_; simp only [va_cpy, zro]; rw [if_neg (by omega), if_neg (by omega)])
  have loop : ∀ (n9 : Nat) (k9 : Nat) (Mi : mMem) (ls : Array Slot) (H : Heap) (locs : List Loc), k9 + n9 = 40 → Mi = tri M b3 b4 b5 (mI E 24 (upd LN fr (LN w))) (mI E 24 (upd SZ fr (SZ w))) (mJ E 960 (va_cpy SM (zro SM (40 * fr) 40) (40 * w) (40 * fr) k9)) → mOK E.1 (mA M sz) Mi H → va_S (mA M sz) s.heap H locs → lv_has ls 4 [(3, .int (nI k9)), (2, .int (nI fr)), (0, .ref y), (1, .int (nI w))] → W p l e ({ frames := 1, cells := 0, slots := 0, locals := 25 } : Room) s m #[.ref y, .int (nI w)] below meth c H locs (0) (0) (MQ below (mQi E M sz (fun r u => r = nI fr ∧ u = tri M b3 b4 b5 (mI E 24 (upd LN fr (LN w))) (mI E 24 (upd SZ fr (SZ w))) (mJ E 960 (va_cpy SM (zro SM (40 * fr) 40) (40 * w) (40 * fr) 40)))) #[.ref y, .int (nI w)] s (0) (0) (mA M sz)) (F0 m 19 ls []) := by
    intro n9
    induction n9 with
    | zero =>
      intro k9 Mi ls H locs hk eMi hM hS hl
      have hh_y : Mi y = some (mO 8 [.ref b1, .ref b2, .ref b3, .ref b4, .ref b5, .int ni, .ref b6, .ref b7, .ref b8, .ref b9, .ref b10, .ref b11, .int nf0, .ref b12, .ref b13, .int bd, .int st, .int fa, .ref b14, .ref b15, .ref b16]) := by rw [eMi]; exact tri_ne g_y y3 y4 y5
      have hh_b5 : Mi b5 = some (mJ E 960 (va_cpy SM (zro SM (40 * fr) 40) (40 * w) (40 * fr) k9)) := by rw [eMi]; exact tri_ga
      have g_y := hh_y
      have g_b5 := hh_b5
      refine lv_iload_n hx hb dX10_copyOf_19 rfl (lv_at hl 0 rfl) ?_
      refine lv_bipush (v := 40) hx hb dX10_copyOf_20 (by decide) ?_
      refine lv_icmp_ge (tgt := 53) hx hb dX10_copyOf_22 (by decide) (fun _ => ?_) (fun h9 => False.elim (by revert h9; exact (fun h => h (le_lit 40 (by decide) (by omega) (by omega)))))
      refine lv_iload_n hx hb dX10_copyOf_53 rfl (lv_at hl 1 rfl) ?_
      exact m_iret hx hb hr hlocks hM hS (Nat.le_refl _) (Nat.le_refl _) dX10_copyOf_54 (by refine ⟨rfl, ?_⟩; rw [eMi, show k9 = 40 by omega])
    | succ n9 ih =>
      intro k9 Mi ls H locs hk eMi hM hS hl
      have hh_y : Mi y = some (mO 8 [.ref b1, .ref b2, .ref b3, .ref b4, .ref b5, .int ni, .ref b6, .ref b7, .ref b8, .ref b9, .ref b10, .ref b11, .int nf0, .ref b12, .ref b13, .int bd, .int st, .int fa, .ref b14, .ref b15, .ref b16]) := by rw [eMi]; exact tri_ne g_y y3 y4 y5
      have hh_b5 : Mi b5 = some (mJ E 960 (va_cpy SM (zro SM (40 * fr) 40) (40 * w) (40 * fr) k9)) := by rw [eMi]; exact tri_ga
      have g_y := hh_y
      have g_b5 := hh_b5
      refine lv_iload_n hx hb dX10_copyOf_19 rfl (lv_at hl 0 rfl) ?_
      refine lv_bipush (v := 40) hx hb dX10_copyOf_20 (by decide) ?_
      refine lv_icmp_ge (tgt := 53) hx hb dX10_copyOf_22 (by decide) (fun h9 => False.elim (by revert h9; exact (fun h => lt_lit 40 (by decide) (by omega) h))) (fun _ => ?_)
      refine lv_aload_n hx hb dX10_copyOf_25 rfl (lv_at hl 2 rfl) ?_
      refine m_get (ci := 8) (v := .ref b5) (C := RX10) (T := TX10) (N := 21) hx hb hts in_X10_copyOf_X10 hown hE hM g_y rfl 4 (by decide) (hts (.fieldLink RX10 22 "CallWays2Model" "samples" "[J") (by decide +kernel)) (fun _ h9 => h9) rfl dX10_copyOf_26 ?_
      refine lv_bipush (v := 40) hx hb dX10_copyOf_29 (by decide) ?_
      refine lv_iload_n hx hb dX10_copyOf_31 rfl (lv_at hl 1 rfl) ?_
      refine lv_imul hx hb dX10_copyOf_32 ?_
      refine lv_iload_n hx hb dX10_copyOf_33 rfl (lv_at hl 0 rfl) ?_
      refine lv_iadd hx hb dX10_copyOf_34 ?_
      refine lv_aload_n hx hb dX10_copyOf_35 rfl (lv_at hl 2 rfl) ?_
      refine m_get (ci := 8) (v := .ref b5) (C := RX10) (T := TX10) (N := 21) hx hb hts in_X10_copyOf_X10 hown hE hM g_y rfl 4 (by decide) (hts (.fieldLink RX10 22 "CallWays2Model" "samples" "[J") (by decide +kernel)) (fun _ h9 => h9) rfl dX10_copyOf_36 ?_
      refine lv_bipush (v := 40) hx hb dX10_copyOf_39 (by decide) ?_
      refine lv_iload_n hx hb dX10_copyOf_41 rfl (lv_at hl 3 rfl) ?_
      refine lv_imul hx hb dX10_copyOf_42 ?_
      refine lv_iload_n hx hb dX10_copyOf_43 rfl (lv_at hl 0 rfl) ?_
      refine lv_iadd hx hb dX10_copyOf_44 ?_
      rw [show (40 : Int32) * nI w + nI k9 = nI (40 * w + k9) from k40 w k9]
      refine m_lald hx hb hE hM g_b5 (in_k40 hw24 (by omega)) dX10_copyOf_45 ?_
      rw [show (va_cpy SM (zro SM (40 * fr) 40) (40 * w) (40 * fr) k9) (nI (40 * w + k9)).toNatClampNeg = SM (40 * w + k9) from by rw [nI_clamp (by omega)]; exact (hrd k9 (by omega) k9).resolve_right (by omega)]
      rw [show (40 : Int32) * nI fr + nI k9 = nI (40 * fr + k9) from k40 fr k9]
      refine m_last hx hb hE hM hS g_b5 (in_k40 hfr (by omega)) dX10_copyOf_46 (fun H locs hM hS => ?_)
      rw [show vp_updL (va_cpy SM (zro SM (40 * fr) 40) (40 * w) (40 * fr) k9) (nI (40 * fr + k9)).toNatClampNeg (SM (40 * w + k9)) = va_cpy SM (zro SM (40 * fr) 40) (40 * w) (40 * fr) (k9 + 1) from by rw [nI_clamp (by omega), cpy_s]] at hM
      have hM : mOK E.1 (mA M sz) (mUp Mi b5 (mJ E 960 (va_cpy SM (zro SM (40 * fr) 40) (40 * w) (40 * fr) (k9 + 1)))) H := hM
      obtain ⟨M1, eM1⟩ : ∃ z, z = mUp Mi b5 (mJ E 960 (va_cpy SM (zro SM (40 * fr) 40) (40 * w) (40 * fr) (k9 + 1))) := ⟨_, rfl⟩
      rw [← eM1] at hM
      have g_y_ : M1 y = some (mO 8 [.ref b1, .ref b2, .ref b3, .ref b4, .ref b5, .int ni, .ref b6, .ref b7, .ref b8, .ref b9, .ref b10, .ref b11, .int nf0, .ref b12, .ref b13, .int bd, .int st, .int fa, .ref b14, .ref b15, .ref b16]) := by rw [eM1]; exact mUp_at (m_ne g_y g_b5 (by simp)) g_y
      have g_y := g_y_
      have g_b5 : M1 b5 = some (mJ E 960 (va_cpy SM (zro SM (40 * fr) 40) (40 * w) (40 * fr) (k9 + 1))) := by rw [eM1]; exact mUp_self _ _ _
      refine lv_iinc (v := ((nI k9) + 1)) (lv' := [(3, .int ((nI k9) + 1)), (2, .int (nI fr)), (0, .ref y), (1, .int (nI w))]) hx hb dX10_copyOf_47 hl (k := 0) rfl rfl (by decide) rfl (fun ls hl => ?_)
      refine lv_goto (tgt := 19) hx hb dX10_copyOf_50 (by decide) ?_
      rw [nI_1] at hl
      exact ih (k9 + 1) M1 ls _ _ (by omega) (by rw [eM1, eMi, tri_a]) hM hS (lv_sub hl [0, 1, 2, 3] rfl)
  refine lv_aload_n hx hb dX10_copyOf_0 rfl (lv_at hl 0 rfl) ?_
  refine lv_aload_n hx hb dX10_copyOf_1 rfl (lv_at hl 0 rfl) ?_
  refine m_get (ci := 8) (v := .ref b3) (C := RX10) (T := TX10) (N := 21) hx hb hts in_X10_copyOf_X10 hown hE hM g_y rfl 2 (by decide) (hts (.fieldLink RX10 16 "CallWays2Model" "laneOf" "[I") (by decide +kernel)) (fun _ h9 => h9) rfl dX10_copyOf_2 ?_
  refine lv_iload_n hx hb dX10_copyOf_5 rfl (lv_at hl 1 rfl) ?_
  refine m_iald hx hb hE hM g_b3 (vp_in_nI hw24 (by decide)) dX10_copyOf_6 ?_
  rw [show LN (nI w).toNatClampNeg = LN w from by rw [nI_clamp (by omega)]]
  refine lv_aload_n hx hb dX10_copyOf_7 rfl (lv_at hl 0 rfl) ?_
  refine m_get (ci := 8) (v := .ref b4) (C := RX10) (T := TX10) (N := 21) hx hb hts in_X10_copyOf_X10 hown hE hM g_y rfl 3 (by decide) (hts (.fieldLink RX10 19 "CallWays2Model" "sizeOf" "[I") (by decide +kernel)) (fun _ h9 => h9) rfl dX10_copyOf_8 ?_
  refine lv_iload_n hx hb dX10_copyOf_11 rfl (lv_at hl 1 rfl) ?_
  refine m_iald hx hb hE hM g_b4 (vp_in_nI hw24 (by decide)) dX10_copyOf_12 ?_
  rw [show SZ (nI w).toNatClampNeg = SZ w from by rw [nI_clamp (by omega)]]
  refine m_calli (va_runV (As := [.int (LN w), .int (SZ w)]) (rest := []) ⟨hx, hb, hml, hown, hts⟩ (c_X10_freshRow l E M H.size y b1 b2 b3 b4 b5 b6 b7 b8 b9 b10 b11 b12 b13 b14 b15 b16 ni nf0 bd st fa B T LN SZ SM bk tb fr efr (LN w) (SZ w) hB hT h24 h24t n34 g_y g_b1 g_b2 g_b3 g_b4 g_b5) (cwV 2 hts gX10_copyOf_X10_freshRow rfl rfl rfl (by decide +kernel) ⟨Nat.le_of_ble_eq_true rfl, Nat.le_of_ble_eq_true rfl⟩) (m_preV hE hM g_y rfl) rfl rfl hl.1 rfl (lv_room (Nat.le_of_ble_eq_true rfl)) dX10_copyOf_13 ⟨Nat.le_of_ble_eq_true rfl, Nat.le_of_ble_eq_true rfl⟩) hM hS hA (fun r1 M2 H locs hw hM hS => ?_)
  obtain ⟨e_r1, eM2⟩ := hw
  subst e_r1
  refine lv_istore_n (lv' := [(2, .int (nI fr)), (0, .ref y), (1, .int (nI w))]) hx hb dX10_copyOf_16 rfl hl (by decide) rfl (fun ls hl => ?_)
  refine lv_iconst (v := 0) hx hb dX10_copyOf_17 (by decide) ?_
  refine lv_istore_n (lv' := [(3, .int 0), (2, .int (nI fr)), (0, .ref y), (1, .int (nI w))]) hx hb dX10_copyOf_18 rfl hl (by decide) rfl (fun ls hl => ?_)
  exact loop 40 0 M2 ls _ _ (by omega) (by rw [eM2, cpy_0]) hM hS (lv_sub hl [0, 1, 2, 3] rfl)
theorem in_X10_reach_X10 : ∀ w ∈ wsX100, w ∈ wsX10_reach := by decide +kernel
set_option maxHeartbeats 4000000 in
set_option maxRecDepth 100000 in
theorem c_X10_reach (l : Launch) (E : mEnv) (M : mMem) (sz : Nat) (y b1 b2 b3 b4 b5 b6 b7 b8 b9 b10 b11 b12 b13 b14 b15 b16 : Nat) (ni nf0 bd st fa : Int32) (B : Nat → Int32) (SZ : Nat → Int32) (bk : Nat → Option Nat) (rw : Nat → sRw) (b i : Int32) (hB : ∀ k, k < 10 → B k = rI (bk k)) (hR : ∀ k, k < 10 → ∀ r, bk k = some r → r < 24 ∧ SZ r = nI (rw r).2.1 ∧ (rw r).2.1 ≤ 40) (g_y : M y = some (mO 8 [.ref b1, .ref b2, .ref b3, .ref b4, .ref b5, .int ni, .ref b6, .ref b7, .ref b8, .ref b9, .ref b10, .ref b11, .int nf0, .ref b12, .ref b13, .int bd, .int st, .int fa, .ref b14, .ref b15, .ref b16])) (g_b1 : M b1 = some (mI E 10 B)) (g_b4 : M b4 = some (mI E 24 SZ))  : Met l yX10_reach wsX10_reach ({ frames := 1, cells := 0, slots := 0, locals := 22 }) (mPre E M sz [.ref y, .int b, .int i]) (mQi E M sz (fun r u => r = (if sAt bk rw b i = 0 then 1 else sAt bk rw b i) ∧ u = M)) (0) (0) (mA M sz) := by
  refine m_met [.ref y, .int b, .int i] (by decide) rfl (Nat.le_of_ble_eq_true rfl) ?_
  intro p e s m below meth c ls H eH hx hb hr hts hown hlocks hnm hml hsz hE hM hS hA hl
  have hl : lv_has ls 4 [(0, .ref y), (1, .int b), (2, .int i)] := hl
  refine lv_iload_n hx hb dX10_reach_0 rfl (lv_at hl 1 rfl) ?_
  refine lv_iconst (v := 0) hx hb dX10_reach_1 (by decide) ?_
  refine lv_bipush (v := 9) hx hb dX10_reach_2 (by decide) ?_
  refine m_calli (va_runS (As := [.int b, .int 0, .int 9]) (rest := []) ⟨hx, hb, hml, hown, hts⟩ (c_X10_in l E M H.size b 0 9) (va_cwS 3 hts gX10_reach_X10_in rfl rfl rfl (by decide +kernel) ⟨Nat.le_of_ble_eq_true rfl, Nat.le_of_ble_eq_true rfl⟩) (m_preS hE hM) rfl rfl hl.1 rfl (lv_room (Nat.le_of_ble_eq_true rfl)) dX10_reach_4 ⟨Nat.le_of_ble_eq_true rfl, Nat.le_of_ble_eq_true rfl⟩) hM hS hA (fun r0 u H locs hw hM hS => ?_)
  obtain ⟨e_r0, eu⟩ := hw
  rw [eu] at hM
  rw [bI_congr (in_9)] at e_r0
  subst e_r0
  refine lv_if_ne (tgt := 12) hx hb dX10_reach_7 (by decide) (fun c_7 => ?_) (fun c_7 => ?_)
  · skip
    rw [bI_ne] at c_7
    obtain ⟨jb, hjb, hbj, hjbc⟩ := vB_ix c_7
    refine lv_aload_n hx hb dX10_reach_12 rfl (lv_at hl 0 rfl) ?_
    refine m_get (ci := 8) (v := .ref b1) (C := RX10) (T := TX10) (N := 21) hx hb hts in_X10_reach_X10 hown hE hM g_y rfl 0 (by decide) (hts (.fieldLink RX10 7 "CallWays2Model" "blocks" "[I") (by decide +kernel)) (fun _ h9 => h9) rfl dX10_reach_13 ?_
    refine lv_iload_n hx hb dX10_reach_16 rfl (lv_at hl 1 rfl) ?_
    refine m_iald hx hb hE hM g_b1 (in_lit (N := 10) (by decide) c_7.1 c_7.2) dX10_reach_17 ?_
    rw [show B b.toNatClampNeg = rI (bk jb) from by rw [hjbc]; exact hB jb hjb]
    refine lv_istore_n (lv' := [(3, .int (rI (bk jb))), (0, .ref y), (1, .int b), (2, .int i)]) hx hb dX10_reach_18 rfl hl (by decide) rfl (fun ls hl => ?_)
    refine lv_iload_n hx hb dX10_reach_19 rfl (lv_at hl 0 rfl) ?_
    rcases hbk : bk jb with _ | w
    · refine lv_if_ge (tgt := 28) hx hb dX10_reach_20 (by decide) (fun h9 => absurd h9 (by decide)) (fun _ => ?_)
      refine lv_bipush (v := -5) hx hb dX10_reach_23 (by decide) ?_
      refine lv_goto (tgt := 50) hx hb dX10_reach_25 (by decide) ?_
      exact m_iret hx hb hr hlocks hM hS (Nat.le_refl _) (Nat.le_refl _) dX10_reach_50 (by refine ⟨?_, rfl⟩; rw [show sAt bk rw b i = -5 from (by unfold sAt; rw [if_pos c_7, hjbc, hbk])]; rfl)
    · obtain ⟨hw24, hSz, hn40⟩ := hR jb hjb w hbk
      refine lv_if_ge (tgt := 28) hx hb dX10_reach_20 (by decide) (fun _ => ?_) (fun h9 => absurd ((nI_leI (a := 0) (by decide) (by omega)).mpr (Nat.zero_le w)) h9)
      rw [hbk] at hl
      replace hl : lv_has ls 4 [(3, .int (nI w)), (0, .ref y), (1, .int b), (2, .int i)] := hl
      refine lv_iload_n hx hb dX10_reach_28 rfl (lv_at hl 3 rfl) ?_
      refine lv_iconst (v := 0) hx hb dX10_reach_29 (by decide) ?_
      refine lv_aload_n hx hb dX10_reach_30 rfl (lv_at hl 1 rfl) ?_
      refine m_get (ci := 8) (v := .ref b4) (C := RX10) (T := TX10) (N := 21) hx hb hts in_X10_reach_X10 hown hE hM g_y rfl 3 (by decide) (hts (.fieldLink RX10 19 "CallWays2Model" "sizeOf" "[I") (by decide +kernel)) (fun _ h9 => h9) rfl dX10_reach_31 ?_
      refine lv_iload_n hx hb dX10_reach_34 rfl (lv_at hl 0 rfl) ?_
      refine m_iald hx hb hE hM g_b4 (vp_in_nI hw24 (by decide)) dX10_reach_35 ?_
      rw [show SZ (nI w).toNatClampNeg = nI (rw w).2.1 from by rw [nI_clamp (by omega), hSz]]
      refine lv_iconst (v := 1) hx hb dX10_reach_36 (by decide) ?_
      refine lv_isub hx hb dX10_reach_37 ?_
      refine m_calli (va_runS (As := [.int i, .int 0, .int ((nI (rw w).2.1) - 1)]) (rest := []) ⟨hx, hb, hml, hown, hts⟩ (c_X10_in l E M H.size i 0 (nI (rw w).2.1 - 1)) (va_cwS 3 hts gX10_reach_X10_in rfl rfl rfl (by decide +kernel) ⟨Nat.le_of_ble_eq_true rfl, Nat.le_of_ble_eq_true rfl⟩) (m_preS hE hM) rfl rfl hl.1 rfl (lv_room (Nat.le_of_ble_eq_true rfl)) dX10_reach_38 ⟨Nat.le_of_ble_eq_true rfl, Nat.le_of_ble_eq_true rfl⟩) hM hS hA (fun r0 u H locs hw hM hS => ?_)
      obtain ⟨e_r0, eu⟩ := hw
      rw [eu] at hM
      rw [bI_congr (in_m1 (by omega))] at e_r0
      subst e_r0
      refine lv_if_eq (tgt := 48) hx hb dX10_reach_41 (by decide) (fun c_41 => ?_) (fun c_41 => ?_)
      · skip
        rw [bI_eq] at c_41
        refine lv_bipush (v := -7) hx hb dX10_reach_48 (by decide) ?_
        exact m_iret hx hb hr hlocks hM hS (Nat.le_refl _) (Nat.le_refl _) dX10_reach_50 (by refine ⟨?_, rfl⟩; have hs : sAt bk rw b i = (if ¬ i < 0 ∧ ¬ nI (rw w).2.1 ≤ i then 0 else -7) := (by unfold sAt; rw [if_pos c_7, hjbc, hbk]); rw [hs]; first | (rw [if_pos c_41]; rfl) | (rw [if_neg c_41]; rfl))
      · skip
        rw [bI_ne] at c_41
        refine lv_iconst (v := 1) hx hb dX10_reach_44 (by decide) ?_
        refine lv_goto (tgt := 50) hx hb dX10_reach_45 (by decide) ?_
        exact m_iret hx hb hr hlocks hM hS (Nat.le_refl _) (Nat.le_refl _) dX10_reach_50 (by refine ⟨?_, rfl⟩; have hs : sAt bk rw b i = (if ¬ i < 0 ∧ ¬ nI (rw w).2.1 ≤ i then 0 else -7) := (by unfold sAt; rw [if_pos c_7, hjbc, hbk]); rw [hs]; first | (rw [if_pos c_41]; rfl) | (rw [if_neg c_41]; rfl))
  · skip
    rw [bI_eq] at c_7
    refine lv_iconst (v := -1) hx hb dX10_reach_10 (by decide) ?_
    exact m_iret hx hb hr hlocks hM hS (Nat.le_refl _) (Nat.le_refl _) dX10_reach_11 (by refine ⟨?_, rfl⟩; rw [show sAt bk rw b i = -1 from if_neg c_7]; rfl)
