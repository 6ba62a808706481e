/-! NEW CELLS -/
section CR2
variable {E : mEnv} {M : mMem} {NO LV : Nat → Prop} {nn nf x a1 a2 a3 a4 : Nat} {ins : Nat → sIn} {fn : Nat → Int32 × Int32} {bk fi fb ff : Nat → Option Nat} {rw : Nat → sRw} {bd st c2 c3 c4 : Int32} {wt : Nat → UInt64} {ia ib fa ra rb : Nat → Nat} {fl : Nat → Int32}
theorem live_addI {v : sIn} (hv : v.2.2.2.2.2.2 = none) (r : Nat) : live (nn + 1) (va_up ins nn v) bk r ↔ live nn ins bk r := by
  unfold live
  constructor
  · rintro (h | ⟨i, hi, h⟩)
    · exact Or.inl h
    · by_cases hin : i = nn
      · subst hin
        rw [va_up_self, hv] at h
        cases h
      · rw [va_up_ne _ _ hin] at h
        exact Or.inr ⟨i, by omega, h⟩
  · rintro (h | ⟨i, hi, h⟩)
    · exact Or.inl h
    · exact Or.inr ⟨i, by omega, by rw [va_up_ne _ _ (by omega)]; exact h⟩
/-- one more instrument -/
theorem cR.addI {a q ci : Nat} (hi : ∀ i, i < nn → insK (ins i).1) (h : cR E M NO x (nn, ins, nf, fn, bk, rw, bd, st, c2, c3, c4) a1 a2 a3 a4 fi fb ff wt ia ib fa ra rb fl LV) (ha : M a = none) (hq : M q = none) (haq : a ≠ q) (hO : ∀ q, NO q → M q ≠ none) : cR E (mUp (mUp (mUp (mUp M q (mI E 4 (fun _ => 0))) a (mO ci [.ref q, .int 0, .int 0, .int 0, .double 0, .null, .int 0])) a1 (mQ E 4 12 (va_up fi nn (some a)))) x (xCell a1 a2 a3 a4 (nn + 1) nf bd st c2 c3 c4)) NO x (nn + 1, va_up ins nn (ci, (fun _ => 0), 0, 0, 0, 0, none), nf, fn, bk, rw, bd, st, c2, c3, c4) a1 a2 a3 a4 (va_up fi nn (some a)) fb ff wt (va_up ia nn a) (va_up ib nn q) fa ra rb (va_up fl nn 0) LV := by
  obtain ⟨⟨g_x, g1, g2, g3, g4⟩, hI, hF, hB, hL, hR, hJ, hN⟩ := h
  have old : ∀ {z : Nat} {e0 : va_E}, M z = some e0 → z ≠ a1 → z ≠ x → mUp (mUp (mUp (mUp M q (mI E 4 (fun _ => 0))) a (mO ci [.ref q, .int 0, .int 0, .int 0, .double 0, .null, .int 0])) a1 (mQ E 4 12 (va_up fi nn (some a)))) x (xCell a1 a2 a3 a4 (nn + 1) nf bd st c2 c3 c4) z = some e0 := fun hz h1 h2 => mUp_at h2 (mUp_at h1 (mUp_at (m_neN hz ha) (mUp_at (m_neN hz hq) hz)))
  have hax : a ≠ x := Ne.symm (m_neN g_x ha)
  have hqx : q ≠ x := Ne.symm (m_neN g_x hq)
  have ha1 : a ≠ a1 := Ne.symm (m_neN g1 ha)
  have hq1 : q ≠ a1 := Ne.symm (m_neN g1 hq)
  have h1x : a1 ≠ x := m_ne g1 g_x (by simp)
  have iax := hI.ia_ne g_x (fun ci fs hc q => by have := (insK_ne hc).2.2.1; simp at q; exact this q.1.symm) hi
  have ibx := hI.ib_ne g_x (fun f q => by simp at q)
  have ia1 := hI.ia_ne g1 (fun ci fs hc q => by simp at q) hi
  have ib1 := hI.ib_ne g1 (fun f q => by simp at q)
  refine ⟨⟨mUp_self _ _ _, mUp_at h1x (mUp_self _ _ _), old g2 (m_ne g2 g1 (by simp)) (m_ne g2 g_x (by simp)), old g3 (m_ne g3 g1 (by simp)) (m_ne g3 g_x (by simp)), old g4 (m_ne g4 g1 (by simp)) (m_ne g4 g_x (by simp))⟩, ?_, ?_, hB, fun r hr => hL r ((live_addI rfl r).mp hr), ?_, ?_, ?_⟩
  · intro i hi2 ci2 kf2 pi2 on2 ph2 le2 tb2 he
    by_cases hij : i = nn
    · subst hij
      rw [va_up_self] at he
      simp only [Prod.mk.injEq] at he
      obtain ⟨rfl, rfl, rfl, rfl, rfl, rfl, rfl⟩ := he
      rw [va_up_self, va_up_self, va_up_self, va_up_self]
      exact ⟨rfl, mUp_at hax (mUp_at ha1 (mUp_self _ _ _)), mUp_at hqx (mUp_at hq1 (mUp_at (Ne.symm haq) (mUp_self _ _ _)))⟩
    · rw [va_up_ne _ _ hij] at he
      rw [va_up_ne _ _ hij, va_up_ne _ _ hij, va_up_ne _ _ hij, va_up_ne _ _ hij]
      obtain ⟨m1, m2, m3⟩ := hI i (by omega) _ _ _ _ _ _ _ he
      exact ⟨m1, old m2 (ia1 i (by omega)) (iax i (by omega)), old m3 (ib1 i (by omega)) (ibx i (by omega))⟩
  · intro i hi2
    exact ⟨(hF i hi2).1, old (hF i hi2).2 (hF.ne g1 (fun fs q => by simp at q) i hi2) (hF.ne g_x (fun fs q => by simp at q) i hi2)⟩
  · intro r hr lane n f he
    obtain ⟨m1, m2, m3⟩ := hR r hr _ _ _ he
    exact ⟨old m1 (m_ne m1 g1 (by simp)) (m_ne m1 g_x (by simp)), old m2 (m_ne m2 g1 (by simp)) (m_ne m2 g_x (by simp)), m3⟩
  · refine ⟨fun i j hi2 hj2 hij => ?_, fun i j hi2 hj2 hij => ?_, hJ.2.2⟩
    · by_cases h1 : i = nn
      · by_cases h2 : j = nn
        · omega
        · subst h1
          rw [va_up_self, va_up_ne _ _ h2] at hij
          exact absurd hij.symm (m_neN (hI j (by omega) _ _ _ _ _ _ _ rfl).2.1 ha)
      · by_cases h2 : j = nn
        · subst h2
          rw [va_up_self, va_up_ne _ _ h1] at hij
          exact absurd hij (m_neN (hI i (by omega) _ _ _ _ _ _ _ rfl).2.1 ha)
        · rw [va_up_ne _ _ h1, va_up_ne _ _ h2] at hij
          exact hJ.1 i j (by omega) (by omega) hij
    · by_cases h1 : i = nn
      · by_cases h2 : j = nn
        · omega
        · subst h1
          rw [va_up_self, va_up_ne _ _ h2] at hij
          exact absurd hij.symm (m_neN (hI j (by omega) _ _ _ _ _ _ _ rfl).2.2 hq)
      · by_cases h2 : j = nn
        · subst h2
          rw [va_up_self, va_up_ne _ _ h1] at hij
          exact absurd hij (m_neN (hI i (by omega) _ _ _ _ _ _ _ rfl).2.2 hq)
        · rw [va_up_ne _ _ h1, va_up_ne _ _ h2] at hij
          exact hJ.2.1 i j (by omega) (by omega) hij
  · refine ⟨hN.1, fun i hi2 => ?_, hN.2.2⟩
    by_cases h1 : i = nn
    · subst h1
      rw [va_up_self, va_up_self]
      exact ⟨fun z => hO a z ha, fun z => hO q z hq⟩
    · rw [va_up_ne _ _ h1, va_up_ne _ _ h1]
      exact hN.2.1 i (by omega)
/-- one more function -/
theorem cR.addF {a : Nat} {kind av : Int32} (hi : ∀ i, i < nn → insK (ins i).1) (h : cR E M NO x (nn, ins, nf, fn, bk, rw, bd, st, c2, c3, c4) a1 a2 a3 a4 fi fb ff wt ia ib fa ra rb fl LV) (ha : M a = none) (hO : ∀ q, NO q → M q ≠ none) : cR E (mUp (mUp (mUp M a (mO 2 [.int kind, .double (FP.i2d av)])) a3 (mQ E 6 8 (va_up ff nf (some a)))) x (xCell a1 a2 a3 a4 nn (nf + 1) bd st c2 c3 c4)) NO x (nn, ins, nf + 1, va_up fn nf (kind, av), bk, rw, bd, st, c2, c3, c4) a1 a2 a3 a4 fi fb (va_up ff nf (some a)) wt ia ib (va_up fa nf a) ra rb fl LV := by
  obtain ⟨⟨g_x, g1, g2, g3, g4⟩, hI, hF, hB, hL, hR, hJ, hN⟩ := h
  have old : ∀ {z : Nat} {e0 : va_E}, M z = some e0 → z ≠ a3 → z ≠ x → mUp (mUp (mUp M a (mO 2 [.int kind, .double (FP.i2d av)])) a3 (mQ E 6 8 (va_up ff nf (some a)))) x (xCell a1 a2 a3 a4 nn (nf + 1) bd st c2 c3 c4) z = some e0 := fun hz h1 h2 => mUp_at h2 (mUp_at h1 (mUp_at (m_neN hz ha) hz))
  have iax := hI.ia_ne g_x (fun ci fs hc q => by have := (insK_ne hc).2.2.1; simp at q; exact this q.1.symm) hi
  have ibx := hI.ib_ne g_x (fun f q => by simp at q)
  have ia3 := hI.ia_ne g3 (fun ci fs hc q => by simp at q) hi
  have ib3 := hI.ib_ne g3 (fun f q => by simp at q)
  refine ⟨⟨mUp_self _ _ _, old g1 (m_ne g1 g3 (by simp)) (m_ne g1 g_x (by simp)), old g2 (m_ne g2 g3 (by simp)) (m_ne g2 g_x (by simp)), mUp_at (m_ne g3 g_x (by simp)) (mUp_self _ _ _), old g4 (m_ne g4 g3 (by simp)) (m_ne g4 g_x (by simp))⟩, ?_, ?_, hB, hL, ?_, hJ, ?_⟩
  · intro i hi2 ci2 kf2 pi2 on2 ph2 le2 tb2 he
    obtain ⟨m1, m2, m3⟩ := hI i hi2 _ _ _ _ _ _ _ he
    exact ⟨m1, old m2 (ia3 i hi2) (iax i hi2), old m3 (ib3 i hi2) (ibx i hi2)⟩
  · intro i hi2
    by_cases h1 : i = nf
    · subst h1
      rw [va_up_self, va_up_self, va_up_self]
      exact ⟨rfl, mUp_at (Ne.symm (m_neN g_x ha)) (mUp_at (Ne.symm (m_neN g3 ha)) (mUp_self _ _ _))⟩
    · rw [va_up_ne _ _ h1, va_up_ne _ _ h1, va_up_ne _ _ h1]
      obtain ⟨m1, m2⟩ := hF i (by omega)
      exact ⟨m1, old m2 (m_ne m2 g3 (by simp)) (m_ne m2 g_x (by simp))⟩
  · intro r hr lane n f he
    obtain ⟨m1, m2, m3⟩ := hR r hr _ _ _ he
    exact ⟨old m1 (m_ne m1 g3 (by simp)) (m_ne m1 g_x (by simp)), old m2 (m_ne m2 g3 (by simp)) (m_ne m2 g_x (by simp)), m3⟩
  · refine ⟨hN.1, hN.2.1, fun i hi2 => ?_, hN.2.2.2⟩
    by_cases h1 : i = nf
    · subst h1
      rw [va_up_self]
      exact fun z => hO a z ha
    · rw [va_up_ne _ _ h1]
      exact hN.2.2.1 i (by omega)
/-- one more row of samples, that nothing has yet -/
theorem cR.addR {a v r n : Nat} {lane : Int32} {f : Nat → UInt64} (hi : ∀ i, i < nn → insK (ins i).1) (h : cR E M NO x (nn, ins, nf, fn, bk, rw, bd, st, c2, c3, c4) a1 a2 a3 a4 fi fb ff wt ia ib fa ra rb fl LV) (ha : M a = none) (hv : M v = none) (hav : a ≠ v) (hO : ∀ q, NO q → M q ≠ none) (hr : ¬ LV r) : cR E (mUp (mUp M v (mDb E n f)) a (mO 5 [.int lane, .ref v])) NO x (nn, ins, nf, fn, bk, va_up rw r (lane, n, f), bd, st, c2, c3, c4) a1 a2 a3 a4 fi fb ff wt ia ib fa (va_up ra r a) (va_up rb r v) fl (fun q => LV q ∨ q = r) := by
  obtain ⟨⟨g_x, g1, g2, g3, g4⟩, hI, hF, hB, hL, hR, hJ, hN⟩ := h
  have old : ∀ {z : Nat} {e0 : va_E}, M z = some e0 → mUp (mUp M v (mDb E n f)) a (mO 5 [.int lane, .ref v]) z = some e0 := fun hz => mUp_at (m_neN hz ha) (mUp_at (m_neN hz hv) hz)
  have hmap : ∀ o : Option Nat, (∀ w, o = some w → LV w) → o.map (va_up ra r a) = o.map ra := by
    intro o ho
    cases o with
    | none => rfl
    | some w => simp [va_up, show ¬ w = r from fun z => hr (z ▸ ho w rfl)]
  refine ⟨⟨old g_x, old g1, old g2, old g3, old g4⟩, ?_, ?_, ?_, fun q hq => Or.inl (hL q hq), ?_, ?_, ?_⟩
  · intro i hi2 ci2 kf2 pi2 on2 ph2 le2 tb2 he
    obtain ⟨m1, m2, m3⟩ := hI i hi2 _ _ _ _ _ _ _ he
    rw [hmap tb2 (fun w hw => hL w (Or.inr ⟨i, hi2, by rw [he]; exact hw⟩))]
    exact ⟨m1, old m2, old m3⟩
  · intro i hi2
    exact ⟨(hF i hi2).1, old (hF i hi2).2⟩
  · intro k hk
    rw [hmap (bk k) (fun w hw => hL w (Or.inl ⟨k, hk, hw⟩))]
    exact hB k hk
  · intro q hq lane2 n2 f2 he
    by_cases hqr : q = r
    · subst hqr
      rw [va_up_self] at he
      simp only [Prod.mk.injEq] at he
      obtain ⟨rfl, rfl, rfl⟩ := he
      rw [va_up_self, va_up_self]
      exact ⟨mUp_self _ _ _, mUp_at (Ne.symm hav) (mUp_self _ _ _), Ne.symm (m_neN g4 hv)⟩
    · rw [va_up_ne _ _ hqr] at he
      rw [va_up_ne _ _ hqr, va_up_ne _ _ hqr]
      obtain ⟨m1, m2, m3⟩ := hR q (hq.resolve_right hqr) _ _ _ he
      exact ⟨old m1, old m2, m3⟩
  · refine ⟨hJ.1, hJ.2.1, fun p q hp hq hpq => ?_, fun p q hp hq hpq => ?_⟩
    · by_cases h1 : p = r
      · by_cases h2 : q = r
        · omega
        · subst h1
          rw [va_up_self, va_up_ne _ _ h2] at hpq
          exact absurd hpq.symm (m_neN (hR q (hq.resolve_right h2) _ _ _ rfl).1 ha)
      · by_cases h2 : q = r
        · subst h2
          rw [va_up_self, va_up_ne _ _ h1] at hpq
          exact absurd hpq (m_neN (hR p (hp.resolve_right h1) _ _ _ rfl).1 ha)
        · rw [va_up_ne _ _ h1, va_up_ne _ _ h2] at hpq
          exact hJ.2.2.1 p q (hp.resolve_right h1) (hq.resolve_right h2) hpq
    · by_cases h1 : p = r
      · by_cases h2 : q = r
        · omega
        · subst h1
          rw [va_up_self, va_up_ne _ _ h2] at hpq
          exact absurd hpq.symm (m_neN (hR q (hq.resolve_right h2) _ _ _ rfl).2.1 hv)
      · by_cases h2 : q = r
        · subst h2
          rw [va_up_self, va_up_ne _ _ h1] at hpq
          exact absurd hpq (m_neN (hR p (hp.resolve_right h1) _ _ _ rfl).2.1 hv)
        · rw [va_up_ne _ _ h1, va_up_ne _ _ h2] at hpq
          exact hJ.2.2.2 p q (hp.resolve_right h1) (hq.resolve_right h2) hpq
  · refine ⟨hN.1, hN.2.1, hN.2.2.1, fun q hq => ?_⟩
    by_cases h1 : q = r
    · subst h1
      rw [va_up_self, va_up_self]
      exact ⟨fun z => hO a z ha, fun z => hO v z hv⟩
    · rw [va_up_ne _ _ h1, va_up_ne _ _ h1]
      exact hN.2.2.2 q (hq.resolve_right h1)
/-- fewer rows are known: those that are in use -/
theorem cR.shrink {L2 : Nat → Prop} (h : cR E M NO x (nn, ins, nf, fn, bk, rw, bd, st, c2, c3, c4) a1 a2 a3 a4 fi fb ff wt ia ib fa ra rb fl LV) (h1 : ∀ r, live nn ins bk r → L2 r) (h2 : ∀ r, L2 r → LV r) : cR E M NO x (nn, ins, nf, fn, bk, rw, bd, st, c2, c3, c4) a1 a2 a3 a4 fi fb ff wt ia ib fa ra rb fl L2 := by
  obtain ⟨g, hI, hF, hB, hL, hR, hJ, hN⟩ := h
  exact ⟨g, hI, hF, hB, h1, fun r hr => hR r (h2 r hr), ⟨hJ.1, hJ.2.1, fun r q hr hq => hJ.2.2.1 r q (h2 r hr) (h2 q hq), fun r q hr hq => hJ.2.2.2 r q (h2 r hr) (h2 q hq)⟩, hN.1, hN.2.1, hN.2.2.1, fun r hr => hN.2.2.2 r (h2 r hr)⟩
/-- a block holds another row, or none -/
theorem cR.setB {j : Nat} {o : Option Nat} (hi : ∀ i, i < nn → insK (ins i).1) (ho : ∀ r, o = some r → LV r) (h : cR E M NO x (nn, ins, nf, fn, bk, rw, bd, st, c2, c3, c4) a1 a2 a3 a4 fi fb ff wt ia ib fa ra rb fl LV) : cR E (mUp M a2 (mQ E 5 10 (va_up fb j (o.map ra)))) NO x (nn, ins, nf, fn, va_up bk j o, rw, bd, st, c2, c3, c4) a1 a2 a3 a4 fi (va_up fb j (o.map ra)) ff wt ia ib fa ra rb fl LV := by
  obtain ⟨⟨g_x, g1, g2, g3, g4⟩, hI, hF, hB, hL, hR, hJ, hN⟩ := h
  refine ⟨⟨mUp_at (m_ne g_x g2 (by simp)) g_x, mUp_at (m_ne g1 g2 (by simp)) g1, mUp_self _ _ _, mUp_at (m_ne g3 g2 (by simp)) g3, mUp_at (m_ne g4 g2 (by simp)) g4⟩, ?_, ?_, ?_, ?_, ?_, hJ, hN⟩
  · exact hI.up (hI.ia_ne g2 (fun ci fs hc q => by simp at q) hi) (hI.ib_ne g2 (fun f q => by simp at q))
  · exact hF.up (hF.ne g2 (fun fs q => by simp at q))
  · intro k hk
    by_cases hkj : k = j
    · subst hkj
      rw [va_up_self, va_up_self]
    · rw [va_up_ne _ _ hkj, va_up_ne _ _ hkj]
      exact hB k hk
  · rintro r (⟨k, hk, he⟩ | h)
    · by_cases hkj : k = j
      · subst hkj
        rw [va_up_self] at he
        exact ho r he
      · rw [va_up_ne _ _ hkj] at he
        exact hL r (Or.inl ⟨k, hk, he⟩)
    · exact hL r (Or.inr h)
  · exact hR.up (hR.ra_ne g2 (fun fs q => by simp at q)) (hR.rb_ne g2 (fun n f q => by simp at q))
/-- an instrument's table is another row, or none -/
theorem cR.setT {j ci : Nat} {kf : Nat → Int32} {pi on ph : Int32} {le : UInt64} {tb o : Option Nat} (hi : ∀ i, i < nn → insK (ins i).1) (hj : j < nn) (hins : ins j = (ci, kf, pi, on, ph, le, tb)) (ho : ∀ r, o = some r → LV r) (h : cR E M NO x (nn, ins, nf, fn, bk, rw, bd, st, c2, c3, c4) a1 a2 a3 a4 fi fb ff wt ia ib fa ra rb fl LV) : cR E (mUp M (ia j) (mO ci [.ref (ib j), .int pi, .int on, .int ph, .double le, va_rf (o.map ra), .int (fl j)])) NO x (nn, va_up ins j (ci, kf, pi, on, ph, le, o), nf, fn, bk, rw, bd, st, c2, c3, c4) a1 a2 a3 a4 fi fb ff wt ia ib fa ra rb fl LV := by
  obtain ⟨⟨g_x, g1, g2, g3, g4⟩, hI, hF, hB, hL, hR, hJ, hN⟩ := h
  obtain ⟨k1, k2, k3⟩ := hI j hj _ _ _ _ _ _ _ hins
  have hc := insK_ne (by have := hi j hj; rw [hins] at this; exact this)
  refine ⟨⟨mUp_at (m_ne g_x k2 (by simp)) g_x, mUp_at (m_ne g1 k2 (by simp)) g1, mUp_at (m_ne g2 k2 (by simp)) g2, mUp_at (m_ne g3 k2 (by simp)) g3, mUp_at (m_ne g4 k2 (by simp)) g4⟩, ?_, ?_, hB, ?_, ?_, hJ, hN⟩
  · intro i hi2 ci2 kf2 pi2 on2 ph2 le2 tb2 he
    by_cases hij : i = j
    · subst hij
      rw [va_up_self] at he
      simp only [Prod.mk.injEq] at he
      obtain ⟨rfl, rfl, rfl, rfl, rfl, rfl, rfl⟩ := he
      exact ⟨k1, mUp_self _ _ _, mUp_at (m_ne k3 k2 (by simp)) k3⟩
    · rw [va_up_ne _ _ hij] at he
      obtain ⟨m1, m2, m3⟩ := hI i hi2 _ _ _ _ _ _ _ he
      exact ⟨m1, mUp_at (fun q => hij (hJ.1 i j hi2 hj q)) m2, mUp_at (m_ne m3 k2 (by simp)) m3⟩
  · exact hF.up (hF.ne k2 (fun fs q => by simp at q; exact hc.1 q.1))
  · rintro r (h | ⟨i, hi2, he⟩)
    · exact hL r (Or.inl h)
    · by_cases hij : i = j
      · subst hij
        rw [va_up_self] at he
        exact ho r he
      · rw [va_up_ne _ _ hij] at he
        exact hL r (Or.inr ⟨i, hi2, he⟩)
  · exact hR.up (hR.ra_ne k2 (fun fs q => by simp at q; exact hc.2.1 q.1)) (hR.rb_ne k2 (fun n f q => by simp at q))
end CR2
/-! A ROW THAT NOTHING HAS -/
def tbs (ins : Nat → sIn) : Nat → Option Nat := fun i => (ins i).2.2.2.2.2.2
def usedB (bk tb : Nat → Option Nat) (r : Nat) : Bool := (List.range 10).any (fun k => bk k == some r) || (List.range 12).any (fun i => tb i == some r)
def fresh (bk tb : Nat → Option Nat) : Nat := (List.range 24).findIdx (fun r => !usedB bk tb r)
theorem usedB_iff {bk tb : Nat → Option Nat} {r : Nat} : usedB bk tb r = true ↔ (∃ k, k < 10 ∧ bk k = some r) ∨ (∃ i, i < 12 ∧ tb i = some r) := by
  unfold usedB
  simp [List.any_eq_true, List.mem_range]
theorem php : ∀ (n : Nat) (L : List (Option Nat)), L.length = n → ∃ r, r ≤ n ∧ some r ∉ L := by
  intro n
  induction n with
  | zero =>
    intro L h
    exact ⟨0, Nat.le_refl 0, by rw [List.length_eq_zero_iff.mp h]; exact List.not_mem_nil⟩
  | succ n ih =>
    intro L h
    by_cases hm : some (n + 1) ∈ L
    · obtain ⟨r, h1, h2⟩ := ih (L.erase (some (n + 1))) (by rw [List.length_erase_of_mem hm, h]; rfl)
      refine ⟨r, by omega, fun h3 => h2 ?_⟩
      exact (List.mem_erase_of_ne (by simp; omega)).mpr h3
    · exact ⟨n + 1, Nat.le_refl _, hm⟩
theorem fresh_lt (bk tb : Nat → Option Nat) : fresh bk tb < 24 := by
  obtain ⟨r, h1, h2⟩ := php 22 ((List.range 10).map bk ++ (List.range 12).map tb) (by simp)
  have hu : usedB bk tb r = false := by
    cases h : usedB bk tb r with
    | false => rfl
    | true =>
      rcases usedB_iff.mp h with ⟨k, hk, he⟩ | ⟨k, hk, he⟩
      · exact absurd (List.mem_append_left _ (List.mem_map.mpr ⟨k, List.mem_range.mpr hk, he⟩)) h2
      · exact absurd (List.mem_append_right _ (List.mem_map.mpr ⟨k, List.mem_range.mpr hk, he⟩)) h2
  have : (List.range 24).findIdx (fun r => !usedB bk tb r) < (List.range 24).length := List.findIdx_lt_length_of_exists ⟨r, List.mem_range.mpr (by omega), by simp [hu]⟩
  rw [List.length_range] at this
  exact this
theorem fresh_un (bk tb : Nat → Option Nat) : usedB bk tb (fresh bk tb) = false := by
  have h := List.findIdx_getElem (xs := List.range 24) (p := fun r => !usedB bk tb r) (w := by rw [List.length_range]; exact fresh_lt bk tb)
  simp at h
  exact h
theorem fresh_min {bk tb : Nat → Option Nat} {r : Nat} (h : r < fresh bk tb) : usedB bk tb r = true := by
  have h1 := fresh_lt bk tb
  have h2 := List.not_of_lt_findIdx (xs := List.range 24) (p := fun r => !usedB bk tb r) (i := r) h
  simp at h2
  exact h2
theorem fresh_nl {nn : Nat} {ins : Nat → sIn} {bk : Nat → Option Nat} (hnn : nn ≤ 12) : ¬ live nn ins bk (fresh bk (tbs ins)) := by
  intro h
  have h1 := fresh_un bk (tbs ins)
  have h2 : usedB bk (tbs ins) (fresh bk (tbs ins)) = true := usedB_iff.mpr (h.imp id (fun ⟨i, hi, he⟩ => ⟨i, by omega, he⟩))
  rw [h1] at h2
  cases h2
