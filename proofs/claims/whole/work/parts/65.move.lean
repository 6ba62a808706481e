/-! WHAT THE OTHER SIDE'S CALL LEAVES AS IT WAS -/
theorem cRep.move {E : mEnv} {M u : mMem} {NO NO' : Nat → Prop} {x : Nat} {σ : Sg} (h : cRep E M NO x σ) (hu : ∀ q e, ¬ NO q → M q = some e → u q = some e) (hN : ∀ q e, ¬ NO q → M q = some e → ¬ NO' q) : cRep E u NO' x σ := by
  obtain ⟨nn, ins, nf, fn, bk, rw, bd, st, c2, c3, c4⟩ := σ
  obtain ⟨a1, a2, a3, a4, fi, fb, ff, wt, ia, ib, fa, ra, rb, fl, LV, ⟨g_x, g1, g2, g3, g4⟩, hI, hF, hB, hL, hR, hJ, ⟨n0, n1, n2, n3, n4⟩, nI', nF, nR⟩ := h
  refine ⟨a1, a2, a3, a4, fi, fb, ff, wt, ia, ib, fa, ra, rb, fl, LV, ⟨hu _ _ n0 g_x, hu _ _ n1 g1, hu _ _ n2 g2, hu _ _ n3 g3, hu _ _ n4 g4⟩, ?_, ?_, hB, hL, ?_, hJ, ⟨hN _ _ n0 g_x, hN _ _ n1 g1, hN _ _ n2 g2, hN _ _ n3 g3, hN _ _ n4 g4⟩, ?_, ?_, ?_⟩
  · intro i hi ci kf pi on ph le tb he
    obtain ⟨k1, k2, k3⟩ := hI i hi _ _ _ _ _ _ _ he
    exact ⟨k1, hu _ _ (nI' i hi).1 k2, hu _ _ (nI' i hi).2 k3⟩
  · intro i hi
    exact ⟨(hF i hi).1, hu _ _ (nF i hi) (hF i hi).2⟩
  · intro r hr lane n f he
    obtain ⟨k1, k2, k3⟩ := hR r hr _ _ _ he
    exact ⟨hu _ _ (nR r hr).1 k1, hu _ _ (nR r hr).2 k2, k3⟩
  · intro i hi
    obtain ⟨_, k2, k3⟩ := hI i hi _ _ _ _ _ _ _ rfl
    exact ⟨hN _ _ (nI' i hi).1 k2, hN _ _ (nI' i hi).2 k3⟩
  · intro i hi
    exact hN _ _ (nF i hi) (hF i hi).2
  · intro r hr
    obtain ⟨k1, k2, _⟩ := hR r hr _ _ _ rfl
    exact ⟨hN _ _ (nR r hr).1 k1, hN _ _ (nR r hr).2 k2⟩
theorem cRep.gx {E : mEnv} {M : mMem} {NO : Nat → Prop} {x : Nat} {σ : Sg} (h : cRep E M NO x σ) : ∃ fs, M x = some (mO 7 fs) := by
  obtain ⟨nn, ins, nf, fn, bk, rw, bd, st, c2, c3, c4⟩ := σ
  obtain ⟨a1, a2, a3, a4, fi, fb, ff, wt, ia, ib, fa, ra, rb, fl, LV, ⟨g_x, _⟩, _⟩ := h
  exact ⟨_, g_x⟩
theorem mR.gy {E : mEnv} {M : mMem} {y b1 b2 b3 b4 b5 b6 b7 b8 b9 b10 b11 b12 b13 b14 b15 b16 : Nat} {σ : Sg} (h : mR E M y b1 b2 b3 b4 b5 b6 b7 b8 b9 b10 b11 b12 b13 b14 b15 b16 σ) : ∃ fs, M y = some (mO 8 fs) := by
  obtain ⟨nn, ins, nf, fn, bk, rw, bd, st, c2, c3, c4⟩ := σ
  obtain ⟨fa, B, T, LN, SZ, SM, SO, KN, PI, ON, PH, LE, KD, NM, CT, CM, MV, ⟨g_y, _⟩, _⟩ := h
  exact ⟨_, g_y⟩
theorem mR.move {E : mEnv} {M u : mMem} {y b1 b2 b3 b4 b5 b6 b7 b8 b9 b10 b11 b12 b13 b14 b15 b16 : Nat} {σ : Sg} (h : mR E M y b1 b2 b3 b4 b5 b6 b7 b8 b9 b10 b11 b12 b13 b14 b15 b16 σ) (hk : ∀ q, q ∈ [y, b1, b2, b3, b4, b5, b6, b7, b8, b9, b10, b11, b12, b13, b14, b15, b16] → u q = M q) : mR E u y b1 b2 b3 b4 b5 b6 b7 b8 b9 b10 b11 b12 b13 b14 b15 b16 σ := by
  obtain ⟨nn, ins, nf, fn, bk, rw, bd, st, c2, c3, c4⟩ := σ
  obtain ⟨fa, B, T, LN, SZ, SM, SO, KN, PI, ON, PH, LE, KD, NM, CT, CM, MV, ⟨g_y, g_b1, g_b2, g_b3, g_b4, g_b5, g_b6, g_b7, g_b8, g_b9, g_b10, g_b11, g_b12, g_b13, g_b14, g_b15, g_b16⟩, hrl⟩ := h
  have e : ∀ (k q : Nat) (c : va_E), [y, b1, b2, b3, b4, b5, b6, b7, b8, b9, b10, b11, b12, b13, b14, b15, b16][k]? = some q → M q = some c → u q = some c := fun k q c h1 h2 => (hk q (List.mem_of_getElem? h1)).trans h2
  exact ⟨fa, B, T, LN, SZ, SM, SO, KN, PI, ON, PH, LE, KD, NM, CT, CM, MV, ⟨e 0 _ _ rfl g_y, e 1 _ _ rfl g_b1, e 2 _ _ rfl g_b2, e 3 _ _ rfl g_b3, e 4 _ _ rfl g_b4, e 5 _ _ rfl g_b5, e 6 _ _ rfl g_b6, e 7 _ _ rfl g_b7, e 8 _ _ rfl g_b8, e 9 _ _ rfl g_b9, e 10 _ _ rfl g_b10, e 11 _ _ rfl g_b11, e 12 _ _ rfl g_b12, e 13 _ _ rfl g_b13, e 14 _ _ rfl g_b14, e 15 _ _ rfl g_b15, e 16 _ _ rfl g_b16⟩, hrl⟩
theorem mR.there {E : mEnv} {M : mMem} {y b1 b2 b3 b4 b5 b6 b7 b8 b9 b10 b11 b12 b13 b14 b15 b16 : Nat} {σ : Sg} (h : mR E M y b1 b2 b3 b4 b5 b6 b7 b8 b9 b10 b11 b12 b13 b14 b15 b16 σ) : ∀ q, q ∈ [y, b1, b2, b3, b4, b5, b6, b7, b8, b9, b10, b11, b12, b13, b14, b15, b16] → M q ≠ none := by
  obtain ⟨nn, ins, nf, fn, bk, rw, bd, st, c2, c3, c4⟩ := σ
  obtain ⟨fa, B, T, LN, SZ, SM, SO, KN, PI, ON, PH, LE, KD, NM, CT, CM, MV, ⟨g_y, g_b1, g_b2, g_b3, g_b4, g_b5, g_b6, g_b7, g_b8, g_b9, g_b10, g_b11, g_b12, g_b13, g_b14, g_b15, g_b16⟩, hrl⟩ := h
  intro q hq
  simp only [List.mem_cons, List.not_mem_nil, or_false] at hq
  have e : ∀ (z : Nat) (c : va_E), q = z → M z = some c → M q ≠ none := fun z c h1 h2 h3 => (by rw [h1, h2] at h3; cases h3)
  rcases hq with hq | hq | hq | hq | hq | hq | hq | hq | hq | hq | hq | hq | hq | hq | hq | hq | hq
  · exact e _ _ hq g_y
  · exact e _ _ hq g_b1
  · exact e _ _ hq g_b2
  · exact e _ _ hq g_b3
  · exact e _ _ hq g_b4
  · exact e _ _ hq g_b5
  · exact e _ _ hq g_b6
  · exact e _ _ hq g_b7
  · exact e _ _ hq g_b8
  · exact e _ _ hq g_b9
  · exact e _ _ hq g_b10
  · exact e _ _ hq g_b11
  · exact e _ _ hq g_b12
  · exact e _ _ hq g_b13
  · exact e _ _ hq g_b14
  · exact e _ _ hq g_b15
  · exact e _ _ hq g_b16
/-- the two sides hold one state -/
def both (E : mEnv) (M : mMem) (x y b1 b2 b3 b4 b5 b6 b7 b8 b9 b10 b11 b12 b13 b14 b15 b16 : Nat) (σ : Sg) : Prop := Inv σ ∧ cRep E M (fun q => q ∈ [y, b1, b2, b3, b4, b5, b6, b7, b8, b9, b10, b11, b12, b13, b14, b15, b16]) x σ ∧ mR E M y b1 b2 b3 b4 b5 b6 b7 b8 b9 b10 b11 b12 b13 b14 b15 b16 σ
theorem both.hO {E : mEnv} {M : mMem} {x y b1 b2 b3 b4 b5 b6 b7 b8 b9 b10 b11 b12 b13 b14 b15 b16 : Nat} {σ : Sg} (h : both E M x y b1 b2 b3 b4 b5 b6 b7 b8 b9 b10 b11 b12 b13 b14 b15 b16 σ) : ∀ q, (fun q => q ∈ [y, b1, b2, b3, b4, b5, b6, b7, b8, b9, b10, b11, b12, b13, b14, b15, b16]) q → M q ≠ none := h.2.2.there
/-- behind the class's call the model's cells are as they were -/
theorem both.mid {E : mEnv} {M u : mMem} {x y b1 b2 b3 b4 b5 b6 b7 b8 b9 b10 b11 b12 b13 b14 b15 b16 : Nat} {σ : Sg} (h : both E M x y b1 b2 b3 b4 b5 b6 b7 b8 b9 b10 b11 b12 b13 b14 b15 b16 σ) (hk : kept (fun q => q ∈ [y, b1, b2, b3, b4, b5, b6, b7, b8, b9, b10, b11, b12, b13, b14, b15, b16]) M u) : mR E u y b1 b2 b3 b4 b5 b6 b7 b8 b9 b10 b11 b12 b13 b14 b15 b16 σ := h.2.2.move hk
/-- behind the model's call the class's cells are as they were -/
theorem both.fin {E : mEnv} {u u' : mMem} {x y b1 b2 b3 b4 b5 b6 b7 b8 b9 b10 b11 b12 b13 b14 b15 b16 : Nat} {σ : Sg} (hV : Inv σ) (hC : cRep E u (fun q => q ∈ [y, b1, b2, b3, b4, b5, b6, b7, b8, b9, b10, b11, b12, b13, b14, b15, b16]) x σ) (hm : mR E u' y b1 b2 b3 b4 b5 b6 b7 b8 b9 b10 b11 b12 b13 b14 b15 b16 σ) (hk : kept (nol y b1 b2 b3 b4 b5 b6 b7 b8 b9 b10 b11 b12 b13 b14 b15 b16) u u') : both E u' x y b1 b2 b3 b4 b5 b6 b7 b8 b9 b10 b11 b12 b13 b14 b15 b16 σ :=
  ⟨hV, hC.move (fun q e hq he => (hk q hq).trans he) (fun q e hq _ => hq), hm⟩
