def pen (M : mMem) (y p a c d : Nat) (Y P L C D : va_E) : mMem := mUp (mUp (tri M y p a Y P L) c C) d D
section PEN
variable {M : mMem} {y p a c d q : Nat} {Y P L C D Y' P' L' C' D' e : va_E}
theorem pen_tri (h : [y, p, a, c, d].Nodup) : tri (pen M y p a c d Y P L C D) y p a Y' P' L' = pen M y p a c d Y' P' L' C D := by
  simp only [List.nodup_cons, List.mem_cons, List.not_mem_nil, or_false, not_or] at h
  funext q
  simp only [pen, tri, mUp]
  by_cases h1 : q = y <;> by_cases h2 : q = p <;> by_cases h3 : q = a <;> by_cases h4 : q = c <;> by_cases h5 : q = d <;> simp_all
theorem pen_y (h : [y, p, a, c, d].Nodup) : mUp (pen M y p a c d Y P L C D) y Y' = pen M y p a c d Y' P L C D := by
  simp only [List.nodup_cons, List.mem_cons, List.not_mem_nil, or_false, not_or] at h
  funext q
  simp only [pen, tri, mUp]
  by_cases h1 : q = y <;> by_cases h2 : q = p <;> by_cases h3 : q = a <;> by_cases h4 : q = c <;> by_cases h5 : q = d <;> simp_all
theorem pen_c (h : [y, p, a, c, d].Nodup) : mUp (pen M y p a c d Y P L C D) c C' = pen M y p a c d Y P L C' D := by
  simp only [List.nodup_cons, List.mem_cons, List.not_mem_nil, or_false, not_or] at h
  funext q
  simp only [pen, tri, mUp]
  by_cases h1 : q = y <;> by_cases h2 : q = p <;> by_cases h3 : q = a <;> by_cases h4 : q = c <;> by_cases h5 : q = d <;> simp_all
theorem pen_d : mUp (pen M y p a c d Y P L C D) d D' = pen M y p a c d Y P L C D' := mUp_up _ _ _ _
theorem pen_ne (h : M q = some e) (h1 : q ≠ y) (h2 : q ≠ p) (h3 : q ≠ a) (h4 : q ≠ c) (h5 : q ≠ d) : pen M y p a c d Y P L C D q = some e := mUp_at h5 (mUp_at h4 (tri_ne h h1 h2 h3))
theorem pen_id (h1 : M y = some Y) (h2 : M p = some P) (h3 : M a = some L) (h4 : M c = some C) (h5 : M d = some D) : pen M y p a c d Y P L C D = M := by
  unfold pen
  rw [tri_id h1 h2 h3, mUp_id h4, mUp_id h5]
end PEN
theorem in3_0 : vp_in 0 3 := vp_in_nI (n := 0) (by decide) (by decide)
theorem in3_1 : vp_in 1 3 := vp_in_nI (n := 1) (by decide) (by decide)
theorem in3_2 : vp_in 2 3 := vp_in_nI (n := 2) (by decide) (by decide)
theorem in_2 {w : Int32} : (¬ w < 0 ∧ ¬ 2 < w) ↔ (w = 0 ∨ w = 1 ∨ w = 2) := by
  constructor
  · rintro ⟨h1, h2⟩
    obtain ⟨j, hj, rfl⟩ := nI_of h1
    rw [show (2 : Int32) = nI 2 from rfl, nI_ltI (by decide) hj] at h2
    rcases (show j = 0 ∨ j = 1 ∨ j = 2 by omega) with rfl | rfl | rfl
    · exact Or.inl rfl
    · exact Or.inr (Or.inl rfl)
    · exact Or.inr (Or.inr rfl)
  · rintro (rfl | rfl | rfl) <;> decide
theorem vWy_in {nf : Nat} {wy f : Int32} (h : vWy nf wy f) : wy = 0 ∨ wy = 1 ∨ wy = 2 := h.imp id (fun q => q.imp id (fun z => z.1))
theorem plF_w {bk : Nat → Option Nat} {rw : Nat → sRw} {bd b wy fr n : Int32} {w : Nat} (h : bk b.toNatClampNeg = some w) : plF bk rw bd b wy fr n = sInto (rw w).1 (rw w).2.1 bd wy fr n := by unfold plF; rw [h]
theorem sI_6 {lane bd wy fr k : Int32} {n : Nat} (h : wy = 1) (h1 : ¬ lane = bd) : sInto lane n bd wy fr k = -6 := by unfold sInto; rw [if_pos ⟨h, h1⟩]
theorem sI_8 {lane bd wy fr k : Int32} {n : Nat} (h : ¬ (wy = 1 ∧ ¬ lane = bd)) (h1 : k < 0) : sInto lane n bd wy fr k = -8 := by unfold sInto; rw [if_neg h, if_pos h1]
theorem sI_7 {lane bd wy fr k : Int32} {n : Nat} (h : ¬ (wy = 1 ∧ ¬ lane = bd)) (h1 : ¬ k < 0) (h2 : ¬ spn n fr k) : sInto lane n bd wy fr k = -7 := by unfold sInto; rw [if_neg h, if_neg h1, if_neg h2]
theorem sI_0 {lane bd wy fr k : Int32} {n : Nat} (h : ¬ (wy = 1 ∧ ¬ lane = bd)) (h1 : ¬ k < 0) (h2 : spn n fr k) : sInto lane n bd wy fr k = 0 := by unfold sInto; rw [if_neg h, if_neg h1, if_pos h2]
theorem sD_neg {k1 : Int32} {le : UInt64} : (sDrum k1 le).1 = 0 ∨ (sDrum k1 le).1 < 0 := by
  unfold sDrum
  split
  · exact Or.inr (show (-4 : Int32) < 0 by decide)
  · exact Or.inl rfl
theorem sG_neg {ci : Nat} {kf : Nat → Int32} {pi on ph : Int32} {le : UInt64} {tb : tbT} : (sGive ci kf pi on ph le tb).1 = 0 ∨ (sGive ci kf pi on ph le tb).1 < 0 := by
  unfold sGive
  split
  · exact Or.inl rfl
  · split
    · exact Or.inl rfl
    · split
      · exact sD_neg
      · split
        · unfold sBell
          split
          · exact Or.inr (show (-3 : Int32) < 0 by decide)
          · exact sD_neg
        · show (sRead _ _ _ _).1 = 0 ∨ _
          unfold sRead
          split
          · exact Or.inr (show (-8 : Int32) < 0 by decide)
          · cases tb with
            | none => exact Or.inr (show (-5 : Int32) < 0 by decide)
            | some t =>
              show (if t.1 = 1 then _ else _ : Int32 × UInt64).1 = 0 ∨ (if t.1 = 1 then _ else _ : Int32 × UInt64).1 < 0
              split
              · split
                · exact Or.inl rfl
                · exact Or.inr (show (-7 : Int32) < 0 by decide)
              · exact Or.inr (show (-6 : Int32) < 0 by decide)
theorem sT0 (lane : Int32) : sBits lane (sTurn lane FP.dconst0) = 0 := by
  have h : sTurn lane FP.dconst0 = 0 := by
    unfold sTurn
    split
    · decide +kernel
    · split
      · decide +kernel
      · split
        · decide +kernel
        · rfl
  rw [h, sBits_0]
theorem dlv_new {SM : Nat → Int64} {w a k n q : Nat} {lane : Int32} {f g : Nat → UInt64} (h : ∀ j, j < n → SM (40 * w + j) = sBits lane (f j)) (hq : q < n) : va_cpy (fun z => sBits lane (g z)) SM 0 (40 * w + a) k (40 * w + q) = sBits lane (dlv f a g k q) := by
  simp only [va_cpy, dlv]
  by_cases h1 : a ≤ q ∧ q < a + k
  · rw [if_pos (by omega), if_pos h1]
    congr 2
    omega
  · rw [if_neg (by omega), if_neg h1]
    exact h q hq
theorem nd5 {y b1 b2 b3 b4 b5 b6 b7 b8 b9 b10 b11 b12 b13 b14 b15 b16 : Nat} (h : [y, b1, b2, b3, b4, b5, b6, b7, b8, b9, b10, b11, b12, b13, b14, b15, b16].Nodup) : [y, b10, b11, b14, b15].Nodup := by
  have e : ∀ i j : Nat, ∀ {a b : Nat}, [y, b1, b2, b3, b4, b5, b6, b7, b8, b9, b10, b11, b12, b13, b14, b15, b16][i]? = some a → [y, b1, b2, b3, b4, b5, b6, b7, b8, b9, b10, b11, b12, b13, b14, b15, b16][j]? = some b → i ≠ j → a ≠ b := fun i j _ _ ha hb hij => nd_ne h i j ha hb hij
  have e1 : y ≠ b10 := e 0 10 rfl rfl (by decide)
  have e2 : y ≠ b11 := e 0 11 rfl rfl (by decide)
  have e3 : y ≠ b14 := e 0 14 rfl rfl (by decide)
  have e4 : y ≠ b15 := e 0 15 rfl rfl (by decide)
  have e5 : b10 ≠ b11 := e 10 11 rfl rfl (by decide)
  have e6 : b10 ≠ b14 := e 10 14 rfl rfl (by decide)
  have e7 : b10 ≠ b15 := e 10 15 rfl rfl (by decide)
  have e8 : b11 ≠ b14 := e 11 14 rfl rfl (by decide)
  have e9 : b11 ≠ b15 := e 11 15 rfl rfl (by decide)
  have e10 : b14 ≠ b15 := e 14 15 rfl rfl (by decide)
  simp [e1, e2, e3, e4, e5, e6, e7, e8, e9, e10]
theorem live_upr {nn : Nat} {ins : Nat → sIn} {bk : Nat → Option Nat} {j r : Nat} {v : sIn} (hv : v.2.2.2.2.2.2 = (ins j).2.2.2.2.2.2) (h : live nn ins bk r) : live nn (va_up ins j v) bk r := (live_up hv r).mpr h
theorem sLE_o {ci : Nat} {LE : Nat → UInt64} {j z : Nat} {v : UInt64} (h : z ≠ j) : sLE ci LE j v z = LE z := by
  unfold sLE
  split
  · exact vfu_o h
  · rfl
