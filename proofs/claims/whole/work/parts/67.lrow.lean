/-! THE LAW'S ROWS -/
abbrev lA (s : State) : Nat → Prop := fun q => s.heap.size ≤ q
section LROW
variable {p : Program} {l : Launch} {e : Env} {s : State} {m : MethodId} {below : List Frame} {meth : Method} {c : Code} {b L : Nat} {xs : Nat → Int32} {H : Heap} {locs : List Loc} {cells slots : Nat} {Q : State → Prop} {ls : Array Slot} {x y k : Nat} {rest : List Value} {pc : Nat}
theorem l_arg (hL : L ≤ 3584) (C0 : lw_At p s m meth c b L xs) (hS : va_S (lA s) s.heap H locs) (hl : lv_has ls 4 [(0, .ref b), (1, .ref x), (2, .ref y), (3, .int (nI (7 * k)))]) (j : Nat) (hj : 7 * k + j < L) {n : Int} (hn : Int32.ofInt n = nI j) (d1 : decode code pc = .ok (.aload_n 0, 1)) (d2 : decode code (pc + 1) = .ok (.iload_n 3, 1)) (d3 : decode code (pc + 2) = .ok (.iconst n, 1)) (d4 : decode code (pc + 3) = .ok (.iadd, 1)) (d5 : decode code (pc + 4) = .ok (.iaload, 1)) (kk : W p l e room_1 s m #[Value.ref b] below meth c H locs cells slots Q (F0 m (pc + 5) ls (.int (xs (7 * k + j)) :: rest))) : W p l e room_1 s m #[Value.ref b] below meth c H locs cells slots Q (F0 m pc ls rest) := by
  obtain ⟨hx, hb, hr, hml, hown, hts0, hX, hbl, hlocks, hgv⟩ := id C0
  refine lv_aload_n hx hb d1 rfl (lv_at hl 0 rfl) ?_
  refine lv_iload_n hx hb d2 rfl (lv_at hl 3 rfl) ?_
  refine lv_iconst (v := nI j) hx hb d3 hn ?_
  refine lv_iadd hx hb d4 ?_
  rw [nI_add]
  refine va_sld (A := lA s) hx hb hX hbl (Nat.not_le.mpr hbl) hS (vp_in_nI hj (by omega)) d5 ?_
  rw [nI_clamp (by omega)]
  exact kk
theorem l_argb (hL : L ≤ 3584) (C0 : lw_At p s m meth c b L xs) (hS : va_S (lA s) s.heap H locs) (hl : lv_has ls 4 [(0, .ref b), (1, .ref x), (2, .ref y), (3, .int (nI (7 * k)))]) (j : Nat) (hj : 7 * k + j < L) {n : Int} (hn : (Int8.ofInt n).toInt32 = nI j) (d1 : decode code pc = .ok (.aload_n 0, 1)) (d2 : decode code (pc + 1) = .ok (.iload_n 3, 1)) (d3 : decode code (pc + 2) = .ok (.bipush n, 2)) (d4 : decode code (pc + 4) = .ok (.iadd, 1)) (d5 : decode code (pc + 5) = .ok (.iaload, 1)) (kk : W p l e room_1 s m #[Value.ref b] below meth c H locs cells slots Q (F0 m (pc + 6) ls (.int (xs (7 * k + j)) :: rest))) : W p l e room_1 s m #[Value.ref b] below meth c H locs cells slots Q (F0 m pc ls rest) := by
  obtain ⟨hx, hb, hr, hml, hown, hts0, hX, hbl, hlocks, hgv⟩ := id C0
  refine lv_aload_n hx hb d1 rfl (lv_at hl 0 rfl) ?_
  refine lv_iload_n hx hb d2 rfl (lv_at hl 3 rfl) ?_
  refine lv_bipush (v := nI j) hx hb d3 hn ?_
  refine lv_iadd hx hb d4 ?_
  rw [nI_add]
  refine va_sld (A := lA s) hx hb hX hbl (Nat.not_le.mpr hbl) hS (vp_in_nI hj (by omega)) d5 ?_
  rw [nI_clamp (by omega)]
  exact kk
theorem l_bool (C0 : lw_At p s m meth c b L xs) {v : Int32} (d1 : decode code pc = .ok (.ifCond .eq 7, 3)) (d2 : decode code (pc + 3) = .ok (.iconst 1, 1)) (d3 : decode code (pc + 4) = .ok (.goto 4, 3)) (d4 : decode code (pc + 7) = .ok (.iconst 0, 1)) (kk : W p l e room_1 s m #[Value.ref b] below meth c H locs cells slots Q (F0 m (pc + 8) ls (.int (bI (¬ v = 0)) :: rest))) : W p l e room_1 s m #[Value.ref b] below meth c H locs cells slots Q (F0 m pc ls (.int v :: rest)) := by
  obtain ⟨hx, hb, _⟩ := id C0
  refine lv_if_eq (tgt := pc + 7) hx hb d1 (by omega) (fun h => ?_) (fun h => ?_)
  · rw [bI_f (not_not_intro h)] at kk
    exact lv_iconst (v := 0) hx hb d4 (by decide) kk
  · rw [bI_t h] at kk
    refine lv_iconst (v := 1) hx hb d2 (by decide) ?_
    exact lv_goto (tgt := pc + 8) hx hb d3 (by omega) kk
end LROW
