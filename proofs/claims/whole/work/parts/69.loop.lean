theorem lhead {L k : Nat} (hL : L ≤ 3584) (hk : 7 * k ≤ L) : Int32.ofNat L - 7 < nI (7 * k) ↔ L < 7 * k + 7 := by
  show nI L - 7 < nI (7 * k) ↔ _
  rw [Int32.lt_iff_toInt_lt, nI_toInt (by omega), Int32.toInt_sub, nI_toInt (by omega), show (7 : Int32).toInt = 7 from rfl, Int.bmod_eq_of_le (by omega) (by omega)]
  omega
set_option maxHeartbeats 4000000 in
set_option maxRecDepth 100000 in
theorem law_loop {p : Program} {l : Launch} {e : Env} {s : State} {m : MethodId} {below : List Frame} {meth : Method} {c : Code} {b L : Nat} {xs : Nat → Int32} (hL : L ≤ 3584) (C0 : lw_At p s m meth c b L xs) {E : mEnv} (hE : mE E s) {x y b1 b2 b3 b4 b5 b6 b7 b8 b9 b10 b11 b12 b13 b14 b15 b16 : Nat} (hnd : [y, b1, b2, b3, b4, b5, b6, b7, b8, b9, b10, b11, b12, b13, b14, b15, b16].Nodup) : ∀ (n k : Nat) (M : mMem) (σ : Sg) (H : Heap) (locs : List Loc) (ls : Array Slot), L < 7 * (k + n) → 7 * k ≤ L → both E M x y b1 b2 b3 b4 b5 b6 b7 b8 b9 b10 b11 b12 b13 b14 b15 b16 σ → mOK E.1 (lA s) M H → va_S (lA s) s.heap H locs → lv_has ls 4 [(0, .ref b), (1, .ref x), (2, .ref y), (3, .int (nI (7 * k)))] → W p l e room_1 s m #[Value.ref b] below meth c H locs (22 + 2 * k) (1339 + 42 * k) (lw_Z below #[Value.ref b] s) (F0 m 18 ls []) := by
  obtain ⟨hx, hb, hr, hml, hown, hts0, hX, hbl, hlocks, hgv⟩ := id C0
  intro n
  induction n with
  | zero => intro k M σ H locs ls hn hk; omega
  | succ n ih =>
    intro k M σ H locs ls hn hk hB hM hS hl
    refine lv_iload_n hx hb dL_law_18 rfl (lv_at hl 3 rfl) ?_
    refine lv_aload_n hx hb dL_law_19 rfl (lv_at hl 0 rfl) ?_
    refine va_slen (A := lA s) hx hb hX hbl (Nat.not_le.mpr hbl) hS dL_law_20 ?_
    refine lv_bipush (v := 7) hx hb dL_law_21 (by decide) ?_
    refine lv_isub hx hb dL_law_23 ?_
    refine lv_icmp_gt (tgt := 926) hx hb dL_law_24 (by decide) (fun h => ?_) (fun h => ?_)
    · refine va_forget (fun q hq => hS.2.2 q hq) ?_
      refine lv_iconst (v := 1) hx hb dL_law_926 (by decide) ?_
      refine W.widen (k := 600000) (n := 7302250) (by omega) (by omega) ?_
      exact W.base (lw_ret (Drawn.sameBut.refl s.drawn lw_cs) hx hb hr hlocks dL_law_927)
    · rw [lhead hL hk] at h
      have hk7 : 7 * k + 7 ≤ L := by omega
      have go : ∀ (M' : mMem) (σ' : Sg) (H' : Heap) (locs' : List Loc), both E M' x y b1 b2 b3 b4 b5 b6 b7 b8 b9 b10 b11 b12 b13 b14 b15 b16 σ' → mOK E.1 (lA s) M' H' → va_S (lA s) s.heap H' locs' → W p l e room_1 s m #[Value.ref b] below meth c H' locs' (22 + 2 * (k + 1)) (1339 + 42 * (k + 1)) (lw_Z below #[Value.ref b] s) (F0 m 920 ls []) := by
        intro M' σ' H' locs' hB' hM' hS'
        refine lv_iinc (v := nI (7 * (k + 1))) (lv' := [(3, .int (nI (7 * (k + 1)))), (0, .ref b), (1, .ref x), (2, .ref y)]) hx hb dL_law_920 hl (k := 3) rfl (by show nI (7 * k) + nI 7 = _; rw [nI_add]; congr 1) (by decide) rfl (fun ls hl => ?_)
        refine lv_goto (tgt := 18) hx hb dL_law_923 (by decide) ?_
        exact ih (k + 1) M' σ' H' locs' ls (by omega) (by omega) hB' hM' hS' (lv_sub hl [1, 2, 3, 0] rfl)
      refine lv_aload_n hx hb dL_law_27 rfl (lv_at hl 0 rfl) ?_
      refine lv_iload_n hx hb dL_law_28 rfl (lv_at hl 3 rfl) ?_
      refine va_sld (A := lA s) hx hb hX hbl (Nat.not_le.mpr hbl) hS (vp_in_nI (by omega) (by omega)) dL_law_29 ?_
      refine lv_bipush (v := 31) hx hb dL_law_30 (by decide) ?_
      refine lv_iand hx hb dL_law_32 ?_
      refine lv_topi (fun v ev => ?_)
      by_cases s_0 : v = 0
      · refine lv_tableIn (off := 95) (tgt := 128) hx hb dL_law_33 (by rw [s_0]; decide) (by rw [s_0]; decide) (by rw [s_0]; rfl) (by decide) ?_
        exact law_instrument hL C0 hE hnd hk7 hB hM hS hl go
      by_cases s_1 : v = 1
      · refine lv_tableIn (off := 118) (tgt := 151) hx hb dL_law_33 (by rw [s_1]; decide) (by rw [s_1]; decide) (by rw [s_1]; rfl) (by decide) ?_
        exact law_note hL C0 hE hnd hk7 hB hM hS hl go
      by_cases s_2 : v = 2
      · refine lv_tableIn (off := 177) (tgt := 210) hx hb dL_law_33 (by rw [s_2]; decide) (by rw [s_2]; decide) (by rw [s_2]; rfl) (by decide) ?_
        exact law_knob hL C0 hE hnd hk7 hB hM hS hl go
      by_cases s_3 : v = 3
      · refine lv_tableIn (off := 220) (tgt := 253) hx hb dL_law_33 (by rw [s_3]; decide) (by rw [s_3]; decide) (by rw [s_3]; rfl) (by decide) ?_
        exact law_phase hL C0 hE hnd hk7 hB hM hS hl go
      by_cases s_4 : v = 4
      · refine lv_tableIn (off := 253) (tgt := 286) hx hb dL_law_33 (by rw [s_4]; decide) (by rw [s_4]; decide) (by rw [s_4]; rfl) (by decide) ?_
        exact law_table hL C0 hE hnd hk7 hB hM hS hl go
      by_cases s_5 : v = 5
      · refine lv_tableIn (off := 312) (tgt := 345) hx hb dL_law_33 (by rw [s_5]; decide) (by rw [s_5]; decide) (by rw [s_5]; rfl) (by decide) ?_
        exact law_block hL C0 hE hnd hk7 hB hM hS hl go
      by_cases s_6 : v = 6
      · refine lv_tableIn (off := 355) (tgt := 388) hx hb dL_law_33 (by rw [s_6]; decide) (by rw [s_6]; decide) (by rw [s_6]; rfl) (by decide) ?_
        exact law_lend hL C0 hE hnd hk7 hB hM hS hl go
      by_cases s_7 : v = 7
      · refine lv_tableIn (off := 414) (tgt := 447) hx hb dL_law_33 (by rw [s_7]; decide) (by rw [s_7]; decide) (by rw [s_7]; rfl) (by decide) ?_
        exact law_isLent hL C0 hE hnd hk7 hB hM hS hl go
      by_cases s_8 : v = 8
      · refine lv_tableIn (off := 447) (tgt := 480) hx hb dL_law_33 (by rw [s_8]; decide) (by rw [s_8]; decide) (by rw [s_8]; rfl) (by decide) ?_
        exact law_of hL C0 hE hnd hk7 hB hM hS hl go
      by_cases s_9 : v = 9
      · refine lv_tableIn (off := 480) (tgt := 513) hx hb dL_law_33 (by rw [s_9]; decide) (by rw [s_9]; decide) (by rw [s_9]; rfl) (by decide) ?_
        exact law_at hL C0 hE hnd hk7 hB hM hS hl go
      by_cases s_10 : v = 10
      · refine lv_tableIn (off := 514) (tgt := 547) hx hb dL_law_33 (by rw [s_10]; decide) (by rw [s_10]; decide) (by rw [s_10]; rfl) (by decide) ?_
        exact law_put hL C0 hE hnd hk7 hB hM hS hl go
      by_cases s_11 : v = 11
      · refine lv_tableIn (off := 557) (tgt := 590) hx hb dL_law_33 (by rw [s_11]; decide) (by rw [s_11]; decide) (by rw [s_11]; rfl) (by decide) ?_
        exact law_copy hL C0 hE hnd hk7 hB hM hS hl go
      by_cases s_12 : v = 12
      · refine lv_tableIn (off := 620) (tgt := 653) hx hb dL_law_33 (by rw [s_12]; decide) (by rw [s_12]; decide) (by rw [s_12]; rfl) (by decide) ?_
        exact law_bind hL C0 hE hnd hk7 hB hM hS hl go
      by_cases s_13 : v = 13
      · refine lv_tableIn (off := 643) (tgt := 676) hx hb dL_law_33 (by rw [s_13]; decide) (by rw [s_13]; decide) (by rw [s_13]; rfl) (by decide) ?_
        exact law_function hL C0 hE hnd hk7 hB hM hS hl go
      by_cases s_14 : v = 14
      · refine lv_tableIn (off := 676) (tgt := 709) hx hb dL_law_33 (by rw [s_14]; decide) (by rw [s_14]; decide) (by rw [s_14]; rfl) (by decide) ?_
        exact law_play hL C0 hE hnd hk7 hB hM hS hl go
      by_cases s_15 : v = 15
      · refine lv_tableIn (off := 751) (tgt := 784) hx hb dL_law_33 (by rw [s_15]; decide) (by rw [s_15]; decide) (by rw [s_15]; rfl) (by decide) ?_
        exact law_agree hL C0 hE hnd hk7 hB hM hS hl go
      by_cases s_16 : v = 16
      · refine lv_tableIn (off := 794) (tgt := 827) hx hb dL_law_33 (by rw [s_16]; decide) (by rw [s_16]; decide) (by rw [s_16]; rfl) (by decide) ?_
        exact law_find hL C0 hE hnd hk7 hB hM hS hl go
      by_cases s_17 : v = 17
      · refine lv_tableIn (off := 827) (tgt := 860) hx hb dL_law_33 (by rw [s_17]; decide) (by rw [s_17]; decide) (by rw [s_17]; rfl) (by decide) ?_
        exact law_next hL C0 hE hnd hk7 hB hM hS hl go
      by_cases s_18 : v = 18
      · refine lv_tableIn (off := 851) (tgt := 884) hx hb dL_law_33 (by rw [s_18]; decide) (by rw [s_18]; decide) (by rw [s_18]; rfl) (by decide) ?_
        exact law_state hL C0 hE hnd hk7 hB hM hS hl go
      by_cases s_19 : v = 19
      · refine lv_tableIn (off := 864) (tgt := 897) hx hb dL_law_33 (by rw [s_19]; decide) (by rw [s_19]; decide) (by rw [s_19]; rfl) (by decide) ?_
        exact law_count hL C0 hE hnd hk7 hB hM hS hl go
      refine lv_tableOut (tgt := 920) hx hb dL_law_33 (tab_out (x := v) (n := 19) (by decide) (fun j hj => match j, hj with | 0, _ => s_0 | 1, _ => s_1 | 2, _ => s_2 | 3, _ => s_3 | 4, _ => s_4 | 5, _ => s_5 | 6, _ => s_6 | 7, _ => s_7 | 8, _ => s_8 | 9, _ => s_9 | 10, _ => s_10 | 11, _ => s_11 | 12, _ => s_12 | 13, _ => s_13 | 14, _ => s_14 | 15, _ => s_15 | 16, _ => s_16 | 17, _ => s_17 | 18, _ => s_18 | 19, _ => s_19 | j + 20, h => absurd h (by omega))) (by decide) ?_
      exact W.widen (by omega) (by omega) (go M σ H locs hB hM hS)
