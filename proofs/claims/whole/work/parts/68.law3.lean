set_option maxHeartbeats 4000000 in
set_option maxRecDepth 100000 in
theorem law_put {p : Program} {l : Launch} {e : Env} {s : State} {m : MethodId} {below : List Frame} {meth : Method} {c : Code} {b L : Nat} {xs : Nat → Int32} (hL : L ≤ 3584) (C0 : lw_At p s m meth c b L xs) {E : mEnv} (hE : mE E s) {x y b1 b2 b3 b4 b5 b6 b7 b8 b9 b10 b11 b12 b13 b14 b15 b16 k : Nat} (hnd : [y, b1, b2, b3, b4, b5, b6, b7, b8, b9, b10, b11, b12, b13, b14, b15, b16].Nodup) (hk : 7 * k + 7 ≤ L) {M : mMem} {σ : Sg} (hB : both E M x y b1 b2 b3 b4 b5 b6 b7 b8 b9 b10 b11 b12 b13 b14 b15 b16 σ) {H : Heap} {locs : List Loc} (hM : mOK E.1 (lA s) M H) (hS : va_S (lA s) s.heap H locs) {ls : Array Slot} (hl : lv_has ls 4 [(0, .ref b), (1, .ref x), (2, .ref y), (3, .int (nI (7 * k)))]) {Q : State → Prop}
    (kk : ∀ (M' : mMem) (σ' : Sg) (H' : Heap) (locs' : List Loc), both E M' x y b1 b2 b3 b4 b5 b6 b7 b8 b9 b10 b11 b12 b13 b14 b15 b16 σ' → mOK E.1 (lA s) M' H' → va_S (lA s) s.heap H' locs' → W p l e room_1 s m #[Value.ref b] below meth c H' locs' (22 + 2 * (k + 1)) (1339 + 42 * (k + 1)) Q (F0 m 920 ls [])) : W p l e room_1 s m #[Value.ref b] below meth c H locs (22 + 2 * k) (1339 + 42 * k) Q (F0 m 547 ls []) := by
  obtain ⟨hx, hb, hr, hml, hown, hts0, hX, hbl, hlocks, hgv⟩ := id C0
  have hts : ∀ w ∈ wsL_law, w.before #[Value.ref b] s = true := fun w h => hts0 w (wsL_law_in w h)
  have hown : s.vm.findClass RL = some m.cls := hown
  have hA : ∀ q : Nat, s.heap.size ≤ q → lA s q := fun _ h => h
  obtain ⟨nn, ins, nf, fn, bk, rw, bd, st, c2, c3, c4⟩ := σ
  obtain ⟨fx, g_x⟩ := hB.2.1.gx
  refine lv_aload_n hx hb dL_law_547 rfl (lv_at hl 1 rfl) ?_
  refine l_arg hL C0 hS hl 1 (by omega) (by decide) dL_law_548 dL_law_549 dL_law_550 dL_law_551 dL_law_552 ?_
  refine l_arg hL C0 hS hl 2 (by omega) (by decide) dL_law_553 dL_law_554 dL_law_555 dL_law_556 dL_law_557 ?_
  refine l_arg hL C0 hS hl 3 (by omega) (by decide) dL_law_558 dL_law_559 dL_law_560 dL_law_561 dL_law_562 ?_
  refine m_calli (va_runV (As := [.int (xs (7 * k + 1)), .int (xs (7 * k + 2)), .int (xs (7 * k + 3))]) (rest := []) ⟨hx, hb, hml, hown, hts⟩ (c_X9_put l E M H.size _ x nn nf ins fn bk rw bd st c2 c3 c4 hB.1 hB.2.1 hB.hO (xs (7 * k + 1)) (xs (7 * k + 2)) (xs (7 * k + 3))) (cwV 3 hts gL_law_X9_put rfl rfl rfl (by decide +kernel) ⟨Nat.le_of_ble_eq_true rfl, Nat.le_of_ble_eq_true rfl⟩) (m_preV hE hM g_x rfl) rfl rfl hl.1 rfl (lv_room (Nat.le_of_ble_eq_true rfl)) dL_law_563 ⟨(by show 22 + 2 * k + 0 ≤ 600000; omega), (by show 1339 + 42 * k + 0 ≤ 7302250; omega)⟩) hM hS hA (fun r1 u H locs hw hM hS => ?_)
  obtain ⟨e1, hC1, hk1⟩ := hw
  have hm1 := hB.mid hk1
  obtain ⟨fy, g_y⟩ := hm1.gy
  refine lv_aload_n hx hb dL_law_566 rfl (lv_at hl 2 rfl) ?_
  refine l_arg hL C0 hS hl 1 (by omega) (by decide) dL_law_567 dL_law_568 dL_law_569 dL_law_570 dL_law_571 ?_
  refine l_arg hL C0 hS hl 2 (by omega) (by decide) dL_law_572 dL_law_573 dL_law_574 dL_law_575 dL_law_576 ?_
  refine l_arg hL C0 hS hl 3 (by omega) (by decide) dL_law_577 dL_law_578 dL_law_579 dL_law_580 dL_law_581 ?_
  refine m_calli (va_runV (As := [.int (xs (7 * k + 1)), .int (xs (7 * k + 2)), .int (xs (7 * k + 3))]) (rest := [.int r1]) ⟨hx, hb, hml, hown, hts⟩ (c_X10_put l E u H.size y b1 b2 b3 b4 b5 b6 b7 b8 b9 b10 b11 b12 b13 b14 b15 b16 nn nf ins fn bk rw bd st c2 c3 c4 hB.1 hm1 hnd (xs (7 * k + 1)) (xs (7 * k + 2)) (xs (7 * k + 3))) (cwV 3 hts gL_law_X10_put rfl rfl rfl (by decide +kernel) ⟨Nat.le_of_ble_eq_true rfl, Nat.le_of_ble_eq_true rfl⟩) (m_preV hE hM g_y rfl) rfl rfl hl.1 rfl (lv_room (Nat.le_of_ble_eq_true rfl)) dL_law_582 ⟨(by show 22 + 2 * k + 0 + 0 ≤ 600000; omega), (by show 1339 + 42 * k + 0 + 0 ≤ 7302250; omega)⟩) hM hS hA (fun r2 u2 H locs hw hM hS => ?_)
  obtain ⟨e2, hm2, hk2⟩ := hw
  refine lv_icmp_eq (tgt := 920) hx hb dL_law_585 (by decide) (fun _ => ?_) (fun h9 => absurd (e1.trans e2.symm) h9)
  exact W.widen (by omega) (by omega) (kk u2 _ H locs (both.fin (Inv_put hB.1 _ _ _) hC1 hm2 hk2) hM hS)
set_option maxHeartbeats 4000000 in
set_option maxRecDepth 100000 in
theorem law_copy {p : Program} {l : Launch} {e : Env} {s : State} {m : MethodId} {below : List Frame} {meth : Method} {c : Code} {b L : Nat} {xs : Nat → Int32} (hL : L ≤ 3584) (C0 : lw_At p s m meth c b L xs) {E : mEnv} (hE : mE E s) {x y b1 b2 b3 b4 b5 b6 b7 b8 b9 b10 b11 b12 b13 b14 b15 b16 k : Nat} (hnd : [y, b1, b2, b3, b4, b5, b6, b7, b8, b9, b10, b11, b12, b13, b14, b15, b16].Nodup) (hk : 7 * k + 7 ≤ L) {M : mMem} {σ : Sg} (hB : both E M x y b1 b2 b3 b4 b5 b6 b7 b8 b9 b10 b11 b12 b13 b14 b15 b16 σ) {H : Heap} {locs : List Loc} (hM : mOK E.1 (lA s) M H) (hS : va_S (lA s) s.heap H locs) {ls : Array Slot} (hl : lv_has ls 4 [(0, .ref b), (1, .ref x), (2, .ref y), (3, .int (nI (7 * k)))]) {Q : State → Prop}
    (kk : ∀ (M' : mMem) (σ' : Sg) (H' : Heap) (locs' : List Loc), both E M' x y b1 b2 b3 b4 b5 b6 b7 b8 b9 b10 b11 b12 b13 b14 b15 b16 σ' → mOK E.1 (lA s) M' H' → va_S (lA s) s.heap H' locs' → W p l e room_1 s m #[Value.ref b] below meth c H' locs' (22 + 2 * (k + 1)) (1339 + 42 * (k + 1)) Q (F0 m 920 ls [])) : W p l e room_1 s m #[Value.ref b] below meth c H locs (22 + 2 * k) (1339 + 42 * k) Q (F0 m 590 ls []) := by
  obtain ⟨hx, hb, hr, hml, hown, hts0, hX, hbl, hlocks, hgv⟩ := id C0
  have hts : ∀ w ∈ wsL_law, w.before #[Value.ref b] s = true := fun w h => hts0 w (wsL_law_in w h)
  have hown : s.vm.findClass RL = some m.cls := hown
  have hA : ∀ q : Nat, s.heap.size ≤ q → lA s q := fun _ h => h
  obtain ⟨nn, ins, nf, fn, bk, rw, bd, st, c2, c3, c4⟩ := σ
  obtain ⟨fx, g_x⟩ := hB.2.1.gx
  refine lv_aload_n hx hb dL_law_590 rfl (lv_at hl 1 rfl) ?_
  refine l_arg hL C0 hS hl 1 (by omega) (by decide) dL_law_591 dL_law_592 dL_law_593 dL_law_594 dL_law_595 ?_
  refine l_arg hL C0 hS hl 2 (by omega) (by decide) dL_law_596 dL_law_597 dL_law_598 dL_law_599 dL_law_600 ?_
  refine l_arg hL C0 hS hl 3 (by omega) (by decide) dL_law_601 dL_law_602 dL_law_603 dL_law_604 dL_law_605 ?_
  refine l_arg hL C0 hS hl 4 (by omega) (by decide) dL_law_606 dL_law_607 dL_law_608 dL_law_609 dL_law_610 ?_
  refine l_arg hL C0 hS hl 5 (by omega) (by decide) dL_law_611 dL_law_612 dL_law_613 dL_law_614 dL_law_615 ?_
  refine m_calli (va_runV (As := [.int (xs (7 * k + 1)), .int (xs (7 * k + 2)), .int (xs (7 * k + 3)), .int (xs (7 * k + 4)), .int (xs (7 * k + 5))]) (rest := []) ⟨hx, hb, hml, hown, hts⟩ (c_X9_copy l E M H.size _ x nn nf ins fn bk rw bd st c2 c3 c4 hB.1 hB.2.1 hB.hO (xs (7 * k + 1)) (xs (7 * k + 2)) (xs (7 * k + 3)) (xs (7 * k + 4)) (xs (7 * k + 5))) (cwV 5 hts gL_law_X9_copy rfl rfl rfl (by decide +kernel) ⟨Nat.le_of_ble_eq_true rfl, Nat.le_of_ble_eq_true rfl⟩) (m_preV hE hM g_x rfl) rfl rfl hl.1 rfl (lv_room (Nat.le_of_ble_eq_true rfl)) dL_law_616 ⟨(by show 22 + 2 * k + 0 ≤ 600000; omega), (by show 1339 + 42 * k + 0 ≤ 7302250; omega)⟩) hM hS hA (fun r1 u H locs hw hM hS => ?_)
  obtain ⟨e1, hC1, hk1⟩ := hw
  have hm1 := hB.mid hk1
  obtain ⟨fy, g_y⟩ := hm1.gy
  refine lv_aload_n hx hb dL_law_619 rfl (lv_at hl 2 rfl) ?_
  refine l_arg hL C0 hS hl 1 (by omega) (by decide) dL_law_620 dL_law_621 dL_law_622 dL_law_623 dL_law_624 ?_
  refine l_arg hL C0 hS hl 2 (by omega) (by decide) dL_law_625 dL_law_626 dL_law_627 dL_law_628 dL_law_629 ?_
  refine l_arg hL C0 hS hl 3 (by omega) (by decide) dL_law_630 dL_law_631 dL_law_632 dL_law_633 dL_law_634 ?_
  refine l_arg hL C0 hS hl 4 (by omega) (by decide) dL_law_635 dL_law_636 dL_law_637 dL_law_638 dL_law_639 ?_
  refine l_arg hL C0 hS hl 5 (by omega) (by decide) dL_law_640 dL_law_641 dL_law_642 dL_law_643 dL_law_644 ?_
  refine m_calli (va_runV (As := [.int (xs (7 * k + 1)), .int (xs (7 * k + 2)), .int (xs (7 * k + 3)), .int (xs (7 * k + 4)), .int (xs (7 * k + 5))]) (rest := [.int r1]) ⟨hx, hb, hml, hown, hts⟩ (c_X10_copy l E u H.size y b1 b2 b3 b4 b5 b6 b7 b8 b9 b10 b11 b12 b13 b14 b15 b16 nn nf ins fn bk rw bd st c2 c3 c4 hB.1 hm1 hnd (xs (7 * k + 1)) (xs (7 * k + 2)) (xs (7 * k + 3)) (xs (7 * k + 4)) (xs (7 * k + 5))) (cwV 5 hts gL_law_X10_copy rfl rfl rfl (by decide +kernel) ⟨Nat.le_of_ble_eq_true rfl, Nat.le_of_ble_eq_true rfl⟩) (m_preV hE hM g_y rfl) rfl rfl hl.1 rfl (lv_room (Nat.le_of_ble_eq_true rfl)) dL_law_645 ⟨(by show 22 + 2 * k + 0 + 0 ≤ 600000; omega), (by show 1339 + 42 * k + 0 + 0 ≤ 7302250; omega)⟩) hM hS hA (fun r2 u2 H locs hw hM hS => ?_)
  obtain ⟨e2, hm2, hk2⟩ := hw
  refine lv_icmp_eq (tgt := 920) hx hb dL_law_648 (by decide) (fun _ => ?_) (fun h9 => absurd (e1.trans e2.symm) h9)
  exact W.widen (by omega) (by omega) (kk u2 _ H locs (both.fin (Inv_copy hB.1 _ _ _ _ _) hC1 hm2 hk2) hM hS)
set_option maxHeartbeats 4000000 in
set_option maxRecDepth 100000 in
theorem law_bind {p : Program} {l : Launch} {e : Env} {s : State} {m : MethodId} {below : List Frame} {meth : Method} {c : Code} {b L : Nat} {xs : Nat → Int32} (hL : L ≤ 3584) (C0 : lw_At p s m meth c b L xs) {E : mEnv} (hE : mE E s) {x y b1 b2 b3 b4 b5 b6 b7 b8 b9 b10 b11 b12 b13 b14 b15 b16 k : Nat} (hnd : [y, b1, b2, b3, b4, b5, b6, b7, b8, b9, b10, b11, b12, b13, b14, b15, b16].Nodup) (hk : 7 * k + 7 ≤ L) {M : mMem} {σ : Sg} (hB : both E M x y b1 b2 b3 b4 b5 b6 b7 b8 b9 b10 b11 b12 b13 b14 b15 b16 σ) {H : Heap} {locs : List Loc} (hM : mOK E.1 (lA s) M H) (hS : va_S (lA s) s.heap H locs) {ls : Array Slot} (hl : lv_has ls 4 [(0, .ref b), (1, .ref x), (2, .ref y), (3, .int (nI (7 * k)))]) {Q : State → Prop}
    (kk : ∀ (M' : mMem) (σ' : Sg) (H' : Heap) (locs' : List Loc), both E M' x y b1 b2 b3 b4 b5 b6 b7 b8 b9 b10 b11 b12 b13 b14 b15 b16 σ' → mOK E.1 (lA s) M' H' → va_S (lA s) s.heap H' locs' → W p l e room_1 s m #[Value.ref b] below meth c H' locs' (22 + 2 * (k + 1)) (1339 + 42 * (k + 1)) Q (F0 m 920 ls [])) : W p l e room_1 s m #[Value.ref b] below meth c H locs (22 + 2 * k) (1339 + 42 * k) Q (F0 m 653 ls []) := by
  obtain ⟨hx, hb, hr, hml, hown, hts0, hX, hbl, hlocks, hgv⟩ := id C0
  have hts : ∀ w ∈ wsL_law, w.before #[Value.ref b] s = true := fun w h => hts0 w (wsL_law_in w h)
  have hown : s.vm.findClass RL = some m.cls := hown
  have hA : ∀ q : Nat, s.heap.size ≤ q → lA s q := fun _ h => h
  obtain ⟨nn, ins, nf, fn, bk, rw, bd, st, c2, c3, c4⟩ := σ
  obtain ⟨fx, g_x⟩ := hB.2.1.gx
  refine lv_aload_n hx hb dL_law_653 rfl (lv_at hl 1 rfl) ?_
  refine l_arg hL C0 hS hl 1 (by omega) (by decide) dL_law_654 dL_law_655 dL_law_656 dL_law_657 dL_law_658 ?_
  refine m_calli (va_runV (As := [.int (xs (7 * k + 1))]) (rest := []) ⟨hx, hb, hml, hown, hts⟩ (c_X9_bind l E M H.size _ x nn nf ins fn bk rw bd st c2 c3 c4 hB.1 hB.2.1 hB.hO (xs (7 * k + 1))) (cwV 1 hts gL_law_X9_bind rfl rfl rfl (by decide +kernel) ⟨Nat.le_of_ble_eq_true rfl, Nat.le_of_ble_eq_true rfl⟩) (m_preV hE hM g_x rfl) rfl rfl hl.1 rfl (lv_room (Nat.le_of_ble_eq_true rfl)) dL_law_659 ⟨(by show 22 + 2 * k + 0 ≤ 600000; omega), (by show 1339 + 42 * k + 0 ≤ 7302250; omega)⟩) hM hS hA (fun r1 u H locs hw hM hS => ?_)
  obtain ⟨e1, hC1, hk1⟩ := hw
  have hm1 := hB.mid hk1
  obtain ⟨fy, g_y⟩ := hm1.gy
  refine lv_aload_n hx hb dL_law_662 rfl (lv_at hl 2 rfl) ?_
  refine l_arg hL C0 hS hl 1 (by omega) (by decide) dL_law_663 dL_law_664 dL_law_665 dL_law_666 dL_law_667 ?_
  refine m_calli (va_runV (As := [.int (xs (7 * k + 1))]) (rest := [.int r1]) ⟨hx, hb, hml, hown, hts⟩ (c_X10_bind l E u H.size y b1 b2 b3 b4 b5 b6 b7 b8 b9 b10 b11 b12 b13 b14 b15 b16 nn nf ins fn bk rw bd st c2 c3 c4 hB.1 hm1 hnd (xs (7 * k + 1))) (cwV 1 hts gL_law_X10_bind rfl rfl rfl (by decide +kernel) ⟨Nat.le_of_ble_eq_true rfl, Nat.le_of_ble_eq_true rfl⟩) (m_preV hE hM g_y rfl) rfl rfl hl.1 rfl (lv_room (Nat.le_of_ble_eq_true rfl)) dL_law_668 ⟨(by show 22 + 2 * k + 0 + 0 ≤ 600000; omega), (by show 1339 + 42 * k + 0 + 0 ≤ 7302250; omega)⟩) hM hS hA (fun r2 u2 H locs hw hM hS => ?_)
  obtain ⟨e2, hm2, hk2⟩ := hw
  refine lv_icmp_eq (tgt := 920) hx hb dL_law_671 (by decide) (fun _ => ?_) (fun h9 => absurd (e1.trans e2.symm) h9)
  exact W.widen (by omega) (by omega) (kk u2 _ H locs (both.fin (Inv_bind hB.1 _) hC1 hm2 hk2) hM hS)
set_option maxHeartbeats 4000000 in
set_option maxRecDepth 100000 in
theorem law_function {p : Program} {l : Launch} {e : Env} {s : State} {m : MethodId} {below : List Frame} {meth : Method} {c : Code} {b L : Nat} {xs : Nat → Int32} (hL : L ≤ 3584) (C0 : lw_At p s m meth c b L xs) {E : mEnv} (hE : mE E s) {x y b1 b2 b3 b4 b5 b6 b7 b8 b9 b10 b11 b12 b13 b14 b15 b16 k : Nat} (hnd : [y, b1, b2, b3, b4, b5, b6, b7, b8, b9, b10, b11, b12, b13, b14, b15, b16].Nodup) (hk : 7 * k + 7 ≤ L) {M : mMem} {σ : Sg} (hB : both E M x y b1 b2 b3 b4 b5 b6 b7 b8 b9 b10 b11 b12 b13 b14 b15 b16 σ) {H : Heap} {locs : List Loc} (hM : mOK E.1 (lA s) M H) (hS : va_S (lA s) s.heap H locs) {ls : Array Slot} (hl : lv_has ls 4 [(0, .ref b), (1, .ref x), (2, .ref y), (3, .int (nI (7 * k)))]) {Q : State → Prop}
    (kk : ∀ (M' : mMem) (σ' : Sg) (H' : Heap) (locs' : List Loc), both E M' x y b1 b2 b3 b4 b5 b6 b7 b8 b9 b10 b11 b12 b13 b14 b15 b16 σ' → mOK E.1 (lA s) M' H' → va_S (lA s) s.heap H' locs' → W p l e room_1 s m #[Value.ref b] below meth c H' locs' (22 + 2 * (k + 1)) (1339 + 42 * (k + 1)) Q (F0 m 920 ls [])) : W p l e room_1 s m #[Value.ref b] below meth c H locs (22 + 2 * k) (1339 + 42 * k) Q (F0 m 676 ls []) := by
  obtain ⟨hx, hb, hr, hml, hown, hts0, hX, hbl, hlocks, hgv⟩ := id C0
  have hts : ∀ w ∈ wsL_law, w.before #[Value.ref b] s = true := fun w h => hts0 w (wsL_law_in w h)
  have hown : s.vm.findClass RL = some m.cls := hown
  have hA : ∀ q : Nat, s.heap.size ≤ q → lA s q := fun _ h => h
  obtain ⟨nn, ins, nf, fn, bk, rw, bd, st, c2, c3, c4⟩ := σ
  obtain ⟨fx, g_x⟩ := hB.2.1.gx
  refine lv_aload_n hx hb dL_law_676 rfl (lv_at hl 1 rfl) ?_
  refine l_arg hL C0 hS hl 1 (by omega) (by decide) dL_law_677 dL_law_678 dL_law_679 dL_law_680 dL_law_681 ?_
  refine l_arg hL C0 hS hl 2 (by omega) (by decide) dL_law_682 dL_law_683 dL_law_684 dL_law_685 dL_law_686 ?_
  refine m_calli (va_runV (As := [.int (xs (7 * k + 1)), .int (xs (7 * k + 2))]) (rest := []) ⟨hx, hb, hml, hown, hts⟩ (c_X9_function l E M H.size _ x nn nf ins fn bk rw bd st c2 c3 c4 hB.1 hB.2.1 hB.hO (xs (7 * k + 1)) (xs (7 * k + 2))) (cwV 2 hts gL_law_X9_function rfl rfl rfl (by decide +kernel) ⟨Nat.le_of_ble_eq_true rfl, Nat.le_of_ble_eq_true rfl⟩) (m_preV hE hM g_x rfl) rfl rfl hl.1 rfl (lv_room (Nat.le_of_ble_eq_true rfl)) dL_law_687 ⟨(by show 22 + 2 * k + 1 ≤ 600000; omega), (by show 1339 + 42 * k + 2 ≤ 7302250; omega)⟩) hM hS hA (fun r1 u H locs hw hM hS => ?_)
  obtain ⟨e1, hC1, hk1⟩ := hw
  have hm1 := hB.mid hk1
  obtain ⟨fy, g_y⟩ := hm1.gy
  refine lv_aload_n hx hb dL_law_690 rfl (lv_at hl 2 rfl) ?_
  refine l_arg hL C0 hS hl 1 (by omega) (by decide) dL_law_691 dL_law_692 dL_law_693 dL_law_694 dL_law_695 ?_
  refine l_arg hL C0 hS hl 2 (by omega) (by decide) dL_law_696 dL_law_697 dL_law_698 dL_law_699 dL_law_700 ?_
  refine m_calli (va_runV (As := [.int (xs (7 * k + 1)), .int (xs (7 * k + 2))]) (rest := [.int r1]) ⟨hx, hb, hml, hown, hts⟩ (c_X10_function l E u H.size y b1 b2 b3 b4 b5 b6 b7 b8 b9 b10 b11 b12 b13 b14 b15 b16 nn nf ins fn bk rw bd st c2 c3 c4 hB.1 hm1 hnd (xs (7 * k + 1)) (xs (7 * k + 2))) (cwV 2 hts gL_law_X10_function rfl rfl rfl (by decide +kernel) ⟨Nat.le_of_ble_eq_true rfl, Nat.le_of_ble_eq_true rfl⟩) (m_preV hE hM g_y rfl) rfl rfl hl.1 rfl (lv_room (Nat.le_of_ble_eq_true rfl)) dL_law_701 ⟨(by show 22 + 2 * k + 1 + 0 ≤ 600000; omega), (by show 1339 + 42 * k + 2 + 0 ≤ 7302250; omega)⟩) hM hS hA (fun r2 u2 H locs hw hM hS => ?_)
  obtain ⟨e2, hm2, hk2⟩ := hw
  refine lv_icmp_eq (tgt := 920) hx hb dL_law_704 (by decide) (fun _ => ?_) (fun h9 => absurd (e1.trans e2.symm) h9)
  exact W.widen (by omega) (by omega) (kk u2 _ H locs (both.fin (Inv_func hB.1 _ _) hC1 hm2 hk2) hM hS)
set_option maxHeartbeats 4000000 in
set_option maxRecDepth 100000 in
theorem law_play {p : Program} {l : Launch} {e : Env} {s : State} {m : MethodId} {below : List Frame} {meth : Method} {c : Code} {b L : Nat} {xs : Nat → Int32} (hL : L ≤ 3584) (C0 : lw_At p s m meth c b L xs) {E : mEnv} (hE : mE E s) {x y b1 b2 b3 b4 b5 b6 b7 b8 b9 b10 b11 b12 b13 b14 b15 b16 k : Nat} (hnd : [y, b1, b2, b3, b4, b5, b6, b7, b8, b9, b10, b11, b12, b13, b14, b15, b16].Nodup) (hk : 7 * k + 7 ≤ L) {M : mMem} {σ : Sg} (hB : both E M x y b1 b2 b3 b4 b5 b6 b7 b8 b9 b10 b11 b12 b13 b14 b15 b16 σ) {H : Heap} {locs : List Loc} (hM : mOK E.1 (lA s) M H) (hS : va_S (lA s) s.heap H locs) {ls : Array Slot} (hl : lv_has ls 4 [(0, .ref b), (1, .ref x), (2, .ref y), (3, .int (nI (7 * k)))]) {Q : State → Prop}
    (kk : ∀ (M' : mMem) (σ' : Sg) (H' : Heap) (locs' : List Loc), both E M' x y b1 b2 b3 b4 b5 b6 b7 b8 b9 b10 b11 b12 b13 b14 b15 b16 σ' → mOK E.1 (lA s) M' H' → va_S (lA s) s.heap H' locs' → W p l e room_1 s m #[Value.ref b] below meth c H' locs' (22 + 2 * (k + 1)) (1339 + 42 * (k + 1)) Q (F0 m 920 ls [])) : W p l e room_1 s m #[Value.ref b] below meth c H locs (22 + 2 * k) (1339 + 42 * k) Q (F0 m 709 ls []) := by
  obtain ⟨hx, hb, hr, hml, hown, hts0, hX, hbl, hlocks, hgv⟩ := id C0
  have hts : ∀ w ∈ wsL_law, w.before #[Value.ref b] s = true := fun w h => hts0 w (wsL_law_in w h)
  have hown : s.vm.findClass RL = some m.cls := hown
  have hA : ∀ q : Nat, s.heap.size ≤ q → lA s q := fun _ h => h
  obtain ⟨nn, ins, nf, fn, bk, rw, bd, st, c2, c3, c4⟩ := σ
  obtain ⟨fx, g_x⟩ := hB.2.1.gx
  refine lv_aload_n hx hb dL_law_709 rfl (lv_at hl 1 rfl) ?_
  refine l_arg hL C0 hS hl 1 (by omega) (by decide) dL_law_710 dL_law_711 dL_law_712 dL_law_713 dL_law_714 ?_
  refine l_arg hL C0 hS hl 2 (by omega) (by decide) dL_law_715 dL_law_716 dL_law_717 dL_law_718 dL_law_719 ?_
  refine l_arg hL C0 hS hl 3 (by omega) (by decide) dL_law_720 dL_law_721 dL_law_722 dL_law_723 dL_law_724 ?_
  refine l_arg hL C0 hS hl 4 (by omega) (by decide) dL_law_725 dL_law_726 dL_law_727 dL_law_728 dL_law_729 ?_
  refine l_arg hL C0 hS hl 5 (by omega) (by decide) dL_law_730 dL_law_731 dL_law_732 dL_law_733 dL_law_734 ?_
  refine l_argb hL C0 hS hl 6 (by omega) (by decide) dL_law_735 dL_law_736 dL_law_737 dL_law_739 dL_law_740 ?_
  refine m_calli (va_runV (As := [.int (xs (7 * k + 1)), .int (xs (7 * k + 2)), .int (xs (7 * k + 3)), .int (xs (7 * k + 4)), .int (xs (7 * k + 5)), .int (xs (7 * k + 6))]) (rest := []) ⟨hx, hb, hml, hown, hts⟩ (c_X9_play l E M H.size _ x nn nf ins fn bk rw bd st c2 c3 c4 hB.1 hB.2.1 hB.hO (xs (7 * k + 1)) (xs (7 * k + 2)) (xs (7 * k + 3)) (xs (7 * k + 4)) (xs (7 * k + 5)) (xs (7 * k + 6))) (cwV 6 hts gL_law_X9_play rfl rfl rfl (by decide +kernel) ⟨Nat.le_of_ble_eq_true rfl, Nat.le_of_ble_eq_true rfl⟩) (m_preV hE hM g_x rfl) rfl rfl hl.1 rfl (lv_room (Nat.le_of_ble_eq_true rfl)) dL_law_741 ⟨(by show 22 + 2 * k + 0 ≤ 600000; omega), (by show 1339 + 42 * k + 0 ≤ 7302250; omega)⟩) hM hS hA (fun r1 u H locs hw hM hS => ?_)
  obtain ⟨e1, hC1, hk1⟩ := hw
  have hm1 := hB.mid hk1
  obtain ⟨fy, g_y⟩ := hm1.gy
  refine lv_aload_n hx hb dL_law_744 rfl (lv_at hl 2 rfl) ?_
  refine l_arg hL C0 hS hl 1 (by omega) (by decide) dL_law_745 dL_law_746 dL_law_747 dL_law_748 dL_law_749 ?_
  refine l_arg hL C0 hS hl 2 (by omega) (by decide) dL_law_750 dL_law_751 dL_law_752 dL_law_753 dL_law_754 ?_
  refine l_arg hL C0 hS hl 3 (by omega) (by decide) dL_law_755 dL_law_756 dL_law_757 dL_law_758 dL_law_759 ?_
  refine l_arg hL C0 hS hl 4 (by omega) (by decide) dL_law_760 dL_law_761 dL_law_762 dL_law_763 dL_law_764 ?_
  refine l_arg hL C0 hS hl 5 (by omega) (by decide) dL_law_765 dL_law_766 dL_law_767 dL_law_768 dL_law_769 ?_
  refine l_argb hL C0 hS hl 6 (by omega) (by decide) dL_law_770 dL_law_771 dL_law_772 dL_law_774 dL_law_775 ?_
  refine m_calli (va_runV (As := [.int (xs (7 * k + 1)), .int (xs (7 * k + 2)), .int (xs (7 * k + 3)), .int (xs (7 * k + 4)), .int (xs (7 * k + 5)), .int (xs (7 * k + 6))]) (rest := [.int r1]) ⟨hx, hb, hml, hown, hts⟩ (c_X10_play l E u H.size y b1 b2 b3 b4 b5 b6 b7 b8 b9 b10 b11 b12 b13 b14 b15 b16 nn nf ins fn bk rw bd st c2 c3 c4 hB.1 hm1 hnd (xs (7 * k + 1)) (xs (7 * k + 2)) (xs (7 * k + 3)) (xs (7 * k + 4)) (xs (7 * k + 5)) (xs (7 * k + 6))) (cwV 6 hts gL_law_X10_play rfl rfl rfl (by decide +kernel) ⟨Nat.le_of_ble_eq_true rfl, Nat.le_of_ble_eq_true rfl⟩) (m_preV hE hM g_y rfl) rfl rfl hl.1 rfl (lv_room (Nat.le_of_ble_eq_true rfl)) dL_law_776 ⟨(by show 22 + 2 * k + 0 + 0 ≤ 600000; omega), (by show 1339 + 42 * k + 0 + 0 ≤ 7302250; omega)⟩) hM hS hA (fun r2 u2 H locs hw hM hS => ?_)
  obtain ⟨e2, hm2, hk2⟩ := hw
  refine lv_icmp_eq (tgt := 920) hx hb dL_law_779 (by decide) (fun _ => ?_) (fun h9 => absurd (e1.trans e2.symm) h9)
  exact W.widen (by omega) (by omega) (kk u2 _ H locs (both.fin (Inv_play hB.1 _ _ _ _ _ _) hC1 hm2 hk2) hM hS)
