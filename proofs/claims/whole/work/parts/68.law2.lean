set_option maxHeartbeats 4000000 in
set_option maxRecDepth 100000 in
theorem law_block {p : Program} {l : Launch} {e : Env} {s : State} {m : MethodId} {below : List Frame} {meth : Method} {c : Code} {b L : Nat} {xs : Nat → Int32} (hL : L ≤ 3584) (C0 : lw_At p s m meth c b L xs) {E : mEnv} (hE : mE E s) {x y b1 b2 b3 b4 b5 b6 b7 b8 b9 b10 b11 b12 b13 b14 b15 b16 k : Nat} (hnd : [y, b1, b2, b3, b4, b5, b6, b7, b8, b9, b10, b11, b12, b13, b14, b15, b16].Nodup) (hk : 7 * k + 7 ≤ L) {M : mMem} {σ : Sg} (hB : both E M x y b1 b2 b3 b4 b5 b6 b7 b8 b9 b10 b11 b12 b13 b14 b15 b16 σ) {H : Heap} {locs : List Loc} (hM : mOK E.1 (lA s) M H) (hS : va_S (lA s) s.heap H locs) {ls : Array Slot} (hl : lv_has ls 4 [(0, .ref b), (1, .ref x), (2, .ref y), (3, .int (nI (7 * k)))]) {Q : State → Prop}
    (kk : ∀ (M' : mMem) (σ' : Sg) (H' : Heap) (locs' : List Loc), both E M' x y b1 b2 b3 b4 b5 b6 b7 b8 b9 b10 b11 b12 b13 b14 b15 b16 σ' → mOK E.1 (lA s) M' H' → va_S (lA s) s.heap H' locs' → W p l e room_1 s m #[Value.ref b] below meth c H' locs' (22 + 2 * (k + 1)) (1339 + 42 * (k + 1)) Q (F0 m 920 ls [])) : W p l e room_1 s m #[Value.ref b] below meth c H locs (22 + 2 * k) (1339 + 42 * k) Q (F0 m 345 ls []) := by
  obtain ⟨hx, hb, hr, hml, hown, hts0, hX, hbl, hlocks, hgv⟩ := id C0
  have hts : ∀ w ∈ wsL_law, w.before #[Value.ref b] s = true := fun w h => hts0 w (wsL_law_in w h)
  have hown : s.vm.findClass RL = some m.cls := hown
  have hA : ∀ q : Nat, s.heap.size ≤ q → lA s q := fun _ h => h
  obtain ⟨nn, ins, nf, fn, bk, rw, bd, st, c2, c3, c4⟩ := σ
  obtain ⟨fx, g_x⟩ := hB.2.1.gx
  refine lv_aload_n hx hb dL_law_345 rfl (lv_at hl 1 rfl) ?_
  refine l_arg hL C0 hS hl 1 (by omega) (by decide) dL_law_346 dL_law_347 dL_law_348 dL_law_349 dL_law_350 ?_
  refine l_arg hL C0 hS hl 2 (by omega) (by decide) dL_law_351 dL_law_352 dL_law_353 dL_law_354 dL_law_355 ?_
  refine l_arg hL C0 hS hl 3 (by omega) (by decide) dL_law_356 dL_law_357 dL_law_358 dL_law_359 dL_law_360 ?_
  refine m_calli (va_runV (As := [.int (xs (7 * k + 1)), .int (xs (7 * k + 2)), .int (xs (7 * k + 3))]) (rest := []) ⟨hx, hb, hml, hown, hts⟩ (c_X9_block l E M H.size _ x nn nf ins fn bk rw bd st c2 c3 c4 hB.1 hB.2.1 hB.hO (xs (7 * k + 1)) (xs (7 * k + 2)) (xs (7 * k + 3))) (cwV 3 hts gL_law_X9_block rfl rfl rfl (by decide +kernel) ⟨Nat.le_of_ble_eq_true rfl, Nat.le_of_ble_eq_true rfl⟩) (m_preV hE hM g_x rfl) rfl rfl hl.1 rfl (lv_room (Nat.le_of_ble_eq_true rfl)) dL_law_361 ⟨(by show 22 + 2 * k + 2 ≤ 600000; omega), (by show 1339 + 42 * k + 42 ≤ 7302250; omega)⟩) hM hS hA (fun r1 u H locs hw hM hS => ?_)
  obtain ⟨e1, hC1, hk1⟩ := hw
  have hm1 := hB.mid hk1
  obtain ⟨fy, g_y⟩ := hm1.gy
  refine lv_aload_n hx hb dL_law_364 rfl (lv_at hl 2 rfl) ?_
  refine l_arg hL C0 hS hl 1 (by omega) (by decide) dL_law_365 dL_law_366 dL_law_367 dL_law_368 dL_law_369 ?_
  refine l_arg hL C0 hS hl 2 (by omega) (by decide) dL_law_370 dL_law_371 dL_law_372 dL_law_373 dL_law_374 ?_
  refine l_arg hL C0 hS hl 3 (by omega) (by decide) dL_law_375 dL_law_376 dL_law_377 dL_law_378 dL_law_379 ?_
  refine m_calli (va_runV (As := [.int (xs (7 * k + 1)), .int (xs (7 * k + 2)), .int (xs (7 * k + 3))]) (rest := [.int r1]) ⟨hx, hb, hml, hown, hts⟩ (c_X10_block l E u H.size y b1 b2 b3 b4 b5 b6 b7 b8 b9 b10 b11 b12 b13 b14 b15 b16 nn nf ins fn bk rw bd st c2 c3 c4 hB.1 hm1 hnd (xs (7 * k + 1)) (xs (7 * k + 2)) (xs (7 * k + 3))) (cwV 3 hts gL_law_X10_block rfl rfl rfl (by decide +kernel) ⟨Nat.le_of_ble_eq_true rfl, Nat.le_of_ble_eq_true rfl⟩) (m_preV hE hM g_y rfl) rfl rfl hl.1 rfl (lv_room (Nat.le_of_ble_eq_true rfl)) dL_law_380 ⟨(by show 22 + 2 * k + 2 + 0 ≤ 600000; omega), (by show 1339 + 42 * k + 42 + 0 ≤ 7302250; omega)⟩) hM hS hA (fun r2 u2 H locs hw hM hS => ?_)
  obtain ⟨e2, hm2, hk2⟩ := hw
  refine lv_icmp_eq (tgt := 920) hx hb dL_law_383 (by decide) (fun _ => ?_) (fun h9 => absurd (e1.trans e2.symm) h9)
  exact W.widen (by omega) (by omega) (kk u2 _ H locs (both.fin (Inv_block hB.1 _ _ _) hC1 hm2 hk2) hM hS)
set_option maxHeartbeats 4000000 in
set_option maxRecDepth 100000 in
theorem law_lend {p : Program} {l : Launch} {e : Env} {s : State} {m : MethodId} {below : List Frame} {meth : Method} {c : Code} {b L : Nat} {xs : Nat → Int32} (hL : L ≤ 3584) (C0 : lw_At p s m meth c b L xs) {E : mEnv} (hE : mE E s) {x y b1 b2 b3 b4 b5 b6 b7 b8 b9 b10 b11 b12 b13 b14 b15 b16 k : Nat} (hnd : [y, b1, b2, b3, b4, b5, b6, b7, b8, b9, b10, b11, b12, b13, b14, b15, b16].Nodup) (hk : 7 * k + 7 ≤ L) {M : mMem} {σ : Sg} (hB : both E M x y b1 b2 b3 b4 b5 b6 b7 b8 b9 b10 b11 b12 b13 b14 b15 b16 σ) {H : Heap} {locs : List Loc} (hM : mOK E.1 (lA s) M H) (hS : va_S (lA s) s.heap H locs) {ls : Array Slot} (hl : lv_has ls 4 [(0, .ref b), (1, .ref x), (2, .ref y), (3, .int (nI (7 * k)))]) {Q : State → Prop}
    (kk : ∀ (M' : mMem) (σ' : Sg) (H' : Heap) (locs' : List Loc), both E M' x y b1 b2 b3 b4 b5 b6 b7 b8 b9 b10 b11 b12 b13 b14 b15 b16 σ' → mOK E.1 (lA s) M' H' → va_S (lA s) s.heap H' locs' → W p l e room_1 s m #[Value.ref b] below meth c H' locs' (22 + 2 * (k + 1)) (1339 + 42 * (k + 1)) Q (F0 m 920 ls [])) : W p l e room_1 s m #[Value.ref b] below meth c H locs (22 + 2 * k) (1339 + 42 * k) Q (F0 m 388 ls []) := by
  obtain ⟨hx, hb, hr, hml, hown, hts0, hX, hbl, hlocks, hgv⟩ := id C0
  have hts : ∀ w ∈ wsL_law, w.before #[Value.ref b] s = true := fun w h => hts0 w (wsL_law_in w h)
  have hown : s.vm.findClass RL = some m.cls := hown
  have hA : ∀ q : Nat, s.heap.size ≤ q → lA s q := fun _ h => h
  obtain ⟨nn, ins, nf, fn, bk, rw, bd, st, c2, c3, c4⟩ := σ
  obtain ⟨fx, g_x⟩ := hB.2.1.gx
  refine lv_aload_n hx hb dL_law_388 rfl (lv_at hl 1 rfl) ?_
  refine l_arg hL C0 hS hl 1 (by omega) (by decide) dL_law_389 dL_law_390 dL_law_391 dL_law_392 dL_law_393 ?_
  refine l_arg hL C0 hS hl 2 (by omega) (by decide) dL_law_394 dL_law_395 dL_law_396 dL_law_397 dL_law_398 ?_
  refine l_arg hL C0 hS hl 3 (by omega) (by decide) dL_law_399 dL_law_400 dL_law_401 dL_law_402 dL_law_403 ?_
  refine l_bool C0 dL_law_404 dL_law_407 dL_law_408 dL_law_411 ?_
  refine m_calli (va_runV (As := [.int (xs (7 * k + 1)), .int (xs (7 * k + 2)), .int (bI (¬ xs (7 * k + 3) = 0))]) (rest := []) ⟨hx, hb, hml, hown, hts⟩ (c_X9_lend l E M H.size _ x nn nf ins fn bk rw bd st c2 c3 c4 hB.1 hB.2.1 hB.hO (xs (7 * k + 1)) (xs (7 * k + 2)) (bI (¬ xs (7 * k + 3) = 0))) (cwV 3 hts gL_law_X9_lend rfl rfl rfl (by decide +kernel) ⟨Nat.le_of_ble_eq_true rfl, Nat.le_of_ble_eq_true rfl⟩) (m_preV hE hM g_x rfl) rfl rfl hl.1 rfl (lv_room (Nat.le_of_ble_eq_true rfl)) dL_law_412 ⟨(by show 22 + 2 * k + 2 ≤ 600000; omega), (by show 1339 + 42 * k + 42 ≤ 7302250; omega)⟩) hM hS hA (fun r1 u H locs hw hM hS => ?_)
  obtain ⟨e1, hC1, hk1⟩ := hw
  have hm1 := hB.mid hk1
  obtain ⟨fy, g_y⟩ := hm1.gy
  refine lv_aload_n hx hb dL_law_415 rfl (lv_at hl 2 rfl) ?_
  refine l_arg hL C0 hS hl 1 (by omega) (by decide) dL_law_416 dL_law_417 dL_law_418 dL_law_419 dL_law_420 ?_
  refine l_arg hL C0 hS hl 2 (by omega) (by decide) dL_law_421 dL_law_422 dL_law_423 dL_law_424 dL_law_425 ?_
  refine l_arg hL C0 hS hl 3 (by omega) (by decide) dL_law_426 dL_law_427 dL_law_428 dL_law_429 dL_law_430 ?_
  refine l_bool C0 dL_law_431 dL_law_434 dL_law_435 dL_law_438 ?_
  refine m_calli (va_runV (As := [.int (xs (7 * k + 1)), .int (xs (7 * k + 2)), .int (bI (¬ xs (7 * k + 3) = 0))]) (rest := [.int r1]) ⟨hx, hb, hml, hown, hts⟩ (c_X10_lend l E u H.size y b1 b2 b3 b4 b5 b6 b7 b8 b9 b10 b11 b12 b13 b14 b15 b16 nn nf ins fn bk rw bd st c2 c3 c4 hB.1 hm1 hnd (xs (7 * k + 1)) (xs (7 * k + 2)) (bI (¬ xs (7 * k + 3) = 0))) (cwV 3 hts gL_law_X10_lend rfl rfl rfl (by decide +kernel) ⟨Nat.le_of_ble_eq_true rfl, Nat.le_of_ble_eq_true rfl⟩) (m_preV hE hM g_y rfl) rfl rfl hl.1 rfl (lv_room (Nat.le_of_ble_eq_true rfl)) dL_law_439 ⟨(by show 22 + 2 * k + 2 + 0 ≤ 600000; omega), (by show 1339 + 42 * k + 42 + 0 ≤ 7302250; omega)⟩) hM hS hA (fun r2 u2 H locs hw hM hS => ?_)
  obtain ⟨e2, hm2, hk2⟩ := hw
  refine lv_icmp_eq (tgt := 920) hx hb dL_law_442 (by decide) (fun _ => ?_) (fun h9 => absurd (e1.trans e2.symm) h9)
  exact W.widen (by omega) (by omega) (kk u2 _ H locs (both.fin (Inv_lend hB.1 _ _ _) hC1 hm2 hk2) hM hS)
set_option maxHeartbeats 4000000 in
set_option maxRecDepth 100000 in
theorem law_isLent {p : Program} {l : Launch} {e : Env} {s : State} {m : MethodId} {below : List Frame} {meth : Method} {c : Code} {b L : Nat} {xs : Nat → Int32} (hL : L ≤ 3584) (C0 : lw_At p s m meth c b L xs) {E : mEnv} (hE : mE E s) {x y b1 b2 b3 b4 b5 b6 b7 b8 b9 b10 b11 b12 b13 b14 b15 b16 k : Nat} (hnd : [y, b1, b2, b3, b4, b5, b6, b7, b8, b9, b10, b11, b12, b13, b14, b15, b16].Nodup) (hk : 7 * k + 7 ≤ L) {M : mMem} {σ : Sg} (hB : both E M x y b1 b2 b3 b4 b5 b6 b7 b8 b9 b10 b11 b12 b13 b14 b15 b16 σ) {H : Heap} {locs : List Loc} (hM : mOK E.1 (lA s) M H) (hS : va_S (lA s) s.heap H locs) {ls : Array Slot} (hl : lv_has ls 4 [(0, .ref b), (1, .ref x), (2, .ref y), (3, .int (nI (7 * k)))]) {Q : State → Prop}
    (kk : ∀ (M' : mMem) (σ' : Sg) (H' : Heap) (locs' : List Loc), both E M' x y b1 b2 b3 b4 b5 b6 b7 b8 b9 b10 b11 b12 b13 b14 b15 b16 σ' → mOK E.1 (lA s) M' H' → va_S (lA s) s.heap H' locs' → W p l e room_1 s m #[Value.ref b] below meth c H' locs' (22 + 2 * (k + 1)) (1339 + 42 * (k + 1)) Q (F0 m 920 ls [])) : W p l e room_1 s m #[Value.ref b] below meth c H locs (22 + 2 * k) (1339 + 42 * k) Q (F0 m 447 ls []) := by
  obtain ⟨hx, hb, hr, hml, hown, hts0, hX, hbl, hlocks, hgv⟩ := id C0
  have hts : ∀ w ∈ wsL_law, w.before #[Value.ref b] s = true := fun w h => hts0 w (wsL_law_in w h)
  have hown : s.vm.findClass RL = some m.cls := hown
  have hA : ∀ q : Nat, s.heap.size ≤ q → lA s q := fun _ h => h
  obtain ⟨nn, ins, nf, fn, bk, rw, bd, st, c2, c3, c4⟩ := σ
  obtain ⟨fx, g_x⟩ := hB.2.1.gx
  refine lv_aload_n hx hb dL_law_447 rfl (lv_at hl 1 rfl) ?_
  refine l_arg hL C0 hS hl 1 (by omega) (by decide) dL_law_448 dL_law_449 dL_law_450 dL_law_451 dL_law_452 ?_
  refine l_arg hL C0 hS hl 2 (by omega) (by decide) dL_law_453 dL_law_454 dL_law_455 dL_law_456 dL_law_457 ?_
  refine m_calli (va_runV (As := [.int (xs (7 * k + 1)), .int (xs (7 * k + 2))]) (rest := []) ⟨hx, hb, hml, hown, hts⟩ (c_X9_isLent l E M H.size _ x nn nf ins fn bk rw bd st c2 c3 c4 hB.1 hB.2.1 hB.hO (xs (7 * k + 1)) (xs (7 * k + 2))) (cwV 2 hts gL_law_X9_isLent rfl rfl rfl (by decide +kernel) ⟨Nat.le_of_ble_eq_true rfl, Nat.le_of_ble_eq_true rfl⟩) (m_preV hE hM g_x rfl) rfl rfl hl.1 rfl (lv_room (Nat.le_of_ble_eq_true rfl)) dL_law_458 ⟨(by show 22 + 2 * k + 0 ≤ 600000; omega), (by show 1339 + 42 * k + 0 ≤ 7302250; omega)⟩) hM hS hA (fun r1 u H locs hw hM hS => ?_)
  obtain ⟨e1, hC1, hk1⟩ := hw
  have hm1 := hB.mid hk1
  obtain ⟨fy, g_y⟩ := hm1.gy
  refine lv_aload_n hx hb dL_law_461 rfl (lv_at hl 2 rfl) ?_
  refine l_arg hL C0 hS hl 1 (by omega) (by decide) dL_law_462 dL_law_463 dL_law_464 dL_law_465 dL_law_466 ?_
  refine l_arg hL C0 hS hl 2 (by omega) (by decide) dL_law_467 dL_law_468 dL_law_469 dL_law_470 dL_law_471 ?_
  refine m_calli (va_runV (As := [.int (xs (7 * k + 1)), .int (xs (7 * k + 2))]) (rest := [.int r1]) ⟨hx, hb, hml, hown, hts⟩ (c_X10_isLent l E u H.size y b1 b2 b3 b4 b5 b6 b7 b8 b9 b10 b11 b12 b13 b14 b15 b16 nn nf ins fn bk rw bd st c2 c3 c4 hB.1 hm1 hnd (xs (7 * k + 1)) (xs (7 * k + 2))) (cwV 2 hts gL_law_X10_isLent rfl rfl rfl (by decide +kernel) ⟨Nat.le_of_ble_eq_true rfl, Nat.le_of_ble_eq_true rfl⟩) (m_preV hE hM g_y rfl) rfl rfl hl.1 rfl (lv_room (Nat.le_of_ble_eq_true rfl)) dL_law_472 ⟨(by show 22 + 2 * k + 0 + 0 ≤ 600000; omega), (by show 1339 + 42 * k + 0 + 0 ≤ 7302250; omega)⟩) hM hS hA (fun r2 u2 H locs hw hM hS => ?_)
  obtain ⟨e2, hm2, hk2⟩ := hw
  refine lv_icmp_eq (tgt := 920) hx hb dL_law_475 (by decide) (fun _ => ?_) (fun h9 => absurd (e1.trans e2.symm) h9)
  exact W.widen (by omega) (by omega) (kk u2 _ H locs (both.fin hB.1 hC1 hm2 hk2) hM hS)
set_option maxHeartbeats 4000000 in
set_option maxRecDepth 100000 in
theorem law_of {p : Program} {l : Launch} {e : Env} {s : State} {m : MethodId} {below : List Frame} {meth : Method} {c : Code} {b L : Nat} {xs : Nat → Int32} (hL : L ≤ 3584) (C0 : lw_At p s m meth c b L xs) {E : mEnv} (hE : mE E s) {x y b1 b2 b3 b4 b5 b6 b7 b8 b9 b10 b11 b12 b13 b14 b15 b16 k : Nat} (hnd : [y, b1, b2, b3, b4, b5, b6, b7, b8, b9, b10, b11, b12, b13, b14, b15, b16].Nodup) (hk : 7 * k + 7 ≤ L) {M : mMem} {σ : Sg} (hB : both E M x y b1 b2 b3 b4 b5 b6 b7 b8 b9 b10 b11 b12 b13 b14 b15 b16 σ) {H : Heap} {locs : List Loc} (hM : mOK E.1 (lA s) M H) (hS : va_S (lA s) s.heap H locs) {ls : Array Slot} (hl : lv_has ls 4 [(0, .ref b), (1, .ref x), (2, .ref y), (3, .int (nI (7 * k)))]) {Q : State → Prop}
    (kk : ∀ (M' : mMem) (σ' : Sg) (H' : Heap) (locs' : List Loc), both E M' x y b1 b2 b3 b4 b5 b6 b7 b8 b9 b10 b11 b12 b13 b14 b15 b16 σ' → mOK E.1 (lA s) M' H' → va_S (lA s) s.heap H' locs' → W p l e room_1 s m #[Value.ref b] below meth c H' locs' (22 + 2 * (k + 1)) (1339 + 42 * (k + 1)) Q (F0 m 920 ls [])) : W p l e room_1 s m #[Value.ref b] below meth c H locs (22 + 2 * k) (1339 + 42 * k) Q (F0 m 480 ls []) := by
  obtain ⟨hx, hb, hr, hml, hown, hts0, hX, hbl, hlocks, hgv⟩ := id C0
  have hts : ∀ w ∈ wsL_law, w.before #[Value.ref b] s = true := fun w h => hts0 w (wsL_law_in w h)
  have hown : s.vm.findClass RL = some m.cls := hown
  have hA : ∀ q : Nat, s.heap.size ≤ q → lA s q := fun _ h => h
  obtain ⟨nn, ins, nf, fn, bk, rw, bd, st, c2, c3, c4⟩ := σ
  obtain ⟨fx, g_x⟩ := hB.2.1.gx
  refine lv_aload_n hx hb dL_law_480 rfl (lv_at hl 1 rfl) ?_
  refine l_arg hL C0 hS hl 1 (by omega) (by decide) dL_law_481 dL_law_482 dL_law_483 dL_law_484 dL_law_485 ?_
  refine l_arg hL C0 hS hl 2 (by omega) (by decide) dL_law_486 dL_law_487 dL_law_488 dL_law_489 dL_law_490 ?_
  refine m_calli (va_runV (As := [.int (xs (7 * k + 1)), .int (xs (7 * k + 2))]) (rest := []) ⟨hx, hb, hml, hown, hts⟩ (c_X9_of l E M H.size _ x nn nf ins fn bk rw bd st c2 c3 c4 hB.1 hB.2.1 hB.hO (xs (7 * k + 1)) (xs (7 * k + 2))) (cwV 2 hts gL_law_X9_of rfl rfl rfl (by decide +kernel) ⟨Nat.le_of_ble_eq_true rfl, Nat.le_of_ble_eq_true rfl⟩) (m_preV hE hM g_x rfl) rfl rfl hl.1 rfl (lv_room (Nat.le_of_ble_eq_true rfl)) dL_law_491 ⟨(by show 22 + 2 * k + 0 ≤ 600000; omega), (by show 1339 + 42 * k + 0 ≤ 7302250; omega)⟩) hM hS hA (fun r1 u H locs hw hM hS => ?_)
  obtain ⟨e1, hC1, hk1⟩ := hw
  have hm1 := hB.mid hk1
  obtain ⟨fy, g_y⟩ := hm1.gy
  refine lv_aload_n hx hb dL_law_494 rfl (lv_at hl 2 rfl) ?_
  refine l_arg hL C0 hS hl 1 (by omega) (by decide) dL_law_495 dL_law_496 dL_law_497 dL_law_498 dL_law_499 ?_
  refine l_arg hL C0 hS hl 2 (by omega) (by decide) dL_law_500 dL_law_501 dL_law_502 dL_law_503 dL_law_504 ?_
  refine m_calli (va_runV (As := [.int (xs (7 * k + 1)), .int (xs (7 * k + 2))]) (rest := [.int r1]) ⟨hx, hb, hml, hown, hts⟩ (c_X10_of l E u H.size y b1 b2 b3 b4 b5 b6 b7 b8 b9 b10 b11 b12 b13 b14 b15 b16 nn nf ins fn bk rw bd st c2 c3 c4 hB.1 hm1 hnd (xs (7 * k + 1)) (xs (7 * k + 2))) (cwV 2 hts gL_law_X10_of rfl rfl rfl (by decide +kernel) ⟨Nat.le_of_ble_eq_true rfl, Nat.le_of_ble_eq_true rfl⟩) (m_preV hE hM g_y rfl) rfl rfl hl.1 rfl (lv_room (Nat.le_of_ble_eq_true rfl)) dL_law_505 ⟨(by show 22 + 2 * k + 0 + 0 ≤ 600000; omega), (by show 1339 + 42 * k + 0 + 0 ≤ 7302250; omega)⟩) hM hS hA (fun r2 u2 H locs hw hM hS => ?_)
  obtain ⟨e2, hm2, hk2⟩ := hw
  refine lv_icmp_eq (tgt := 920) hx hb dL_law_508 (by decide) (fun _ => ?_) (fun h9 => absurd (e1.trans e2.symm) h9)
  exact W.widen (by omega) (by omega) (kk u2 _ H locs (both.fin hB.1 hC1 hm2 hk2) hM hS)
set_option maxHeartbeats 4000000 in
set_option maxRecDepth 100000 in
theorem law_at {p : Program} {l : Launch} {e : Env} {s : State} {m : MethodId} {below : List Frame} {meth : Method} {c : Code} {b L : Nat} {xs : Nat → Int32} (hL : L ≤ 3584) (C0 : lw_At p s m meth c b L xs) {E : mEnv} (hE : mE E s) {x y b1 b2 b3 b4 b5 b6 b7 b8 b9 b10 b11 b12 b13 b14 b15 b16 k : Nat} (hnd : [y, b1, b2, b3, b4, b5, b6, b7, b8, b9, b10, b11, b12, b13, b14, b15, b16].Nodup) (hk : 7 * k + 7 ≤ L) {M : mMem} {σ : Sg} (hB : both E M x y b1 b2 b3 b4 b5 b6 b7 b8 b9 b10 b11 b12 b13 b14 b15 b16 σ) {H : Heap} {locs : List Loc} (hM : mOK E.1 (lA s) M H) (hS : va_S (lA s) s.heap H locs) {ls : Array Slot} (hl : lv_has ls 4 [(0, .ref b), (1, .ref x), (2, .ref y), (3, .int (nI (7 * k)))]) {Q : State → Prop}
    (kk : ∀ (M' : mMem) (σ' : Sg) (H' : Heap) (locs' : List Loc), both E M' x y b1 b2 b3 b4 b5 b6 b7 b8 b9 b10 b11 b12 b13 b14 b15 b16 σ' → mOK E.1 (lA s) M' H' → va_S (lA s) s.heap H' locs' → W p l e room_1 s m #[Value.ref b] below meth c H' locs' (22 + 2 * (k + 1)) (1339 + 42 * (k + 1)) Q (F0 m 920 ls [])) : W p l e room_1 s m #[Value.ref b] below meth c H locs (22 + 2 * k) (1339 + 42 * k) Q (F0 m 513 ls []) := by
  obtain ⟨hx, hb, hr, hml, hown, hts0, hX, hbl, hlocks, hgv⟩ := id C0
  have hts : ∀ w ∈ wsL_law, w.before #[Value.ref b] s = true := fun w h => hts0 w (wsL_law_in w h)
  have hown : s.vm.findClass RL = some m.cls := hown
  have hA : ∀ q : Nat, s.heap.size ≤ q → lA s q := fun _ h => h
  obtain ⟨nn, ins, nf, fn, bk, rw, bd, st, c2, c3, c4⟩ := σ
  obtain ⟨fx, g_x⟩ := hB.2.1.gx
  refine lv_aload_n hx hb dL_law_513 rfl (lv_at hl 1 rfl) ?_
  refine l_arg hL C0 hS hl 1 (by omega) (by decide) dL_law_514 dL_law_515 dL_law_516 dL_law_517 dL_law_518 ?_
  refine l_arg hL C0 hS hl 2 (by omega) (by decide) dL_law_519 dL_law_520 dL_law_521 dL_law_522 dL_law_523 ?_
  refine m_calll (va_runV (As := [.int (xs (7 * k + 1)), .int (xs (7 * k + 2))]) (rest := []) ⟨hx, hb, hml, hown, hts⟩ (c_X9_at l E M H.size _ x nn nf ins fn bk rw bd st c2 c3 c4 hB.1 hB.2.1 hB.hO (xs (7 * k + 1)) (xs (7 * k + 2))) (cwV 2 hts gL_law_X9_at rfl rfl rfl (by decide +kernel) ⟨Nat.le_of_ble_eq_true rfl, Nat.le_of_ble_eq_true rfl⟩) (m_preV hE hM g_x rfl) rfl rfl hl.1 rfl (lv_room (Nat.le_of_ble_eq_true rfl)) dL_law_524 ⟨(by show 22 + 2 * k + 0 ≤ 600000; omega), (by show 1339 + 42 * k + 0 ≤ 7302250; omega)⟩) hM hS hA (fun r1 u H locs hw hM hS => ?_)
  obtain ⟨e1, hC1, hk1⟩ := hw
  have hm1 := hB.mid hk1
  obtain ⟨fy, g_y⟩ := hm1.gy
  refine lv_aload_n hx hb dL_law_527 rfl (lv_at hl 2 rfl) ?_
  refine l_arg hL C0 hS hl 1 (by omega) (by decide) dL_law_528 dL_law_529 dL_law_530 dL_law_531 dL_law_532 ?_
  refine l_arg hL C0 hS hl 2 (by omega) (by decide) dL_law_533 dL_law_534 dL_law_535 dL_law_536 dL_law_537 ?_
  refine m_calll (va_runV (As := [.int (xs (7 * k + 1)), .int (xs (7 * k + 2))]) (rest := [.long r1]) ⟨hx, hb, hml, hown, hts⟩ (c_X10_at l E u H.size y b1 b2 b3 b4 b5 b6 b7 b8 b9 b10 b11 b12 b13 b14 b15 b16 nn nf ins fn bk rw bd st c2 c3 c4 hB.1 hm1 hnd (xs (7 * k + 1)) (xs (7 * k + 2))) (cwV 2 hts gL_law_X10_at rfl rfl rfl (by decide +kernel) ⟨Nat.le_of_ble_eq_true rfl, Nat.le_of_ble_eq_true rfl⟩) (m_preV hE hM g_y rfl) rfl rfl hl.1 rfl (lv_room (Nat.le_of_ble_eq_true rfl)) dL_law_538 ⟨(by show 22 + 2 * k + 0 + 0 ≤ 600000; omega), (by show 1339 + 42 * k + 0 + 0 ≤ 7302250; omega)⟩) hM hS hA (fun r2 u2 H locs hw hM hS => ?_)
  obtain ⟨e2, hm2, hk2⟩ := hw
  refine W.lcmp hx hb dL_law_541 ?_
  refine lv_if_eq (tgt := 920) hx hb dL_law_542 (by decide) (fun _ => ?_) (fun h9 => absurd ((lg_cmp_eq _ _).mpr (e1.trans e2.symm)) h9)
  exact W.widen (by omega) (by omega) (kk u2 _ H locs (both.fin (Inv_at hB.1 _ _) hC1 hm2 hk2) hM hS)
