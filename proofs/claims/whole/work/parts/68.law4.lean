set_option maxHeartbeats 4000000 in
set_option maxRecDepth 100000 in
theorem law_agree {p : Program} {l : Launch} {e : Env} {s : State} {m : MethodId} {below : List Frame} {meth : Method} {c : Code} {b L : Nat} {xs : Nat → Int32} (hL : L ≤ 3584) (C0 : lw_At p s m meth c b L xs) {E : mEnv} (hE : mE E s) {x y b1 b2 b3 b4 b5 b6 b7 b8 b9 b10 b11 b12 b13 b14 b15 b16 k : Nat} (hnd : [y, b1, b2, b3, b4, b5, b6, b7, b8, b9, b10, b11, b12, b13, b14, b15, b16].Nodup) (hk : 7 * k + 7 ≤ L) {M : mMem} {σ : Sg} (hB : both E M x y b1 b2 b3 b4 b5 b6 b7 b8 b9 b10 b11 b12 b13 b14 b15 b16 σ) {H : Heap} {locs : List Loc} (hM : mOK E.1 (lA s) M H) (hS : va_S (lA s) s.heap H locs) {ls : Array Slot} (hl : lv_has ls 4 [(0, .ref b), (1, .ref x), (2, .ref y), (3, .int (nI (7 * k)))]) {Q : State → Prop}
    (kk : ∀ (M' : mMem) (σ' : Sg) (H' : Heap) (locs' : List Loc), both E M' x y b1 b2 b3 b4 b5 b6 b7 b8 b9 b10 b11 b12 b13 b14 b15 b16 σ' → mOK E.1 (lA s) M' H' → va_S (lA s) s.heap H' locs' → W p l e room_1 s m #[Value.ref b] below meth c H' locs' (22 + 2 * (k + 1)) (1339 + 42 * (k + 1)) Q (F0 m 920 ls [])) : W p l e room_1 s m #[Value.ref b] below meth c H locs (22 + 2 * k) (1339 + 42 * k) Q (F0 m 784 ls []) := by
  obtain ⟨hx, hb, hr, hml, hown, hts0, hX, hbl, hlocks, hgv⟩ := id C0
  have hts : ∀ w ∈ wsL_law, w.before #[Value.ref b] s = true := fun w h => hts0 w (wsL_law_in w h)
  have hown : s.vm.findClass RL = some m.cls := hown
  have hA : ∀ q : Nat, s.heap.size ≤ q → lA s q := fun _ h => h
  obtain ⟨nn, ins, nf, fn, bk, rw, bd, st, c2, c3, c4⟩ := σ
  obtain ⟨fx, g_x⟩ := hB.2.1.gx
  refine lv_aload_n hx hb dL_law_784 rfl (lv_at hl 1 rfl) ?_
  refine l_arg hL C0 hS hl 1 (by omega) (by decide) dL_law_785 dL_law_786 dL_law_787 dL_law_788 dL_law_789 ?_
  refine l_arg hL C0 hS hl 2 (by omega) (by decide) dL_law_790 dL_law_791 dL_law_792 dL_law_793 dL_law_794 ?_
  refine l_arg hL C0 hS hl 3 (by omega) (by decide) dL_law_795 dL_law_796 dL_law_797 dL_law_798 dL_law_799 ?_
  refine m_calli (va_runV (As := [.int (xs (7 * k + 1)), .int (xs (7 * k + 2)), .int (xs (7 * k + 3))]) (rest := []) ⟨hx, hb, hml, hown, hts⟩ (c_X9_agree l E M H.size _ x nn nf ins fn bk rw bd st c2 c3 c4 hB.1 hB.2.1 hB.hO (xs (7 * k + 1)) (xs (7 * k + 2)) (xs (7 * k + 3))) (cwV 3 hts gL_law_X9_agree rfl rfl rfl (by decide +kernel) ⟨Nat.le_of_ble_eq_true rfl, Nat.le_of_ble_eq_true rfl⟩) (m_preV hE hM g_x rfl) rfl rfl hl.1 rfl (lv_room (Nat.le_of_ble_eq_true rfl)) dL_law_800 ⟨(by show 22 + 2 * k + 0 ≤ 600000; omega), (by show 1339 + 42 * k + 0 ≤ 7302250; omega)⟩) hM hS hA (fun r1 u H locs hw hM hS => ?_)
  obtain ⟨e1, hC1, hk1⟩ := hw
  have hm1 := hB.mid hk1
  obtain ⟨fy, g_y⟩ := hm1.gy
  refine lv_aload_n hx hb dL_law_803 rfl (lv_at hl 2 rfl) ?_
  refine l_arg hL C0 hS hl 1 (by omega) (by decide) dL_law_804 dL_law_805 dL_law_806 dL_law_807 dL_law_808 ?_
  refine l_arg hL C0 hS hl 2 (by omega) (by decide) dL_law_809 dL_law_810 dL_law_811 dL_law_812 dL_law_813 ?_
  refine l_arg hL C0 hS hl 3 (by omega) (by decide) dL_law_814 dL_law_815 dL_law_816 dL_law_817 dL_law_818 ?_
  refine m_calli (va_runV (As := [.int (xs (7 * k + 1)), .int (xs (7 * k + 2)), .int (xs (7 * k + 3))]) (rest := [.int r1]) ⟨hx, hb, hml, hown, hts⟩ (c_X10_agree l E u H.size y b1 b2 b3 b4 b5 b6 b7 b8 b9 b10 b11 b12 b13 b14 b15 b16 nn nf ins fn bk rw bd st c2 c3 c4 hB.1 hm1 hnd (xs (7 * k + 1)) (xs (7 * k + 2)) (xs (7 * k + 3))) (cwV 3 hts gL_law_X10_agree rfl rfl rfl (by decide +kernel) ⟨Nat.le_of_ble_eq_true rfl, Nat.le_of_ble_eq_true rfl⟩) (m_preV hE hM g_y rfl) rfl rfl hl.1 rfl (lv_room (Nat.le_of_ble_eq_true rfl)) dL_law_819 ⟨(by show 22 + 2 * k + 0 + 0 ≤ 600000; omega), (by show 1339 + 42 * k + 0 + 0 ≤ 7302250; omega)⟩) hM hS hA (fun r2 u2 H locs hw hM hS => ?_)
  obtain ⟨e2, hm2, hk2⟩ := hw
  refine lv_icmp_eq (tgt := 920) hx hb dL_law_822 (by decide) (fun _ => ?_) (fun h9 => absurd (e1.trans e2.symm) h9)
  exact W.widen (by omega) (by omega) (kk u2 _ H locs (both.fin hB.1 hC1 hm2 hk2) hM hS)
set_option maxHeartbeats 4000000 in
set_option maxRecDepth 100000 in
theorem law_find {p : Program} {l : Launch} {e : Env} {s : State} {m : MethodId} {below : List Frame} {meth : Method} {c : Code} {b L : Nat} {xs : Nat → Int32} (hL : L ≤ 3584) (C0 : lw_At p s m meth c b L xs) {E : mEnv} (hE : mE E s) {x y b1 b2 b3 b4 b5 b6 b7 b8 b9 b10 b11 b12 b13 b14 b15 b16 k : Nat} (hnd : [y, b1, b2, b3, b4, b5, b6, b7, b8, b9, b10, b11, b12, b13, b14, b15, b16].Nodup) (hk : 7 * k + 7 ≤ L) {M : mMem} {σ : Sg} (hB : both E M x y b1 b2 b3 b4 b5 b6 b7 b8 b9 b10 b11 b12 b13 b14 b15 b16 σ) {H : Heap} {locs : List Loc} (hM : mOK E.1 (lA s) M H) (hS : va_S (lA s) s.heap H locs) {ls : Array Slot} (hl : lv_has ls 4 [(0, .ref b), (1, .ref x), (2, .ref y), (3, .int (nI (7 * k)))]) {Q : State → Prop}
    (kk : ∀ (M' : mMem) (σ' : Sg) (H' : Heap) (locs' : List Loc), both E M' x y b1 b2 b3 b4 b5 b6 b7 b8 b9 b10 b11 b12 b13 b14 b15 b16 σ' → mOK E.1 (lA s) M' H' → va_S (lA s) s.heap H' locs' → W p l e room_1 s m #[Value.ref b] below meth c H' locs' (22 + 2 * (k + 1)) (1339 + 42 * (k + 1)) Q (F0 m 920 ls [])) : W p l e room_1 s m #[Value.ref b] below meth c H locs (22 + 2 * k) (1339 + 42 * k) Q (F0 m 827 ls []) := by
  obtain ⟨hx, hb, hr, hml, hown, hts0, hX, hbl, hlocks, hgv⟩ := id C0
  have hts : ∀ w ∈ wsL_law, w.before #[Value.ref b] s = true := fun w h => hts0 w (wsL_law_in w h)
  have hown : s.vm.findClass RL = some m.cls := hown
  have hA : ∀ q : Nat, s.heap.size ≤ q → lA s q := fun _ h => h
  obtain ⟨nn, ins, nf, fn, bk, rw, bd, st, c2, c3, c4⟩ := σ
  obtain ⟨fx, g_x⟩ := hB.2.1.gx
  refine lv_aload_n hx hb dL_law_827 rfl (lv_at hl 1 rfl) ?_
  refine l_arg hL C0 hS hl 1 (by omega) (by decide) dL_law_828 dL_law_829 dL_law_830 dL_law_831 dL_law_832 ?_
  refine l_arg hL C0 hS hl 2 (by omega) (by decide) dL_law_833 dL_law_834 dL_law_835 dL_law_836 dL_law_837 ?_
  refine m_calli (va_runV (As := [.int (xs (7 * k + 1)), .int (xs (7 * k + 2))]) (rest := []) ⟨hx, hb, hml, hown, hts⟩ (c_X9_find l E M H.size _ x nn nf ins fn bk rw bd st c2 c3 c4 hB.1 hB.2.1 hB.hO (xs (7 * k + 1)) (xs (7 * k + 2))) (cwV 2 hts gL_law_X9_find rfl rfl rfl (by decide +kernel) ⟨Nat.le_of_ble_eq_true rfl, Nat.le_of_ble_eq_true rfl⟩) (m_preV hE hM g_x rfl) rfl rfl hl.1 rfl (lv_room (Nat.le_of_ble_eq_true rfl)) dL_law_838 ⟨(by show 22 + 2 * k + 0 ≤ 600000; omega), (by show 1339 + 42 * k + 0 ≤ 7302250; omega)⟩) hM hS hA (fun r1 u H locs hw hM hS => ?_)
  obtain ⟨e1, hC1, hk1⟩ := hw
  have hm1 := hB.mid hk1
  obtain ⟨fy, g_y⟩ := hm1.gy
  refine lv_aload_n hx hb dL_law_841 rfl (lv_at hl 2 rfl) ?_
  refine l_arg hL C0 hS hl 1 (by omega) (by decide) dL_law_842 dL_law_843 dL_law_844 dL_law_845 dL_law_846 ?_
  refine l_arg hL C0 hS hl 2 (by omega) (by decide) dL_law_847 dL_law_848 dL_law_849 dL_law_850 dL_law_851 ?_
  refine m_calli (va_runV (As := [.int (xs (7 * k + 1)), .int (xs (7 * k + 2))]) (rest := [.int r1]) ⟨hx, hb, hml, hown, hts⟩ (c_X10_find l E u H.size y b1 b2 b3 b4 b5 b6 b7 b8 b9 b10 b11 b12 b13 b14 b15 b16 nn nf ins fn bk rw bd st c2 c3 c4 hB.1 hm1 hnd (xs (7 * k + 1)) (xs (7 * k + 2))) (cwV 2 hts gL_law_X10_find rfl rfl rfl (by decide +kernel) ⟨Nat.le_of_ble_eq_true rfl, Nat.le_of_ble_eq_true rfl⟩) (m_preV hE hM g_y rfl) rfl rfl hl.1 rfl (lv_room (Nat.le_of_ble_eq_true rfl)) dL_law_852 ⟨(by show 22 + 2 * k + 0 + 0 ≤ 600000; omega), (by show 1339 + 42 * k + 0 + 0 ≤ 7302250; omega)⟩) hM hS hA (fun r2 u2 H locs hw hM hS => ?_)
  obtain ⟨e2, hm2, hk2⟩ := hw
  refine lv_icmp_eq (tgt := 920) hx hb dL_law_855 (by decide) (fun _ => ?_) (fun h9 => absurd (e1.trans e2.symm) h9)
  exact W.widen (by omega) (by omega) (kk u2 _ H locs (both.fin hB.1 hC1 hm2 hk2) hM hS)
set_option maxHeartbeats 4000000 in
set_option maxRecDepth 100000 in
theorem law_next {p : Program} {l : Launch} {e : Env} {s : State} {m : MethodId} {below : List Frame} {meth : Method} {c : Code} {b L : Nat} {xs : Nat → Int32} (hL : L ≤ 3584) (C0 : lw_At p s m meth c b L xs) {E : mEnv} (hE : mE E s) {x y b1 b2 b3 b4 b5 b6 b7 b8 b9 b10 b11 b12 b13 b14 b15 b16 k : Nat} (hnd : [y, b1, b2, b3, b4, b5, b6, b7, b8, b9, b10, b11, b12, b13, b14, b15, b16].Nodup) (hk : 7 * k + 7 ≤ L) {M : mMem} {σ : Sg} (hB : both E M x y b1 b2 b3 b4 b5 b6 b7 b8 b9 b10 b11 b12 b13 b14 b15 b16 σ) {H : Heap} {locs : List Loc} (hM : mOK E.1 (lA s) M H) (hS : va_S (lA s) s.heap H locs) {ls : Array Slot} (hl : lv_has ls 4 [(0, .ref b), (1, .ref x), (2, .ref y), (3, .int (nI (7 * k)))]) {Q : State → Prop}
    (kk : ∀ (M' : mMem) (σ' : Sg) (H' : Heap) (locs' : List Loc), both E M' x y b1 b2 b3 b4 b5 b6 b7 b8 b9 b10 b11 b12 b13 b14 b15 b16 σ' → mOK E.1 (lA s) M' H' → va_S (lA s) s.heap H' locs' → W p l e room_1 s m #[Value.ref b] below meth c H' locs' (22 + 2 * (k + 1)) (1339 + 42 * (k + 1)) Q (F0 m 920 ls [])) : W p l e room_1 s m #[Value.ref b] below meth c H locs (22 + 2 * k) (1339 + 42 * k) Q (F0 m 860 ls []) := by
  obtain ⟨hx, hb, hr, hml, hown, hts0, hX, hbl, hlocks, hgv⟩ := id C0
  have hts : ∀ w ∈ wsL_law, w.before #[Value.ref b] s = true := fun w h => hts0 w (wsL_law_in w h)
  have hown : s.vm.findClass RL = some m.cls := hown
  have hA : ∀ q : Nat, s.heap.size ≤ q → lA s q := fun _ h => h
  obtain ⟨nn, ins, nf, fn, bk, rw, bd, st, c2, c3, c4⟩ := σ
  obtain ⟨fx, g_x⟩ := hB.2.1.gx
  refine lv_aload_n hx hb dL_law_860 rfl (lv_at hl 1 rfl) ?_
  refine l_arg hL C0 hS hl 1 (by omega) (by decide) dL_law_861 dL_law_862 dL_law_863 dL_law_864 dL_law_865 ?_
  refine m_calll (va_runV (As := [.int (xs (7 * k + 1))]) (rest := []) ⟨hx, hb, hml, hown, hts⟩ (c_X9_next l E M H.size _ x nn nf ins fn bk rw bd st c2 c3 c4 hB.1 hB.2.1 hB.hO (xs (7 * k + 1))) (cwV 1 hts gL_law_X9_next rfl rfl rfl (by decide +kernel) ⟨Nat.le_of_ble_eq_true rfl, Nat.le_of_ble_eq_true rfl⟩) (m_preV hE hM g_x rfl) rfl rfl hl.1 rfl (lv_room (Nat.le_of_ble_eq_true rfl)) dL_law_866 ⟨(by show 22 + 2 * k + 0 ≤ 600000; omega), (by show 1339 + 42 * k + 0 ≤ 7302250; omega)⟩) hM hS hA (fun r1 u H locs hw hM hS => ?_)
  obtain ⟨e1, hC1, hk1⟩ := hw
  have hm1 := hB.mid hk1
  obtain ⟨fy, g_y⟩ := hm1.gy
  refine lv_aload_n hx hb dL_law_869 rfl (lv_at hl 2 rfl) ?_
  refine l_arg hL C0 hS hl 1 (by omega) (by decide) dL_law_870 dL_law_871 dL_law_872 dL_law_873 dL_law_874 ?_
  refine m_calll (va_runV (As := [.int (xs (7 * k + 1))]) (rest := [.long r1]) ⟨hx, hb, hml, hown, hts⟩ (c_X10_next l E u H.size y b1 b2 b3 b4 b5 b6 b7 b8 b9 b10 b11 b12 b13 b14 b15 b16 nn nf ins fn bk rw bd st c2 c3 c4 hB.1 hm1 hnd (xs (7 * k + 1))) (cwV 1 hts gL_law_X10_next rfl rfl rfl (by decide +kernel) ⟨Nat.le_of_ble_eq_true rfl, Nat.le_of_ble_eq_true rfl⟩) (m_preV hE hM g_y rfl) rfl rfl hl.1 rfl (lv_room (Nat.le_of_ble_eq_true rfl)) dL_law_875 ⟨(by show 22 + 2 * k + 0 + 0 ≤ 600000; omega), (by show 1339 + 42 * k + 0 + 0 ≤ 7302250; omega)⟩) hM hS hA (fun r2 u2 H locs hw hM hS => ?_)
  obtain ⟨e2, hm2, hk2⟩ := hw
  refine W.lcmp hx hb dL_law_878 ?_
  refine lv_if_eq (tgt := 920) hx hb dL_law_879 (by decide) (fun _ => ?_) (fun h9 => absurd ((lg_cmp_eq _ _).mpr (e1.trans e2.symm)) h9)
  exact W.widen (by omega) (by omega) (kk u2 _ H locs (both.fin (Inv_next hB.1 _) hC1 hm2 hk2) hM hS)
set_option maxHeartbeats 4000000 in
set_option maxRecDepth 100000 in
theorem law_state {p : Program} {l : Launch} {e : Env} {s : State} {m : MethodId} {below : List Frame} {meth : Method} {c : Code} {b L : Nat} {xs : Nat → Int32} (hL : L ≤ 3584) (C0 : lw_At p s m meth c b L xs) {E : mEnv} (hE : mE E s) {x y b1 b2 b3 b4 b5 b6 b7 b8 b9 b10 b11 b12 b13 b14 b15 b16 k : Nat} (hnd : [y, b1, b2, b3, b4, b5, b6, b7, b8, b9, b10, b11, b12, b13, b14, b15, b16].Nodup) (hk : 7 * k + 7 ≤ L) {M : mMem} {σ : Sg} (hB : both E M x y b1 b2 b3 b4 b5 b6 b7 b8 b9 b10 b11 b12 b13 b14 b15 b16 σ) {H : Heap} {locs : List Loc} (hM : mOK E.1 (lA s) M H) (hS : va_S (lA s) s.heap H locs) {ls : Array Slot} (hl : lv_has ls 4 [(0, .ref b), (1, .ref x), (2, .ref y), (3, .int (nI (7 * k)))]) {Q : State → Prop}
    (kk : ∀ (M' : mMem) (σ' : Sg) (H' : Heap) (locs' : List Loc), both E M' x y b1 b2 b3 b4 b5 b6 b7 b8 b9 b10 b11 b12 b13 b14 b15 b16 σ' → mOK E.1 (lA s) M' H' → va_S (lA s) s.heap H' locs' → W p l e room_1 s m #[Value.ref b] below meth c H' locs' (22 + 2 * (k + 1)) (1339 + 42 * (k + 1)) Q (F0 m 920 ls [])) : W p l e room_1 s m #[Value.ref b] below meth c H locs (22 + 2 * k) (1339 + 42 * k) Q (F0 m 884 ls []) := by
  obtain ⟨hx, hb, hr, hml, hown, hts0, hX, hbl, hlocks, hgv⟩ := id C0
  have hts : ∀ w ∈ wsL_law, w.before #[Value.ref b] s = true := fun w h => hts0 w (wsL_law_in w h)
  have hown : s.vm.findClass RL = some m.cls := hown
  have hA : ∀ q : Nat, s.heap.size ≤ q → lA s q := fun _ h => h
  obtain ⟨nn, ins, nf, fn, bk, rw, bd, st, c2, c3, c4⟩ := σ
  obtain ⟨fx, g_x⟩ := hB.2.1.gx
  refine lv_aload_n hx hb dL_law_884 rfl (lv_at hl 1 rfl) ?_
  refine m_calli (va_runV (As := []) (rest := []) ⟨hx, hb, hml, hown, hts⟩ (c_X9_state l E M H.size _ x nn nf ins fn bk rw bd st c2 c3 c4 hB.1 hB.2.1 hB.hO ) (cwV 0 hts gL_law_X9_state rfl rfl rfl (by decide +kernel) ⟨Nat.le_of_ble_eq_true rfl, Nat.le_of_ble_eq_true rfl⟩) (m_preV hE hM g_x rfl) rfl rfl hl.1 rfl (lv_room (Nat.le_of_ble_eq_true rfl)) dL_law_885 ⟨(by show 22 + 2 * k + 0 ≤ 600000; omega), (by show 1339 + 42 * k + 0 ≤ 7302250; omega)⟩) hM hS hA (fun r1 u H locs hw hM hS => ?_)
  obtain ⟨e1, hC1, hk1⟩ := hw
  have hm1 := hB.mid hk1
  obtain ⟨fy, g_y⟩ := hm1.gy
  refine lv_aload_n hx hb dL_law_888 rfl (lv_at hl 2 rfl) ?_
  refine m_calli (va_runV (As := []) (rest := [.int r1]) ⟨hx, hb, hml, hown, hts⟩ (c_X10_state l E u H.size y b1 b2 b3 b4 b5 b6 b7 b8 b9 b10 b11 b12 b13 b14 b15 b16 nn nf ins fn bk rw bd st c2 c3 c4 hB.1 hm1 hnd ) (cwV 0 hts gL_law_X10_state rfl rfl rfl (by decide +kernel) ⟨Nat.le_of_ble_eq_true rfl, Nat.le_of_ble_eq_true rfl⟩) (m_preV hE hM g_y rfl) rfl rfl hl.1 rfl (lv_room (Nat.le_of_ble_eq_true rfl)) dL_law_889 ⟨(by show 22 + 2 * k + 0 + 0 ≤ 600000; omega), (by show 1339 + 42 * k + 0 + 0 ≤ 7302250; omega)⟩) hM hS hA (fun r2 u2 H locs hw hM hS => ?_)
  obtain ⟨e2, hm2, hk2⟩ := hw
  refine lv_icmp_eq (tgt := 920) hx hb dL_law_892 (by decide) (fun _ => ?_) (fun h9 => absurd (e1.trans e2.symm) h9)
  exact W.widen (by omega) (by omega) (kk u2 _ H locs (both.fin hB.1 hC1 hm2 hk2) hM hS)
set_option maxHeartbeats 4000000 in
set_option maxRecDepth 100000 in
theorem law_count {p : Program} {l : Launch} {e : Env} {s : State} {m : MethodId} {below : List Frame} {meth : Method} {c : Code} {b L : Nat} {xs : Nat → Int32} (hL : L ≤ 3584) (C0 : lw_At p s m meth c b L xs) {E : mEnv} (hE : mE E s) {x y b1 b2 b3 b4 b5 b6 b7 b8 b9 b10 b11 b12 b13 b14 b15 b16 k : Nat} (hnd : [y, b1, b2, b3, b4, b5, b6, b7, b8, b9, b10, b11, b12, b13, b14, b15, b16].Nodup) (hk : 7 * k + 7 ≤ L) {M : mMem} {σ : Sg} (hB : both E M x y b1 b2 b3 b4 b5 b6 b7 b8 b9 b10 b11 b12 b13 b14 b15 b16 σ) {H : Heap} {locs : List Loc} (hM : mOK E.1 (lA s) M H) (hS : va_S (lA s) s.heap H locs) {ls : Array Slot} (hl : lv_has ls 4 [(0, .ref b), (1, .ref x), (2, .ref y), (3, .int (nI (7 * k)))]) {Q : State → Prop}
    (kk : ∀ (M' : mMem) (σ' : Sg) (H' : Heap) (locs' : List Loc), both E M' x y b1 b2 b3 b4 b5 b6 b7 b8 b9 b10 b11 b12 b13 b14 b15 b16 σ' → mOK E.1 (lA s) M' H' → va_S (lA s) s.heap H' locs' → W p l e room_1 s m #[Value.ref b] below meth c H' locs' (22 + 2 * (k + 1)) (1339 + 42 * (k + 1)) Q (F0 m 920 ls [])) : W p l e room_1 s m #[Value.ref b] below meth c H locs (22 + 2 * k) (1339 + 42 * k) Q (F0 m 897 ls []) := by
  obtain ⟨hx, hb, hr, hml, hown, hts0, hX, hbl, hlocks, hgv⟩ := id C0
  have hts : ∀ w ∈ wsL_law, w.before #[Value.ref b] s = true := fun w h => hts0 w (wsL_law_in w h)
  have hown : s.vm.findClass RL = some m.cls := hown
  have hA : ∀ q : Nat, s.heap.size ≤ q → lA s q := fun _ h => h
  obtain ⟨nn, ins, nf, fn, bk, rw, bd, st, c2, c3, c4⟩ := σ
  obtain ⟨fx, g_x⟩ := hB.2.1.gx
  refine lv_aload_n hx hb dL_law_897 rfl (lv_at hl 1 rfl) ?_
  refine l_arg hL C0 hS hl 1 (by omega) (by decide) dL_law_898 dL_law_899 dL_law_900 dL_law_901 dL_law_902 ?_
  refine m_calli (va_runV (As := [.int (xs (7 * k + 1))]) (rest := []) ⟨hx, hb, hml, hown, hts⟩ (c_X9_count l E M H.size _ x nn nf ins fn bk rw bd st c2 c3 c4 hB.1 hB.2.1 hB.hO (xs (7 * k + 1))) (cwV 1 hts gL_law_X9_count rfl rfl rfl (by decide +kernel) ⟨Nat.le_of_ble_eq_true rfl, Nat.le_of_ble_eq_true rfl⟩) (m_preV hE hM g_x rfl) rfl rfl hl.1 rfl (lv_room (Nat.le_of_ble_eq_true rfl)) dL_law_903 ⟨(by show 22 + 2 * k + 0 ≤ 600000; omega), (by show 1339 + 42 * k + 0 ≤ 7302250; omega)⟩) hM hS hA (fun r1 u H locs hw hM hS => ?_)
  obtain ⟨e1, hC1, hk1⟩ := hw
  have hm1 := hB.mid hk1
  obtain ⟨fy, g_y⟩ := hm1.gy
  refine lv_aload_n hx hb dL_law_906 rfl (lv_at hl 2 rfl) ?_
  refine l_arg hL C0 hS hl 1 (by omega) (by decide) dL_law_907 dL_law_908 dL_law_909 dL_law_910 dL_law_911 ?_
  refine m_calli (va_runV (As := [.int (xs (7 * k + 1))]) (rest := [.int r1]) ⟨hx, hb, hml, hown, hts⟩ (c_X10_count l E u H.size y b1 b2 b3 b4 b5 b6 b7 b8 b9 b10 b11 b12 b13 b14 b15 b16 nn nf ins fn bk rw bd st c2 c3 c4 hB.1 hm1 hnd (xs (7 * k + 1))) (cwV 1 hts gL_law_X10_count rfl rfl rfl (by decide +kernel) ⟨Nat.le_of_ble_eq_true rfl, Nat.le_of_ble_eq_true rfl⟩) (m_preV hE hM g_y rfl) rfl rfl hl.1 rfl (lv_room (Nat.le_of_ble_eq_true rfl)) dL_law_912 ⟨(by show 22 + 2 * k + 0 + 0 ≤ 600000; omega), (by show 1339 + 42 * k + 0 + 0 ≤ 7302250; omega)⟩) hM hS hA (fun r2 u2 H locs hw hM hS => ?_)
  obtain ⟨e2, hm2, hk2⟩ := hw
  refine lv_icmp_eq (tgt := 920) hx hb dL_law_915 (by decide) (fun _ => ?_) (fun h9 => absurd (e1.trans e2.symm) h9)
  exact W.widen (by omega) (by omega) (kk u2 _ H locs (both.fin hB.1 hC1 hm2 hk2) hM hS)
