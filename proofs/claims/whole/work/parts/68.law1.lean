set_option maxHeartbeats 4000000 in
set_option maxRecDepth 100000 in
theorem law_instrument {p : Program} {l : Launch} {e : Env} {s : State} {m : MethodId} {below : List Frame} {meth : Method} {c : Code} {b L : Nat} {xs : Nat → Int32} (hL : L ≤ 3584) (C0 : lw_At p s m meth c b L xs) {E : mEnv} (hE : mE E s) {x y b1 b2 b3 b4 b5 b6 b7 b8 b9 b10 b11 b12 b13 b14 b15 b16 k : Nat} (hnd : [y, b1, b2, b3, b4, b5, b6, b7, b8, b9, b10, b11, b12, b13, b14, b15, b16].Nodup) (hk : 7 * k + 7 ≤ L) {M : mMem} {σ : Sg} (hB : both E M x y b1 b2 b3 b4 b5 b6 b7 b8 b9 b10 b11 b12 b13 b14 b15 b16 σ) {H : Heap} {locs : List Loc} (hM : mOK E.1 (lA s) M H) (hS : va_S (lA s) s.heap H locs) {ls : Array Slot} (hl : lv_has ls 4 [(0, .ref b), (1, .ref x), (2, .ref y), (3, .int (nI (7 * k)))]) {Q : State → Prop}
    (kk : ∀ (M' : mMem) (σ' : Sg) (H' : Heap) (locs' : List Loc), both E M' x y b1 b2 b3 b4 b5 b6 b7 b8 b9 b10 b11 b12 b13 b14 b15 b16 σ' → mOK E.1 (lA s) M' H' → va_S (lA s) s.heap H' locs' → W p l e room_1 s m #[Value.ref b] below meth c H' locs' (22 + 2 * (k + 1)) (1339 + 42 * (k + 1)) Q (F0 m 920 ls [])) : W p l e room_1 s m #[Value.ref b] below meth c H locs (22 + 2 * k) (1339 + 42 * k) Q (F0 m 128 ls []) := by
  obtain ⟨hx, hb, hr, hml, hown, hts0, hX, hbl, hlocks, hgv⟩ := id C0
  have hts : ∀ w ∈ wsL_law, w.before #[Value.ref b] s = true := fun w h => hts0 w (wsL_law_in w h)
  have hown : s.vm.findClass RL = some m.cls := hown
  have hA : ∀ q : Nat, s.heap.size ≤ q → lA s q := fun _ h => h
  obtain ⟨nn, ins, nf, fn, bk, rw, bd, st, c2, c3, c4⟩ := σ
  obtain ⟨fx, g_x⟩ := hB.2.1.gx
  refine lv_aload_n hx hb dL_law_128 rfl (lv_at hl 1 rfl) ?_
  refine l_arg hL C0 hS hl 1 (by omega) (by decide) dL_law_129 dL_law_130 dL_law_131 dL_law_132 dL_law_133 ?_
  refine m_calli (va_runV (As := [.int (xs (7 * k + 1))]) (rest := []) ⟨hx, hb, hml, hown, hts⟩ (c_X9_instrument l E M H.size _ x nn nf ins fn bk rw bd st c2 c3 c4 hB.1 hB.2.1 hB.hO (xs (7 * k + 1))) (cwV 1 hts gL_law_X9_instrument rfl rfl rfl (by decide +kernel) ⟨Nat.le_of_ble_eq_true rfl, Nat.le_of_ble_eq_true rfl⟩) (m_preV hE hM g_x rfl) rfl rfl hl.1 rfl (lv_room (Nat.le_of_ble_eq_true rfl)) dL_law_134 ⟨(by show 22 + 2 * k + 2 ≤ 600000; omega), (by show 1339 + 42 * k + 11 ≤ 7302250; omega)⟩) hM hS hA (fun r1 u H locs hw hM hS => ?_)
  obtain ⟨e1, hC1, hk1⟩ := hw
  have hm1 := hB.mid hk1
  obtain ⟨fy, g_y⟩ := hm1.gy
  refine lv_aload_n hx hb dL_law_137 rfl (lv_at hl 2 rfl) ?_
  refine l_arg hL C0 hS hl 1 (by omega) (by decide) dL_law_138 dL_law_139 dL_law_140 dL_law_141 dL_law_142 ?_
  refine m_calli (va_runV (As := [.int (xs (7 * k + 1))]) (rest := [.int r1]) ⟨hx, hb, hml, hown, hts⟩ (c_X10_instrument l E u H.size y b1 b2 b3 b4 b5 b6 b7 b8 b9 b10 b11 b12 b13 b14 b15 b16 nn nf ins fn bk rw bd st c2 c3 c4 hB.1 hm1 hnd (xs (7 * k + 1))) (cwV 1 hts gL_law_X10_instrument rfl rfl rfl (by decide +kernel) ⟨Nat.le_of_ble_eq_true rfl, Nat.le_of_ble_eq_true rfl⟩) (m_preV hE hM g_y rfl) rfl rfl hl.1 rfl (lv_room (Nat.le_of_ble_eq_true rfl)) dL_law_143 ⟨(by show 22 + 2 * k + 2 + 0 ≤ 600000; omega), (by show 1339 + 42 * k + 11 + 0 ≤ 7302250; omega)⟩) hM hS hA (fun r2 u2 H locs hw hM hS => ?_)
  obtain ⟨e2, hm2, hk2⟩ := hw
  refine lv_icmp_eq (tgt := 920) hx hb dL_law_146 (by decide) (fun _ => ?_) (fun h9 => absurd (e1.trans e2.symm) h9)
  exact W.widen (by omega) (by omega) (kk u2 _ H locs (both.fin (Inv_inst hB.1 _) hC1 hm2 hk2) hM hS)
set_option maxHeartbeats 4000000 in
set_option maxRecDepth 100000 in
theorem law_note {p : Program} {l : Launch} {e : Env} {s : State} {m : MethodId} {below : List Frame} {meth : Method} {c : Code} {b L : Nat} {xs : Nat → Int32} (hL : L ≤ 3584) (C0 : lw_At p s m meth c b L xs) {E : mEnv} (hE : mE E s) {x y b1 b2 b3 b4 b5 b6 b7 b8 b9 b10 b11 b12 b13 b14 b15 b16 k : Nat} (hnd : [y, b1, b2, b3, b4, b5, b6, b7, b8, b9, b10, b11, b12, b13, b14, b15, b16].Nodup) (hk : 7 * k + 7 ≤ L) {M : mMem} {σ : Sg} (hB : both E M x y b1 b2 b3 b4 b5 b6 b7 b8 b9 b10 b11 b12 b13 b14 b15 b16 σ) {H : Heap} {locs : List Loc} (hM : mOK E.1 (lA s) M H) (hS : va_S (lA s) s.heap H locs) {ls : Array Slot} (hl : lv_has ls 4 [(0, .ref b), (1, .ref x), (2, .ref y), (3, .int (nI (7 * k)))]) {Q : State → Prop}
    (kk : ∀ (M' : mMem) (σ' : Sg) (H' : Heap) (locs' : List Loc), both E M' x y b1 b2 b3 b4 b5 b6 b7 b8 b9 b10 b11 b12 b13 b14 b15 b16 σ' → mOK E.1 (lA s) M' H' → va_S (lA s) s.heap H' locs' → W p l e room_1 s m #[Value.ref b] below meth c H' locs' (22 + 2 * (k + 1)) (1339 + 42 * (k + 1)) Q (F0 m 920 ls [])) : W p l e room_1 s m #[Value.ref b] below meth c H locs (22 + 2 * k) (1339 + 42 * k) Q (F0 m 151 ls []) := by
  obtain ⟨hx, hb, hr, hml, hown, hts0, hX, hbl, hlocks, hgv⟩ := id C0
  have hts : ∀ w ∈ wsL_law, w.before #[Value.ref b] s = true := fun w h => hts0 w (wsL_law_in w h)
  have hown : s.vm.findClass RL = some m.cls := hown
  have hA : ∀ q : Nat, s.heap.size ≤ q → lA s q := fun _ h => h
  obtain ⟨nn, ins, nf, fn, bk, rw, bd, st, c2, c3, c4⟩ := σ
  obtain ⟨fx, g_x⟩ := hB.2.1.gx
  refine lv_aload_n hx hb dL_law_151 rfl (lv_at hl 1 rfl) ?_
  refine l_arg hL C0 hS hl 1 (by omega) (by decide) dL_law_152 dL_law_153 dL_law_154 dL_law_155 dL_law_156 ?_
  refine l_arg hL C0 hS hl 2 (by omega) (by decide) dL_law_157 dL_law_158 dL_law_159 dL_law_160 dL_law_161 ?_
  refine l_arg hL C0 hS hl 3 (by omega) (by decide) dL_law_162 dL_law_163 dL_law_164 dL_law_165 dL_law_166 ?_
  refine l_bool C0 dL_law_167 dL_law_170 dL_law_171 dL_law_174 ?_
  refine m_calli (va_runV (As := [.int (xs (7 * k + 1)), .int (xs (7 * k + 2)), .int (bI (¬ xs (7 * k + 3) = 0))]) (rest := []) ⟨hx, hb, hml, hown, hts⟩ (c_X9_note l E M H.size _ x nn nf ins fn bk rw bd st c2 c3 c4 hB.1 hB.2.1 hB.hO (xs (7 * k + 1)) (xs (7 * k + 2)) (bI (¬ xs (7 * k + 3) = 0)) bI_01) (cwV 3 hts gL_law_X9_note rfl rfl rfl (by decide +kernel) ⟨Nat.le_of_ble_eq_true rfl, Nat.le_of_ble_eq_true rfl⟩) (m_preV hE hM g_x rfl) rfl rfl hl.1 rfl (lv_room (Nat.le_of_ble_eq_true rfl)) dL_law_175 ⟨(by show 22 + 2 * k + 0 ≤ 600000; omega), (by show 1339 + 42 * k + 0 ≤ 7302250; omega)⟩) hM hS hA (fun r1 u H locs hw hM hS => ?_)
  obtain ⟨e1, hC1, hk1⟩ := hw
  have hm1 := hB.mid hk1
  obtain ⟨fy, g_y⟩ := hm1.gy
  refine lv_aload_n hx hb dL_law_178 rfl (lv_at hl 2 rfl) ?_
  refine l_arg hL C0 hS hl 1 (by omega) (by decide) dL_law_179 dL_law_180 dL_law_181 dL_law_182 dL_law_183 ?_
  refine l_arg hL C0 hS hl 2 (by omega) (by decide) dL_law_184 dL_law_185 dL_law_186 dL_law_187 dL_law_188 ?_
  refine l_arg hL C0 hS hl 3 (by omega) (by decide) dL_law_189 dL_law_190 dL_law_191 dL_law_192 dL_law_193 ?_
  refine l_bool C0 dL_law_194 dL_law_197 dL_law_198 dL_law_201 ?_
  refine m_calli (va_runV (As := [.int (xs (7 * k + 1)), .int (xs (7 * k + 2)), .int (bI (¬ xs (7 * k + 3) = 0))]) (rest := [.int r1]) ⟨hx, hb, hml, hown, hts⟩ (c_X10_note l E u H.size y b1 b2 b3 b4 b5 b6 b7 b8 b9 b10 b11 b12 b13 b14 b15 b16 nn nf ins fn bk rw bd st c2 c3 c4 hB.1 hm1 hnd (xs (7 * k + 1)) (xs (7 * k + 2)) (bI (¬ xs (7 * k + 3) = 0)) bI_01) (cwV 3 hts gL_law_X10_note rfl rfl rfl (by decide +kernel) ⟨Nat.le_of_ble_eq_true rfl, Nat.le_of_ble_eq_true rfl⟩) (m_preV hE hM g_y rfl) rfl rfl hl.1 rfl (lv_room (Nat.le_of_ble_eq_true rfl)) dL_law_202 ⟨(by show 22 + 2 * k + 0 + 0 ≤ 600000; omega), (by show 1339 + 42 * k + 0 + 0 ≤ 7302250; omega)⟩) hM hS hA (fun r2 u2 H locs hw hM hS => ?_)
  obtain ⟨e2, hm2, hk2⟩ := hw
  refine lv_icmp_eq (tgt := 920) hx hb dL_law_205 (by decide) (fun _ => ?_) (fun h9 => absurd (e1.trans e2.symm) h9)
  exact W.widen (by omega) (by omega) (kk u2 _ H locs (both.fin (Inv_note hB.1 _ _ _ bI_01) hC1 hm2 hk2) hM hS)
set_option maxHeartbeats 4000000 in
set_option maxRecDepth 100000 in
theorem law_knob {p : Program} {l : Launch} {e : Env} {s : State} {m : MethodId} {below : List Frame} {meth : Method} {c : Code} {b L : Nat} {xs : Nat → Int32} (hL : L ≤ 3584) (C0 : lw_At p s m meth c b L xs) {E : mEnv} (hE : mE E s) {x y b1 b2 b3 b4 b5 b6 b7 b8 b9 b10 b11 b12 b13 b14 b15 b16 k : Nat} (hnd : [y, b1, b2, b3, b4, b5, b6, b7, b8, b9, b10, b11, b12, b13, b14, b15, b16].Nodup) (hk : 7 * k + 7 ≤ L) {M : mMem} {σ : Sg} (hB : both E M x y b1 b2 b3 b4 b5 b6 b7 b8 b9 b10 b11 b12 b13 b14 b15 b16 σ) {H : Heap} {locs : List Loc} (hM : mOK E.1 (lA s) M H) (hS : va_S (lA s) s.heap H locs) {ls : Array Slot} (hl : lv_has ls 4 [(0, .ref b), (1, .ref x), (2, .ref y), (3, .int (nI (7 * k)))]) {Q : State → Prop}
    (kk : ∀ (M' : mMem) (σ' : Sg) (H' : Heap) (locs' : List Loc), both E M' x y b1 b2 b3 b4 b5 b6 b7 b8 b9 b10 b11 b12 b13 b14 b15 b16 σ' → mOK E.1 (lA s) M' H' → va_S (lA s) s.heap H' locs' → W p l e room_1 s m #[Value.ref b] below meth c H' locs' (22 + 2 * (k + 1)) (1339 + 42 * (k + 1)) Q (F0 m 920 ls [])) : W p l e room_1 s m #[Value.ref b] below meth c H locs (22 + 2 * k) (1339 + 42 * k) Q (F0 m 210 ls []) := by
  obtain ⟨hx, hb, hr, hml, hown, hts0, hX, hbl, hlocks, hgv⟩ := id C0
  have hts : ∀ w ∈ wsL_law, w.before #[Value.ref b] s = true := fun w h => hts0 w (wsL_law_in w h)
  have hown : s.vm.findClass RL = some m.cls := hown
  have hA : ∀ q : Nat, s.heap.size ≤ q → lA s q := fun _ h => h
  obtain ⟨nn, ins, nf, fn, bk, rw, bd, st, c2, c3, c4⟩ := σ
  obtain ⟨fx, g_x⟩ := hB.2.1.gx
  refine lv_aload_n hx hb dL_law_210 rfl (lv_at hl 1 rfl) ?_
  refine l_arg hL C0 hS hl 1 (by omega) (by decide) dL_law_211 dL_law_212 dL_law_213 dL_law_214 dL_law_215 ?_
  refine l_arg hL C0 hS hl 2 (by omega) (by decide) dL_law_216 dL_law_217 dL_law_218 dL_law_219 dL_law_220 ?_
  refine l_arg hL C0 hS hl 3 (by omega) (by decide) dL_law_221 dL_law_222 dL_law_223 dL_law_224 dL_law_225 ?_
  refine m_calli (va_runV (As := [.int (xs (7 * k + 1)), .int (xs (7 * k + 2)), .int (xs (7 * k + 3))]) (rest := []) ⟨hx, hb, hml, hown, hts⟩ (c_X9_knob l E M H.size _ x nn nf ins fn bk rw bd st c2 c3 c4 hB.1 hB.2.1 hB.hO (xs (7 * k + 1)) (xs (7 * k + 2)) (xs (7 * k + 3))) (cwV 3 hts gL_law_X9_knob rfl rfl rfl (by decide +kernel) ⟨Nat.le_of_ble_eq_true rfl, Nat.le_of_ble_eq_true rfl⟩) (m_preV hE hM g_x rfl) rfl rfl hl.1 rfl (lv_room (Nat.le_of_ble_eq_true rfl)) dL_law_226 ⟨(by show 22 + 2 * k + 0 ≤ 600000; omega), (by show 1339 + 42 * k + 0 ≤ 7302250; omega)⟩) hM hS hA (fun r1 u H locs hw hM hS => ?_)
  obtain ⟨e1, hC1, hk1⟩ := hw
  have hm1 := hB.mid hk1
  obtain ⟨fy, g_y⟩ := hm1.gy
  refine lv_aload_n hx hb dL_law_229 rfl (lv_at hl 2 rfl) ?_
  refine l_arg hL C0 hS hl 1 (by omega) (by decide) dL_law_230 dL_law_231 dL_law_232 dL_law_233 dL_law_234 ?_
  refine l_arg hL C0 hS hl 2 (by omega) (by decide) dL_law_235 dL_law_236 dL_law_237 dL_law_238 dL_law_239 ?_
  refine l_arg hL C0 hS hl 3 (by omega) (by decide) dL_law_240 dL_law_241 dL_law_242 dL_law_243 dL_law_244 ?_
  refine m_calli (va_runV (As := [.int (xs (7 * k + 1)), .int (xs (7 * k + 2)), .int (xs (7 * k + 3))]) (rest := [.int r1]) ⟨hx, hb, hml, hown, hts⟩ (c_X10_knob l E u H.size y b1 b2 b3 b4 b5 b6 b7 b8 b9 b10 b11 b12 b13 b14 b15 b16 nn nf ins fn bk rw bd st c2 c3 c4 hB.1 hm1 hnd (xs (7 * k + 1)) (xs (7 * k + 2)) (xs (7 * k + 3))) (cwV 3 hts gL_law_X10_knob rfl rfl rfl (by decide +kernel) ⟨Nat.le_of_ble_eq_true rfl, Nat.le_of_ble_eq_true rfl⟩) (m_preV hE hM g_y rfl) rfl rfl hl.1 rfl (lv_room (Nat.le_of_ble_eq_true rfl)) dL_law_245 ⟨(by show 22 + 2 * k + 0 + 0 ≤ 600000; omega), (by show 1339 + 42 * k + 0 + 0 ≤ 7302250; omega)⟩) hM hS hA (fun r2 u2 H locs hw hM hS => ?_)
  obtain ⟨e2, hm2, hk2⟩ := hw
  refine lv_icmp_eq (tgt := 920) hx hb dL_law_248 (by decide) (fun _ => ?_) (fun h9 => absurd (e1.trans e2.symm) h9)
  exact W.widen (by omega) (by omega) (kk u2 _ H locs (both.fin (Inv_knob hB.1 _ _ _) hC1 hm2 hk2) hM hS)
set_option maxHeartbeats 4000000 in
set_option maxRecDepth 100000 in
theorem law_phase {p : Program} {l : Launch} {e : Env} {s : State} {m : MethodId} {below : List Frame} {meth : Method} {c : Code} {b L : Nat} {xs : Nat → Int32} (hL : L ≤ 3584) (C0 : lw_At p s m meth c b L xs) {E : mEnv} (hE : mE E s) {x y b1 b2 b3 b4 b5 b6 b7 b8 b9 b10 b11 b12 b13 b14 b15 b16 k : Nat} (hnd : [y, b1, b2, b3, b4, b5, b6, b7, b8, b9, b10, b11, b12, b13, b14, b15, b16].Nodup) (hk : 7 * k + 7 ≤ L) {M : mMem} {σ : Sg} (hB : both E M x y b1 b2 b3 b4 b5 b6 b7 b8 b9 b10 b11 b12 b13 b14 b15 b16 σ) {H : Heap} {locs : List Loc} (hM : mOK E.1 (lA s) M H) (hS : va_S (lA s) s.heap H locs) {ls : Array Slot} (hl : lv_has ls 4 [(0, .ref b), (1, .ref x), (2, .ref y), (3, .int (nI (7 * k)))]) {Q : State → Prop}
    (kk : ∀ (M' : mMem) (σ' : Sg) (H' : Heap) (locs' : List Loc), both E M' x y b1 b2 b3 b4 b5 b6 b7 b8 b9 b10 b11 b12 b13 b14 b15 b16 σ' → mOK E.1 (lA s) M' H' → va_S (lA s) s.heap H' locs' → W p l e room_1 s m #[Value.ref b] below meth c H' locs' (22 + 2 * (k + 1)) (1339 + 42 * (k + 1)) Q (F0 m 920 ls [])) : W p l e room_1 s m #[Value.ref b] below meth c H locs (22 + 2 * k) (1339 + 42 * k) Q (F0 m 253 ls []) := by
  obtain ⟨hx, hb, hr, hml, hown, hts0, hX, hbl, hlocks, hgv⟩ := id C0
  have hts : ∀ w ∈ wsL_law, w.before #[Value.ref b] s = true := fun w h => hts0 w (wsL_law_in w h)
  have hown : s.vm.findClass RL = some m.cls := hown
  have hA : ∀ q : Nat, s.heap.size ≤ q → lA s q := fun _ h => h
  obtain ⟨nn, ins, nf, fn, bk, rw, bd, st, c2, c3, c4⟩ := σ
  obtain ⟨fx, g_x⟩ := hB.2.1.gx
  refine lv_aload_n hx hb dL_law_253 rfl (lv_at hl 1 rfl) ?_
  refine l_arg hL C0 hS hl 1 (by omega) (by decide) dL_law_254 dL_law_255 dL_law_256 dL_law_257 dL_law_258 ?_
  refine l_arg hL C0 hS hl 2 (by omega) (by decide) dL_law_259 dL_law_260 dL_law_261 dL_law_262 dL_law_263 ?_
  refine m_calli (va_runV (As := [.int (xs (7 * k + 1)), .int (xs (7 * k + 2))]) (rest := []) ⟨hx, hb, hml, hown, hts⟩ (c_X9_phase l E M H.size _ x nn nf ins fn bk rw bd st c2 c3 c4 hB.1 hB.2.1 hB.hO (xs (7 * k + 1)) (xs (7 * k + 2))) (cwV 2 hts gL_law_X9_phase rfl rfl rfl (by decide +kernel) ⟨Nat.le_of_ble_eq_true rfl, Nat.le_of_ble_eq_true rfl⟩) (m_preV hE hM g_x rfl) rfl rfl hl.1 rfl (lv_room (Nat.le_of_ble_eq_true rfl)) dL_law_264 ⟨(by show 22 + 2 * k + 0 ≤ 600000; omega), (by show 1339 + 42 * k + 0 ≤ 7302250; omega)⟩) hM hS hA (fun r1 u H locs hw hM hS => ?_)
  obtain ⟨e1, hC1, hk1⟩ := hw
  have hm1 := hB.mid hk1
  obtain ⟨fy, g_y⟩ := hm1.gy
  refine lv_aload_n hx hb dL_law_267 rfl (lv_at hl 2 rfl) ?_
  refine l_arg hL C0 hS hl 1 (by omega) (by decide) dL_law_268 dL_law_269 dL_law_270 dL_law_271 dL_law_272 ?_
  refine l_arg hL C0 hS hl 2 (by omega) (by decide) dL_law_273 dL_law_274 dL_law_275 dL_law_276 dL_law_277 ?_
  refine m_calli (va_runV (As := [.int (xs (7 * k + 1)), .int (xs (7 * k + 2))]) (rest := [.int r1]) ⟨hx, hb, hml, hown, hts⟩ (c_X10_phase l E u H.size y b1 b2 b3 b4 b5 b6 b7 b8 b9 b10 b11 b12 b13 b14 b15 b16 nn nf ins fn bk rw bd st c2 c3 c4 hB.1 hm1 hnd (xs (7 * k + 1)) (xs (7 * k + 2))) (cwV 2 hts gL_law_X10_phase rfl rfl rfl (by decide +kernel) ⟨Nat.le_of_ble_eq_true rfl, Nat.le_of_ble_eq_true rfl⟩) (m_preV hE hM g_y rfl) rfl rfl hl.1 rfl (lv_room (Nat.le_of_ble_eq_true rfl)) dL_law_278 ⟨(by show 22 + 2 * k + 0 + 0 ≤ 600000; omega), (by show 1339 + 42 * k + 0 + 0 ≤ 7302250; omega)⟩) hM hS hA (fun r2 u2 H locs hw hM hS => ?_)
  obtain ⟨e2, hm2, hk2⟩ := hw
  refine lv_icmp_eq (tgt := 920) hx hb dL_law_281 (by decide) (fun _ => ?_) (fun h9 => absurd (e1.trans e2.symm) h9)
  exact W.widen (by omega) (by omega) (kk u2 _ H locs (both.fin (Inv_phase hB.1 _ _) hC1 hm2 hk2) hM hS)
set_option maxHeartbeats 4000000 in
set_option maxRecDepth 100000 in
theorem law_table {p : Program} {l : Launch} {e : Env} {s : State} {m : MethodId} {below : List Frame} {meth : Method} {c : Code} {b L : Nat} {xs : Nat → Int32} (hL : L ≤ 3584) (C0 : lw_At p s m meth c b L xs) {E : mEnv} (hE : mE E s) {x y b1 b2 b3 b4 b5 b6 b7 b8 b9 b10 b11 b12 b13 b14 b15 b16 k : Nat} (hnd : [y, b1, b2, b3, b4, b5, b6, b7, b8, b9, b10, b11, b12, b13, b14, b15, b16].Nodup) (hk : 7 * k + 7 ≤ L) {M : mMem} {σ : Sg} (hB : both E M x y b1 b2 b3 b4 b5 b6 b7 b8 b9 b10 b11 b12 b13 b14 b15 b16 σ) {H : Heap} {locs : List Loc} (hM : mOK E.1 (lA s) M H) (hS : va_S (lA s) s.heap H locs) {ls : Array Slot} (hl : lv_has ls 4 [(0, .ref b), (1, .ref x), (2, .ref y), (3, .int (nI (7 * k)))]) {Q : State → Prop}
    (kk : ∀ (M' : mMem) (σ' : Sg) (H' : Heap) (locs' : List Loc), both E M' x y b1 b2 b3 b4 b5 b6 b7 b8 b9 b10 b11 b12 b13 b14 b15 b16 σ' → mOK E.1 (lA s) M' H' → va_S (lA s) s.heap H' locs' → W p l e room_1 s m #[Value.ref b] below meth c H' locs' (22 + 2 * (k + 1)) (1339 + 42 * (k + 1)) Q (F0 m 920 ls [])) : W p l e room_1 s m #[Value.ref b] below meth c H locs (22 + 2 * k) (1339 + 42 * k) Q (F0 m 286 ls []) := by
  obtain ⟨hx, hb, hr, hml, hown, hts0, hX, hbl, hlocks, hgv⟩ := id C0
  have hts : ∀ w ∈ wsL_law, w.before #[Value.ref b] s = true := fun w h => hts0 w (wsL_law_in w h)
  have hown : s.vm.findClass RL = some m.cls := hown
  have hA : ∀ q : Nat, s.heap.size ≤ q → lA s q := fun _ h => h
  obtain ⟨nn, ins, nf, fn, bk, rw, bd, st, c2, c3, c4⟩ := σ
  obtain ⟨fx, g_x⟩ := hB.2.1.gx
  refine lv_aload_n hx hb dL_law_286 rfl (lv_at hl 1 rfl) ?_
  refine l_arg hL C0 hS hl 1 (by omega) (by decide) dL_law_287 dL_law_288 dL_law_289 dL_law_290 dL_law_291 ?_
  refine l_arg hL C0 hS hl 2 (by omega) (by decide) dL_law_292 dL_law_293 dL_law_294 dL_law_295 dL_law_296 ?_
  refine l_arg hL C0 hS hl 3 (by omega) (by decide) dL_law_297 dL_law_298 dL_law_299 dL_law_300 dL_law_301 ?_
  refine l_bool C0 dL_law_302 dL_law_305 dL_law_306 dL_law_309 ?_
  refine m_calli (va_runV (As := [.int (xs (7 * k + 1)), .int (xs (7 * k + 2)), .int (bI (¬ xs (7 * k + 3) = 0))]) (rest := []) ⟨hx, hb, hml, hown, hts⟩ (c_X9_table l E M H.size _ x nn nf ins fn bk rw bd st c2 c3 c4 hB.1 hB.2.1 hB.hO (xs (7 * k + 1)) (xs (7 * k + 2)) (bI (¬ xs (7 * k + 3) = 0))) (cwV 3 hts gL_law_X9_table rfl rfl rfl (by decide +kernel) ⟨Nat.le_of_ble_eq_true rfl, Nat.le_of_ble_eq_true rfl⟩) (m_preV hE hM g_x rfl) rfl rfl hl.1 rfl (lv_room (Nat.le_of_ble_eq_true rfl)) dL_law_310 ⟨(by show 22 + 2 * k + 2 ≤ 600000; omega), (by show 1339 + 42 * k + 42 ≤ 7302250; omega)⟩) hM hS hA (fun r1 u H locs hw hM hS => ?_)
  obtain ⟨e1, hC1, hk1⟩ := hw
  have hm1 := hB.mid hk1
  obtain ⟨fy, g_y⟩ := hm1.gy
  refine lv_aload_n hx hb dL_law_313 rfl (lv_at hl 2 rfl) ?_
  refine l_arg hL C0 hS hl 1 (by omega) (by decide) dL_law_314 dL_law_315 dL_law_316 dL_law_317 dL_law_318 ?_
  refine l_arg hL C0 hS hl 2 (by omega) (by decide) dL_law_319 dL_law_320 dL_law_321 dL_law_322 dL_law_323 ?_
  refine l_arg hL C0 hS hl 3 (by omega) (by decide) dL_law_324 dL_law_325 dL_law_326 dL_law_327 dL_law_328 ?_
  refine l_bool C0 dL_law_329 dL_law_332 dL_law_333 dL_law_336 ?_
  refine m_calli (va_runV (As := [.int (xs (7 * k + 1)), .int (xs (7 * k + 2)), .int (bI (¬ xs (7 * k + 3) = 0))]) (rest := [.int r1]) ⟨hx, hb, hml, hown, hts⟩ (c_X10_table l E u H.size y b1 b2 b3 b4 b5 b6 b7 b8 b9 b10 b11 b12 b13 b14 b15 b16 nn nf ins fn bk rw bd st c2 c3 c4 hB.1 hm1 hnd (xs (7 * k + 1)) (xs (7 * k + 2)) (bI (¬ xs (7 * k + 3) = 0))) (cwV 3 hts gL_law_X10_table rfl rfl rfl (by decide +kernel) ⟨Nat.le_of_ble_eq_true rfl, Nat.le_of_ble_eq_true rfl⟩) (m_preV hE hM g_y rfl) rfl rfl hl.1 rfl (lv_room (Nat.le_of_ble_eq_true rfl)) dL_law_337 ⟨(by show 22 + 2 * k + 2 + 0 ≤ 600000; omega), (by show 1339 + 42 * k + 42 + 0 ≤ 7302250; omega)⟩) hM hS hA (fun r2 u2 H locs hw hM hS => ?_)
  obtain ⟨e2, hm2, hk2⟩ := hw
  refine lv_icmp_eq (tgt := 920) hx hb dL_law_340 (by decide) (fun _ => ?_) (fun h9 => absurd (e1.trans e2.symm) h9)
  exact W.widen (by omega) (by omega) (kk u2 _ H locs (both.fin (Inv_table hB.1 _ _ _) hC1 hm2 hk2) hM hS)
