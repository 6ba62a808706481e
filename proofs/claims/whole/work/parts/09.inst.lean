/-! INSTRUMENTS OF ANY KIND: their five classes lay out the same fields -/
def insK (ci : Nat) : Prop := ci = 0 ∨ ci = 1 ∨ ci = 3 ∨ ci = 4 ∨ ci = 6
theorem TXe2 : ∀ k, k < 7 → TX2 k = TX0 k := by decide +kernel
theorem TXe4 : ∀ k, k < 7 → TX4 k = TX0 k := by decide +kernel
theorem TXe6 : ∀ k, k < 7 → TX6 k = TX0 k := by decide +kernel
theorem TXe8 : ∀ k, k < 7 → TX8 k = TX0 k := by decide +kernel
section MI
variable {p : Program} {l : Launch} {e : Env} {R : Room} {s : State} {m : MethodId} {args : Array Value} {below : List Frame} {meth : Method} {c : Code} {H : Heap} {locs : List Loc} {cells slots : Nat} {Q : State → Prop}
variable {cc : ByteArray} {pc : Nat} {ls : Array Slot} {rest : List Value} {E : mEnv} {A : Nat → Prop} {a : Nat} {H0 : Heap} {M : mMem} {Ts : List Cond}
abbrev wsI : List Cond := wsX00 ++ wsX20 ++ wsX40 ++ wsX60 ++ wsX80
theorem wsI_0 (h : ∀ w ∈ wsI, w ∈ Ts) : ∀ w ∈ wsX00, w ∈ Ts := fun w q => h w (List.mem_append_left _ (List.mem_append_left _ (List.mem_append_left _ (List.mem_append_left _ q))))
theorem wsI_2 (h : ∀ w ∈ wsI, w ∈ Ts) : ∀ w ∈ wsX20, w ∈ Ts := fun w q => h w (List.mem_append_left _ (List.mem_append_left _ (List.mem_append_left _ (List.mem_append_right _ q))))
theorem wsI_4 (h : ∀ w ∈ wsI, w ∈ Ts) : ∀ w ∈ wsX40, w ∈ Ts := fun w q => h w (List.mem_append_left _ (List.mem_append_left _ (List.mem_append_right _ q)))
theorem wsI_6 (h : ∀ w ∈ wsI, w ∈ Ts) : ∀ w ∈ wsX60, w ∈ Ts := fun w q => h w (List.mem_append_left _ (List.mem_append_right _ q))
theorem wsI_8 (h : ∀ w ∈ wsI, w ∈ Ts) : ∀ w ∈ wsX80, w ∈ Ts := fun w q => h w (List.mem_append_right _ q)
theorem m_getI (hx : p.tables.exec = Jvm.exec) (hb : c.code = cc) {own ref : String} {ci index : Nat} (hts : ∀ w ∈ Ts, w.before args s = true) (hin : ∀ w ∈ wsI, w ∈ Ts) (hown : s.vm.findClass own = some m.cls) (hE : mE E s) (hM : mOK E.1 A M H) {fs : List Value} (ha : M a = some (.inr (ci, fs))) (hci : insK ci) (k : Nat) (hk : k < 7) (hlink : (Cond.fieldLink own index ref (TX0 k).2.1 (TX0 k).2.2.1).before args s = true) (hsame : ∀ x, s.fieldFound? (TX0 k).1 (TX0 k).2.1 (TX0 k).2.2.1 = some x → s.fieldFound? ref (TX0 k).2.1 (TX0 k).2.2.1 = some x) {v : Value} (hv : fs[k]? = some v) (hdg : decode cc pc = .ok (.getfield index, 3))
    (kk : W p l e R s m args below meth c H locs cells slots Q (F0 m (pc + 3) ls (v :: rest))) : W p l e R s m args below meth c H locs cells slots Q (F0 m pc ls (.ref a :: rest)) := by
  rcases hci with rfl | rfl | rfl | rfl | rfl
  · exact m_get (C := RX0) (T := TX0) (N := 7) hx hb hts (wsI_0 hin) hown hE hM ha rfl k hk hlink hsame hv hdg kk
  · rw [← TXe2 k hk] at hlink hsame
    exact m_get (C := RX2) (T := TX2) (N := 7) hx hb hts (wsI_2 hin) hown hE hM ha rfl k hk hlink hsame hv hdg kk
  · rw [← TXe4 k hk] at hlink hsame
    exact m_get (C := RX4) (T := TX4) (N := 7) hx hb hts (wsI_4 hin) hown hE hM ha rfl k hk hlink hsame hv hdg kk
  · rw [← TXe6 k hk] at hlink hsame
    exact m_get (C := RX6) (T := TX6) (N := 7) hx hb hts (wsI_6 hin) hown hE hM ha rfl k hk hlink hsame hv hdg kk
  · rw [← TXe8 k hk] at hlink hsame
    exact m_get (C := RX8) (T := TX8) (N := 7) hx hb hts (wsI_8 hin) hown hE hM ha rfl k hk hlink hsame hv hdg kk
theorem m_putI (hx : p.tables.exec = Jvm.exec) (hb : c.code = cc) {own ref : String} {ci index : Nat} (hts : ∀ w ∈ Ts, w.before args s = true) (hin : ∀ w ∈ wsI, w ∈ Ts) (hown : s.vm.findClass own = some m.cls) (hE : mE E s) (hM : mOK E.1 A M H) (hS : va_S A H0 H locs) {fs : List Value} (ha : M a = some (.inr (ci, fs))) (hci : insK ci) (k : Nat) (hk : k < 7) (hlink : (Cond.fieldLink own index ref (TX0 k).2.1 (TX0 k).2.2.1).before args s = true) (hsame : ∀ x, s.fieldFound? (TX0 k).1 (TX0 k).2.1 (TX0 k).2.2.1 = some x → s.fieldFound? ref (TX0 k).2.1 (TX0 k).2.2.1 = some x) (hfin : (TX0 k).2.2.2 = false) {ty : FieldType} {v : Value} (hd : parseFieldDescriptor (TX0 k).2.2.1 = some ty) (hn : narrow ty v = v) (hfit : fits ty v = true) (hl : k < fs.length)
    (hdg : decode cc pc = .ok (.putfield index, 3)) (kk : ∀ (H1 : Heap) (locs1 : List Loc), mOK E.1 A (mUp M a (.inr (ci, fs.set k v))) H1 → va_S A H0 H1 locs1 → W p l e R s m args below meth c H1 locs1 cells slots Q (F0 m (pc + 3) ls rest)) : W p l e R s m args below meth c H locs cells slots Q (F0 m pc ls (v :: .ref a :: rest)) := by
  rcases hci with rfl | rfl | rfl | rfl | rfl
  · exact m_put (C := RX0) (T := TX0) (N := 7) hx hb hts (wsI_0 hin) tyX0 tyX0_ok nmX0 hown hE hM hS ha rfl k hk hlink hsame hfin hd hn hfit hl hdg kk
  · rw [← TXe2 k hk] at hlink hsame hfin hd
    exact m_put (C := RX2) (T := TX2) (N := 7) hx hb hts (wsI_2 hin) tyX2 tyX2_ok nmX2 hown hE hM hS ha rfl k hk hlink hsame hfin hd hn hfit hl hdg kk
  · rw [← TXe4 k hk] at hlink hsame hfin hd
    exact m_put (C := RX4) (T := TX4) (N := 7) hx hb hts (wsI_4 hin) tyX4 tyX4_ok nmX4 hown hE hM hS ha rfl k hk hlink hsame hfin hd hn hfit hl hdg kk
  · rw [← TXe6 k hk] at hlink hsame hfin hd
    exact m_put (C := RX6) (T := TX6) (N := 7) hx hb hts (wsI_6 hin) tyX6 tyX6_ok nmX6 hown hE hM hS ha rfl k hk hlink hsame hfin hd hn hfit hl hdg kk
  · rw [← TXe8 k hk] at hlink hsame hfin hd
    exact m_put (C := RX8) (T := TX8) (N := 7) hx hb hts (wsI_8 hin) tyX8 tyX8_ok nmX8 hown hE hM hS ha rfl k hk hlink hsame hfin hd hn hfit hl hdg kk
theorem m_putFI (hx : p.tables.exec = Jvm.exec) (hb : c.code = cc) {own ref : String} {ci index : Nat} (hts : ∀ w ∈ Ts, w.before args s = true) (hin : ∀ w ∈ wsI, w ∈ Ts) (hown : s.vm.findClass own = some m.cls) (hE : mE E s) (hM : mOK E.1 A M H) (hS : va_S A H0 H locs) {fs : List Value} (ha : M a = some (.inr (ci, fs))) (hci : insK ci) (k : Nat) (hk : k < 7) (hlink : (Cond.fieldLink own index ref (TX0 k).2.1 (TX0 k).2.2.1).before args s = true) (hsame : ∀ x, s.fieldFound? (TX0 k).1 (TX0 k).2.1 (TX0 k).2.2.1 = some x → s.fieldFound? ref (TX0 k).2.1 (TX0 k).2.2.1 = some x) (hfin : (TX0 k).2.2.2 = true) (hin2 : meth.name = "<init>") (hdecl : (TX0 k).1 = own) {ty : FieldType} {v : Value} (hd : parseFieldDescriptor (TX0 k).2.2.1 = some ty) (hn : narrow ty v = v) (hfit : fits ty v = true) (hl : k < fs.length)
    (hdg : decode cc pc = .ok (.putfield index, 3)) (kk : ∀ (H1 : Heap) (locs1 : List Loc), mOK E.1 A (mUp M a (.inr (ci, fs.set k v))) H1 → va_S A H0 H1 locs1 → W p l e R s m args below meth c H1 locs1 cells slots Q (F0 m (pc + 3) ls rest)) : W p l e R s m args below meth c H locs cells slots Q (F0 m pc ls (v :: .ref a :: rest)) := by
  rcases hci with rfl | rfl | rfl | rfl | rfl
  · exact m_putF (C := RX0) (T := TX0) (N := 7) hx hb hts (wsI_0 hin) tyX0 tyX0_ok nmX0 hown hE hM hS ha rfl k hk hlink hsame hfin hin2 hdecl hd hn hfit hl hdg kk
  · rw [← TXe2 k hk] at hlink hsame hfin hd hdecl
    exact m_putF (C := RX2) (T := TX2) (N := 7) hx hb hts (wsI_2 hin) tyX2 tyX2_ok nmX2 hown hE hM hS ha rfl k hk hlink hsame hfin hin2 hdecl hd hn hfit hl hdg kk
  · rw [← TXe4 k hk] at hlink hsame hfin hd hdecl
    exact m_putF (C := RX4) (T := TX4) (N := 7) hx hb hts (wsI_4 hin) tyX4 tyX4_ok nmX4 hown hE hM hS ha rfl k hk hlink hsame hfin hin2 hdecl hd hn hfit hl hdg kk
  · rw [← TXe6 k hk] at hlink hsame hfin hd hdecl
    exact m_putF (C := RX6) (T := TX6) (N := 7) hx hb hts (wsI_6 hin) tyX6 tyX6_ok nmX6 hown hE hM hS ha rfl k hk hlink hsame hfin hin2 hdecl hd hn hfit hl hdg kk
  · rw [← TXe8 k hk] at hlink hsame hfin hd hdecl
    exact m_putF (C := RX8) (T := TX8) (N := 7) hx hb hts (wsI_8 hin) tyX8 tyX8_ok nmX8 hown hE hM hS ha rfl k hk hlink hsame hfin hin2 hdecl hd hn hfit hl hdg kk
end MI
theorem m_preI {E : mEnv} {M : mMem} {s : State} {H : Heap} {A : Nat → Prop} {As : List Value} {b : Nat} (hE : mE E s) (hM : mOK E.1 A M H) : PreS s H (mPre E M H.size (.ref b :: As)) (.ref b :: As) := m_preS hE hM
/-! WHAT AN INSTRUMENT GIVES: its failure (0: none), the sample, the level behind it -/
def sTone (pi on ph : Int32) : UInt64 := if on = 0 then FP.dconst0 else FP.i2d (ph * pi - ph * pi / 256 * 256 - 128)
def sDrum (k1 : Int32) (le : UInt64) : Int32 × UInt64 × UInt64 := if k1 = 0 then (-4, FP.dconst0, le) else (0, le, FP.ddiv (FP.dmul le (FP.i2d (1000 / k1))) 4652007308841189376)
abbrev tbT : Type := Option (Int32 × Nat × (Nat → UInt64))
def sRead (k0 on ph : Int32) (tb : tbT) : Int32 × UInt64 :=
  if on = 0 ∧ ¬ 0 ≤ ph - ph / 8 * 8 then (-8, FP.dconst0) else match tb with
  | none => (-5, FP.dconst0)
  | some t => if t.1 = 1 then (if ¬ ph + k0 < 0 ∧ ¬ nI t.2.1 ≤ ph + k0 then (0, t.2.2 (ph + k0).toNatClampNeg) else (-7, FP.dconst0)) else (-6, FP.dconst0)
def sBell (k1 k2 ph : Int32) (le : UInt64) : Int32 × UInt64 × UInt64 := if ph = k2 then (-3, FP.dconst0, le) else ((sDrum k1 le).1, (if ph &&& 1 = 0 then (sDrum k1 le).2.1 else FP.dmul 13830554455654793216 (sDrum k1 le).2.1), (sDrum k1 le).2.2)
def sGive (ci : Nat) (kf : Nat → Int32) (pi on ph : Int32) (le : UInt64) (tb : tbT) : Int32 × UInt64 × UInt64 :=
  if ci = 6 then (0, sTone pi on ph, le) else if ci = 3 then (0, FP.dadd (FP.dmul 4611686018427387904 (sTone pi on ph)) (FP.i2d (kf 0)), le)
  else if ci = 1 then sDrum (kf 1) le else if ci = 0 then sBell (kf 1) (kf 2) ph le else ((sRead (kf 0) on ph tb).1, (sRead (kf 0) on ph tb).2, le)
/-- a table's address, and what lies there -/
def tbAt (E : mEnv) (M : mMem) (tab : Option Nat) (tb : tbT) : Prop := match tab, tb with
  | none, none => True
  | some t, some d => ∃ v : Nat, M t = some (mO 5 [.int d.1, .ref v]) ∧ M v = some (mDb E d.2.1 d.2.2)
  | _, _ => False
theorem dB_tone (pi on ph : Int32) : dB 1056 (sTone pi on ph) := by
  unfold sTone
  split
  · unfold dB; decide
  · exact dB_i2d _
theorem dL_drum {k1 : Int32} {le : UInt64} (h : dL le) : dL (sDrum k1 le).2.1 ∧ dL (sDrum k1 le).2.2 := by
  unfold sDrum
  split
  · exact ⟨dL_0, h⟩
  · rename_i hk
    exact ⟨h, dL_step h (div1000 hk)⟩
