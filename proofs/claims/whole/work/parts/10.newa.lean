section MW
variable {p : Program} {l : Launch} {e : Env} {R : Room} {s : State} {m : MethodId} {args : Array Value} {below : List Frame} {meth : Method} {c : Code} {H : Heap} {locs : List Loc} {cells slots : Nat} {Q : State → Prop}
variable {cc : ByteArray} {pc : Nat} {ls : Array Slot} {rest : List Value} {E : mEnv} {A : Nat → Prop} {H0 : Heap} {M : mMem}
theorem m_newI (hx : p.tables.exec = Jvm.exec) (hb : c.code = cc) (harr : (Cond.arrayClass .int).before args s = true) (hE : mE E s) (hM : mOK E.1 A M H) (hS : va_S A H0 H locs) (hA : ∀ q : Nat, H0.size ≤ q → A q)
    {n : Int32} {N' : Nat} (hn : ¬ n < 0) (hN : n.toNatClampNeg = N') (hle : N' ≤ 1000) (hcells : cells + 1 ≤ R.cells) (hslots : slots + N' ≤ R.slots) (hdg : decode cc pc = .ok (.newarray .int, 2))
    (kk : ∀ (q : Nat) (H1 : Heap), M q = none → mOK E.1 A (mUp M q (mI E N' (fun _ => 0))) H1 → va_S A H0 H1 locs → W p l e R s m args below meth c H1 locs (cells + 1) (slots + N') Q (F0 m (pc + 2) ls (.ref q :: rest))) : W p l e R s m args below meth c H locs cells slots Q (F0 m pc ls (.int n :: rest)) := by
  have hty : newarray.typeOf ArrayType.int = FieldType.int := rfl
  have h7 : 0 < (mTys E).length := by show 0 < 7; decide
  have ht : (mTys E)[0]? = some (E.2 0, FieldType.int) := rfl
  have hc : ∀ cA : ClassId, vp_cell cA (N', .inl (fun _ => 0)) = arrV cA N' (fun _ => defaultValue .int) := fun _ => rfl
  have hby : N' * componentBytes FieldType.int ≤ 536870912 := by show N' * 4 ≤ 536870912; omega
  exact m_newa (atype := .int) hx hb harr hty hE hM hS hA 0 h7 ht hc hn hN hby hcells hslots hdg kk
theorem m_newJ (hx : p.tables.exec = Jvm.exec) (hb : c.code = cc) (harr : (Cond.arrayClass .long).before args s = true) (hE : mE E s) (hM : mOK E.1 A M H) (hS : va_S A H0 H locs) (hA : ∀ q : Nat, H0.size ≤ q → A q)
    {n : Int32} {N' : Nat} (hn : ¬ n < 0) (hN : n.toNatClampNeg = N') (hle : N' ≤ 1000) (hcells : cells + 1 ≤ R.cells) (hslots : slots + N' ≤ R.slots) (hdg : decode cc pc = .ok (.newarray .long, 2))
    (kk : ∀ (q : Nat) (H1 : Heap), M q = none → mOK E.1 A (mUp M q (mJ E N' (fun _ => 0))) H1 → va_S A H0 H1 locs → W p l e R s m args below meth c H1 locs (cells + 1) (slots + N') Q (F0 m (pc + 2) ls (.ref q :: rest))) : W p l e R s m args below meth c H locs cells slots Q (F0 m pc ls (.int n :: rest)) := by
  have hty : newarray.typeOf ArrayType.long = FieldType.long := rfl
  have h7 : 1 < (mTys E).length := by show 1 < 7; decide
  have ht : (mTys E)[1]? = some (E.2 1, FieldType.long) := rfl
  have hc : ∀ cA : ClassId, vp_cell cA (N', .inr (.inl (fun _ => 0))) = arrV cA N' (fun _ => defaultValue .long) := fun _ => rfl
  have hby : N' * componentBytes FieldType.long ≤ 536870912 := by show N' * 8 ≤ 536870912; omega
  exact m_newa (atype := .long) hx hb harr hty hE hM hS hA 1 h7 ht hc hn hN hby hcells hslots hdg kk
theorem m_newD (hx : p.tables.exec = Jvm.exec) (hb : c.code = cc) (harr : (Cond.arrayClass .double).before args s = true) (hE : mE E s) (hM : mOK E.1 A M H) (hS : va_S A H0 H locs) (hA : ∀ q : Nat, H0.size ≤ q → A q)
    {n : Int32} {N' : Nat} (hn : ¬ n < 0) (hN : n.toNatClampNeg = N') (hle : N' ≤ 1000) (hcells : cells + 1 ≤ R.cells) (hslots : slots + N' ≤ R.slots) (hdg : decode cc pc = .ok (.newarray .double, 2))
    (kk : ∀ (q : Nat) (H1 : Heap), M q = none → mOK E.1 A (mUp M q (mDb E N' (fun _ => 0))) H1 → va_S A H0 H1 locs → W p l e R s m args below meth c H1 locs (cells + 1) (slots + N') Q (F0 m (pc + 2) ls (.ref q :: rest))) : W p l e R s m args below meth c H locs cells slots Q (F0 m pc ls (.int n :: rest)) := by
  have hty : newarray.typeOf ArrayType.double = FieldType.double := rfl
  have h7 : 2 < (mTys E).length := by show 2 < 7; decide
  have ht : (mTys E)[2]? = some (E.2 2, FieldType.double) := rfl
  have hc : ∀ cA : ClassId, vp_cell cA (N', .inr (.inr (.inr (.inl (fun _ => 0))))) = arrV cA N' (fun _ => defaultValue .double) := fun _ => rfl
  have hby : N' * componentBytes FieldType.double ≤ 536870912 := by show N' * 8 ≤ 536870912; omega
  exact m_newa (atype := .double) hx hb harr hty hE hM hS hA 2 h7 ht hc hn hN hby hcells hslots hdg kk
theorem m_newZ (hx : p.tables.exec = Jvm.exec) (hb : c.code = cc) (harr : (Cond.arrayClass .boolean).before args s = true) (hE : mE E s) (hM : mOK E.1 A M H) (hS : va_S A H0 H locs) (hA : ∀ q : Nat, H0.size ≤ q → A q)
    {n : Int32} {N' : Nat} (hn : ¬ n < 0) (hN : n.toNatClampNeg = N') (hle : N' ≤ 1000) (hcells : cells + 1 ≤ R.cells) (hslots : slots + N' ≤ R.slots) (hdg : decode cc pc = .ok (.newarray .boolean, 2))
    (kk : ∀ (q : Nat) (H1 : Heap), M q = none → mOK E.1 A (mUp M q (mZ E N' (fun _ => 0))) H1 → va_S A H0 H1 locs → W p l e R s m args below meth c H1 locs (cells + 1) (slots + N') Q (F0 m (pc + 2) ls (.ref q :: rest))) : W p l e R s m args below meth c H locs cells slots Q (F0 m pc ls (.int n :: rest)) := by
  have hty : newarray.typeOf ArrayType.boolean = FieldType.boolean := rfl
  have h7 : 3 < (mTys E).length := by show 3 < 7; decide
  have ht : (mTys E)[3]? = some (E.2 3, FieldType.boolean) := rfl
  have hc : ∀ cA : ClassId, vp_cell cA (N', .inl (fun _ => 0)) = arrV cA N' (fun _ => defaultValue .boolean) := fun _ => rfl
  have hby : N' * componentBytes FieldType.boolean ≤ 536870912 := by show N' * 1 ≤ 536870912; omega
  exact m_newa (atype := .boolean) hx hb harr hty hE hM hS hA 3 h7 ht hc hn hN hby hcells hslots hdg kk
end MW
