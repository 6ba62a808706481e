section
-- ===== PART A: goes FIRST, ahead of the names: the tables' words, and 'selects' of the private methods out of them =====
/-- a private method of a class that the tables say can be made, by its rows of tables_1 -/
def lw_okq (q : MethodName × Nat) : Prop := (q.1.cls ≠ "java/lang/invoke/MethodHandle" ∧ q.1.cls ≠ "java/lang/invoke/VarHandle") ∧ Cond.instantiable q.1.cls q.2 ∈ tables_1 ∧ Cond.privateMethod q.1 ∈ tables_1 ∧ Cond.instanceMethod q.1 ∈ tables_1
theorem lw_p0 : lw_okq (⟨"CallWays2", "instrumentAt", "(I)LCallWays2$Instrument;"⟩, 11) := ⟨⟨by decide +kernel, by decide +kernel⟩, List.mem_of_getElem? (i := 16) (by decide +kernel), List.mem_of_getElem? (i := 193) (by decide +kernel), List.mem_of_getElem? (i := 194) (by decide +kernel)⟩
theorem lw_p1 : lw_okq (⟨"CallWays2", "heldBy", "(I)LCallWays2$Samples;"⟩, 11) := ⟨⟨by decide +kernel, by decide +kernel⟩, List.mem_of_getElem? (i := 16) (by decide +kernel), List.mem_of_getElem? (i := 224) (by decide +kernel), List.mem_of_getElem? (i := 225) (by decide +kernel)⟩
theorem lw_p2 : lw_okq (⟨"CallWays2", "againstPlace", "(II)I"⟩, 11) := ⟨⟨by decide +kernel, by decide +kernel⟩, List.mem_of_getElem? (i := 16) (by decide +kernel), List.mem_of_getElem? (i := 283) (by decide +kernel), List.mem_of_getElem? (i := 284) (by decide +kernel)⟩
theorem lw_p3 : lw_okq (⟨"CallWays2$Samples", "turned", "(D)D"⟩, 2) := ⟨⟨by decide +kernel, by decide +kernel⟩, List.mem_of_getElem? (i := 235) (by decide +kernel), List.mem_of_getElem? (i := 319) (by decide +kernel), List.mem_of_getElem? (i := 320) (by decide +kernel)⟩
theorem lw_p4 : lw_okq (⟨"CallWays2", "functionAt", "(I)LCallWays2$Function;"⟩, 11) := ⟨⟨by decide +kernel, by decide +kernel⟩, List.mem_of_getElem? (i := 16) (by decide +kernel), List.mem_of_getElem? (i := 358) (by decide +kernel), List.mem_of_getElem? (i := 359) (by decide +kernel)⟩
theorem lw_p5 : lw_okq (⟨"CallWays2", "againstBlock", "(LCallWays2$Samples;III)I"⟩, 11) := ⟨⟨by decide +kernel, by decide +kernel⟩, List.mem_of_getElem? (i := 16) (by decide +kernel), List.mem_of_getElem? (i := 362) (by decide +kernel), List.mem_of_getElem? (i := 363) (by decide +kernel)⟩
theorem lw_p6 : lw_okq (⟨"CallWays2", "gather", "(LCallWays2$Instrument;LCallWays2$Function;I)I"⟩, 11) := ⟨⟨by decide +kernel, by decide +kernel⟩, List.mem_of_getElem? (i := 16) (by decide +kernel), List.mem_of_getElem? (i := 366) (by decide +kernel), List.mem_of_getElem? (i := 367) (by decide +kernel)⟩
theorem lw_p7 : lw_okq (⟨"CallWays2", "deliver", "(LCallWays2$Samples;III)V"⟩, 11) := ⟨⟨by decide +kernel, by decide +kernel⟩, List.mem_of_getElem? (i := 16) (by decide +kernel), List.mem_of_getElem? (i := 424) (by decide +kernel), List.mem_of_getElem? (i := 425) (by decide +kernel)⟩
theorem lw_p8 : lw_okq (⟨"CallWays2Model", "isInstrument", "(I)Z"⟩, 21) := ⟨⟨by decide +kernel, by decide +kernel⟩, List.mem_of_getElem? (i := 461) (by decide +kernel), List.mem_of_getElem? (i := 544) (by decide +kernel), List.mem_of_getElem? (i := 545) (by decide +kernel)⟩
theorem lw_p9 : lw_okq (⟨"CallWays2Model", "copyOf", "(I)I"⟩, 21) := ⟨⟨by decide +kernel, by decide +kernel⟩, List.mem_of_getElem? (i := 461) (by decide +kernel), List.mem_of_getElem? (i := 560) (by decide +kernel), List.mem_of_getElem? (i := 561) (by decide +kernel)⟩
theorem lw_p10 : lw_okq (⟨"CallWays2Model", "freshRow", "(II)I"⟩, 21) := ⟨⟨by decide +kernel, by decide +kernel⟩, List.mem_of_getElem? (i := 461) (by decide +kernel), List.mem_of_getElem? (i := 564) (by decide +kernel), List.mem_of_getElem? (i := 565) (by decide +kernel)⟩
theorem lw_p11 : lw_okq (⟨"CallWays2Model", "reach", "(II)I"⟩, 21) := ⟨⟨by decide +kernel, by decide +kernel⟩, List.mem_of_getElem? (i := 461) (by decide +kernel), List.mem_of_getElem? (i := 588) (by decide +kernel), List.mem_of_getElem? (i := 589) (by decide +kernel)⟩
theorem lw_p12 : lw_okq (⟨"CallWays2Model", "says", "(I)I"⟩, 21) := ⟨⟨by decide +kernel, by decide +kernel⟩, List.mem_of_getElem? (i := 461) (by decide +kernel), List.mem_of_getElem? (i := 592) (by decide +kernel), List.mem_of_getElem? (i := 593) (by decide +kernel)⟩
theorem lw_p13 : lw_okq (⟨"CallWays2Model", "sample", "(I)D"⟩, 21) := ⟨⟨by decide +kernel, by decide +kernel⟩, List.mem_of_getElem? (i := 461) (by decide +kernel), List.mem_of_getElem? (i := 639) (by decide +kernel), List.mem_of_getElem? (i := 640) (by decide +kernel)⟩
theorem lw_p14 : lw_okq (⟨"CallWays2Model", "tone", "(II)D"⟩, 21) := ⟨⟨by decide +kernel, by decide +kernel⟩, List.mem_of_getElem? (i := 461) (by decide +kernel), List.mem_of_getElem? (i := 643) (by decide +kernel), List.mem_of_getElem? (i := 644) (by decide +kernel)⟩
theorem lw_p15 : lw_okq (⟨"CallWays2Model", "drum", "(I)D"⟩, 21) := ⟨⟨by decide +kernel, by decide +kernel⟩, List.mem_of_getElem? (i := 461) (by decide +kernel), List.mem_of_getElem? (i := 648) (by decide +kernel), List.mem_of_getElem? (i := 649) (by decide +kernel)⟩
def lw_privs_1 : List (MethodName × Nat) := [(⟨"CallWays2", "instrumentAt", "(I)LCallWays2$Instrument;"⟩, 11), (⟨"CallWays2", "heldBy", "(I)LCallWays2$Samples;"⟩, 11), (⟨"CallWays2", "againstPlace", "(II)I"⟩, 11), (⟨"CallWays2$Samples", "turned", "(D)D"⟩, 2), (⟨"CallWays2", "functionAt", "(I)LCallWays2$Function;"⟩, 11), (⟨"CallWays2", "againstBlock", "(LCallWays2$Samples;III)I"⟩, 11), (⟨"CallWays2", "gather", "(LCallWays2$Instrument;LCallWays2$Function;I)I"⟩, 11), (⟨"CallWays2", "deliver", "(LCallWays2$Samples;III)V"⟩, 11), (⟨"CallWays2Model", "isInstrument", "(I)Z"⟩, 21), (⟨"CallWays2Model", "copyOf", "(I)I"⟩, 21), (⟨"CallWays2Model", "freshRow", "(II)I"⟩, 21), (⟨"CallWays2Model", "reach", "(II)I"⟩, 21), (⟨"CallWays2Model", "says", "(I)I"⟩, 21), (⟨"CallWays2Model", "sample", "(I)D"⟩, 21), (⟨"CallWays2Model", "tone", "(II)D"⟩, 21), (⟨"CallWays2Model", "drum", "(I)D"⟩, 21)]
theorem lw_r1 : ∀ q ∈ lw_privs_1, lw_okq q := List.forall_mem_cons.mpr ⟨lw_p0, List.forall_mem_cons.mpr ⟨lw_p1, List.forall_mem_cons.mpr ⟨lw_p2, List.forall_mem_cons.mpr ⟨lw_p3, List.forall_mem_cons.mpr ⟨lw_p4, List.forall_mem_cons.mpr ⟨lw_p5, List.forall_mem_cons.mpr ⟨lw_p6, List.forall_mem_cons.mpr ⟨lw_p7, List.forall_mem_cons.mpr ⟨lw_p8, List.forall_mem_cons.mpr ⟨lw_p9, List.forall_mem_cons.mpr ⟨lw_p10, List.forall_mem_cons.mpr ⟨lw_p11, List.forall_mem_cons.mpr ⟨lw_p12, List.forall_mem_cons.mpr ⟨lw_p13, List.forall_mem_cons.mpr ⟨lw_p14, List.forall_mem_cons.mpr ⟨lw_p15, fun _ h => absurd h List.not_mem_nil⟩⟩⟩⟩⟩⟩⟩⟩⟩⟩⟩⟩⟩⟩⟩⟩
theorem lw_p16 : lw_okq (⟨"CallWays2Model", "failed", "(I)D"⟩, 21) := ⟨⟨by decide +kernel, by decide +kernel⟩, List.mem_of_getElem? (i := 461) (by decide +kernel), List.mem_of_getElem? (i := 652) (by decide +kernel), List.mem_of_getElem? (i := 653) (by decide +kernel)⟩
theorem lw_p17 : lw_okq (⟨"CallWays2Model", "reader", "(II)D"⟩, 21) := ⟨⟨by decide +kernel, by decide +kernel⟩, List.mem_of_getElem? (i := 461) (by decide +kernel), List.mem_of_getElem? (i := 658) (by decide +kernel), List.mem_of_getElem? (i := 659) (by decide +kernel)⟩
theorem lw_p18 : lw_okq (⟨"CallWays2Model", "through", "(ID)D"⟩, 21) := ⟨⟨by decide +kernel, by decide +kernel⟩, List.mem_of_getElem? (i := 461) (by decide +kernel), List.mem_of_getElem? (i := 662) (by decide +kernel), List.mem_of_getElem? (i := 663) (by decide +kernel)⟩
def lw_privs_2 : List (MethodName × Nat) := [(⟨"CallWays2Model", "failed", "(I)D"⟩, 21), (⟨"CallWays2Model", "reader", "(II)D"⟩, 21), (⟨"CallWays2Model", "through", "(ID)D"⟩, 21)]
theorem lw_r2 : ∀ q ∈ lw_privs_2, lw_okq q := List.forall_mem_cons.mpr ⟨lw_p16, List.forall_mem_cons.mpr ⟨lw_p17, List.forall_mem_cons.mpr ⟨lw_p18, fun _ h => absurd h List.not_mem_nil⟩⟩⟩
def lw_privs : List (MethodName × Nat) := lw_privs_1 ++ (lw_privs_2)
def lw_tbl : List Cond := k2_sels lw_privs ++ tables_1
theorem lw_privs_ok : ∀ q ∈ lw_privs, lw_okq q := by
  show ∀ q ∈ lw_privs_1 ++ (lw_privs_2), lw_okq q
  exact List.forall_mem_append.mpr ⟨lw_r1, lw_r2⟩
/-- the streams that the claim lets the run draw from -/
abbrev lw_cs : List Choice := [Jvm.Choice.named "NaN.bits"]
theorem lw_bits : nanBits ∈ lw_cs := by first | decide | exact List.mem_cons_self | simp [lw_cs, nanBits]
/-! ===== BEGIN words of one list among another's, by their places ===== -/
theorem goodIn_r {big : List Cond} (ws : List Cond) (ps : List Nat) (hp : ws = ps.filterMap (fun i => big[i]?)) (h : ws.all goodWord = true) : GoodIn big ws := by
  intro w hw
  have h1 := List.all_eq_true.mp h w hw
  rw [hp] at hw
  obtain ⟨i, -, hi⟩ := List.mem_filterMap.mp hw
  have hm : w ∈ big := by first | exact List.mem_of_getElem? hi | exact List.getElem?_mem hi
  exact ⟨hm, good_of_word h1⟩
theorem goodIn_app {big a b : List Cond} (ha : GoodIn big a) (hb : GoodIn big b) : GoodIn big (a ++ b) := fun w h => (List.mem_append.mp h).elim (ha w) (hb w)
theorem goodIn_ca {big a b : List Cond} {c : Cond} (ha : GoodIn big (c :: a)) (hb : GoodIn big b) : GoodIn big (c :: (a ++ b)) := fun w h => (List.mem_cons.mp h).elim (fun e => ha w (List.mem_cons.mpr (Or.inl e))) (fun h => (List.mem_append.mp h).elim (fun h => ha w (List.mem_cons.mpr (Or.inr h))) (hb w))
theorem goodIn_sub {big ws : List Cond} (hm : ∀ w ∈ ws, w ∈ big) (h : ws.all goodWord = true) : GoodIn big ws := fun w hw => ⟨hm w hw, good_of_word (List.all_eq_true.mp h w hw)⟩
/-! ===== END ===== -/

/-! ===== BEGIN printed: names, fields, word lists, decode rows ===== -/
def RX0 : String := "CallWays2$Bell"
def TX0 : u_T := fun k => match k with
  | 0 => ("CallWays2$Instrument", "knobs", "[I", true)
  | 1 => ("CallWays2$Instrument", "pitch", "I", false)
  | 2 => ("CallWays2$Instrument", "on", "Z", false)
  | 3 => ("CallWays2$Instrument", "phase", "I", false)
  | 4 => ("CallWays2$Instrument", "level", "D", false)
  | 5 => ("CallWays2$Instrument", "table", "LCallWays2$Samples;", false)
  | _ => ("CallWays2$Instrument", "failure", "I", false)
def tyX0 : Nat → FieldType := fun k => match k with
  | 0 => .array .int
  | 1 => .int
  | 2 => .boolean
  | 3 => .int
  | 4 => .double
  | 5 => .object "CallWays2$Samples"
  | _ => .int
abbrev wsX00 : List Cond := u_ws RX0 TX0 7
theorem nmX0 : ∀ a, a < 7 → ∀ b, b < 7 → a ≠ b → (TX0 a).2.1 ≠ (TX0 b).2.1 := by decide +kernel
theorem tyX0_ok : ∀ k, k < 7 → parseFieldDescriptor (TX0 k).2.2.1 = some (tyX0 k) := by decide +kernel
abbrev cX0_init : ByteArray := prog_2_method_1_code
def yX0_init : MethodName := ⟨RX0, "<init>", "()V"⟩
abbrev cX0_give : ByteArray := prog_2_method_2_code
def yX0_give : MethodName := ⟨RX0, "give", "()D"⟩
def RX1 : String := "CallWays2$Bits"
def TX1 : u_T := fun k => match k with
  | _ => ("", "", "", false)
def tyX1 : Nat → FieldType := fun k => match k with
  | _ => .int
abbrev wsX10 : List Cond := u_ws RX1 TX1 0
theorem nmX1 : ∀ a, a < 0 → ∀ b, b < 0 → a ≠ b → (TX1 a).2.1 ≠ (TX1 b).2.1 := by decide +kernel
theorem tyX1_ok : ∀ k, k < 0 → parseFieldDescriptor (TX1 k).2.2.1 = some (tyX1 k) := by decide +kernel
abbrev cX1_ofDouble : ByteArray := prog_3_method_2_code
def yX1_ofDouble : MethodName := ⟨RX1, "ofDouble", "(D)J"⟩
abbrev cX1_ofFloat : ByteArray := prog_3_method_3_code
def yX1_ofFloat : MethodName := ⟨RX1, "ofFloat", "(D)I"⟩
abbrev cX1_isNegative : ByteArray := prog_3_method_4_code
def yX1_isNegative : MethodName := ⟨RX1, "isNegative", "(D)Z"⟩
abbrev cX1_magnitude : ByteArray := prog_3_method_5_code
def yX1_magnitude : MethodName := ⟨RX1, "magnitude", "(DII)J"⟩
def RX2 : String := "CallWays2$Drum"
def TX2 : u_T := fun k => match k with
  | 0 => ("CallWays2$Instrument", "knobs", "[I", true)
  | 1 => ("CallWays2$Instrument", "pitch", "I", false)
  | 2 => ("CallWays2$Instrument", "on", "Z", false)
  | 3 => ("CallWays2$Instrument", "phase", "I", false)
  | 4 => ("CallWays2$Instrument", "level", "D", false)
  | 5 => ("CallWays2$Instrument", "table", "LCallWays2$Samples;", false)
  | _ => ("CallWays2$Instrument", "failure", "I", false)
def tyX2 : Nat → FieldType := fun k => match k with
  | 0 => .array .int
  | 1 => .int
  | 2 => .boolean
  | 3 => .int
  | 4 => .double
  | 5 => .object "CallWays2$Samples"
  | _ => .int
abbrev wsX20 : List Cond := u_ws RX2 TX2 7
theorem nmX2 : ∀ a, a < 7 → ∀ b, b < 7 → a ≠ b → (TX2 a).2.1 ≠ (TX2 b).2.1 := by decide +kernel
theorem tyX2_ok : ∀ k, k < 7 → parseFieldDescriptor (TX2 k).2.2.1 = some (tyX2 k) := by decide +kernel
abbrev cX2_init : ByteArray := prog_4_method_1_code
def yX2_init : MethodName := ⟨RX2, "<init>", "()V"⟩
abbrev cX2_strike : ByteArray := prog_4_method_2_code
def yX2_strike : MethodName := ⟨RX2, "strike", "(IZ)V"⟩
abbrev cX2_give : ByteArray := prog_4_method_3_code
def yX2_give : MethodName := ⟨RX2, "give", "()D"⟩
def RX3 : String := "CallWays2$Function"
def TX3 : u_T := fun k => match k with
  | 0 => ("CallWays2$Function", "kind", "I", true)
  | _ => ("CallWays2$Function", "a", "D", true)
def tyX3 : Nat → FieldType := fun k => match k with
  | 0 => .int
  | _ => .double
abbrev wsX30 : List Cond := u_ws RX3 TX3 2
theorem nmX3 : ∀ a, a < 2 → ∀ b, b < 2 → a ≠ b → (TX3 a).2.1 ≠ (TX3 b).2.1 := by decide +kernel
theorem tyX3_ok : ∀ k, k < 2 → parseFieldDescriptor (TX3 k).2.2.1 = some (tyX3 k) := by decide +kernel
abbrev cX3_init : ByteArray := prog_5_method_1_code
def yX3_init : MethodName := ⟨RX3, "<init>", "(II)V"⟩
abbrev cX3_refuses : ByteArray := prog_5_method_2_code
def yX3_refuses : MethodName := ⟨RX3, "refuses", "(D)Z"⟩
abbrev cX3_pass : ByteArray := prog_5_method_3_code
def yX3_pass : MethodName := ⟨RX3, "pass", "(D)D"⟩
def RX4 : String := "CallWays2$Glass"
def TX4 : u_T := fun k => match k with
  | 0 => ("CallWays2$Instrument", "knobs", "[I", true)
  | 1 => ("CallWays2$Instrument", "pitch", "I", false)
  | 2 => ("CallWays2$Instrument", "on", "Z", false)
  | 3 => ("CallWays2$Instrument", "phase", "I", false)
  | 4 => ("CallWays2$Instrument", "level", "D", false)
  | 5 => ("CallWays2$Instrument", "table", "LCallWays2$Samples;", false)
  | _ => ("CallWays2$Instrument", "failure", "I", false)
def tyX4 : Nat → FieldType := fun k => match k with
  | 0 => .array .int
  | 1 => .int
  | 2 => .boolean
  | 3 => .int
  | 4 => .double
  | 5 => .object "CallWays2$Samples"
  | _ => .int
abbrev wsX40 : List Cond := u_ws RX4 TX4 7
theorem nmX4 : ∀ a, a < 7 → ∀ b, b < 7 → a ≠ b → (TX4 a).2.1 ≠ (TX4 b).2.1 := by decide +kernel
theorem tyX4_ok : ∀ k, k < 7 → parseFieldDescriptor (TX4 k).2.2.1 = some (tyX4 k) := by decide +kernel
abbrev cX4_init : ByteArray := prog_6_method_1_code
def yX4_init : MethodName := ⟨RX4, "<init>", "()V"⟩
abbrev cX4_give : ByteArray := prog_6_method_2_code
def yX4_give : MethodName := ⟨RX4, "give", "()D"⟩
def RX5 : String := "CallWays2$Instrument"
def TX5 : u_T := fun k => match k with
  | _ => ("", "", "", false)
def tyX5 : Nat → FieldType := fun k => match k with
  | _ => .int
abbrev wsX50 : List Cond := u_ws RX5 TX5 0
theorem nmX5 : ∀ a, a < 0 → ∀ b, b < 0 → a ≠ b → (TX5 a).2.1 ≠ (TX5 b).2.1 := by decide +kernel
theorem tyX5_ok : ∀ k, k < 0 → parseFieldDescriptor (TX5 k).2.2.1 = some (tyX5 k) := by decide +kernel
abbrev cX5_init : ByteArray := prog_7_method_1_code
def yX5_init : MethodName := ⟨RX5, "<init>", "()V"⟩
abbrev cX5_strike : ByteArray := prog_7_method_3_code
def yX5_strike : MethodName := ⟨RX5, "strike", "(IZ)V"⟩
abbrev cX5_ask : ByteArray := prog_7_method_4_code
def yX5_ask : MethodName := ⟨RX5, "ask", "()D"⟩
abbrev cX5_fail : ByteArray := prog_7_method_5_code
def yX5_fail : MethodName := ⟨RX5, "fail", "(I)D"⟩
abbrev cX5_goBack : ByteArray := prog_7_method_6_code
def yX5_goBack : MethodName := ⟨RX5, "goBack", "(ID)V"⟩
def RX6 : String := "CallWays2$Reader"
def TX6 : u_T := fun k => match k with
  | 0 => ("CallWays2$Instrument", "knobs", "[I", true)
  | 1 => ("CallWays2$Instrument", "pitch", "I", false)
  | 2 => ("CallWays2$Instrument", "on", "Z", false)
  | 3 => ("CallWays2$Instrument", "phase", "I", false)
  | 4 => ("CallWays2$Instrument", "level", "D", false)
  | 5 => ("CallWays2$Instrument", "table", "LCallWays2$Samples;", false)
  | _ => ("CallWays2$Instrument", "failure", "I", false)
def tyX6 : Nat → FieldType := fun k => match k with
  | 0 => .array .int
  | 1 => .int
  | 2 => .boolean
  | 3 => .int
  | 4 => .double
  | 5 => .object "CallWays2$Samples"
  | _ => .int
abbrev wsX60 : List Cond := u_ws RX6 TX6 7
theorem nmX6 : ∀ a, a < 7 → ∀ b, b < 7 → a ≠ b → (TX6 a).2.1 ≠ (TX6 b).2.1 := by decide +kernel
theorem tyX6_ok : ∀ k, k < 7 → parseFieldDescriptor (TX6 k).2.2.1 = some (tyX6 k) := by decide +kernel
abbrev cX6_init : ByteArray := prog_8_method_1_code
def yX6_init : MethodName := ⟨RX6, "<init>", "()V"⟩
abbrev cX6_give : ByteArray := prog_8_method_2_code
def yX6_give : MethodName := ⟨RX6, "give", "()D"⟩
def RX7 : String := "CallWays2$Samples"
def TX7 : u_T := fun k => match k with
  | 0 => ("CallWays2$Samples", "lane", "I", true)
  | _ => ("CallWays2$Samples", "values", "[D", true)
def tyX7 : Nat → FieldType := fun k => match k with
  | 0 => .int
  | _ => .array .double
abbrev wsX70 : List Cond := u_ws RX7 TX7 2
theorem nmX7 : ∀ a, a < 2 → ∀ b, b < 2 → a ≠ b → (TX7 a).2.1 ≠ (TX7 b).2.1 := by decide +kernel
theorem tyX7_ok : ∀ k, k < 2 → parseFieldDescriptor (TX7 k).2.2.1 = some (tyX7 k) := by decide +kernel
abbrev cX7_init : ByteArray := prog_9_method_1_code
def yX7_init : MethodName := ⟨RX7, "<init>", "(I[D)V"⟩
abbrev cX7_twin : ByteArray := prog_9_method_2_code
def yX7_twin : MethodName := ⟨RX7, "twin", "()LCallWays2$Samples;"⟩
abbrev cX7_has : ByteArray := prog_9_method_3_code
def yX7_has : MethodName := ⟨RX7, "has", "(I)Z"⟩
abbrev cX7_spans : ByteArray := prog_9_method_4_code
def yX7_spans : MethodName := ⟨RX7, "spans", "(II)Z"⟩
abbrev cX7_set : ByteArray := prog_9_method_5_code
def yX7_set : MethodName := ⟨RX7, "set", "(ID)V"⟩
abbrev cX7_turned : ByteArray := prog_9_method_6_code
def yX7_turned : MethodName := ⟨RX7, "turned", "(D)D"⟩
abbrev cX7_bits : ByteArray := prog_9_method_7_code
def yX7_bits : MethodName := ⟨RX7, "bits", "(I)J"⟩
def RX8 : String := "CallWays2$Tone"
def TX8 : u_T := fun k => match k with
  | 0 => ("CallWays2$Instrument", "knobs", "[I", true)
  | 1 => ("CallWays2$Instrument", "pitch", "I", false)
  | 2 => ("CallWays2$Instrument", "on", "Z", false)
  | 3 => ("CallWays2$Instrument", "phase", "I", false)
  | 4 => ("CallWays2$Instrument", "level", "D", false)
  | 5 => ("CallWays2$Instrument", "table", "LCallWays2$Samples;", false)
  | _ => ("CallWays2$Instrument", "failure", "I", false)
def tyX8 : Nat → FieldType := fun k => match k with
  | 0 => .array .int
  | 1 => .int
  | 2 => .boolean
  | 3 => .int
  | 4 => .double
  | 5 => .object "CallWays2$Samples"
  | _ => .int
abbrev wsX80 : List Cond := u_ws RX8 TX8 7
theorem nmX8 : ∀ a, a < 7 → ∀ b, b < 7 → a ≠ b → (TX8 a).2.1 ≠ (TX8 b).2.1 := by decide +kernel
theorem tyX8_ok : ∀ k, k < 7 → parseFieldDescriptor (TX8 k).2.2.1 = some (tyX8 k) := by decide +kernel
abbrev cX8_init : ByteArray := prog_10_method_1_code
def yX8_init : MethodName := ⟨RX8, "<init>", "()V"⟩
abbrev cX8_give : ByteArray := prog_10_method_2_code
def yX8_give : MethodName := ⟨RX8, "give", "()D"⟩
def RX9 : String := "CallWays2"
def TX9 : u_T := fun k => match k with
  | 0 => ("CallWays2", "instruments", "[LCallWays2$Instrument;", true)
  | 1 => ("CallWays2", "blocks", "[LCallWays2$Samples;", true)
  | 2 => ("CallWays2", "functions", "[LCallWays2$Function;", true)
  | 3 => ("CallWays2", "waiting", "[D", true)
  | 4 => ("CallWays2", "instrumentCount", "I", false)
  | 5 => ("CallWays2", "functionCount", "I", false)
  | 6 => ("CallWays2", "boundLane", "I", false)
  | 7 => ("CallWays2", "latest", "I", false)
  | 8 => ("CallWays2", "playedWell", "I", false)
  | 9 => ("CallWays2", "playedFailed", "I", false)
  | _ => ("CallWays2", "samplesAsked", "I", false)
def tyX9 : Nat → FieldType := fun k => match k with
  | 0 => .array (.object "CallWays2$Instrument")
  | 1 => .array (.object "CallWays2$Samples")
  | 2 => .array (.object "CallWays2$Function")
  | 3 => .array .double
  | 4 => .int
  | 5 => .int
  | 6 => .int
  | 7 => .int
  | 8 => .int
  | 9 => .int
  | _ => .int
abbrev wsX90 : List Cond := u_ws RX9 TX9 11
theorem nmX9 : ∀ a, a < 11 → ∀ b, b < 11 → a ≠ b → (TX9 a).2.1 ≠ (TX9 b).2.1 := by decide +kernel
theorem tyX9_ok : ∀ k, k < 11 → parseFieldDescriptor (TX9 k).2.2.1 = some (tyX9 k) := by decide +kernel
abbrev cX9_init : ByteArray := prog_1_method_1_code
def yX9_init : MethodName := ⟨RX9, "<init>", "()V"⟩
abbrev cX9_instrument : ByteArray := prog_1_method_2_code
def yX9_instrument : MethodName := ⟨RX9, "instrument", "(I)I"⟩
abbrev cX9_note : ByteArray := prog_1_method_3_code
def yX9_note : MethodName := ⟨RX9, "note", "(IIZ)I"⟩
abbrev cX9_knob : ByteArray := prog_1_method_4_code
def yX9_knob : MethodName := ⟨RX9, "knob", "(III)I"⟩
abbrev cX9_phase : ByteArray := prog_1_method_5_code
def yX9_phase : MethodName := ⟨RX9, "phase", "(II)I"⟩
abbrev cX9_table : ByteArray := prog_1_method_6_code
def yX9_table : MethodName := ⟨RX9, "table", "(IIZ)I"⟩
abbrev cX9_block : ByteArray := prog_1_method_7_code
def yX9_block : MethodName := ⟨RX9, "block", "(III)I"⟩
abbrev cX9_lend : ByteArray := prog_1_method_8_code
def yX9_lend : MethodName := ⟨RX9, "lend", "(IIZ)I"⟩
abbrev cX9_isLent : ByteArray := prog_1_method_9_code
def yX9_isLent : MethodName := ⟨RX9, "isLent", "(II)Z"⟩
abbrev cX9_of : ByteArray := prog_1_method_10_code
def yX9_of : MethodName := ⟨RX9, "of", "(II)I"⟩
abbrev cX9_at : ByteArray := prog_1_method_11_code
def yX9_at : MethodName := ⟨RX9, "at", "(II)J"⟩
abbrev cX9_put : ByteArray := prog_1_method_12_code
def yX9_put : MethodName := ⟨RX9, "put", "(III)I"⟩
abbrev cX9_copy : ByteArray := prog_1_method_13_code
def yX9_copy : MethodName := ⟨RX9, "copy", "(IIIII)I"⟩
abbrev cX9_bind : ByteArray := prog_1_method_14_code
def yX9_bind : MethodName := ⟨RX9, "bind", "(I)I"⟩
abbrev cX9_function : ByteArray := prog_1_method_15_code
def yX9_function : MethodName := ⟨RX9, "function", "(II)I"⟩
abbrev cX9_play : ByteArray := prog_1_method_16_code
def yX9_play : MethodName := ⟨RX9, "play", "(IIIIII)I"⟩
abbrev cX9_agree : ByteArray := prog_1_method_17_code
def yX9_agree : MethodName := ⟨RX9, "agree", "(III)Z"⟩
abbrev cX9_find : ByteArray := prog_1_method_18_code
def yX9_find : MethodName := ⟨RX9, "find", "(II)I"⟩
abbrev cX9_next : ByteArray := prog_1_method_19_code
def yX9_next : MethodName := ⟨RX9, "next", "(I)J"⟩
abbrev cX9_state : ByteArray := prog_1_method_20_code
def yX9_state : MethodName := ⟨RX9, "state", "()I"⟩
abbrev cX9_count : ByteArray := prog_1_method_21_code
def yX9_count : MethodName := ⟨RX9, "count", "(I)I"⟩
abbrev cX9_isBlock : ByteArray := prog_1_method_22_code
def yX9_isBlock : MethodName := ⟨RX9, "isBlock", "(I)Z"⟩
abbrev cX9_isLane : ByteArray := prog_1_method_23_code
def yX9_isLane : MethodName := ⟨RX9, "isLane", "(I)Z"⟩
abbrev cX9_instrumentAt : ByteArray := prog_1_method_24_code
def yX9_instrumentAt : MethodName := ⟨RX9, "instrumentAt", "(I)LCallWays2$Instrument;"⟩
abbrev cX9_functionAt : ByteArray := prog_1_method_25_code
def yX9_functionAt : MethodName := ⟨RX9, "functionAt", "(I)LCallWays2$Function;"⟩
abbrev cX9_heldBy : ByteArray := prog_1_method_26_code
def yX9_heldBy : MethodName := ⟨RX9, "heldBy", "(I)LCallWays2$Samples;"⟩
abbrev cX9_newInstrument : ByteArray := prog_1_method_27_code
def yX9_newInstrument : MethodName := ⟨RX9, "newInstrument", "(I)LCallWays2$Instrument;"⟩
abbrev cX9_lentOrTwin : ByteArray := prog_1_method_28_code
def yX9_lentOrTwin : MethodName := ⟨RX9, "lentOrTwin", "(LCallWays2$Samples;Z)LCallWays2$Samples;"⟩
abbrev cX9_againstPlace : ByteArray := prog_1_method_29_code
def yX9_againstPlace : MethodName := ⟨RX9, "againstPlace", "(II)I"⟩
abbrev cX9_againstBlock : ByteArray := prog_1_method_30_code
def yX9_againstBlock : MethodName := ⟨RX9, "againstBlock", "(LCallWays2$Samples;III)I"⟩
abbrev cX9_gather : ByteArray := prog_1_method_31_code
def yX9_gather : MethodName := ⟨RX9, "gather", "(LCallWays2$Instrument;LCallWays2$Function;I)I"⟩
abbrev cX9_deliver : ByteArray := prog_1_method_32_code
def yX9_deliver : MethodName := ⟨RX9, "deliver", "(LCallWays2$Samples;III)V"⟩
abbrev cX9_staysAlike : ByteArray := prog_1_method_33_code
def yX9_staysAlike : MethodName := ⟨RX9, "staysAlike", "(LCallWays2$Instrument;LCallWays2$Function;I)Z"⟩
def RX10 : String := "CallWays2Model"
def TX10 : u_T := fun k => match k with
  | 0 => ("CallWays2Model", "blocks", "[I", true)
  | 1 => ("CallWays2Model", "tables", "[I", true)
  | 2 => ("CallWays2Model", "laneOf", "[I", true)
  | 3 => ("CallWays2Model", "sizeOf", "[I", true)
  | 4 => ("CallWays2Model", "samples", "[J", true)
  | 5 => ("CallWays2Model", "instruments", "I", false)
  | 6 => ("CallWays2Model", "sorts", "[I", true)
  | 7 => ("CallWays2Model", "knobs", "[I", true)
  | 8 => ("CallWays2Model", "pitches", "[I", true)
  | 9 => ("CallWays2Model", "isOn", "[Z", true)
  | 10 => ("CallWays2Model", "phases", "[I", true)
  | 11 => ("CallWays2Model", "levels", "[D", true)
  | 12 => ("CallWays2Model", "functions", "I", false)
  | 13 => ("CallWays2Model", "kindOf", "[I", true)
  | 14 => ("CallWays2Model", "numberOf", "[I", true)
  | 15 => ("CallWays2Model", "bound", "I", false)
  | 16 => ("CallWays2Model", "stateNow", "I", false)
  | 17 => ("CallWays2Model", "failure", "I", false)
  | 18 => ("CallWays2Model", "counts", "[I", true)
  | 19 => ("CallWays2Model", "come", "[D", true)
  | _ => ("CallWays2Model", "moved", "[J", true)
def tyX10 : Nat → FieldType := fun k => match k with
  | 0 => .array .int
  | 1 => .array .int
  | 2 => .array .int
  | 3 => .array .int
  | 4 => .array .long
  | 5 => .int
  | 6 => .array .int
  | 7 => .array .int
  | 8 => .array .int
  | 9 => .array .boolean
  | 10 => .array .int
  | 11 => .array .double
  | 12 => .int
  | 13 => .array .int
  | 14 => .array .int
  | 15 => .int
  | 16 => .int
  | 17 => .int
  | 18 => .array .int
  | 19 => .array .double
  | _ => .array .long
abbrev wsX100 : List Cond := u_ws RX10 TX10 21
theorem nmX10 : ∀ a, a < 21 → ∀ b, b < 21 → a ≠ b → (TX10 a).2.1 ≠ (TX10 b).2.1 := by decide +kernel
theorem tyX10_ok : ∀ k, k < 21 → parseFieldDescriptor (TX10 k).2.2.1 = some (tyX10 k) := by decide +kernel
abbrev cX10_init : ByteArray := prog_12_method_1_code
def yX10_init : MethodName := ⟨RX10, "<init>", "()V"⟩
abbrev cX10_in : ByteArray := prog_12_method_2_code
def yX10_in : MethodName := ⟨RX10, "in", "(III)Z"⟩
abbrev cX10_isInstrument : ByteArray := prog_12_method_3_code
def yX10_isInstrument : MethodName := ⟨RX10, "isInstrument", "(I)Z"⟩
abbrev cX10_says : ByteArray := prog_12_method_4_code
def yX10_says : MethodName := ⟨RX10, "says", "(I)I"⟩
abbrev cX10_freshRow : ByteArray := prog_12_method_5_code
def yX10_freshRow : MethodName := ⟨RX10, "freshRow", "(II)I"⟩
abbrev cX10_copyOf : ByteArray := prog_12_method_6_code
def yX10_copyOf : MethodName := ⟨RX10, "copyOf", "(I)I"⟩
abbrev cX10_cast : ByteArray := prog_12_method_7_code
def yX10_cast : MethodName := ⟨RX10, "cast", "(ID)J"⟩
abbrev cX10_instrument : ByteArray := prog_12_method_8_code
def yX10_instrument : MethodName := ⟨RX10, "instrument", "(I)I"⟩
abbrev cX10_note : ByteArray := prog_12_method_9_code
def yX10_note : MethodName := ⟨RX10, "note", "(IIZ)I"⟩
abbrev cX10_knob : ByteArray := prog_12_method_10_code
def yX10_knob : MethodName := ⟨RX10, "knob", "(III)I"⟩
abbrev cX10_phase : ByteArray := prog_12_method_11_code
def yX10_phase : MethodName := ⟨RX10, "phase", "(II)I"⟩
abbrev cX10_table : ByteArray := prog_12_method_12_code
def yX10_table : MethodName := ⟨RX10, "table", "(IIZ)I"⟩
abbrev cX10_block : ByteArray := prog_12_method_13_code
def yX10_block : MethodName := ⟨RX10, "block", "(III)I"⟩
abbrev cX10_lend : ByteArray := prog_12_method_14_code
def yX10_lend : MethodName := ⟨RX10, "lend", "(IIZ)I"⟩
abbrev cX10_isLent : ByteArray := prog_12_method_15_code
def yX10_isLent : MethodName := ⟨RX10, "isLent", "(II)Z"⟩
abbrev cX10_of : ByteArray := prog_12_method_16_code
def yX10_of : MethodName := ⟨RX10, "of", "(II)I"⟩
abbrev cX10_reach : ByteArray := prog_12_method_17_code
def yX10_reach : MethodName := ⟨RX10, "reach", "(II)I"⟩
abbrev cX10_at : ByteArray := prog_12_method_18_code
def yX10_at : MethodName := ⟨RX10, "at", "(II)J"⟩
abbrev cX10_put : ByteArray := prog_12_method_19_code
def yX10_put : MethodName := ⟨RX10, "put", "(III)I"⟩
abbrev cX10_copy : ByteArray := prog_12_method_20_code
def yX10_copy : MethodName := ⟨RX10, "copy", "(IIIII)I"⟩
abbrev cX10_bind : ByteArray := prog_12_method_21_code
def yX10_bind : MethodName := ⟨RX10, "bind", "(I)I"⟩
abbrev cX10_function : ByteArray := prog_12_method_22_code
def yX10_function : MethodName := ⟨RX10, "function", "(II)I"⟩
abbrev cX10_failed : ByteArray := prog_12_method_23_code
def yX10_failed : MethodName := ⟨RX10, "failed", "(I)D"⟩
abbrev cX10_tone : ByteArray := prog_12_method_24_code
def yX10_tone : MethodName := ⟨RX10, "tone", "(II)D"⟩
abbrev cX10_drum : ByteArray := prog_12_method_25_code
def yX10_drum : MethodName := ⟨RX10, "drum", "(I)D"⟩
abbrev cX10_reader : ByteArray := prog_12_method_26_code
def yX10_reader : MethodName := ⟨RX10, "reader", "(II)D"⟩
abbrev cX10_sample : ByteArray := prog_12_method_27_code
def yX10_sample : MethodName := ⟨RX10, "sample", "(I)D"⟩
abbrev cX10_isMinus : ByteArray := prog_12_method_28_code
def yX10_isMinus : MethodName := ⟨RX10, "isMinus", "(D)Z"⟩
abbrev cX10_through : ByteArray := prog_12_method_29_code
def yX10_through : MethodName := ⟨RX10, "through", "(ID)D"⟩
abbrev cX10_play : ByteArray := prog_12_method_30_code
def yX10_play : MethodName := ⟨RX10, "play", "(IIIIII)I"⟩
abbrev cX10_agree : ByteArray := prog_12_method_31_code
def yX10_agree : MethodName := ⟨RX10, "agree", "(III)Z"⟩
abbrev cX10_find : ByteArray := prog_12_method_32_code
def yX10_find : MethodName := ⟨RX10, "find", "(II)I"⟩
abbrev cX10_next : ByteArray := prog_12_method_33_code
def yX10_next : MethodName := ⟨RX10, "next", "(I)J"⟩
abbrev cX10_state : ByteArray := prog_12_method_34_code
def yX10_state : MethodName := ⟨RX10, "state", "()I"⟩
abbrev cX10_count : ByteArray := prog_12_method_35_code
def yX10_count : MethodName := ⟨RX10, "count", "(I)I"⟩
def RJx8e188 : String := "java/lang/Cloneable"
def TJx8e188 : u_T := fun k => match k with
  | _ => ("", "", "", false)
def tyJx8e188 : Nat → FieldType := fun k => match k with
  | _ => .int
abbrev wsJx8e1880 : List Cond := u_ws RJx8e188 TJx8e188 0
theorem nmJx8e188 : ∀ a, a < 0 → ∀ b, b < 0 → a ≠ b → (TJx8e188 a).2.1 ≠ (TJx8e188 b).2.1 := by decide +kernel
theorem tyJx8e188_ok : ∀ k, k < 0 → parseFieldDescriptor (TJx8e188 k).2.2.1 = some (tyJx8e188 k) := by decide +kernel
def RJxe99ae : String := "java/lang/Double"
def TJxe99ae : u_T := fun k => match k with
  | _ => ("", "", "", false)
def tyJxe99ae : Nat → FieldType := fun k => match k with
  | _ => .int
abbrev wsJxe99ae0 : List Cond := u_ws RJxe99ae TJxe99ae 0
theorem nmJxe99ae : ∀ a, a < 0 → ∀ b, b < 0 → a ≠ b → (TJxe99ae a).2.1 ≠ (TJxe99ae b).2.1 := by decide +kernel
theorem tyJxe99ae_ok : ∀ k, k < 0 → parseFieldDescriptor (TJxe99ae k).2.2.1 = some (tyJxe99ae k) := by decide +kernel
abbrev cJxe99ae_isNaN_b9ae7 : ByteArray := prog_14_method_6_code
def yJxe99ae_isNaN_b9ae7 : MethodName := ⟨RJxe99ae, "isNaN", "(D)Z"⟩
abbrev cJxe99ae_doubleToLongBits_ccdee : ByteArray := prog_14_method_23_code
def yJxe99ae_doubleToLongBits_ccdee : MethodName := ⟨RJxe99ae, "doubleToLongBits", "(D)J"⟩
def RJxf58ca : String := "java/lang/Float"
def TJxf58ca : u_T := fun k => match k with
  | _ => ("", "", "", false)
def tyJxf58ca : Nat → FieldType := fun k => match k with
  | _ => .int
abbrev wsJxf58ca0 : List Cond := u_ws RJxf58ca TJxf58ca 0
theorem nmJxf58ca : ∀ a, a < 0 → ∀ b, b < 0 → a ≠ b → (TJxf58ca a).2.1 ≠ (TJxf58ca b).2.1 := by decide +kernel
theorem tyJxf58ca_ok : ∀ k, k < 0 → parseFieldDescriptor (TJxf58ca k).2.2.1 = some (tyJxf58ca k) := by decide +kernel
abbrev cJxf58ca_isNaN_12338 : ByteArray := prog_15_method_6_code
def yJxf58ca_isNaN_12338 : MethodName := ⟨RJxf58ca, "isNaN", "(F)Z"⟩
abbrev cJxf58ca_floatToIntBits_5c35a : ByteArray := prog_15_method_24_code
def yJxf58ca_floatToIntBits_5c35a : MethodName := ⟨RJxf58ca, "floatToIntBits", "(F)I"⟩
def RJ10 : String := "java/lang/System"
def TJ10 : u_T := fun k => match k with
  | _ => ("", "", "", false)
def tyJ10 : Nat → FieldType := fun k => match k with
  | _ => .int
abbrev wsJ100 : List Cond := u_ws RJ10 TJ10 0
theorem nmJ10 : ∀ a, a < 0 → ∀ b, b < 0 → a ≠ b → (TJ10 a).2.1 ≠ (TJ10 b).2.1 := by decide +kernel
theorem tyJ10_ok : ∀ k, k < 0 → parseFieldDescriptor (TJ10 k).2.2.1 = some (tyJ10 k) := by decide +kernel
def RL : String := "CallWays2Law"
abbrev cL_law : ByteArray := code
def yL_law : MethodName := ⟨RL, "law", "([I)Z"⟩
def wsX5_init : List Cond := .code yX5_init cX5_init 1 none :: ([.methodLink RX5 3 objectInit, .instanceMethod objectInit, .code objectInit ⟨#[0xb1]⟩ 1 none, .arrayClass .int, .fieldLink RX5 9 "CallWays2$Instrument" "knobs" "[I"] ++ wsX00 ++ wsX20 ++ wsX40 ++ wsX60 ++ wsX80)
def wsX2_init : List Cond := .code yX2_init cX2_init 1 none :: ([.instanceMethod yX5_init, .initialized RX5, .code yX5_init cX5_init 1 none, .methodLink RX5 3 objectInit, .instanceMethod objectInit, .code objectInit ⟨#[0xb1]⟩ 1 none, .arrayClass .int, .fieldLink RX5 9 "CallWays2$Instrument" "knobs" "[I"] ++ wsX00 ++ wsX20 ++ wsX40 ++ wsX60 ++ wsX80)
def wsX0_init : List Cond := .code yX0_init cX0_init 1 none :: ([.instanceMethod yX2_init, .initialized RX2, .code yX2_init cX2_init 1 none, .instanceMethod yX5_init, .initialized RX5, .code yX5_init cX5_init 1 none, .methodLink RX5 3 objectInit, .instanceMethod objectInit, .code objectInit ⟨#[0xb1]⟩ 1 none, .arrayClass .int, .fieldLink RX5 9 "CallWays2$Instrument" "knobs" "[I"] ++ wsX00 ++ wsX20 ++ wsX40 ++ wsX60 ++ wsX80)
def wsX5_fail : List Cond := .code yX5_fail cX5_fail 2 (some .double) :: ([.fieldLink RX5 23 "CallWays2$Instrument" "failure" "I"] ++ wsX00 ++ wsX20 ++ wsX40 ++ wsX60 ++ wsX80)
def wsX2_give : List Cond := .code yX2_give cX2_give 4 (some .double) :: ([.fieldLink RX2 19 "CallWays2$Drum" "knobs" "[I", .sameField "CallWays2$Drum" "CallWays2$Instrument" "knobs" "[I", .fieldLink RX2 13 "CallWays2$Drum" "level" "D", .sameField "CallWays2$Drum" "CallWays2$Instrument" "level" "D", .constantDouble RX2 27 (4652007308841189376), .methodLink RX2 23 ⟨"CallWays2$Drum", "fail", "(I)D"⟩, .sameMethod "CallWays2$Drum" "CallWays2$Instrument" "fail" "(I)D", .selects RX0 ⟨"CallWays2$Drum", "fail", "(I)D"⟩ yX5_fail, .instanceMethod yX5_fail, .initialized RX5, .code yX5_fail cX5_fail 2 (some .double), .fieldLink RX5 23 "CallWays2$Instrument" "failure" "I", .selects RX2 ⟨"CallWays2$Drum", "fail", "(I)D"⟩ yX5_fail] ++ wsX00 ++ wsX20 ++ wsX40 ++ wsX60 ++ wsX80)
def wsX0_give_r1 : List Cond := [Cond.fieldLink RX0 9 "CallWays2$Bell" "phase" "I", Cond.sameField "CallWays2$Bell" "CallWays2$Instrument" "phase" "I", Cond.fieldLink RX0 15 "CallWays2$Bell" "knobs" "[I", Cond.sameField "CallWays2$Bell" "CallWays2$Instrument" "knobs" "[I", Cond.constantDouble RX0 27 (13830554455654793216), Cond.methodLink RX0 19 ⟨"CallWays2$Bell", "fail", "(I)D"⟩, Cond.sameMethod "CallWays2$Bell" "CallWays2$Instrument" "fail" "(I)D", Cond.selects RX0 ⟨"CallWays2$Bell", "fail", "(I)D"⟩ yX5_fail, Cond.instanceMethod yX5_fail, Cond.initialized RX5, Cond.code yX5_fail cX5_fail 2 (some .double), Cond.fieldLink RX5 23 "CallWays2$Instrument" "failure" "I", Cond.methodLink RX0 23 yX2_give, Cond.sameMethod "CallWays2$Drum" "CallWays2$Drum" "give" "()D", Cond.superclass RX0 RX2, Cond.instanceMethod yX2_give, Cond.initialized RX2, Cond.code yX2_give cX2_give 4 (some .double), Cond.fieldLink RX2 19 "CallWays2$Drum" "knobs" "[I", Cond.sameField "CallWays2$Drum" "CallWays2$Instrument" "knobs" "[I", Cond.fieldLink RX2 13 "CallWays2$Drum" "level" "D", Cond.sameField "CallWays2$Drum" "CallWays2$Instrument" "level" "D", Cond.constantDouble RX2 27 (4652007308841189376), Cond.methodLink RX2 23 ⟨"CallWays2$Drum", "fail", "(I)D"⟩]
def wsX0_give_r2 : List Cond := [Cond.sameMethod "CallWays2$Drum" "CallWays2$Instrument" "fail" "(I)D", Cond.selects RX0 ⟨"CallWays2$Drum", "fail", "(I)D"⟩ yX5_fail, Cond.selects RX2 ⟨"CallWays2$Drum", "fail", "(I)D"⟩ yX5_fail]
def wsX0_give : List Cond := .code yX0_give cX0_give 3 (some .double) :: ((wsX0_give_r1 ++ wsX0_give_r2) ++ wsX00 ++ wsX20 ++ wsX40 ++ wsX60 ++ wsX80)
def wsX1_isNegative : List Cond := .code yX1_isNegative cX1_isNegative 2 (some .boolean) :: ([])
def wsX1_magnitude : List Cond := .code yX1_magnitude cX1_magnitude 7 (some .long) :: ([.constantDouble RX1 24 (4611686018427387904), .constantDouble RX1 26 (4895412794951729152)])
def wsX1_ofDouble : List Cond := .code yX1_ofDouble cX1_ofDouble 2 (some .long) :: ([.constantLong RX1 15 (-9223372036854775808), .methodLink RX1 7 yX1_isNegative, .static yX1_isNegative, .initialized RX1, .code yX1_isNegative cX1_isNegative 2 (some .boolean), .methodLink RX1 17 yX1_magnitude, .static yX1_magnitude, .code yX1_magnitude cX1_magnitude 7 (some .long), .constantDouble RX1 24 (4611686018427387904), .constantDouble RX1 26 (4895412794951729152)])
def wsX1_ofFloat : List Cond := .code yX1_ofFloat cX1_ofFloat 2 (some .int) :: ([.constant RX1 23 (-2147483648), .methodLink RX1 7 yX1_isNegative, .static yX1_isNegative, .initialized RX1, .code yX1_isNegative cX1_isNegative 2 (some .boolean), .methodLink RX1 17 yX1_magnitude, .static yX1_magnitude, .code yX1_magnitude cX1_magnitude 7 (some .long), .constantDouble RX1 24 (4611686018427387904), .constantDouble RX1 26 (4895412794951729152)])
def wsX5_strike : List Cond := .code yX5_strike cX5_strike 3 none :: ([.fieldLink RX5 15 "CallWays2$Instrument" "pitch" "I", .fieldLink RX5 19 "CallWays2$Instrument" "on" "Z"] ++ wsX00 ++ wsX20 ++ wsX40 ++ wsX60 ++ wsX80)
def wsX2_strike : List Cond := .code yX2_strike cX2_strike 3 none :: ([.fieldLink RX2 13 "CallWays2$Drum" "level" "D", .sameField "CallWays2$Drum" "CallWays2$Instrument" "level" "D", .methodLink RX2 9 yX5_strike, .sameMethod "CallWays2$Instrument" "CallWays2$Instrument" "strike" "(IZ)V", .superclass RX2 RX5, .instanceMethod yX5_strike, .initialized RX5, .code yX5_strike cX5_strike 3 none, .fieldLink RX5 15 "CallWays2$Instrument" "pitch" "I", .fieldLink RX5 19 "CallWays2$Instrument" "on" "Z"] ++ wsX00 ++ wsX20 ++ wsX40 ++ wsX60 ++ wsX80)
def wsX3_init : List Cond := .code yX3_init cX3_init 3 none :: ([.methodLink RX3 3 objectInit, .instanceMethod objectInit, .code objectInit ⟨#[0xb1]⟩ 1 none, .fieldLink RX3 9 "CallWays2$Function" "kind" "I", .fieldLink RX3 15 "CallWays2$Function" "a" "D"] ++ wsX30)
def wsX3_refuses : List Cond := .code yX3_refuses cX3_refuses 3 (some .boolean) :: ([.fieldLink RX3 9 "CallWays2$Function" "kind" "I", .fieldLink RX3 15 "CallWays2$Function" "a" "D"] ++ wsX30)
def wsX3_pass : List Cond := .code yX3_pass cX3_pass 3 (some .double) :: ([.fieldLink RX3 9 "CallWays2$Function" "kind" "I", .fieldLink RX3 15 "CallWays2$Function" "a" "D"] ++ wsX30)
def wsX8_init : List Cond := .code yX8_init cX8_init 1 none :: ([.instanceMethod yX5_init, .initialized RX5, .code yX5_init cX5_init 1 none, .methodLink RX5 3 objectInit, .instanceMethod objectInit, .code objectInit ⟨#[0xb1]⟩ 1 none, .arrayClass .int, .fieldLink RX5 9 "CallWays2$Instrument" "knobs" "[I"] ++ wsX00 ++ wsX20 ++ wsX40 ++ wsX60 ++ wsX80)
def wsX4_init : List Cond := .code yX4_init cX4_init 1 none :: ([.instanceMethod yX8_init, .initialized RX8, .code yX8_init cX8_init 1 none, .instanceMethod yX5_init, .initialized RX5, .code yX5_init cX5_init 1 none, .methodLink RX5 3 objectInit, .instanceMethod objectInit, .code objectInit ⟨#[0xb1]⟩ 1 none, .arrayClass .int, .fieldLink RX5 9 "CallWays2$Instrument" "knobs" "[I"] ++ wsX00 ++ wsX20 ++ wsX40 ++ wsX60 ++ wsX80)
def wsX8_give : List Cond := .code yX8_give cX8_give 1 (some .double) :: ([.fieldLink RX8 7 "CallWays2$Tone" "on" "Z", .sameField "CallWays2$Tone" "CallWays2$Instrument" "on" "Z", .fieldLink RX8 13 "CallWays2$Tone" "phase" "I", .sameField "CallWays2$Tone" "CallWays2$Instrument" "phase" "I", .fieldLink RX8 17 "CallWays2$Tone" "pitch" "I", .sameField "CallWays2$Tone" "CallWays2$Instrument" "pitch" "I"] ++ wsX00 ++ wsX20 ++ wsX40 ++ wsX60 ++ wsX80)
def wsX4_give : List Cond := .code yX4_give cX4_give 1 (some .double) :: ([.constantDouble RX4 7 (4611686018427387904), .fieldLink RX4 13 "CallWays2$Glass" "knobs" "[I", .sameField "CallWays2$Glass" "CallWays2$Instrument" "knobs" "[I", .methodLink RX4 9 yX8_give, .sameMethod "CallWays2$Tone" "CallWays2$Tone" "give" "()D", .superclass RX4 RX8, .instanceMethod yX8_give, .initialized RX8, .code yX8_give cX8_give 1 (some .double), .fieldLink RX8 7 "CallWays2$Tone" "on" "Z", .sameField "CallWays2$Tone" "CallWays2$Instrument" "on" "Z", .fieldLink RX8 13 "CallWays2$Tone" "phase" "I", .sameField "CallWays2$Tone" "CallWays2$Instrument" "phase" "I", .fieldLink RX8 17 "CallWays2$Tone" "pitch" "I", .sameField "CallWays2$Tone" "CallWays2$Instrument" "pitch" "I"] ++ wsX00 ++ wsX20 ++ wsX40 ++ wsX60 ++ wsX80)
def wsX7_has : List Cond := .code yX7_has cX7_has 2 (some .boolean) :: ([.fieldLink RX7 15 "CallWays2$Samples" "values" "[D"] ++ wsX70)
def wsX6_give : List Cond := .code yX6_give cX6_give 2 (some .double) :: ([.fieldLink RX6 9 "CallWays2$Reader" "on" "Z", .sameField "CallWays2$Reader" "CallWays2$Instrument" "on" "Z", .fieldLink RX6 15 "CallWays2$Reader" "phase" "I", .sameField "CallWays2$Reader" "CallWays2$Instrument" "phase" "I", .fieldLink RX6 23 "CallWays2$Reader" "table" "LCallWays2$Samples;", .sameField "CallWays2$Reader" "CallWays2$Instrument" "table" "LCallWays2$Samples;", .fieldLink RX6 27 "CallWays2$Samples" "lane" "I", .fieldLink RX6 32 "CallWays2$Reader" "knobs" "[I", .sameField "CallWays2$Reader" "CallWays2$Instrument" "knobs" "[I", .fieldLink RX6 40 "CallWays2$Samples" "values" "[D", .methodLink RX6 19 ⟨"CallWays2$Reader", "fail", "(I)D"⟩, .sameMethod "CallWays2$Reader" "CallWays2$Instrument" "fail" "(I)D", .selects RX6 ⟨"CallWays2$Reader", "fail", "(I)D"⟩ yX5_fail, .instanceMethod yX5_fail, .initialized RX5, .code yX5_fail cX5_fail 2 (some .double), .fieldLink RX5 23 "CallWays2$Instrument" "failure" "I", .methodLink RX6 36 yX7_has, .instanceMethod yX7_has, .selects RX7 yX7_has yX7_has, .initialized RX7, .code yX7_has cX7_has 2 (some .boolean), .fieldLink RX7 15 "CallWays2$Samples" "values" "[D"] ++ wsX00 ++ wsX20 ++ wsX40 ++ wsX60 ++ wsX80 ++ wsX70)
def wsX5_ask_r1 : List Cond := [Cond.fieldLink RX5 23 "CallWays2$Instrument" "failure" "I", Cond.fieldLink RX5 30 "CallWays2$Instrument" "phase" "I", Cond.methodLink RX5 26 ⟨"CallWays2$Instrument", "give", "()D"⟩, Cond.sameMethod "CallWays2$Instrument" "CallWays2$Instrument" "give" "()D", Cond.selects RX0 ⟨"CallWays2$Instrument", "give", "()D"⟩ yX0_give, Cond.instanceMethod yX0_give, Cond.initialized RX0, Cond.code yX0_give cX0_give 3 (some .double), Cond.fieldLink RX0 9 "CallWays2$Bell" "phase" "I", Cond.sameField "CallWays2$Bell" "CallWays2$Instrument" "phase" "I", Cond.fieldLink RX0 15 "CallWays2$Bell" "knobs" "[I", Cond.sameField "CallWays2$Bell" "CallWays2$Instrument" "knobs" "[I", Cond.constantDouble RX0 27 (13830554455654793216), Cond.methodLink RX0 19 ⟨"CallWays2$Bell", "fail", "(I)D"⟩, Cond.sameMethod "CallWays2$Bell" "CallWays2$Instrument" "fail" "(I)D", Cond.selects RX0 ⟨"CallWays2$Bell", "fail", "(I)D"⟩ yX5_fail, Cond.instanceMethod yX5_fail, Cond.initialized RX5, Cond.code yX5_fail cX5_fail 2 (some .double), Cond.methodLink RX0 23 yX2_give, Cond.sameMethod "CallWays2$Drum" "CallWays2$Drum" "give" "()D", Cond.superclass RX0 RX2, Cond.instanceMethod yX2_give, Cond.initialized RX2]
def wsX5_ask_r2 : List Cond := [Cond.code yX2_give cX2_give 4 (some .double), Cond.fieldLink RX2 19 "CallWays2$Drum" "knobs" "[I", Cond.sameField "CallWays2$Drum" "CallWays2$Instrument" "knobs" "[I", Cond.fieldLink RX2 13 "CallWays2$Drum" "level" "D", Cond.sameField "CallWays2$Drum" "CallWays2$Instrument" "level" "D", Cond.constantDouble RX2 27 (4652007308841189376), Cond.methodLink RX2 23 ⟨"CallWays2$Drum", "fail", "(I)D"⟩, Cond.sameMethod "CallWays2$Drum" "CallWays2$Instrument" "fail" "(I)D", Cond.selects RX0 ⟨"CallWays2$Drum", "fail", "(I)D"⟩ yX5_fail, Cond.selects RX2 ⟨"CallWays2$Drum", "fail", "(I)D"⟩ yX5_fail, Cond.selects RX2 ⟨"CallWays2$Instrument", "give", "()D"⟩ yX2_give, Cond.selects RX4 ⟨"CallWays2$Instrument", "give", "()D"⟩ yX4_give, Cond.instanceMethod yX4_give, Cond.initialized RX4, Cond.code yX4_give cX4_give 1 (some .double), Cond.constantDouble RX4 7 (4611686018427387904), Cond.fieldLink RX4 13 "CallWays2$Glass" "knobs" "[I", Cond.sameField "CallWays2$Glass" "CallWays2$Instrument" "knobs" "[I", Cond.methodLink RX4 9 yX8_give, Cond.sameMethod "CallWays2$Tone" "CallWays2$Tone" "give" "()D", Cond.superclass RX4 RX8, Cond.instanceMethod yX8_give, Cond.initialized RX8, Cond.code yX8_give cX8_give 1 (some .double)]
def wsX5_ask_r3 : List Cond := [Cond.fieldLink RX8 7 "CallWays2$Tone" "on" "Z", Cond.sameField "CallWays2$Tone" "CallWays2$Instrument" "on" "Z", Cond.fieldLink RX8 13 "CallWays2$Tone" "phase" "I", Cond.sameField "CallWays2$Tone" "CallWays2$Instrument" "phase" "I", Cond.fieldLink RX8 17 "CallWays2$Tone" "pitch" "I", Cond.sameField "CallWays2$Tone" "CallWays2$Instrument" "pitch" "I", Cond.selects RX6 ⟨"CallWays2$Instrument", "give", "()D"⟩ yX6_give, Cond.instanceMethod yX6_give, Cond.initialized RX6, Cond.code yX6_give cX6_give 2 (some .double), Cond.fieldLink RX6 9 "CallWays2$Reader" "on" "Z", Cond.sameField "CallWays2$Reader" "CallWays2$Instrument" "on" "Z", Cond.fieldLink RX6 15 "CallWays2$Reader" "phase" "I", Cond.sameField "CallWays2$Reader" "CallWays2$Instrument" "phase" "I", Cond.fieldLink RX6 23 "CallWays2$Reader" "table" "LCallWays2$Samples;", Cond.sameField "CallWays2$Reader" "CallWays2$Instrument" "table" "LCallWays2$Samples;", Cond.fieldLink RX6 27 "CallWays2$Samples" "lane" "I", Cond.fieldLink RX6 32 "CallWays2$Reader" "knobs" "[I", Cond.sameField "CallWays2$Reader" "CallWays2$Instrument" "knobs" "[I", Cond.fieldLink RX6 40 "CallWays2$Samples" "values" "[D", Cond.methodLink RX6 19 ⟨"CallWays2$Reader", "fail", "(I)D"⟩, Cond.sameMethod "CallWays2$Reader" "CallWays2$Instrument" "fail" "(I)D", Cond.selects RX6 ⟨"CallWays2$Reader", "fail", "(I)D"⟩ yX5_fail, Cond.methodLink RX6 36 yX7_has]
def wsX5_ask_r4 : List Cond := [Cond.instanceMethod yX7_has, Cond.selects RX7 yX7_has yX7_has, Cond.initialized RX7, Cond.code yX7_has cX7_has 2 (some .boolean), Cond.fieldLink RX7 15 "CallWays2$Samples" "values" "[D", Cond.selects RX8 ⟨"CallWays2$Instrument", "give", "()D"⟩ yX8_give]
def wsX5_ask : List Cond := .code yX5_ask cX5_ask 3 (some .double) :: ((wsX5_ask_r1 ++ (wsX5_ask_r2 ++ (wsX5_ask_r3 ++ wsX5_ask_r4))) ++ wsX00 ++ wsX20 ++ wsX40 ++ wsX60 ++ wsX80 ++ wsX70)
def wsX5_goBack : List Cond := .code yX5_goBack cX5_goBack 4 none :: ([.fieldLink RX5 30 "CallWays2$Instrument" "phase" "I", .fieldLink RX5 33 "CallWays2$Instrument" "level" "D"] ++ wsX00 ++ wsX20 ++ wsX40 ++ wsX60 ++ wsX80)
def wsX6_init : List Cond := .code yX6_init cX6_init 1 none :: ([.instanceMethod yX5_init, .initialized RX5, .code yX5_init cX5_init 1 none, .methodLink RX5 3 objectInit, .instanceMethod objectInit, .code objectInit ⟨#[0xb1]⟩ 1 none, .arrayClass .int, .fieldLink RX5 9 "CallWays2$Instrument" "knobs" "[I"] ++ wsX00 ++ wsX20 ++ wsX40 ++ wsX60 ++ wsX80)
def wsX7_init : List Cond := .code yX7_init cX7_init 3 none :: ([.methodLink RX7 3 objectInit, .instanceMethod objectInit, .code objectInit ⟨#[0xb1]⟩ 1 none, .fieldLink RX7 9 "CallWays2$Samples" "lane" "I", .fieldLink RX7 15 "CallWays2$Samples" "values" "[D"] ++ wsX70)
def wsX7_twin : List Cond := .code yX7_twin cX7_twin 1 (some (.object "CallWays2$Samples")) :: ([.classLink RX7 10 RX7, .instantiable RX7 2, .initialized RX7, .fieldLink RX7 9 "CallWays2$Samples" "lane" "I", .fieldLink RX7 15 "CallWays2$Samples" "values" "[D", .methodLink RX7 19 ⟨"[D", "clone", "()Ljava/lang/Object;"⟩, .sameMethod "[D" "java/lang/Object" "clone" "()Ljava/lang/Object;", .native ⟨"java/lang/Object", "clone", "()Ljava/lang/Object;"⟩, .instanceMethod ⟨"java/lang/Object", "clone", "()Ljava/lang/Object;"⟩, .selects "[D" ⟨"[D", "clone", "()Ljava/lang/Object;"⟩ ⟨"java/lang/Object", "clone", "()Ljava/lang/Object;"⟩, .classLink RX7 20 "[D", .methodLink RX7 24 yX7_init, .instanceMethod yX7_init, .code yX7_init cX7_init 3 none, .methodLink RX7 3 objectInit, .instanceMethod objectInit, .code objectInit ⟨#[0xb1]⟩ 1 none] ++ wsX70)
def wsX7_spans : List Cond := .code yX7_spans cX7_spans 3 (some .boolean) :: ([.fieldLink RX7 15 "CallWays2$Samples" "values" "[D"] ++ wsX70)
def wsX7_turned : List Cond := .code yX7_turned cX7_turned 3 (some .double) :: ([.fieldLink RX7 9 "CallWays2$Samples" "lane" "I"] ++ wsX70)
def wsX7_set : List Cond := .code yX7_set cX7_set 4 none :: ([.fieldLink RX7 15 "CallWays2$Samples" "values" "[D", .methodLink RX7 27 yX7_turned, .instanceMethod yX7_turned, .selects RX7 yX7_turned yX7_turned, .initialized RX7, .code yX7_turned cX7_turned 3 (some .double), .fieldLink RX7 9 "CallWays2$Samples" "lane" "I"] ++ wsX70)
def wsX7_bits : List Cond := .code yX7_bits cX7_bits 2 (some .long) :: ([.fieldLink RX7 9 "CallWays2$Samples" "lane" "I", .fieldLink RX7 15 "CallWays2$Samples" "values" "[D", .methodLink RX7 31 yX1_ofFloat, .static yX1_ofFloat, .initialized RX1, .code yX1_ofFloat cX1_ofFloat 2 (some .int), .constant RX1 23 (-2147483648), .methodLink RX1 7 yX1_isNegative, .static yX1_isNegative, .code yX1_isNegative cX1_isNegative 2 (some .boolean), .methodLink RX1 17 yX1_magnitude, .static yX1_magnitude, .code yX1_magnitude cX1_magnitude 7 (some .long), .constantDouble RX1 24 (4611686018427387904), .constantDouble RX1 26 (4895412794951729152), .methodLink RX7 37 yX1_ofDouble, .static yX1_ofDouble, .code yX1_ofDouble cX1_ofDouble 2 (some .long), .constantLong RX1 15 (-9223372036854775808)] ++ wsX70)
def wsX9_init : List Cond := .code yX9_init cX9_init 1 none :: ([.methodLink RX9 1 objectInit, .instanceMethod objectInit, .code objectInit ⟨#[0xb1]⟩ 1 none, .classLink RX9 9 RX5, .fieldLink RX9 11 "CallWays2" "instruments" "[LCallWays2$Instrument;", .classLink RX9 15 RX7, .fieldLink RX9 17 "CallWays2" "blocks" "[LCallWays2$Samples;", .classLink RX9 21 RX3, .fieldLink RX9 23 "CallWays2" "functions" "[LCallWays2$Function;", .arrayClass .double, .fieldLink RX9 27 "CallWays2" "waiting" "[D", .fieldLink RX9 31 "CallWays2" "boundLane" "I"] ++ wsX90)
def wsX9_newInstrument_r1 : List Cond := [Cond.classLink RX9 176 RX4, Cond.instantiable RX4 7, Cond.initialized RX4, Cond.classLink RX9 179 RX2, Cond.instantiable RX2 7, Cond.initialized RX2, Cond.classLink RX9 182 RX0, Cond.instantiable RX0 7, Cond.initialized RX0, Cond.classLink RX9 185 RX6, Cond.instantiable RX6 7, Cond.initialized RX6, Cond.classLink RX9 188 RX8, Cond.instantiable RX8 7, Cond.initialized RX8, Cond.instanceMethod yX4_init, Cond.code yX4_init cX4_init 1 none, Cond.instanceMethod yX8_init, Cond.code yX8_init cX8_init 1 none, Cond.instanceMethod yX5_init, Cond.initialized RX5, Cond.code yX5_init cX5_init 1 none, Cond.methodLink RX5 3 objectInit, Cond.instanceMethod objectInit]
def wsX9_newInstrument_r2 : List Cond := [Cond.code objectInit ⟨#[0xb1]⟩ 1 none, Cond.arrayClass .int, Cond.fieldLink RX5 9 "CallWays2$Instrument" "knobs" "[I", Cond.instanceMethod yX2_init, Cond.code yX2_init cX2_init 1 none, Cond.instanceMethod yX0_init, Cond.code yX0_init cX0_init 1 none, Cond.instanceMethod yX6_init, Cond.code yX6_init cX6_init 1 none]
def wsX9_newInstrument : List Cond := .code yX9_newInstrument cX9_newInstrument 1 (some (.object "CallWays2$Instrument")) :: ((wsX9_newInstrument_r1 ++ wsX9_newInstrument_r2) ++ wsX40 ++ wsX20 ++ wsX00 ++ wsX60 ++ wsX80)
def wsX9_instrument_r1 : List Cond := [Cond.fieldLink RX9 35 "CallWays2" "instrumentCount" "I", Cond.fieldLink RX9 11 "CallWays2" "instruments" "[LCallWays2$Instrument;", Cond.methodLink RX9 38 yX9_newInstrument, Cond.static yX9_newInstrument, Cond.initialized RX9, Cond.code yX9_newInstrument cX9_newInstrument 1 (some (.object "CallWays2$Instrument")), Cond.classLink RX9 176 RX4, Cond.instantiable RX4 7, Cond.initialized RX4, Cond.classLink RX9 179 RX2, Cond.instantiable RX2 7, Cond.initialized RX2, Cond.classLink RX9 182 RX0, Cond.instantiable RX0 7, Cond.initialized RX0, Cond.classLink RX9 185 RX6, Cond.instantiable RX6 7, Cond.initialized RX6, Cond.classLink RX9 188 RX8, Cond.instantiable RX8 7, Cond.initialized RX8, Cond.instanceMethod yX4_init, Cond.code yX4_init cX4_init 1 none, Cond.instanceMethod yX8_init]
def wsX9_instrument_r2 : List Cond := [Cond.code yX8_init cX8_init 1 none, Cond.instanceMethod yX5_init, Cond.initialized RX5, Cond.code yX5_init cX5_init 1 none, Cond.methodLink RX5 3 objectInit, Cond.instanceMethod objectInit, Cond.code objectInit ⟨#[0xb1]⟩ 1 none, Cond.arrayClass .int, Cond.fieldLink RX5 9 "CallWays2$Instrument" "knobs" "[I", Cond.instanceMethod yX2_init, Cond.code yX2_init cX2_init 1 none, Cond.instanceMethod yX0_init, Cond.code yX0_init cX0_init 1 none, Cond.instanceMethod yX6_init, Cond.code yX6_init cX6_init 1 none]
def wsX9_instrument : List Cond := .code yX9_instrument cX9_instrument 2 (some .int) :: ((wsX9_instrument_r1 ++ wsX9_instrument_r2) ++ wsX90 ++ wsX40 ++ wsX20 ++ wsX00 ++ wsX60 ++ wsX80)
def wsX9_instrumentAt : List Cond := .code yX9_instrumentAt cX9_instrumentAt 2 (some (.object "CallWays2$Instrument")) :: ([.fieldLink RX9 35 "CallWays2" "instrumentCount" "I", .fieldLink RX9 11 "CallWays2" "instruments" "[LCallWays2$Instrument;"] ++ wsX90)
def wsX9_note_r1 : List Cond := [Cond.fieldLink RX9 45 "CallWays2$Instrument" "on" "Z", Cond.methodLink RX9 42 yX9_instrumentAt, Cond.instanceMethod yX9_instrumentAt, Cond.selects RX9 yX9_instrumentAt yX9_instrumentAt, Cond.initialized RX9, Cond.code yX9_instrumentAt cX9_instrumentAt 2 (some (.object "CallWays2$Instrument")), Cond.fieldLink RX9 35 "CallWays2" "instrumentCount" "I", Cond.fieldLink RX9 11 "CallWays2" "instruments" "[LCallWays2$Instrument;", Cond.methodLink RX9 49 ⟨"CallWays2$Instrument", "strike", "(IZ)V"⟩, Cond.sameMethod "CallWays2$Instrument" "CallWays2$Instrument" "strike" "(IZ)V", Cond.instanceMethod ⟨"CallWays2$Instrument", "strike", "(IZ)V"⟩, Cond.selects RX0 ⟨"CallWays2$Instrument", "strike", "(IZ)V"⟩ yX2_strike, Cond.instanceMethod yX2_strike, Cond.initialized RX2, Cond.code yX2_strike cX2_strike 3 none, Cond.fieldLink RX2 13 "CallWays2$Drum" "level" "D", Cond.sameField "CallWays2$Drum" "CallWays2$Instrument" "level" "D", Cond.methodLink RX2 9 yX5_strike, Cond.superclass RX2 RX5, Cond.instanceMethod yX5_strike, Cond.initialized RX5, Cond.code yX5_strike cX5_strike 3 none, Cond.fieldLink RX5 15 "CallWays2$Instrument" "pitch" "I", Cond.fieldLink RX5 19 "CallWays2$Instrument" "on" "Z"]
def wsX9_note_r2 : List Cond := [Cond.selects RX2 ⟨"CallWays2$Instrument", "strike", "(IZ)V"⟩ yX2_strike, Cond.selects RX4 ⟨"CallWays2$Instrument", "strike", "(IZ)V"⟩ yX5_strike, Cond.selects RX6 ⟨"CallWays2$Instrument", "strike", "(IZ)V"⟩ yX5_strike, Cond.selects RX8 ⟨"CallWays2$Instrument", "strike", "(IZ)V"⟩ yX5_strike]
def wsX9_note : List Cond := .code yX9_note cX9_note 6 (some .int) :: ((wsX9_note_r1 ++ wsX9_note_r2) ++ wsX00 ++ wsX20 ++ wsX40 ++ wsX60 ++ wsX80 ++ wsX90)
def wsX9_knob : List Cond := .code yX9_knob cX9_knob 6 (some .int) :: ([.fieldLink RX9 53 "CallWays2" "latest" "I", .fieldLink RX9 56 "CallWays2$Instrument" "knobs" "[I", .methodLink RX9 42 yX9_instrumentAt, .instanceMethod yX9_instrumentAt, .selects RX9 yX9_instrumentAt yX9_instrumentAt, .initialized RX9, .code yX9_instrumentAt cX9_instrumentAt 2 (some (.object "CallWays2$Instrument")), .fieldLink RX9 35 "CallWays2" "instrumentCount" "I", .fieldLink RX9 11 "CallWays2" "instruments" "[LCallWays2$Instrument;"] ++ wsX90 ++ wsX00 ++ wsX20 ++ wsX40 ++ wsX60 ++ wsX80)
def wsX9_phase : List Cond := .code yX9_phase cX9_phase 5 (some .int) :: ([.fieldLink RX9 53 "CallWays2" "latest" "I", .fieldLink RX9 60 "CallWays2$Instrument" "phase" "I", .methodLink RX9 42 yX9_instrumentAt, .instanceMethod yX9_instrumentAt, .selects RX9 yX9_instrumentAt yX9_instrumentAt, .initialized RX9, .code yX9_instrumentAt cX9_instrumentAt 2 (some (.object "CallWays2$Instrument")), .fieldLink RX9 35 "CallWays2" "instrumentCount" "I", .fieldLink RX9 11 "CallWays2" "instruments" "[LCallWays2$Instrument;"] ++ wsX90 ++ wsX00 ++ wsX20 ++ wsX40 ++ wsX60 ++ wsX80)
def wsX9_isBlock : List Cond := .code yX9_isBlock cX9_isBlock 1 (some .boolean) :: ([])
def wsX9_heldBy : List Cond := .code yX9_heldBy cX9_heldBy 2 (some (.object "CallWays2$Samples")) :: ([.fieldLink RX9 17 "CallWays2" "blocks" "[LCallWays2$Samples;", .methodLink RX9 63 yX9_isBlock, .static yX9_isBlock, .initialized RX9, .code yX9_isBlock cX9_isBlock 1 (some .boolean)] ++ wsX90)
def wsX9_lentOrTwin : List Cond := .code yX9_lentOrTwin cX9_lentOrTwin 2 (some (.object "CallWays2$Samples")) :: ([.methodLink RX9 191 yX7_twin, .instanceMethod yX7_twin, .selects RX7 yX7_twin yX7_twin, .initialized RX7, .code yX7_twin cX7_twin 1 (some (.object "CallWays2$Samples")), .classLink RX7 10 RX7, .instantiable RX7 2, .fieldLink RX7 9 "CallWays2$Samples" "lane" "I", .fieldLink RX7 15 "CallWays2$Samples" "values" "[D", .methodLink RX7 19 ⟨"[D", "clone", "()Ljava/lang/Object;"⟩, .sameMethod "[D" "java/lang/Object" "clone" "()Ljava/lang/Object;", .native ⟨"java/lang/Object", "clone", "()Ljava/lang/Object;"⟩, .instanceMethod ⟨"java/lang/Object", "clone", "()Ljava/lang/Object;"⟩, .selects "[D" ⟨"[D", "clone", "()Ljava/lang/Object;"⟩ ⟨"java/lang/Object", "clone", "()Ljava/lang/Object;"⟩, .classLink RX7 20 "[D", .methodLink RX7 24 yX7_init, .instanceMethod yX7_init, .code yX7_init cX7_init 3 none, .methodLink RX7 3 objectInit, .instanceMethod objectInit, .code objectInit ⟨#[0xb1]⟩ 1 none] ++ wsX70)
def wsX9_table_r1 : List Cond := [Cond.fieldLink RX9 75 "CallWays2$Instrument" "table" "LCallWays2$Samples;", Cond.methodLink RX9 42 yX9_instrumentAt, Cond.instanceMethod yX9_instrumentAt, Cond.selects RX9 yX9_instrumentAt yX9_instrumentAt, Cond.initialized RX9, Cond.code yX9_instrumentAt cX9_instrumentAt 2 (some (.object "CallWays2$Instrument")), Cond.fieldLink RX9 35 "CallWays2" "instrumentCount" "I", Cond.fieldLink RX9 11 "CallWays2" "instruments" "[LCallWays2$Instrument;", Cond.methodLink RX9 63 yX9_isBlock, Cond.static yX9_isBlock, Cond.code yX9_isBlock cX9_isBlock 1 (some .boolean), Cond.methodLink RX9 67 yX9_heldBy, Cond.instanceMethod yX9_heldBy, Cond.selects RX9 yX9_heldBy yX9_heldBy, Cond.code yX9_heldBy cX9_heldBy 2 (some (.object "CallWays2$Samples")), Cond.fieldLink RX9 17 "CallWays2" "blocks" "[LCallWays2$Samples;", Cond.methodLink RX9 71 yX9_lentOrTwin, Cond.static yX9_lentOrTwin, Cond.code yX9_lentOrTwin cX9_lentOrTwin 2 (some (.object "CallWays2$Samples")), Cond.methodLink RX9 191 yX7_twin, Cond.instanceMethod yX7_twin, Cond.selects RX7 yX7_twin yX7_twin, Cond.initialized RX7, Cond.code yX7_twin cX7_twin 1 (some (.object "CallWays2$Samples"))]
def wsX9_table_r2 : List Cond := [Cond.classLink RX7 10 RX7, Cond.instantiable RX7 2, Cond.fieldLink RX7 9 "CallWays2$Samples" "lane" "I", Cond.fieldLink RX7 15 "CallWays2$Samples" "values" "[D", Cond.methodLink RX7 19 ⟨"[D", "clone", "()Ljava/lang/Object;"⟩, Cond.sameMethod "[D" "java/lang/Object" "clone" "()Ljava/lang/Object;", Cond.native ⟨"java/lang/Object", "clone", "()Ljava/lang/Object;"⟩, Cond.instanceMethod ⟨"java/lang/Object", "clone", "()Ljava/lang/Object;"⟩, Cond.selects "[D" ⟨"[D", "clone", "()Ljava/lang/Object;"⟩ ⟨"java/lang/Object", "clone", "()Ljava/lang/Object;"⟩, Cond.classLink RX7 20 "[D", Cond.methodLink RX7 24 yX7_init, Cond.instanceMethod yX7_init, Cond.code yX7_init cX7_init 3 none, Cond.methodLink RX7 3 objectInit, Cond.instanceMethod objectInit, Cond.code objectInit ⟨#[0xb1]⟩ 1 none]
def wsX9_table : List Cond := .code yX9_table cX9_table 5 (some .int) :: ((wsX9_table_r1 ++ wsX9_table_r2) ++ wsX00 ++ wsX20 ++ wsX40 ++ wsX60 ++ wsX80 ++ wsX90 ++ wsX70)
def wsX9_isLane : List Cond := .code yX9_isLane cX9_isLane 1 (some .boolean) :: ([])
def wsX9_block : List Cond := .code yX9_block cX9_block 4 (some .int) :: ([.fieldLink RX9 17 "CallWays2" "blocks" "[LCallWays2$Samples;", .classLink RX9 15 RX7, .instantiable RX7 2, .initialized RX7, .arrayClass .double, .methodLink RX9 63 yX9_isBlock, .static yX9_isBlock, .initialized RX9, .code yX9_isBlock cX9_isBlock 1 (some .boolean), .methodLink RX9 79 yX9_isLane, .static yX9_isLane, .code yX9_isLane cX9_isLane 1 (some .boolean), .methodLink RX9 82 yX7_init, .instanceMethod yX7_init, .code yX7_init cX7_init 3 none, .methodLink RX7 3 objectInit, .instanceMethod objectInit, .code objectInit ⟨#[0xb1]⟩ 1 none, .fieldLink RX7 9 "CallWays2$Samples" "lane" "I", .fieldLink RX7 15 "CallWays2$Samples" "values" "[D"] ++ wsX90 ++ wsX70)
def wsX9_lend_r1 : List Cond := [Cond.fieldLink RX9 17 "CallWays2" "blocks" "[LCallWays2$Samples;", Cond.methodLink RX9 63 yX9_isBlock, Cond.static yX9_isBlock, Cond.initialized RX9, Cond.code yX9_isBlock cX9_isBlock 1 (some .boolean), Cond.methodLink RX9 67 yX9_heldBy, Cond.instanceMethod yX9_heldBy, Cond.selects RX9 yX9_heldBy yX9_heldBy, Cond.code yX9_heldBy cX9_heldBy 2 (some (.object "CallWays2$Samples")), Cond.methodLink RX9 71 yX9_lentOrTwin, Cond.static yX9_lentOrTwin, Cond.code yX9_lentOrTwin cX9_lentOrTwin 2 (some (.object "CallWays2$Samples")), Cond.methodLink RX9 191 yX7_twin, Cond.instanceMethod yX7_twin, Cond.selects RX7 yX7_twin yX7_twin, Cond.initialized RX7, Cond.code yX7_twin cX7_twin 1 (some (.object "CallWays2$Samples")), Cond.classLink RX7 10 RX7, Cond.instantiable RX7 2, Cond.fieldLink RX7 9 "CallWays2$Samples" "lane" "I", Cond.fieldLink RX7 15 "CallWays2$Samples" "values" "[D", Cond.methodLink RX7 19 ⟨"[D", "clone", "()Ljava/lang/Object;"⟩, Cond.sameMethod "[D" "java/lang/Object" "clone" "()Ljava/lang/Object;", Cond.native ⟨"java/lang/Object", "clone", "()Ljava/lang/Object;"⟩]
def wsX9_lend_r2 : List Cond := [Cond.instanceMethod ⟨"java/lang/Object", "clone", "()Ljava/lang/Object;"⟩, Cond.selects "[D" ⟨"[D", "clone", "()Ljava/lang/Object;"⟩ ⟨"java/lang/Object", "clone", "()Ljava/lang/Object;"⟩, Cond.classLink RX7 20 "[D", Cond.methodLink RX7 24 yX7_init, Cond.instanceMethod yX7_init, Cond.code yX7_init cX7_init 3 none, Cond.methodLink RX7 3 objectInit, Cond.instanceMethod objectInit, Cond.code objectInit ⟨#[0xb1]⟩ 1 none]
def wsX9_lend : List Cond := .code yX9_lend cX9_lend 5 (some .int) :: ((wsX9_lend_r1 ++ wsX9_lend_r2) ++ wsX90 ++ wsX70)
def wsX9_isLent : List Cond := .code yX9_isLent cX9_isLent 3 (some .boolean) :: ([.methodLink RX9 63 yX9_isBlock, .static yX9_isBlock, .initialized RX9, .code yX9_isBlock cX9_isBlock 1 (some .boolean), .methodLink RX9 67 yX9_heldBy, .instanceMethod yX9_heldBy, .selects RX9 yX9_heldBy yX9_heldBy, .code yX9_heldBy cX9_heldBy 2 (some (.object "CallWays2$Samples")), .fieldLink RX9 17 "CallWays2" "blocks" "[LCallWays2$Samples;"] ++ wsX90)
def wsX9_of : List Cond := .code yX9_of cX9_of 4 (some .int) :: ([.fieldLink RX9 85 "CallWays2$Samples" "lane" "I", .fieldLink RX9 88 "CallWays2$Samples" "values" "[D", .methodLink RX9 63 yX9_isBlock, .static yX9_isBlock, .initialized RX9, .code yX9_isBlock cX9_isBlock 1 (some .boolean), .methodLink RX9 67 yX9_heldBy, .instanceMethod yX9_heldBy, .selects RX9 yX9_heldBy yX9_heldBy, .code yX9_heldBy cX9_heldBy 2 (some (.object "CallWays2$Samples")), .fieldLink RX9 17 "CallWays2" "blocks" "[LCallWays2$Samples;"] ++ wsX70 ++ wsX90)
def wsX9_againstPlace : List Cond := .code yX9_againstPlace cX9_againstPlace 4 (some .int) :: ([.fieldLink RX9 17 "CallWays2" "blocks" "[LCallWays2$Samples;", .methodLink RX9 63 yX9_isBlock, .static yX9_isBlock, .initialized RX9, .code yX9_isBlock cX9_isBlock 1 (some .boolean), .methodLink RX9 195 yX7_has, .instanceMethod yX7_has, .selects RX7 yX7_has yX7_has, .initialized RX7, .code yX7_has cX7_has 2 (some .boolean), .fieldLink RX7 15 "CallWays2$Samples" "values" "[D"] ++ wsX90 ++ wsX70)
def wsX9_at_r1 : List Cond := [Cond.fieldLink RX9 53 "CallWays2" "latest" "I", Cond.fieldLink RX9 17 "CallWays2" "blocks" "[LCallWays2$Samples;", Cond.methodLink RX9 91 yX9_againstPlace, Cond.instanceMethod yX9_againstPlace, Cond.selects RX9 yX9_againstPlace yX9_againstPlace, Cond.initialized RX9, Cond.code yX9_againstPlace cX9_againstPlace 4 (some .int), Cond.methodLink RX9 63 yX9_isBlock, Cond.static yX9_isBlock, Cond.code yX9_isBlock cX9_isBlock 1 (some .boolean), Cond.methodLink RX9 195 yX7_has, Cond.instanceMethod yX7_has, Cond.selects RX7 yX7_has yX7_has, Cond.initialized RX7, Cond.code yX7_has cX7_has 2 (some .boolean), Cond.fieldLink RX7 15 "CallWays2$Samples" "values" "[D", Cond.methodLink RX9 95 yX7_bits, Cond.instanceMethod yX7_bits, Cond.selects RX7 yX7_bits yX7_bits, Cond.code yX7_bits cX7_bits 2 (some .long), Cond.fieldLink RX7 9 "CallWays2$Samples" "lane" "I", Cond.methodLink RX7 31 yX1_ofFloat, Cond.static yX1_ofFloat, Cond.initialized RX1]
def wsX9_at_r2 : List Cond := [Cond.code yX1_ofFloat cX1_ofFloat 2 (some .int), Cond.constant RX1 23 (-2147483648), Cond.methodLink RX1 7 yX1_isNegative, Cond.static yX1_isNegative, Cond.code yX1_isNegative cX1_isNegative 2 (some .boolean), Cond.methodLink RX1 17 yX1_magnitude, Cond.static yX1_magnitude, Cond.code yX1_magnitude cX1_magnitude 7 (some .long), Cond.constantDouble RX1 24 (4611686018427387904), Cond.constantDouble RX1 26 (4895412794951729152), Cond.methodLink RX7 37 yX1_ofDouble, Cond.static yX1_ofDouble, Cond.code yX1_ofDouble cX1_ofDouble 2 (some .long), Cond.constantLong RX1 15 (-9223372036854775808)]
def wsX9_at : List Cond := .code yX9_at cX9_at 3 (some .long) :: ((wsX9_at_r1 ++ wsX9_at_r2) ++ wsX90 ++ wsX70)
def wsX9_put_r1 : List Cond := [Cond.fieldLink RX9 53 "CallWays2" "latest" "I", Cond.fieldLink RX9 17 "CallWays2" "blocks" "[LCallWays2$Samples;", Cond.methodLink RX9 91 yX9_againstPlace, Cond.instanceMethod yX9_againstPlace, Cond.selects RX9 yX9_againstPlace yX9_againstPlace, Cond.initialized RX9, Cond.code yX9_againstPlace cX9_againstPlace 4 (some .int), Cond.methodLink RX9 63 yX9_isBlock, Cond.static yX9_isBlock, Cond.code yX9_isBlock cX9_isBlock 1 (some .boolean), Cond.methodLink RX9 195 yX7_has, Cond.instanceMethod yX7_has, Cond.selects RX7 yX7_has yX7_has, Cond.initialized RX7, Cond.code yX7_has cX7_has 2 (some .boolean), Cond.fieldLink RX7 15 "CallWays2$Samples" "values" "[D", Cond.methodLink RX9 99 yX7_set, Cond.instanceMethod yX7_set, Cond.selects RX7 yX7_set yX7_set, Cond.code yX7_set cX7_set 4 none, Cond.methodLink RX7 27 yX7_turned, Cond.instanceMethod yX7_turned, Cond.selects RX7 yX7_turned yX7_turned, Cond.code yX7_turned cX7_turned 3 (some .double)]
def wsX9_put_r2 : List Cond := [Cond.fieldLink RX7 9 "CallWays2$Samples" "lane" "I"]
def wsX9_put : List Cond := .code yX9_put cX9_put 4 (some .int) :: ((wsX9_put_r1 ++ wsX9_put_r2) ++ wsX90 ++ wsX70)
def wsX9_copy : List Cond := .code yX9_copy cX9_copy 8 (some .int) :: ([.fieldLink RX9 53 "CallWays2" "latest" "I", .fieldLink RX9 85 "CallWays2$Samples" "lane" "I", .fieldLink RX9 88 "CallWays2$Samples" "values" "[D", .methodLink RX9 107 arraycopyName, .native arraycopyName, .static arraycopyName, .initialized "java/lang/System", .methodLink RX9 67 yX9_heldBy, .instanceMethod yX9_heldBy, .selects RX9 yX9_heldBy yX9_heldBy, .initialized RX9, .code yX9_heldBy cX9_heldBy 2 (some (.object "CallWays2$Samples")), .fieldLink RX9 17 "CallWays2" "blocks" "[LCallWays2$Samples;", .methodLink RX9 63 yX9_isBlock, .static yX9_isBlock, .code yX9_isBlock cX9_isBlock 1 (some .boolean), .methodLink RX9 103 yX7_spans, .instanceMethod yX7_spans, .selects RX7 yX7_spans yX7_spans, .initialized RX7, .code yX7_spans cX7_spans 3 (some .boolean), .fieldLink RX7 15 "CallWays2$Samples" "values" "[D"] ++ wsX90 ++ wsX70)
def wsX9_bind : List Cond := .code yX9_bind cX9_bind 3 (some .int) :: ([.fieldLink RX9 31 "CallWays2" "boundLane" "I", .methodLink RX9 79 yX9_isLane, .static yX9_isLane, .initialized RX9, .code yX9_isLane cX9_isLane 1 (some .boolean)] ++ wsX90)
def wsX9_function : List Cond := .code yX9_function cX9_function 3 (some .int) :: ([.fieldLink RX9 113 "CallWays2" "functionCount" "I", .fieldLink RX9 23 "CallWays2" "functions" "[LCallWays2$Function;", .classLink RX9 21 RX3, .instantiable RX3 2, .initialized RX3, .methodLink RX9 116 yX3_init, .instanceMethod yX3_init, .code yX3_init cX3_init 3 none, .methodLink RX3 3 objectInit, .instanceMethod objectInit, .code objectInit ⟨#[0xb1]⟩ 1 none, .fieldLink RX3 9 "CallWays2$Function" "kind" "I", .fieldLink RX3 15 "CallWays2$Function" "a" "D"] ++ wsX90 ++ wsX30)
def wsX9_functionAt : List Cond := .code yX9_functionAt cX9_functionAt 2 (some (.object "CallWays2$Function")) :: ([.fieldLink RX9 113 "CallWays2" "functionCount" "I", .fieldLink RX9 23 "CallWays2" "functions" "[LCallWays2$Function;"] ++ wsX90)
def wsX9_againstBlock : List Cond := .code yX9_againstBlock cX9_againstBlock 5 (some .int) :: ([.fieldLink RX9 85 "CallWays2$Samples" "lane" "I", .fieldLink RX9 31 "CallWays2" "boundLane" "I", .methodLink RX9 103 yX7_spans, .instanceMethod yX7_spans, .selects RX7 yX7_spans yX7_spans, .initialized RX7, .code yX7_spans cX7_spans 3 (some .boolean), .fieldLink RX7 15 "CallWays2$Samples" "values" "[D"] ++ wsX70 ++ wsX90)
def wsX9_gather_r1 : List Cond := [Cond.fieldLink RX9 173 "CallWays2" "samplesAsked" "I", Cond.fieldLink RX9 164 "CallWays2$Instrument" "failure" "I", Cond.fieldLink RX9 27 "CallWays2" "waiting" "[D", Cond.methodLink RX9 160 ⟨"CallWays2$Instrument", "ask", "()D"⟩, Cond.sameMethod "CallWays2$Instrument" "CallWays2$Instrument" "ask" "()D", Cond.selects RX0 ⟨"CallWays2$Instrument", "ask", "()D"⟩ yX5_ask, Cond.instanceMethod yX5_ask, Cond.initialized RX5, Cond.code yX5_ask cX5_ask 3 (some .double), Cond.fieldLink RX5 23 "CallWays2$Instrument" "failure" "I", Cond.fieldLink RX5 30 "CallWays2$Instrument" "phase" "I", Cond.methodLink RX5 26 ⟨"CallWays2$Instrument", "give", "()D"⟩, Cond.sameMethod "CallWays2$Instrument" "CallWays2$Instrument" "give" "()D", Cond.selects RX0 ⟨"CallWays2$Instrument", "give", "()D"⟩ yX0_give, Cond.instanceMethod yX0_give, Cond.initialized RX0, Cond.code yX0_give cX0_give 3 (some .double), Cond.fieldLink RX0 9 "CallWays2$Bell" "phase" "I", Cond.sameField "CallWays2$Bell" "CallWays2$Instrument" "phase" "I", Cond.fieldLink RX0 15 "CallWays2$Bell" "knobs" "[I", Cond.sameField "CallWays2$Bell" "CallWays2$Instrument" "knobs" "[I", Cond.constantDouble RX0 27 (13830554455654793216), Cond.methodLink RX0 19 ⟨"CallWays2$Bell", "fail", "(I)D"⟩, Cond.sameMethod "CallWays2$Bell" "CallWays2$Instrument" "fail" "(I)D"]
def wsX9_gather_r2 : List Cond := [Cond.selects RX0 ⟨"CallWays2$Bell", "fail", "(I)D"⟩ yX5_fail, Cond.instanceMethod yX5_fail, Cond.code yX5_fail cX5_fail 2 (some .double), Cond.methodLink RX0 23 yX2_give, Cond.sameMethod "CallWays2$Drum" "CallWays2$Drum" "give" "()D", Cond.superclass RX0 RX2, Cond.instanceMethod yX2_give, Cond.initialized RX2, Cond.code yX2_give cX2_give 4 (some .double), Cond.fieldLink RX2 19 "CallWays2$Drum" "knobs" "[I", Cond.sameField "CallWays2$Drum" "CallWays2$Instrument" "knobs" "[I", Cond.fieldLink RX2 13 "CallWays2$Drum" "level" "D", Cond.sameField "CallWays2$Drum" "CallWays2$Instrument" "level" "D", Cond.constantDouble RX2 27 (4652007308841189376), Cond.methodLink RX2 23 ⟨"CallWays2$Drum", "fail", "(I)D"⟩, Cond.sameMethod "CallWays2$Drum" "CallWays2$Instrument" "fail" "(I)D", Cond.selects RX0 ⟨"CallWays2$Drum", "fail", "(I)D"⟩ yX5_fail, Cond.selects RX2 ⟨"CallWays2$Drum", "fail", "(I)D"⟩ yX5_fail, Cond.selects RX2 ⟨"CallWays2$Instrument", "give", "()D"⟩ yX2_give, Cond.selects RX4 ⟨"CallWays2$Instrument", "give", "()D"⟩ yX4_give, Cond.instanceMethod yX4_give, Cond.initialized RX4, Cond.code yX4_give cX4_give 1 (some .double), Cond.constantDouble RX4 7 (4611686018427387904)]
def wsX9_gather_r3 : List Cond := [Cond.fieldLink RX4 13 "CallWays2$Glass" "knobs" "[I", Cond.sameField "CallWays2$Glass" "CallWays2$Instrument" "knobs" "[I", Cond.methodLink RX4 9 yX8_give, Cond.sameMethod "CallWays2$Tone" "CallWays2$Tone" "give" "()D", Cond.superclass RX4 RX8, Cond.instanceMethod yX8_give, Cond.initialized RX8, Cond.code yX8_give cX8_give 1 (some .double), Cond.fieldLink RX8 7 "CallWays2$Tone" "on" "Z", Cond.sameField "CallWays2$Tone" "CallWays2$Instrument" "on" "Z", Cond.fieldLink RX8 13 "CallWays2$Tone" "phase" "I", Cond.sameField "CallWays2$Tone" "CallWays2$Instrument" "phase" "I", Cond.fieldLink RX8 17 "CallWays2$Tone" "pitch" "I", Cond.sameField "CallWays2$Tone" "CallWays2$Instrument" "pitch" "I", Cond.selects RX6 ⟨"CallWays2$Instrument", "give", "()D"⟩ yX6_give, Cond.instanceMethod yX6_give, Cond.initialized RX6, Cond.code yX6_give cX6_give 2 (some .double), Cond.fieldLink RX6 9 "CallWays2$Reader" "on" "Z", Cond.sameField "CallWays2$Reader" "CallWays2$Instrument" "on" "Z", Cond.fieldLink RX6 15 "CallWays2$Reader" "phase" "I", Cond.sameField "CallWays2$Reader" "CallWays2$Instrument" "phase" "I", Cond.fieldLink RX6 23 "CallWays2$Reader" "table" "LCallWays2$Samples;", Cond.sameField "CallWays2$Reader" "CallWays2$Instrument" "table" "LCallWays2$Samples;"]
def wsX9_gather_r4 : List Cond := [Cond.fieldLink RX6 27 "CallWays2$Samples" "lane" "I", Cond.fieldLink RX6 32 "CallWays2$Reader" "knobs" "[I", Cond.sameField "CallWays2$Reader" "CallWays2$Instrument" "knobs" "[I", Cond.fieldLink RX6 40 "CallWays2$Samples" "values" "[D", Cond.methodLink RX6 19 ⟨"CallWays2$Reader", "fail", "(I)D"⟩, Cond.sameMethod "CallWays2$Reader" "CallWays2$Instrument" "fail" "(I)D", Cond.selects RX6 ⟨"CallWays2$Reader", "fail", "(I)D"⟩ yX5_fail, Cond.methodLink RX6 36 yX7_has, Cond.instanceMethod yX7_has, Cond.selects RX7 yX7_has yX7_has, Cond.initialized RX7, Cond.code yX7_has cX7_has 2 (some .boolean), Cond.fieldLink RX7 15 "CallWays2$Samples" "values" "[D", Cond.selects RX8 ⟨"CallWays2$Instrument", "give", "()D"⟩ yX8_give, Cond.selects RX2 ⟨"CallWays2$Instrument", "ask", "()D"⟩ yX5_ask, Cond.selects RX4 ⟨"CallWays2$Instrument", "ask", "()D"⟩ yX5_ask, Cond.selects RX6 ⟨"CallWays2$Instrument", "ask", "()D"⟩ yX5_ask, Cond.selects RX8 ⟨"CallWays2$Instrument", "ask", "()D"⟩ yX5_ask, Cond.methodLink RX9 152 yX3_refuses, Cond.instanceMethod yX3_refuses, Cond.selects RX3 yX3_refuses yX3_refuses, Cond.initialized RX3, Cond.code yX3_refuses cX3_refuses 3 (some .boolean), Cond.fieldLink RX3 9 "CallWays2$Function" "kind" "I"]
def wsX9_gather_r5 : List Cond := [Cond.fieldLink RX3 15 "CallWays2$Function" "a" "D", Cond.methodLink RX9 156 yX3_pass, Cond.instanceMethod yX3_pass, Cond.selects RX3 yX3_pass yX3_pass, Cond.code yX3_pass cX3_pass 3 (some .double)]
def wsX9_gather : List Cond := .code yX9_gather cX9_gather 7 (some .int) :: ((wsX9_gather_r1 ++ (wsX9_gather_r2 ++ (wsX9_gather_r3 ++ (wsX9_gather_r4 ++ wsX9_gather_r5)))) ++ wsX90 ++ wsX00 ++ wsX20 ++ wsX40 ++ wsX60 ++ wsX80 ++ wsX70 ++ wsX30)
def wsX9_deliver : List Cond := .code yX9_deliver cX9_deliver 6 none :: ([.fieldLink RX9 27 "CallWays2" "waiting" "[D", .methodLink RX9 99 yX7_set, .instanceMethod yX7_set, .selects RX7 yX7_set yX7_set, .initialized RX7, .code yX7_set cX7_set 4 none, .fieldLink RX7 15 "CallWays2$Samples" "values" "[D", .methodLink RX7 27 yX7_turned, .instanceMethod yX7_turned, .selects RX7 yX7_turned yX7_turned, .code yX7_turned cX7_turned 3 (some .double), .fieldLink RX7 9 "CallWays2$Samples" "lane" "I"] ++ wsX90 ++ wsX70)
def wsX9_play_r1 : List Cond := [Cond.fieldLink RX9 53 "CallWays2" "latest" "I", Cond.fieldLink RX9 135 "CallWays2" "playedFailed" "I", Cond.fieldLink RX9 138 "CallWays2" "playedWell" "I", Cond.methodLink RX9 42 yX9_instrumentAt, Cond.instanceMethod yX9_instrumentAt, Cond.selects RX9 yX9_instrumentAt yX9_instrumentAt, Cond.initialized RX9, Cond.code yX9_instrumentAt cX9_instrumentAt 2 (some (.object "CallWays2$Instrument")), Cond.fieldLink RX9 35 "CallWays2" "instrumentCount" "I", Cond.fieldLink RX9 11 "CallWays2" "instruments" "[LCallWays2$Instrument;", Cond.methodLink RX9 119 yX9_functionAt, Cond.instanceMethod yX9_functionAt, Cond.selects RX9 yX9_functionAt yX9_functionAt, Cond.code yX9_functionAt cX9_functionAt 2 (some (.object "CallWays2$Function")), Cond.fieldLink RX9 113 "CallWays2" "functionCount" "I", Cond.fieldLink RX9 23 "CallWays2" "functions" "[LCallWays2$Function;", Cond.methodLink RX9 63 yX9_isBlock, Cond.static yX9_isBlock, Cond.code yX9_isBlock cX9_isBlock 1 (some .boolean), Cond.methodLink RX9 67 yX9_heldBy, Cond.instanceMethod yX9_heldBy, Cond.selects RX9 yX9_heldBy yX9_heldBy, Cond.code yX9_heldBy cX9_heldBy 2 (some (.object "CallWays2$Samples")), Cond.fieldLink RX9 17 "CallWays2" "blocks" "[LCallWays2$Samples;"]
def wsX9_play_r2 : List Cond := [Cond.methodLink RX9 123 yX9_againstBlock, Cond.instanceMethod yX9_againstBlock, Cond.selects RX9 yX9_againstBlock yX9_againstBlock, Cond.code yX9_againstBlock cX9_againstBlock 5 (some .int), Cond.fieldLink RX9 85 "CallWays2$Samples" "lane" "I", Cond.fieldLink RX9 31 "CallWays2" "boundLane" "I", Cond.methodLink RX9 103 yX7_spans, Cond.instanceMethod yX7_spans, Cond.selects RX7 yX7_spans yX7_spans, Cond.initialized RX7, Cond.code yX7_spans cX7_spans 3 (some .boolean), Cond.fieldLink RX7 15 "CallWays2$Samples" "values" "[D", Cond.methodLink RX9 127 yX9_gather, Cond.instanceMethod yX9_gather, Cond.selects RX9 yX9_gather yX9_gather, Cond.code yX9_gather cX9_gather 7 (some .int), Cond.fieldLink RX9 173 "CallWays2" "samplesAsked" "I", Cond.fieldLink RX9 164 "CallWays2$Instrument" "failure" "I", Cond.fieldLink RX9 27 "CallWays2" "waiting" "[D", Cond.methodLink RX9 160 ⟨"CallWays2$Instrument", "ask", "()D"⟩, Cond.sameMethod "CallWays2$Instrument" "CallWays2$Instrument" "ask" "()D", Cond.selects RX0 ⟨"CallWays2$Instrument", "ask", "()D"⟩ yX5_ask, Cond.instanceMethod yX5_ask, Cond.initialized RX5]
def wsX9_play_r3 : List Cond := [Cond.code yX5_ask cX5_ask 3 (some .double), Cond.fieldLink RX5 23 "CallWays2$Instrument" "failure" "I", Cond.fieldLink RX5 30 "CallWays2$Instrument" "phase" "I", Cond.methodLink RX5 26 ⟨"CallWays2$Instrument", "give", "()D"⟩, Cond.sameMethod "CallWays2$Instrument" "CallWays2$Instrument" "give" "()D", Cond.selects RX0 ⟨"CallWays2$Instrument", "give", "()D"⟩ yX0_give, Cond.instanceMethod yX0_give, Cond.initialized RX0, Cond.code yX0_give cX0_give 3 (some .double), Cond.fieldLink RX0 9 "CallWays2$Bell" "phase" "I", Cond.sameField "CallWays2$Bell" "CallWays2$Instrument" "phase" "I", Cond.fieldLink RX0 15 "CallWays2$Bell" "knobs" "[I", Cond.sameField "CallWays2$Bell" "CallWays2$Instrument" "knobs" "[I", Cond.constantDouble RX0 27 (13830554455654793216), Cond.methodLink RX0 19 ⟨"CallWays2$Bell", "fail", "(I)D"⟩, Cond.sameMethod "CallWays2$Bell" "CallWays2$Instrument" "fail" "(I)D", Cond.selects RX0 ⟨"CallWays2$Bell", "fail", "(I)D"⟩ yX5_fail, Cond.instanceMethod yX5_fail, Cond.code yX5_fail cX5_fail 2 (some .double), Cond.methodLink RX0 23 yX2_give, Cond.sameMethod "CallWays2$Drum" "CallWays2$Drum" "give" "()D", Cond.superclass RX0 RX2, Cond.instanceMethod yX2_give, Cond.initialized RX2]
def wsX9_play_r4 : List Cond := [Cond.code yX2_give cX2_give 4 (some .double), Cond.fieldLink RX2 19 "CallWays2$Drum" "knobs" "[I", Cond.sameField "CallWays2$Drum" "CallWays2$Instrument" "knobs" "[I", Cond.fieldLink RX2 13 "CallWays2$Drum" "level" "D", Cond.sameField "CallWays2$Drum" "CallWays2$Instrument" "level" "D", Cond.constantDouble RX2 27 (4652007308841189376), Cond.methodLink RX2 23 ⟨"CallWays2$Drum", "fail", "(I)D"⟩, Cond.sameMethod "CallWays2$Drum" "CallWays2$Instrument" "fail" "(I)D", Cond.selects RX0 ⟨"CallWays2$Drum", "fail", "(I)D"⟩ yX5_fail, Cond.selects RX2 ⟨"CallWays2$Drum", "fail", "(I)D"⟩ yX5_fail, Cond.selects RX2 ⟨"CallWays2$Instrument", "give", "()D"⟩ yX2_give, Cond.selects RX4 ⟨"CallWays2$Instrument", "give", "()D"⟩ yX4_give, Cond.instanceMethod yX4_give, Cond.initialized RX4, Cond.code yX4_give cX4_give 1 (some .double), Cond.constantDouble RX4 7 (4611686018427387904), Cond.fieldLink RX4 13 "CallWays2$Glass" "knobs" "[I", Cond.sameField "CallWays2$Glass" "CallWays2$Instrument" "knobs" "[I", Cond.methodLink RX4 9 yX8_give, Cond.sameMethod "CallWays2$Tone" "CallWays2$Tone" "give" "()D", Cond.superclass RX4 RX8, Cond.instanceMethod yX8_give, Cond.initialized RX8, Cond.code yX8_give cX8_give 1 (some .double)]
def wsX9_play_r5 : List Cond := [Cond.fieldLink RX8 7 "CallWays2$Tone" "on" "Z", Cond.sameField "CallWays2$Tone" "CallWays2$Instrument" "on" "Z", Cond.fieldLink RX8 13 "CallWays2$Tone" "phase" "I", Cond.sameField "CallWays2$Tone" "CallWays2$Instrument" "phase" "I", Cond.fieldLink RX8 17 "CallWays2$Tone" "pitch" "I", Cond.sameField "CallWays2$Tone" "CallWays2$Instrument" "pitch" "I", Cond.selects RX6 ⟨"CallWays2$Instrument", "give", "()D"⟩ yX6_give, Cond.instanceMethod yX6_give, Cond.initialized RX6, Cond.code yX6_give cX6_give 2 (some .double), Cond.fieldLink RX6 9 "CallWays2$Reader" "on" "Z", Cond.sameField "CallWays2$Reader" "CallWays2$Instrument" "on" "Z", Cond.fieldLink RX6 15 "CallWays2$Reader" "phase" "I", Cond.sameField "CallWays2$Reader" "CallWays2$Instrument" "phase" "I", Cond.fieldLink RX6 23 "CallWays2$Reader" "table" "LCallWays2$Samples;", Cond.sameField "CallWays2$Reader" "CallWays2$Instrument" "table" "LCallWays2$Samples;", Cond.fieldLink RX6 27 "CallWays2$Samples" "lane" "I", Cond.fieldLink RX6 32 "CallWays2$Reader" "knobs" "[I", Cond.sameField "CallWays2$Reader" "CallWays2$Instrument" "knobs" "[I", Cond.fieldLink RX6 40 "CallWays2$Samples" "values" "[D", Cond.methodLink RX6 19 ⟨"CallWays2$Reader", "fail", "(I)D"⟩, Cond.sameMethod "CallWays2$Reader" "CallWays2$Instrument" "fail" "(I)D", Cond.selects RX6 ⟨"CallWays2$Reader", "fail", "(I)D"⟩ yX5_fail, Cond.methodLink RX6 36 yX7_has]
def wsX9_play_r6 : List Cond := [Cond.instanceMethod yX7_has, Cond.selects RX7 yX7_has yX7_has, Cond.code yX7_has cX7_has 2 (some .boolean), Cond.selects RX8 ⟨"CallWays2$Instrument", "give", "()D"⟩ yX8_give, Cond.selects RX2 ⟨"CallWays2$Instrument", "ask", "()D"⟩ yX5_ask, Cond.selects RX4 ⟨"CallWays2$Instrument", "ask", "()D"⟩ yX5_ask, Cond.selects RX6 ⟨"CallWays2$Instrument", "ask", "()D"⟩ yX5_ask, Cond.selects RX8 ⟨"CallWays2$Instrument", "ask", "()D"⟩ yX5_ask, Cond.methodLink RX9 152 yX3_refuses, Cond.instanceMethod yX3_refuses, Cond.selects RX3 yX3_refuses yX3_refuses, Cond.initialized RX3, Cond.code yX3_refuses cX3_refuses 3 (some .boolean), Cond.fieldLink RX3 9 "CallWays2$Function" "kind" "I", Cond.fieldLink RX3 15 "CallWays2$Function" "a" "D", Cond.methodLink RX9 156 yX3_pass, Cond.instanceMethod yX3_pass, Cond.selects RX3 yX3_pass yX3_pass, Cond.code yX3_pass cX3_pass 3 (some .double), Cond.methodLink RX9 131 yX9_deliver, Cond.instanceMethod yX9_deliver, Cond.selects RX9 yX9_deliver yX9_deliver, Cond.code yX9_deliver cX9_deliver 6 none, Cond.methodLink RX9 99 yX7_set]
def wsX9_play_r7 : List Cond := [Cond.instanceMethod yX7_set, Cond.selects RX7 yX7_set yX7_set, Cond.code yX7_set cX7_set 4 none, Cond.methodLink RX7 27 yX7_turned, Cond.instanceMethod yX7_turned, Cond.selects RX7 yX7_turned yX7_turned, Cond.code yX7_turned cX7_turned 3 (some .double), Cond.fieldLink RX7 9 "CallWays2$Samples" "lane" "I"]
def wsX9_play : List Cond := .code yX9_play cX9_play 12 (some .int) :: ((wsX9_play_r1 ++ (wsX9_play_r2 ++ (wsX9_play_r3 ++ (wsX9_play_r4 ++ (wsX9_play_r5 ++ (wsX9_play_r6 ++ wsX9_play_r7)))))) ++ wsX90 ++ wsX70 ++ wsX00 ++ wsX20 ++ wsX40 ++ wsX60 ++ wsX80 ++ wsX30)
def wsX9_staysAlike_r1 : List Cond := [Cond.fieldLink RX9 164 "CallWays2$Instrument" "failure" "I", Cond.methodLink RX9 160 ⟨"CallWays2$Instrument", "ask", "()D"⟩, Cond.sameMethod "CallWays2$Instrument" "CallWays2$Instrument" "ask" "()D", Cond.selects RX0 ⟨"CallWays2$Instrument", "ask", "()D"⟩ yX5_ask, Cond.instanceMethod yX5_ask, Cond.initialized RX5, Cond.code yX5_ask cX5_ask 3 (some .double), Cond.fieldLink RX5 23 "CallWays2$Instrument" "failure" "I", Cond.fieldLink RX5 30 "CallWays2$Instrument" "phase" "I", Cond.methodLink RX5 26 ⟨"CallWays2$Instrument", "give", "()D"⟩, Cond.sameMethod "CallWays2$Instrument" "CallWays2$Instrument" "give" "()D", Cond.selects RX0 ⟨"CallWays2$Instrument", "give", "()D"⟩ yX0_give, Cond.instanceMethod yX0_give, Cond.initialized RX0, Cond.code yX0_give cX0_give 3 (some .double), Cond.fieldLink RX0 9 "CallWays2$Bell" "phase" "I", Cond.sameField "CallWays2$Bell" "CallWays2$Instrument" "phase" "I", Cond.fieldLink RX0 15 "CallWays2$Bell" "knobs" "[I", Cond.sameField "CallWays2$Bell" "CallWays2$Instrument" "knobs" "[I", Cond.constantDouble RX0 27 (13830554455654793216), Cond.methodLink RX0 19 ⟨"CallWays2$Bell", "fail", "(I)D"⟩, Cond.sameMethod "CallWays2$Bell" "CallWays2$Instrument" "fail" "(I)D", Cond.selects RX0 ⟨"CallWays2$Bell", "fail", "(I)D"⟩ yX5_fail, Cond.instanceMethod yX5_fail]
def wsX9_staysAlike_r2 : List Cond := [Cond.code yX5_fail cX5_fail 2 (some .double), Cond.methodLink RX0 23 yX2_give, Cond.sameMethod "CallWays2$Drum" "CallWays2$Drum" "give" "()D", Cond.superclass RX0 RX2, Cond.instanceMethod yX2_give, Cond.initialized RX2, Cond.code yX2_give cX2_give 4 (some .double), Cond.fieldLink RX2 19 "CallWays2$Drum" "knobs" "[I", Cond.sameField "CallWays2$Drum" "CallWays2$Instrument" "knobs" "[I", Cond.fieldLink RX2 13 "CallWays2$Drum" "level" "D", Cond.sameField "CallWays2$Drum" "CallWays2$Instrument" "level" "D", Cond.constantDouble RX2 27 (4652007308841189376), Cond.methodLink RX2 23 ⟨"CallWays2$Drum", "fail", "(I)D"⟩, Cond.sameMethod "CallWays2$Drum" "CallWays2$Instrument" "fail" "(I)D", Cond.selects RX0 ⟨"CallWays2$Drum", "fail", "(I)D"⟩ yX5_fail, Cond.selects RX2 ⟨"CallWays2$Drum", "fail", "(I)D"⟩ yX5_fail, Cond.selects RX2 ⟨"CallWays2$Instrument", "give", "()D"⟩ yX2_give, Cond.selects RX4 ⟨"CallWays2$Instrument", "give", "()D"⟩ yX4_give, Cond.instanceMethod yX4_give, Cond.initialized RX4, Cond.code yX4_give cX4_give 1 (some .double), Cond.constantDouble RX4 7 (4611686018427387904), Cond.fieldLink RX4 13 "CallWays2$Glass" "knobs" "[I", Cond.sameField "CallWays2$Glass" "CallWays2$Instrument" "knobs" "[I"]
def wsX9_staysAlike_r3 : List Cond := [Cond.methodLink RX4 9 yX8_give, Cond.sameMethod "CallWays2$Tone" "CallWays2$Tone" "give" "()D", Cond.superclass RX4 RX8, Cond.instanceMethod yX8_give, Cond.initialized RX8, Cond.code yX8_give cX8_give 1 (some .double), Cond.fieldLink RX8 7 "CallWays2$Tone" "on" "Z", Cond.sameField "CallWays2$Tone" "CallWays2$Instrument" "on" "Z", Cond.fieldLink RX8 13 "CallWays2$Tone" "phase" "I", Cond.sameField "CallWays2$Tone" "CallWays2$Instrument" "phase" "I", Cond.fieldLink RX8 17 "CallWays2$Tone" "pitch" "I", Cond.sameField "CallWays2$Tone" "CallWays2$Instrument" "pitch" "I", Cond.selects RX6 ⟨"CallWays2$Instrument", "give", "()D"⟩ yX6_give, Cond.instanceMethod yX6_give, Cond.initialized RX6, Cond.code yX6_give cX6_give 2 (some .double), Cond.fieldLink RX6 9 "CallWays2$Reader" "on" "Z", Cond.sameField "CallWays2$Reader" "CallWays2$Instrument" "on" "Z", Cond.fieldLink RX6 15 "CallWays2$Reader" "phase" "I", Cond.sameField "CallWays2$Reader" "CallWays2$Instrument" "phase" "I", Cond.fieldLink RX6 23 "CallWays2$Reader" "table" "LCallWays2$Samples;", Cond.sameField "CallWays2$Reader" "CallWays2$Instrument" "table" "LCallWays2$Samples;", Cond.fieldLink RX6 27 "CallWays2$Samples" "lane" "I", Cond.fieldLink RX6 32 "CallWays2$Reader" "knobs" "[I"]
def wsX9_staysAlike_r4 : List Cond := [Cond.sameField "CallWays2$Reader" "CallWays2$Instrument" "knobs" "[I", Cond.fieldLink RX6 40 "CallWays2$Samples" "values" "[D", Cond.methodLink RX6 19 ⟨"CallWays2$Reader", "fail", "(I)D"⟩, Cond.sameMethod "CallWays2$Reader" "CallWays2$Instrument" "fail" "(I)D", Cond.selects RX6 ⟨"CallWays2$Reader", "fail", "(I)D"⟩ yX5_fail, Cond.methodLink RX6 36 yX7_has, Cond.instanceMethod yX7_has, Cond.selects RX7 yX7_has yX7_has, Cond.initialized RX7, Cond.code yX7_has cX7_has 2 (some .boolean), Cond.fieldLink RX7 15 "CallWays2$Samples" "values" "[D", Cond.selects RX8 ⟨"CallWays2$Instrument", "give", "()D"⟩ yX8_give, Cond.selects RX2 ⟨"CallWays2$Instrument", "ask", "()D"⟩ yX5_ask, Cond.selects RX4 ⟨"CallWays2$Instrument", "ask", "()D"⟩ yX5_ask, Cond.selects RX6 ⟨"CallWays2$Instrument", "ask", "()D"⟩ yX5_ask, Cond.selects RX8 ⟨"CallWays2$Instrument", "ask", "()D"⟩ yX5_ask, Cond.methodLink RX9 152 yX3_refuses, Cond.instanceMethod yX3_refuses, Cond.selects RX3 yX3_refuses yX3_refuses, Cond.initialized RX3, Cond.code yX3_refuses cX3_refuses 3 (some .boolean), Cond.fieldLink RX3 9 "CallWays2$Function" "kind" "I", Cond.fieldLink RX3 15 "CallWays2$Function" "a" "D", Cond.methodLink RX9 156 yX3_pass]
def wsX9_staysAlike_r5 : List Cond := [Cond.instanceMethod yX3_pass, Cond.selects RX3 yX3_pass yX3_pass, Cond.code yX3_pass cX3_pass 3 (some .double)]
def wsX9_staysAlike : List Cond := .code yX9_staysAlike cX9_staysAlike 6 (some .boolean) :: ((wsX9_staysAlike_r1 ++ (wsX9_staysAlike_r2 ++ (wsX9_staysAlike_r3 ++ (wsX9_staysAlike_r4 ++ wsX9_staysAlike_r5)))) ++ wsX00 ++ wsX20 ++ wsX40 ++ wsX60 ++ wsX80 ++ wsX70 ++ wsX30)
def wsX9_agree_r1 : List Cond := [Cond.fieldLink RX9 60 "CallWays2$Instrument" "phase" "I", Cond.fieldLink RX9 141 "CallWays2$Instrument" "level" "D", Cond.methodLink RX9 42 yX9_instrumentAt, Cond.instanceMethod yX9_instrumentAt, Cond.selects RX9 yX9_instrumentAt yX9_instrumentAt, Cond.initialized RX9, Cond.code yX9_instrumentAt cX9_instrumentAt 2 (some (.object "CallWays2$Instrument")), Cond.fieldLink RX9 35 "CallWays2" "instrumentCount" "I", Cond.fieldLink RX9 11 "CallWays2" "instruments" "[LCallWays2$Instrument;", Cond.methodLink RX9 119 yX9_functionAt, Cond.instanceMethod yX9_functionAt, Cond.selects RX9 yX9_functionAt yX9_functionAt, Cond.code yX9_functionAt cX9_functionAt 2 (some (.object "CallWays2$Function")), Cond.fieldLink RX9 113 "CallWays2" "functionCount" "I", Cond.fieldLink RX9 23 "CallWays2" "functions" "[LCallWays2$Function;", Cond.methodLink RX9 145 yX9_staysAlike, Cond.static yX9_staysAlike, Cond.code yX9_staysAlike cX9_staysAlike 6 (some .boolean), Cond.fieldLink RX9 164 "CallWays2$Instrument" "failure" "I", Cond.methodLink RX9 160 ⟨"CallWays2$Instrument", "ask", "()D"⟩, Cond.sameMethod "CallWays2$Instrument" "CallWays2$Instrument" "ask" "()D", Cond.selects RX0 ⟨"CallWays2$Instrument", "ask", "()D"⟩ yX5_ask, Cond.instanceMethod yX5_ask, Cond.initialized RX5]
def wsX9_agree_r2 : List Cond := [Cond.code yX5_ask cX5_ask 3 (some .double), Cond.fieldLink RX5 23 "CallWays2$Instrument" "failure" "I", Cond.fieldLink RX5 30 "CallWays2$Instrument" "phase" "I", Cond.methodLink RX5 26 ⟨"CallWays2$Instrument", "give", "()D"⟩, Cond.sameMethod "CallWays2$Instrument" "CallWays2$Instrument" "give" "()D", Cond.selects RX0 ⟨"CallWays2$Instrument", "give", "()D"⟩ yX0_give, Cond.instanceMethod yX0_give, Cond.initialized RX0, Cond.code yX0_give cX0_give 3 (some .double), Cond.fieldLink RX0 9 "CallWays2$Bell" "phase" "I", Cond.sameField "CallWays2$Bell" "CallWays2$Instrument" "phase" "I", Cond.fieldLink RX0 15 "CallWays2$Bell" "knobs" "[I", Cond.sameField "CallWays2$Bell" "CallWays2$Instrument" "knobs" "[I", Cond.constantDouble RX0 27 (13830554455654793216), Cond.methodLink RX0 19 ⟨"CallWays2$Bell", "fail", "(I)D"⟩, Cond.sameMethod "CallWays2$Bell" "CallWays2$Instrument" "fail" "(I)D", Cond.selects RX0 ⟨"CallWays2$Bell", "fail", "(I)D"⟩ yX5_fail, Cond.instanceMethod yX5_fail, Cond.code yX5_fail cX5_fail 2 (some .double), Cond.methodLink RX0 23 yX2_give, Cond.sameMethod "CallWays2$Drum" "CallWays2$Drum" "give" "()D", Cond.superclass RX0 RX2, Cond.instanceMethod yX2_give, Cond.initialized RX2]
def wsX9_agree_r3 : List Cond := [Cond.code yX2_give cX2_give 4 (some .double), Cond.fieldLink RX2 19 "CallWays2$Drum" "knobs" "[I", Cond.sameField "CallWays2$Drum" "CallWays2$Instrument" "knobs" "[I", Cond.fieldLink RX2 13 "CallWays2$Drum" "level" "D", Cond.sameField "CallWays2$Drum" "CallWays2$Instrument" "level" "D", Cond.constantDouble RX2 27 (4652007308841189376), Cond.methodLink RX2 23 ⟨"CallWays2$Drum", "fail", "(I)D"⟩, Cond.sameMethod "CallWays2$Drum" "CallWays2$Instrument" "fail" "(I)D", Cond.selects RX0 ⟨"CallWays2$Drum", "fail", "(I)D"⟩ yX5_fail, Cond.selects RX2 ⟨"CallWays2$Drum", "fail", "(I)D"⟩ yX5_fail, Cond.selects RX2 ⟨"CallWays2$Instrument", "give", "()D"⟩ yX2_give, Cond.selects RX4 ⟨"CallWays2$Instrument", "give", "()D"⟩ yX4_give, Cond.instanceMethod yX4_give, Cond.initialized RX4, Cond.code yX4_give cX4_give 1 (some .double), Cond.constantDouble RX4 7 (4611686018427387904), Cond.fieldLink RX4 13 "CallWays2$Glass" "knobs" "[I", Cond.sameField "CallWays2$Glass" "CallWays2$Instrument" "knobs" "[I", Cond.methodLink RX4 9 yX8_give, Cond.sameMethod "CallWays2$Tone" "CallWays2$Tone" "give" "()D", Cond.superclass RX4 RX8, Cond.instanceMethod yX8_give, Cond.initialized RX8, Cond.code yX8_give cX8_give 1 (some .double)]
def wsX9_agree_r4 : List Cond := [Cond.fieldLink RX8 7 "CallWays2$Tone" "on" "Z", Cond.sameField "CallWays2$Tone" "CallWays2$Instrument" "on" "Z", Cond.fieldLink RX8 13 "CallWays2$Tone" "phase" "I", Cond.sameField "CallWays2$Tone" "CallWays2$Instrument" "phase" "I", Cond.fieldLink RX8 17 "CallWays2$Tone" "pitch" "I", Cond.sameField "CallWays2$Tone" "CallWays2$Instrument" "pitch" "I", Cond.selects RX6 ⟨"CallWays2$Instrument", "give", "()D"⟩ yX6_give, Cond.instanceMethod yX6_give, Cond.initialized RX6, Cond.code yX6_give cX6_give 2 (some .double), Cond.fieldLink RX6 9 "CallWays2$Reader" "on" "Z", Cond.sameField "CallWays2$Reader" "CallWays2$Instrument" "on" "Z", Cond.fieldLink RX6 15 "CallWays2$Reader" "phase" "I", Cond.sameField "CallWays2$Reader" "CallWays2$Instrument" "phase" "I", Cond.fieldLink RX6 23 "CallWays2$Reader" "table" "LCallWays2$Samples;", Cond.sameField "CallWays2$Reader" "CallWays2$Instrument" "table" "LCallWays2$Samples;", Cond.fieldLink RX6 27 "CallWays2$Samples" "lane" "I", Cond.fieldLink RX6 32 "CallWays2$Reader" "knobs" "[I", Cond.sameField "CallWays2$Reader" "CallWays2$Instrument" "knobs" "[I", Cond.fieldLink RX6 40 "CallWays2$Samples" "values" "[D", Cond.methodLink RX6 19 ⟨"CallWays2$Reader", "fail", "(I)D"⟩, Cond.sameMethod "CallWays2$Reader" "CallWays2$Instrument" "fail" "(I)D", Cond.selects RX6 ⟨"CallWays2$Reader", "fail", "(I)D"⟩ yX5_fail, Cond.methodLink RX6 36 yX7_has]
def wsX9_agree_r5 : List Cond := [Cond.instanceMethod yX7_has, Cond.selects RX7 yX7_has yX7_has, Cond.initialized RX7, Cond.code yX7_has cX7_has 2 (some .boolean), Cond.fieldLink RX7 15 "CallWays2$Samples" "values" "[D", Cond.selects RX8 ⟨"CallWays2$Instrument", "give", "()D"⟩ yX8_give, Cond.selects RX2 ⟨"CallWays2$Instrument", "ask", "()D"⟩ yX5_ask, Cond.selects RX4 ⟨"CallWays2$Instrument", "ask", "()D"⟩ yX5_ask, Cond.selects RX6 ⟨"CallWays2$Instrument", "ask", "()D"⟩ yX5_ask, Cond.selects RX8 ⟨"CallWays2$Instrument", "ask", "()D"⟩ yX5_ask, Cond.methodLink RX9 152 yX3_refuses, Cond.instanceMethod yX3_refuses, Cond.selects RX3 yX3_refuses yX3_refuses, Cond.initialized RX3, Cond.code yX3_refuses cX3_refuses 3 (some .boolean), Cond.fieldLink RX3 9 "CallWays2$Function" "kind" "I", Cond.fieldLink RX3 15 "CallWays2$Function" "a" "D", Cond.methodLink RX9 156 yX3_pass, Cond.instanceMethod yX3_pass, Cond.selects RX3 yX3_pass yX3_pass, Cond.code yX3_pass cX3_pass 3 (some .double), Cond.methodLink RX9 149 ⟨"CallWays2$Instrument", "goBack", "(ID)V"⟩, Cond.sameMethod "CallWays2$Instrument" "CallWays2$Instrument" "goBack" "(ID)V", Cond.selects RX0 ⟨"CallWays2$Instrument", "goBack", "(ID)V"⟩ yX5_goBack]
def wsX9_agree_r6 : List Cond := [Cond.instanceMethod yX5_goBack, Cond.code yX5_goBack cX5_goBack 4 none, Cond.fieldLink RX5 33 "CallWays2$Instrument" "level" "D", Cond.selects RX2 ⟨"CallWays2$Instrument", "goBack", "(ID)V"⟩ yX5_goBack, Cond.selects RX4 ⟨"CallWays2$Instrument", "goBack", "(ID)V"⟩ yX5_goBack, Cond.selects RX6 ⟨"CallWays2$Instrument", "goBack", "(ID)V"⟩ yX5_goBack, Cond.selects RX8 ⟨"CallWays2$Instrument", "goBack", "(ID)V"⟩ yX5_goBack]
def wsX9_agree : List Cond := .code yX9_agree cX9_agree 10 (some .boolean) :: ((wsX9_agree_r1 ++ (wsX9_agree_r2 ++ (wsX9_agree_r3 ++ (wsX9_agree_r4 ++ (wsX9_agree_r5 ++ wsX9_agree_r6))))) ++ wsX00 ++ wsX20 ++ wsX40 ++ wsX60 ++ wsX80 ++ wsX90 ++ wsX70 ++ wsX30)
def wsX9_find : List Cond := .code yX9_find cX9_find 4 (some .int) :: ([.fieldLink RX9 113 "CallWays2" "functionCount" "I", .fieldLink RX9 23 "CallWays2" "functions" "[LCallWays2$Function;", .methodLink RX9 152 yX3_refuses, .instanceMethod yX3_refuses, .selects RX3 yX3_refuses yX3_refuses, .initialized RX3, .code yX3_refuses cX3_refuses 3 (some .boolean), .fieldLink RX3 9 "CallWays2$Function" "kind" "I", .fieldLink RX3 15 "CallWays2$Function" "a" "D", .methodLink RX9 156 yX3_pass, .instanceMethod yX3_pass, .selects RX3 yX3_pass yX3_pass, .code yX3_pass cX3_pass 3 (some .double)] ++ wsX90 ++ wsX30)
def wsX9_next_r1 : List Cond := [Cond.fieldLink RX9 53 "CallWays2" "latest" "I", Cond.fieldLink RX9 60 "CallWays2$Instrument" "phase" "I", Cond.fieldLink RX9 141 "CallWays2$Instrument" "level" "D", Cond.fieldLink RX9 164 "CallWays2$Instrument" "failure" "I", Cond.methodLink RX9 42 yX9_instrumentAt, Cond.instanceMethod yX9_instrumentAt, Cond.selects RX9 yX9_instrumentAt yX9_instrumentAt, Cond.initialized RX9, Cond.code yX9_instrumentAt cX9_instrumentAt 2 (some (.object "CallWays2$Instrument")), Cond.fieldLink RX9 35 "CallWays2" "instrumentCount" "I", Cond.fieldLink RX9 11 "CallWays2" "instruments" "[LCallWays2$Instrument;", Cond.methodLink RX9 160 ⟨"CallWays2$Instrument", "ask", "()D"⟩, Cond.sameMethod "CallWays2$Instrument" "CallWays2$Instrument" "ask" "()D", Cond.selects RX0 ⟨"CallWays2$Instrument", "ask", "()D"⟩ yX5_ask, Cond.instanceMethod yX5_ask, Cond.initialized RX5, Cond.code yX5_ask cX5_ask 3 (some .double), Cond.fieldLink RX5 23 "CallWays2$Instrument" "failure" "I", Cond.fieldLink RX5 30 "CallWays2$Instrument" "phase" "I", Cond.methodLink RX5 26 ⟨"CallWays2$Instrument", "give", "()D"⟩, Cond.sameMethod "CallWays2$Instrument" "CallWays2$Instrument" "give" "()D", Cond.selects RX0 ⟨"CallWays2$Instrument", "give", "()D"⟩ yX0_give, Cond.instanceMethod yX0_give, Cond.initialized RX0]
def wsX9_next_r2 : List Cond := [Cond.code yX0_give cX0_give 3 (some .double), Cond.fieldLink RX0 9 "CallWays2$Bell" "phase" "I", Cond.sameField "CallWays2$Bell" "CallWays2$Instrument" "phase" "I", Cond.fieldLink RX0 15 "CallWays2$Bell" "knobs" "[I", Cond.sameField "CallWays2$Bell" "CallWays2$Instrument" "knobs" "[I", Cond.constantDouble RX0 27 (13830554455654793216), Cond.methodLink RX0 19 ⟨"CallWays2$Bell", "fail", "(I)D"⟩, Cond.sameMethod "CallWays2$Bell" "CallWays2$Instrument" "fail" "(I)D", Cond.selects RX0 ⟨"CallWays2$Bell", "fail", "(I)D"⟩ yX5_fail, Cond.instanceMethod yX5_fail, Cond.code yX5_fail cX5_fail 2 (some .double), Cond.methodLink RX0 23 yX2_give, Cond.sameMethod "CallWays2$Drum" "CallWays2$Drum" "give" "()D", Cond.superclass RX0 RX2, Cond.instanceMethod yX2_give, Cond.initialized RX2, Cond.code yX2_give cX2_give 4 (some .double), Cond.fieldLink RX2 19 "CallWays2$Drum" "knobs" "[I", Cond.sameField "CallWays2$Drum" "CallWays2$Instrument" "knobs" "[I", Cond.fieldLink RX2 13 "CallWays2$Drum" "level" "D", Cond.sameField "CallWays2$Drum" "CallWays2$Instrument" "level" "D", Cond.constantDouble RX2 27 (4652007308841189376), Cond.methodLink RX2 23 ⟨"CallWays2$Drum", "fail", "(I)D"⟩, Cond.sameMethod "CallWays2$Drum" "CallWays2$Instrument" "fail" "(I)D"]
def wsX9_next_r3 : List Cond := [Cond.selects RX0 ⟨"CallWays2$Drum", "fail", "(I)D"⟩ yX5_fail, Cond.selects RX2 ⟨"CallWays2$Drum", "fail", "(I)D"⟩ yX5_fail, Cond.selects RX2 ⟨"CallWays2$Instrument", "give", "()D"⟩ yX2_give, Cond.selects RX4 ⟨"CallWays2$Instrument", "give", "()D"⟩ yX4_give, Cond.instanceMethod yX4_give, Cond.initialized RX4, Cond.code yX4_give cX4_give 1 (some .double), Cond.constantDouble RX4 7 (4611686018427387904), Cond.fieldLink RX4 13 "CallWays2$Glass" "knobs" "[I", Cond.sameField "CallWays2$Glass" "CallWays2$Instrument" "knobs" "[I", Cond.methodLink RX4 9 yX8_give, Cond.sameMethod "CallWays2$Tone" "CallWays2$Tone" "give" "()D", Cond.superclass RX4 RX8, Cond.instanceMethod yX8_give, Cond.initialized RX8, Cond.code yX8_give cX8_give 1 (some .double), Cond.fieldLink RX8 7 "CallWays2$Tone" "on" "Z", Cond.sameField "CallWays2$Tone" "CallWays2$Instrument" "on" "Z", Cond.fieldLink RX8 13 "CallWays2$Tone" "phase" "I", Cond.sameField "CallWays2$Tone" "CallWays2$Instrument" "phase" "I", Cond.fieldLink RX8 17 "CallWays2$Tone" "pitch" "I", Cond.sameField "CallWays2$Tone" "CallWays2$Instrument" "pitch" "I", Cond.selects RX6 ⟨"CallWays2$Instrument", "give", "()D"⟩ yX6_give, Cond.instanceMethod yX6_give]
def wsX9_next_r4 : List Cond := [Cond.initialized RX6, Cond.code yX6_give cX6_give 2 (some .double), Cond.fieldLink RX6 9 "CallWays2$Reader" "on" "Z", Cond.sameField "CallWays2$Reader" "CallWays2$Instrument" "on" "Z", Cond.fieldLink RX6 15 "CallWays2$Reader" "phase" "I", Cond.sameField "CallWays2$Reader" "CallWays2$Instrument" "phase" "I", Cond.fieldLink RX6 23 "CallWays2$Reader" "table" "LCallWays2$Samples;", Cond.sameField "CallWays2$Reader" "CallWays2$Instrument" "table" "LCallWays2$Samples;", Cond.fieldLink RX6 27 "CallWays2$Samples" "lane" "I", Cond.fieldLink RX6 32 "CallWays2$Reader" "knobs" "[I", Cond.sameField "CallWays2$Reader" "CallWays2$Instrument" "knobs" "[I", Cond.fieldLink RX6 40 "CallWays2$Samples" "values" "[D", Cond.methodLink RX6 19 ⟨"CallWays2$Reader", "fail", "(I)D"⟩, Cond.sameMethod "CallWays2$Reader" "CallWays2$Instrument" "fail" "(I)D", Cond.selects RX6 ⟨"CallWays2$Reader", "fail", "(I)D"⟩ yX5_fail, Cond.methodLink RX6 36 yX7_has, Cond.instanceMethod yX7_has, Cond.selects RX7 yX7_has yX7_has, Cond.initialized RX7, Cond.code yX7_has cX7_has 2 (some .boolean), Cond.fieldLink RX7 15 "CallWays2$Samples" "values" "[D", Cond.selects RX8 ⟨"CallWays2$Instrument", "give", "()D"⟩ yX8_give, Cond.selects RX2 ⟨"CallWays2$Instrument", "ask", "()D"⟩ yX5_ask, Cond.selects RX4 ⟨"CallWays2$Instrument", "ask", "()D"⟩ yX5_ask]
def wsX9_next_r5 : List Cond := [Cond.selects RX6 ⟨"CallWays2$Instrument", "ask", "()D"⟩ yX5_ask, Cond.selects RX8 ⟨"CallWays2$Instrument", "ask", "()D"⟩ yX5_ask, Cond.methodLink RX9 149 ⟨"CallWays2$Instrument", "goBack", "(ID)V"⟩, Cond.sameMethod "CallWays2$Instrument" "CallWays2$Instrument" "goBack" "(ID)V", Cond.selects RX0 ⟨"CallWays2$Instrument", "goBack", "(ID)V"⟩ yX5_goBack, Cond.instanceMethod yX5_goBack, Cond.code yX5_goBack cX5_goBack 4 none, Cond.fieldLink RX5 33 "CallWays2$Instrument" "level" "D", Cond.selects RX2 ⟨"CallWays2$Instrument", "goBack", "(ID)V"⟩ yX5_goBack, Cond.selects RX4 ⟨"CallWays2$Instrument", "goBack", "(ID)V"⟩ yX5_goBack, Cond.selects RX6 ⟨"CallWays2$Instrument", "goBack", "(ID)V"⟩ yX5_goBack, Cond.selects RX8 ⟨"CallWays2$Instrument", "goBack", "(ID)V"⟩ yX5_goBack, Cond.methodLink RX9 167 yX1_ofDouble, Cond.static yX1_ofDouble, Cond.initialized RX1, Cond.code yX1_ofDouble cX1_ofDouble 2 (some .long), Cond.constantLong RX1 15 (-9223372036854775808), Cond.methodLink RX1 7 yX1_isNegative, Cond.static yX1_isNegative, Cond.code yX1_isNegative cX1_isNegative 2 (some .boolean), Cond.methodLink RX1 17 yX1_magnitude, Cond.static yX1_magnitude, Cond.code yX1_magnitude cX1_magnitude 7 (some .long), Cond.constantDouble RX1 24 (4611686018427387904)]
def wsX9_next_r6 : List Cond := [Cond.constantDouble RX1 26 (4895412794951729152)]
def wsX9_next : List Cond := .code yX9_next cX9_next 8 (some .long) :: ((wsX9_next_r1 ++ (wsX9_next_r2 ++ (wsX9_next_r3 ++ (wsX9_next_r4 ++ (wsX9_next_r5 ++ wsX9_next_r6))))) ++ wsX90 ++ wsX00 ++ wsX20 ++ wsX40 ++ wsX60 ++ wsX80 ++ wsX70)
def wsX9_state : List Cond := .code yX9_state cX9_state 1 (some .int) :: ([.fieldLink RX9 53 "CallWays2" "latest" "I"] ++ wsX90)
def wsX9_count : List Cond := .code yX9_count cX9_count 2 (some .int) :: ([.fieldLink RX9 35 "CallWays2" "instrumentCount" "I", .fieldLink RX9 113 "CallWays2" "functionCount" "I", .fieldLink RX9 138 "CallWays2" "playedWell" "I", .fieldLink RX9 135 "CallWays2" "playedFailed" "I", .fieldLink RX9 173 "CallWays2" "samplesAsked" "I"] ++ wsX90)
def wsX10_init : List Cond := .code yX10_init cX10_init 2 none :: ([.methodLink RX10 1 objectInit, .instanceMethod objectInit, .code objectInit ⟨#[0xb1]⟩ 1 none, .arrayClass .int, .fieldLink RX10 7 "CallWays2Model" "blocks" "[I", .fieldLink RX10 13 "CallWays2Model" "tables" "[I", .fieldLink RX10 16 "CallWays2Model" "laneOf" "[I", .fieldLink RX10 19 "CallWays2Model" "sizeOf" "[I", .arrayClass .long, .fieldLink RX10 22 "CallWays2Model" "samples" "[J", .fieldLink RX10 26 "CallWays2Model" "sorts" "[I", .fieldLink RX10 29 "CallWays2Model" "knobs" "[I", .fieldLink RX10 32 "CallWays2Model" "pitches" "[I", .arrayClass .boolean, .fieldLink RX10 35 "CallWays2Model" "isOn" "[Z", .fieldLink RX10 39 "CallWays2Model" "phases" "[I", .arrayClass .double, .fieldLink RX10 42 "CallWays2Model" "levels" "[D", .fieldLink RX10 46 "CallWays2Model" "kindOf" "[I", .fieldLink RX10 49 "CallWays2Model" "numberOf" "[I", .fieldLink RX10 52 "CallWays2Model" "counts" "[I", .fieldLink RX10 55 "CallWays2Model" "come" "[D", .fieldLink RX10 58 "CallWays2Model" "moved" "[J", .fieldLink RX10 61 "CallWays2Model" "bound" "I"] ++ wsX100)
def wsX10_in : List Cond := .code yX10_in cX10_in 3 (some .boolean) :: ([])
def wsX10_isInstrument : List Cond := .code yX10_isInstrument cX10_isInstrument 2 (some .boolean) :: ([.fieldLink RX10 65 "CallWays2Model" "instruments" "I", .methodLink RX10 68 yX10_in, .static yX10_in, .initialized RX10, .code yX10_in cX10_in 3 (some .boolean)] ++ wsX100)
def wsX10_says : List Cond := .code yX10_says cX10_says 2 (some .int) :: ([.fieldLink RX10 72 "CallWays2Model" "stateNow" "I"] ++ wsX100)
def wsX10_freshRow : List Cond := .code yX10_freshRow cX10_freshRow 6 (some .int) :: ([.fieldLink RX10 7 "CallWays2Model" "blocks" "[I", .fieldLink RX10 13 "CallWays2Model" "tables" "[I", .fieldLink RX10 16 "CallWays2Model" "laneOf" "[I", .fieldLink RX10 19 "CallWays2Model" "sizeOf" "[I", .fieldLink RX10 22 "CallWays2Model" "samples" "[J"] ++ wsX100)
def wsX10_copyOf : List Cond := .code yX10_copyOf cX10_copyOf 4 (some .int) :: ([.fieldLink RX10 16 "CallWays2Model" "laneOf" "[I", .fieldLink RX10 19 "CallWays2Model" "sizeOf" "[I", .fieldLink RX10 22 "CallWays2Model" "samples" "[J", .methodLink RX10 75 yX10_freshRow, .instanceMethod yX10_freshRow, .selects RX10 yX10_freshRow yX10_freshRow, .initialized RX10, .code yX10_freshRow cX10_freshRow 6 (some .int), .fieldLink RX10 7 "CallWays2Model" "blocks" "[I", .fieldLink RX10 13 "CallWays2Model" "tables" "[I"] ++ wsX100)
def wsJxf58ca_isNaN_12338 : List Cond := .code yJxf58ca_isNaN_12338 cJxf58ca_isNaN_12338 1 (some .boolean) :: ([])
def wsJxf58ca_floatToIntBits_5c35a : List Cond := .code yJxf58ca_floatToIntBits_5c35a cJxf58ca_floatToIntBits_5c35a 1 (some .int) :: ([.methodLink RJxf58ca 74 ⟨"java/lang/Float", "floatToRawIntBits", "(F)I"⟩, .native ⟨"java/lang/Float", "floatToRawIntBits", "(F)I"⟩, .static ⟨"java/lang/Float", "floatToRawIntBits", "(F)I"⟩, .initialized "java/lang/Float", .constant RJxf58ca 77 (2143289344), .methodLink RJxf58ca 59 yJxf58ca_isNaN_12338, .static yJxf58ca_isNaN_12338, .initialized RJxf58ca, .code yJxf58ca_isNaN_12338 cJxf58ca_isNaN_12338 1 (some .boolean)])
def wsJxe99ae_isNaN_b9ae7 : List Cond := .code yJxe99ae_isNaN_b9ae7 cJxe99ae_isNaN_b9ae7 2 (some .boolean) :: ([])
def wsJxe99ae_doubleToLongBits_ccdee : List Cond := .code yJxe99ae_doubleToLongBits_ccdee cJxe99ae_doubleToLongBits_ccdee 2 (some .long) :: ([.methodLink RJxe99ae 134 ⟨"java/lang/Double", "doubleToRawLongBits", "(D)J"⟩, .native ⟨"java/lang/Double", "doubleToRawLongBits", "(D)J"⟩, .static ⟨"java/lang/Double", "doubleToRawLongBits", "(D)J"⟩, .initialized "java/lang/Double", .constantLong RJxe99ae 137 (9221120237041090560), .methodLink RJxe99ae 122 yJxe99ae_isNaN_b9ae7, .static yJxe99ae_isNaN_b9ae7, .initialized RJxe99ae, .code yJxe99ae_isNaN_b9ae7 cJxe99ae_isNaN_b9ae7 2 (some .boolean)])
def wsX10_cast : List Cond := .code yX10_cast cX10_cast 3 (some .long) :: ([.methodLink RX10 79 yJxf58ca_floatToIntBits_5c35a, .static yJxf58ca_floatToIntBits_5c35a, .initialized RJxf58ca, .code yJxf58ca_floatToIntBits_5c35a cJxf58ca_floatToIntBits_5c35a 1 (some .int), .methodLink RJxf58ca 74 ⟨"java/lang/Float", "floatToRawIntBits", "(F)I"⟩, .native ⟨"java/lang/Float", "floatToRawIntBits", "(F)I"⟩, .static ⟨"java/lang/Float", "floatToRawIntBits", "(F)I"⟩, .initialized "java/lang/Float", .constant RJxf58ca 77 (2143289344), .methodLink RJxf58ca 59 yJxf58ca_isNaN_12338, .static yJxf58ca_isNaN_12338, .code yJxf58ca_isNaN_12338 cJxf58ca_isNaN_12338 1 (some .boolean), .methodLink RX10 85 yJxe99ae_doubleToLongBits_ccdee, .static yJxe99ae_doubleToLongBits_ccdee, .initialized RJxe99ae, .code yJxe99ae_doubleToLongBits_ccdee cJxe99ae_doubleToLongBits_ccdee 2 (some .long), .methodLink RJxe99ae 134 ⟨"java/lang/Double", "doubleToRawLongBits", "(D)J"⟩, .native ⟨"java/lang/Double", "doubleToRawLongBits", "(D)J"⟩, .static ⟨"java/lang/Double", "doubleToRawLongBits", "(D)J"⟩, .initialized "java/lang/Double", .constantLong RJxe99ae 137 (9221120237041090560), .methodLink RJxe99ae 122 yJxe99ae_isNaN_b9ae7, .static yJxe99ae_isNaN_b9ae7, .code yJxe99ae_isNaN_b9ae7 cJxe99ae_isNaN_b9ae7 2 (some .boolean)])
def wsX10_instrument : List Cond := .code yX10_instrument cX10_instrument 2 (some .int) :: ([.fieldLink RX10 65 "CallWays2Model" "instruments" "I", .fieldLink RX10 26 "CallWays2Model" "sorts" "[I", .methodLink RX10 68 yX10_in, .static yX10_in, .initialized RX10, .code yX10_in cX10_in 3 (some .boolean)] ++ wsX100)
def wsX10_note : List Cond := .code yX10_note cX10_note 5 (some .int) :: ([.fieldLink RX10 35 "CallWays2Model" "isOn" "[Z", .fieldLink RX10 32 "CallWays2Model" "pitches" "[I", .fieldLink RX10 42 "CallWays2Model" "levels" "[D", .methodLink RX10 91 yX10_isInstrument, .instanceMethod yX10_isInstrument, .selects RX10 yX10_isInstrument yX10_isInstrument, .initialized RX10, .code yX10_isInstrument cX10_isInstrument 2 (some .boolean), .fieldLink RX10 65 "CallWays2Model" "instruments" "I", .methodLink RX10 68 yX10_in, .static yX10_in, .code yX10_in cX10_in 3 (some .boolean)] ++ wsX100)
def wsX10_knob : List Cond := .code yX10_knob cX10_knob 5 (some .int) :: ([.fieldLink RX10 72 "CallWays2Model" "stateNow" "I", .fieldLink RX10 29 "CallWays2Model" "knobs" "[I", .methodLink RX10 91 yX10_isInstrument, .instanceMethod yX10_isInstrument, .selects RX10 yX10_isInstrument yX10_isInstrument, .initialized RX10, .code yX10_isInstrument cX10_isInstrument 2 (some .boolean), .fieldLink RX10 65 "CallWays2Model" "instruments" "I", .methodLink RX10 68 yX10_in, .static yX10_in, .code yX10_in cX10_in 3 (some .boolean)] ++ wsX100)
def wsX10_phase : List Cond := .code yX10_phase cX10_phase 4 (some .int) :: ([.fieldLink RX10 72 "CallWays2Model" "stateNow" "I", .fieldLink RX10 39 "CallWays2Model" "phases" "[I", .methodLink RX10 91 yX10_isInstrument, .instanceMethod yX10_isInstrument, .selects RX10 yX10_isInstrument yX10_isInstrument, .initialized RX10, .code yX10_isInstrument cX10_isInstrument 2 (some .boolean), .fieldLink RX10 65 "CallWays2Model" "instruments" "I", .methodLink RX10 68 yX10_in, .static yX10_in, .code yX10_in cX10_in 3 (some .boolean)] ++ wsX100)
def wsX10_table : List Cond := .code yX10_table cX10_table 5 (some .int) :: ([.fieldLink RX10 7 "CallWays2Model" "blocks" "[I", .fieldLink RX10 13 "CallWays2Model" "tables" "[I", .methodLink RX10 91 yX10_isInstrument, .instanceMethod yX10_isInstrument, .selects RX10 yX10_isInstrument yX10_isInstrument, .initialized RX10, .code yX10_isInstrument cX10_isInstrument 2 (some .boolean), .fieldLink RX10 65 "CallWays2Model" "instruments" "I", .methodLink RX10 68 yX10_in, .static yX10_in, .code yX10_in cX10_in 3 (some .boolean), .methodLink RX10 95 yX10_copyOf, .instanceMethod yX10_copyOf, .selects RX10 yX10_copyOf yX10_copyOf, .code yX10_copyOf cX10_copyOf 4 (some .int), .fieldLink RX10 16 "CallWays2Model" "laneOf" "[I", .fieldLink RX10 19 "CallWays2Model" "sizeOf" "[I", .fieldLink RX10 22 "CallWays2Model" "samples" "[J", .methodLink RX10 75 yX10_freshRow, .instanceMethod yX10_freshRow, .selects RX10 yX10_freshRow yX10_freshRow, .code yX10_freshRow cX10_freshRow 6 (some .int)] ++ wsX100)
def wsX10_block : List Cond := .code yX10_block cX10_block 4 (some .int) :: ([.fieldLink RX10 7 "CallWays2Model" "blocks" "[I", .methodLink RX10 68 yX10_in, .static yX10_in, .initialized RX10, .code yX10_in cX10_in 3 (some .boolean), .methodLink RX10 75 yX10_freshRow, .instanceMethod yX10_freshRow, .selects RX10 yX10_freshRow yX10_freshRow, .code yX10_freshRow cX10_freshRow 6 (some .int), .fieldLink RX10 13 "CallWays2Model" "tables" "[I", .fieldLink RX10 16 "CallWays2Model" "laneOf" "[I", .fieldLink RX10 19 "CallWays2Model" "sizeOf" "[I", .fieldLink RX10 22 "CallWays2Model" "samples" "[J"] ++ wsX100)
def wsX10_lend : List Cond := .code yX10_lend cX10_lend 5 (some .int) :: ([.fieldLink RX10 7 "CallWays2Model" "blocks" "[I", .methodLink RX10 68 yX10_in, .static yX10_in, .initialized RX10, .code yX10_in cX10_in 3 (some .boolean), .methodLink RX10 95 yX10_copyOf, .instanceMethod yX10_copyOf, .selects RX10 yX10_copyOf yX10_copyOf, .code yX10_copyOf cX10_copyOf 4 (some .int), .fieldLink RX10 16 "CallWays2Model" "laneOf" "[I", .fieldLink RX10 19 "CallWays2Model" "sizeOf" "[I", .fieldLink RX10 22 "CallWays2Model" "samples" "[J", .methodLink RX10 75 yX10_freshRow, .instanceMethod yX10_freshRow, .selects RX10 yX10_freshRow yX10_freshRow, .code yX10_freshRow cX10_freshRow 6 (some .int), .fieldLink RX10 13 "CallWays2Model" "tables" "[I"] ++ wsX100)
def wsX10_isLent : List Cond := .code yX10_isLent cX10_isLent 3 (some .boolean) :: ([.fieldLink RX10 7 "CallWays2Model" "blocks" "[I", .methodLink RX10 68 yX10_in, .static yX10_in, .initialized RX10, .code yX10_in cX10_in 3 (some .boolean)] ++ wsX100)
def wsX10_of : List Cond := .code yX10_of cX10_of 4 (some .int) :: ([.fieldLink RX10 7 "CallWays2Model" "blocks" "[I", .fieldLink RX10 16 "CallWays2Model" "laneOf" "[I", .fieldLink RX10 19 "CallWays2Model" "sizeOf" "[I", .methodLink RX10 68 yX10_in, .static yX10_in, .initialized RX10, .code yX10_in cX10_in 3 (some .boolean)] ++ wsX100)
def wsX10_reach : List Cond := .code yX10_reach cX10_reach 4 (some .int) :: ([.fieldLink RX10 7 "CallWays2Model" "blocks" "[I", .fieldLink RX10 19 "CallWays2Model" "sizeOf" "[I", .methodLink RX10 68 yX10_in, .static yX10_in, .initialized RX10, .code yX10_in cX10_in 3 (some .boolean)] ++ wsX100)
def wsX10_at : List Cond := .code yX10_at cX10_at 3 (some .long) :: ([.fieldLink RX10 22 "CallWays2Model" "samples" "[J", .fieldLink RX10 7 "CallWays2Model" "blocks" "[I", .methodLink RX10 99 yX10_reach, .instanceMethod yX10_reach, .selects RX10 yX10_reach yX10_reach, .initialized RX10, .code yX10_reach cX10_reach 4 (some .int), .fieldLink RX10 19 "CallWays2Model" "sizeOf" "[I", .methodLink RX10 68 yX10_in, .static yX10_in, .code yX10_in cX10_in 3 (some .boolean), .methodLink RX10 102 yX10_says, .instanceMethod yX10_says, .selects RX10 yX10_says yX10_says, .code yX10_says cX10_says 2 (some .int), .fieldLink RX10 72 "CallWays2Model" "stateNow" "I"] ++ wsX100)
def wsX10_put_r1 : List Cond := [Cond.fieldLink RX10 72 "CallWays2Model" "stateNow" "I", Cond.fieldLink RX10 22 "CallWays2Model" "samples" "[J", Cond.fieldLink RX10 7 "CallWays2Model" "blocks" "[I", Cond.fieldLink RX10 16 "CallWays2Model" "laneOf" "[I", Cond.methodLink RX10 99 yX10_reach, Cond.instanceMethod yX10_reach, Cond.selects RX10 yX10_reach yX10_reach, Cond.initialized RX10, Cond.code yX10_reach cX10_reach 4 (some .int), Cond.fieldLink RX10 19 "CallWays2Model" "sizeOf" "[I", Cond.methodLink RX10 68 yX10_in, Cond.static yX10_in, Cond.code yX10_in cX10_in 3 (some .boolean), Cond.methodLink RX10 102 yX10_says, Cond.instanceMethod yX10_says, Cond.selects RX10 yX10_says yX10_says, Cond.code yX10_says cX10_says 2 (some .int), Cond.methodLink RX10 105 yX10_cast, Cond.static yX10_cast, Cond.code yX10_cast cX10_cast 3 (some .long), Cond.methodLink RX10 79 yJxf58ca_floatToIntBits_5c35a, Cond.static yJxf58ca_floatToIntBits_5c35a, Cond.initialized RJxf58ca, Cond.code yJxf58ca_floatToIntBits_5c35a cJxf58ca_floatToIntBits_5c35a 1 (some .int)]
def wsX10_put_r2 : List Cond := [Cond.methodLink RJxf58ca 74 ⟨"java/lang/Float", "floatToRawIntBits", "(F)I"⟩, Cond.native ⟨"java/lang/Float", "floatToRawIntBits", "(F)I"⟩, Cond.static ⟨"java/lang/Float", "floatToRawIntBits", "(F)I"⟩, Cond.initialized "java/lang/Float", Cond.constant RJxf58ca 77 (2143289344), Cond.methodLink RJxf58ca 59 yJxf58ca_isNaN_12338, Cond.static yJxf58ca_isNaN_12338, Cond.code yJxf58ca_isNaN_12338 cJxf58ca_isNaN_12338 1 (some .boolean), Cond.methodLink RX10 85 yJxe99ae_doubleToLongBits_ccdee, Cond.static yJxe99ae_doubleToLongBits_ccdee, Cond.initialized RJxe99ae, Cond.code yJxe99ae_doubleToLongBits_ccdee cJxe99ae_doubleToLongBits_ccdee 2 (some .long), Cond.methodLink RJxe99ae 134 ⟨"java/lang/Double", "doubleToRawLongBits", "(D)J"⟩, Cond.native ⟨"java/lang/Double", "doubleToRawLongBits", "(D)J"⟩, Cond.static ⟨"java/lang/Double", "doubleToRawLongBits", "(D)J"⟩, Cond.initialized "java/lang/Double", Cond.constantLong RJxe99ae 137 (9221120237041090560), Cond.methodLink RJxe99ae 122 yJxe99ae_isNaN_b9ae7, Cond.static yJxe99ae_isNaN_b9ae7, Cond.code yJxe99ae_isNaN_b9ae7 cJxe99ae_isNaN_b9ae7 2 (some .boolean)]
def wsX10_put : List Cond := .code yX10_put cX10_put 4 (some .int) :: ((wsX10_put_r1 ++ wsX10_put_r2) ++ wsX100)
def wsX10_copy : List Cond := .code yX10_copy cX10_copy 9 (some .int) :: ([.fieldLink RX10 7 "CallWays2Model" "blocks" "[I", .fieldLink RX10 16 "CallWays2Model" "laneOf" "[I", .fieldLink RX10 19 "CallWays2Model" "sizeOf" "[I", .fieldLink RX10 58 "CallWays2Model" "moved" "[J", .fieldLink RX10 22 "CallWays2Model" "samples" "[J", .methodLink RX10 68 yX10_in, .static yX10_in, .initialized RX10, .code yX10_in cX10_in 3 (some .boolean), .methodLink RX10 102 yX10_says, .instanceMethod yX10_says, .selects RX10 yX10_says yX10_says, .code yX10_says cX10_says 2 (some .int), .fieldLink RX10 72 "CallWays2Model" "stateNow" "I"] ++ wsX100)
def wsX10_bind : List Cond := .code yX10_bind cX10_bind 3 (some .int) :: ([.fieldLink RX10 61 "CallWays2Model" "bound" "I", .methodLink RX10 68 yX10_in, .static yX10_in, .initialized RX10, .code yX10_in cX10_in 3 (some .boolean)] ++ wsX100)
def wsX10_function : List Cond := .code yX10_function cX10_function 3 (some .int) :: ([.fieldLink RX10 109 "CallWays2Model" "functions" "I", .fieldLink RX10 46 "CallWays2Model" "kindOf" "[I", .fieldLink RX10 49 "CallWays2Model" "numberOf" "[I", .methodLink RX10 68 yX10_in, .static yX10_in, .initialized RX10, .code yX10_in cX10_in 3 (some .boolean)] ++ wsX100)
def wsX10_failed : List Cond := .code yX10_failed cX10_failed 2 (some .double) :: ([.fieldLink RX10 112 "CallWays2Model" "failure" "I"] ++ wsX100)
def wsX10_tone : List Cond := .code yX10_tone cX10_tone 3 (some .double) :: ([.fieldLink RX10 35 "CallWays2Model" "isOn" "[Z", .fieldLink RX10 32 "CallWays2Model" "pitches" "[I"] ++ wsX100)
def wsX10_drum : List Cond := .code yX10_drum cX10_drum 5 (some .double) :: ([.fieldLink RX10 29 "CallWays2Model" "knobs" "[I", .fieldLink RX10 42 "CallWays2Model" "levels" "[D", .constantDouble RX10 119 (4652007308841189376), .methodLink RX10 115 yX10_failed, .instanceMethod yX10_failed, .selects RX10 yX10_failed yX10_failed, .initialized RX10, .code yX10_failed cX10_failed 2 (some .double), .fieldLink RX10 112 "CallWays2Model" "failure" "I"] ++ wsX100)
def wsX10_reader : List Cond := .code yX10_reader cX10_reader 5 (some .double) :: ([.fieldLink RX10 35 "CallWays2Model" "isOn" "[Z", .fieldLink RX10 13 "CallWays2Model" "tables" "[I", .fieldLink RX10 29 "CallWays2Model" "knobs" "[I", .fieldLink RX10 16 "CallWays2Model" "laneOf" "[I", .fieldLink RX10 19 "CallWays2Model" "sizeOf" "[I", .fieldLink RX10 22 "CallWays2Model" "samples" "[J", .methodLink RX10 115 yX10_failed, .instanceMethod yX10_failed, .selects RX10 yX10_failed yX10_failed, .initialized RX10, .code yX10_failed cX10_failed 2 (some .double), .fieldLink RX10 112 "CallWays2Model" "failure" "I", .methodLink RX10 68 yX10_in, .static yX10_in, .code yX10_in cX10_in 3 (some .boolean)] ++ wsX100)
def wsX10_sample_r1 : List Cond := [Cond.fieldLink RX10 39 "CallWays2Model" "phases" "[I", Cond.fieldLink RX10 112 "CallWays2Model" "failure" "I", Cond.fieldLink RX10 26 "CallWays2Model" "sorts" "[I", Cond.constantDouble RX10 125 (4611686018427387904), Cond.fieldLink RX10 29 "CallWays2Model" "knobs" "[I", Cond.constantDouble RX10 130 (13830554455654793216), Cond.methodLink RX10 121 yX10_tone, Cond.instanceMethod yX10_tone, Cond.selects RX10 yX10_tone yX10_tone, Cond.initialized RX10, Cond.code yX10_tone cX10_tone 3 (some .double), Cond.fieldLink RX10 35 "CallWays2Model" "isOn" "[Z", Cond.fieldLink RX10 32 "CallWays2Model" "pitches" "[I", Cond.methodLink RX10 127 yX10_drum, Cond.instanceMethod yX10_drum, Cond.selects RX10 yX10_drum yX10_drum, Cond.code yX10_drum cX10_drum 5 (some .double), Cond.fieldLink RX10 42 "CallWays2Model" "levels" "[D", Cond.constantDouble RX10 119 (4652007308841189376), Cond.methodLink RX10 115 yX10_failed, Cond.instanceMethod yX10_failed, Cond.selects RX10 yX10_failed yX10_failed, Cond.code yX10_failed cX10_failed 2 (some .double), Cond.methodLink RX10 132 yX10_reader]
def wsX10_sample_r2 : List Cond := [Cond.instanceMethod yX10_reader, Cond.selects RX10 yX10_reader yX10_reader, Cond.code yX10_reader cX10_reader 5 (some .double), Cond.fieldLink RX10 13 "CallWays2Model" "tables" "[I", Cond.fieldLink RX10 16 "CallWays2Model" "laneOf" "[I", Cond.fieldLink RX10 19 "CallWays2Model" "sizeOf" "[I", Cond.fieldLink RX10 22 "CallWays2Model" "samples" "[J", Cond.methodLink RX10 68 yX10_in, Cond.static yX10_in, Cond.code yX10_in cX10_in 3 (some .boolean)]
def wsX10_sample : List Cond := .code yX10_sample cX10_sample 6 (some .double) :: ((wsX10_sample_r1 ++ wsX10_sample_r2) ++ wsX100)
def wsX10_isMinus : List Cond := .code yX10_isMinus cX10_isMinus 2 (some .boolean) :: ([.methodLink RX10 85 yJxe99ae_doubleToLongBits_ccdee, .static yJxe99ae_doubleToLongBits_ccdee, .initialized RJxe99ae, .code yJxe99ae_doubleToLongBits_ccdee cJxe99ae_doubleToLongBits_ccdee 2 (some .long), .methodLink RJxe99ae 134 ⟨"java/lang/Double", "doubleToRawLongBits", "(D)J"⟩, .native ⟨"java/lang/Double", "doubleToRawLongBits", "(D)J"⟩, .static ⟨"java/lang/Double", "doubleToRawLongBits", "(D)J"⟩, .initialized "java/lang/Double", .constantLong RJxe99ae 137 (9221120237041090560), .methodLink RJxe99ae 122 yJxe99ae_isNaN_b9ae7, .static yJxe99ae_isNaN_b9ae7, .code yJxe99ae_isNaN_b9ae7 cJxe99ae_isNaN_b9ae7 2 (some .boolean)])
def wsX10_through : List Cond := .code yX10_through cX10_through 6 (some .double) :: ([.fieldLink RX10 49 "CallWays2Model" "numberOf" "[I", .fieldLink RX10 46 "CallWays2Model" "kindOf" "[I", .methodLink RX10 135 yX10_isMinus, .static yX10_isMinus, .initialized RX10, .code yX10_isMinus cX10_isMinus 2 (some .boolean), .methodLink RX10 85 yJxe99ae_doubleToLongBits_ccdee, .static yJxe99ae_doubleToLongBits_ccdee, .initialized RJxe99ae, .code yJxe99ae_doubleToLongBits_ccdee cJxe99ae_doubleToLongBits_ccdee 2 (some .long), .methodLink RJxe99ae 134 ⟨"java/lang/Double", "doubleToRawLongBits", "(D)J"⟩, .native ⟨"java/lang/Double", "doubleToRawLongBits", "(D)J"⟩, .static ⟨"java/lang/Double", "doubleToRawLongBits", "(D)J"⟩, .initialized "java/lang/Double", .constantLong RJxe99ae 137 (9221120237041090560), .methodLink RJxe99ae 122 yJxe99ae_isNaN_b9ae7, .static yJxe99ae_isNaN_b9ae7, .code yJxe99ae_isNaN_b9ae7 cJxe99ae_isNaN_b9ae7 2 (some .boolean), .methodLink RX10 115 yX10_failed, .instanceMethod yX10_failed, .selects RX10 yX10_failed yX10_failed, .code yX10_failed cX10_failed 2 (some .double), .fieldLink RX10 112 "CallWays2Model" "failure" "I"] ++ wsX100)
def wsX10_play_r1 : List Cond := [Cond.fieldLink RX10 109 "CallWays2Model" "functions" "I", Cond.fieldLink RX10 7 "CallWays2Model" "blocks" "[I", Cond.fieldLink RX10 61 "CallWays2Model" "bound" "I", Cond.fieldLink RX10 16 "CallWays2Model" "laneOf" "[I", Cond.fieldLink RX10 19 "CallWays2Model" "sizeOf" "[I", Cond.fieldLink RX10 52 "CallWays2Model" "counts" "[I", Cond.fieldLink RX10 55 "CallWays2Model" "come" "[D", Cond.fieldLink RX10 112 "CallWays2Model" "failure" "I", Cond.fieldLink RX10 22 "CallWays2Model" "samples" "[J", Cond.methodLink RX10 91 yX10_isInstrument, Cond.instanceMethod yX10_isInstrument, Cond.selects RX10 yX10_isInstrument yX10_isInstrument, Cond.initialized RX10, Cond.code yX10_isInstrument cX10_isInstrument 2 (some .boolean), Cond.fieldLink RX10 65 "CallWays2Model" "instruments" "I", Cond.methodLink RX10 68 yX10_in, Cond.static yX10_in, Cond.code yX10_in cX10_in 3 (some .boolean), Cond.methodLink RX10 102 yX10_says, Cond.instanceMethod yX10_says, Cond.selects RX10 yX10_says yX10_says, Cond.code yX10_says cX10_says 2 (some .int), Cond.fieldLink RX10 72 "CallWays2Model" "stateNow" "I", Cond.methodLink RX10 139 yX10_sample]
def wsX10_play_r2 : List Cond := [Cond.instanceMethod yX10_sample, Cond.selects RX10 yX10_sample yX10_sample, Cond.code yX10_sample cX10_sample 6 (some .double), Cond.fieldLink RX10 39 "CallWays2Model" "phases" "[I", Cond.fieldLink RX10 26 "CallWays2Model" "sorts" "[I", Cond.constantDouble RX10 125 (4611686018427387904), Cond.fieldLink RX10 29 "CallWays2Model" "knobs" "[I", Cond.constantDouble RX10 130 (13830554455654793216), Cond.methodLink RX10 121 yX10_tone, Cond.instanceMethod yX10_tone, Cond.selects RX10 yX10_tone yX10_tone, Cond.code yX10_tone cX10_tone 3 (some .double), Cond.fieldLink RX10 35 "CallWays2Model" "isOn" "[Z", Cond.fieldLink RX10 32 "CallWays2Model" "pitches" "[I", Cond.methodLink RX10 127 yX10_drum, Cond.instanceMethod yX10_drum, Cond.selects RX10 yX10_drum yX10_drum, Cond.code yX10_drum cX10_drum 5 (some .double), Cond.fieldLink RX10 42 "CallWays2Model" "levels" "[D", Cond.constantDouble RX10 119 (4652007308841189376), Cond.methodLink RX10 115 yX10_failed, Cond.instanceMethod yX10_failed, Cond.selects RX10 yX10_failed yX10_failed, Cond.code yX10_failed cX10_failed 2 (some .double)]
def wsX10_play_r3 : List Cond := [Cond.methodLink RX10 132 yX10_reader, Cond.instanceMethod yX10_reader, Cond.selects RX10 yX10_reader yX10_reader, Cond.code yX10_reader cX10_reader 5 (some .double), Cond.fieldLink RX10 13 "CallWays2Model" "tables" "[I", Cond.methodLink RX10 142 yX10_through, Cond.instanceMethod yX10_through, Cond.selects RX10 yX10_through yX10_through, Cond.code yX10_through cX10_through 6 (some .double), Cond.fieldLink RX10 49 "CallWays2Model" "numberOf" "[I", Cond.fieldLink RX10 46 "CallWays2Model" "kindOf" "[I", Cond.methodLink RX10 135 yX10_isMinus, Cond.static yX10_isMinus, Cond.code yX10_isMinus cX10_isMinus 2 (some .boolean), Cond.methodLink RX10 85 yJxe99ae_doubleToLongBits_ccdee, Cond.static yJxe99ae_doubleToLongBits_ccdee, Cond.initialized RJxe99ae, Cond.code yJxe99ae_doubleToLongBits_ccdee cJxe99ae_doubleToLongBits_ccdee 2 (some .long), Cond.methodLink RJxe99ae 134 ⟨"java/lang/Double", "doubleToRawLongBits", "(D)J"⟩, Cond.native ⟨"java/lang/Double", "doubleToRawLongBits", "(D)J"⟩, Cond.static ⟨"java/lang/Double", "doubleToRawLongBits", "(D)J"⟩, Cond.initialized "java/lang/Double", Cond.constantLong RJxe99ae 137 (9221120237041090560), Cond.methodLink RJxe99ae 122 yJxe99ae_isNaN_b9ae7]
def wsX10_play_r4 : List Cond := [Cond.static yJxe99ae_isNaN_b9ae7, Cond.code yJxe99ae_isNaN_b9ae7 cJxe99ae_isNaN_b9ae7 2 (some .boolean), Cond.methodLink RX10 105 yX10_cast, Cond.static yX10_cast, Cond.code yX10_cast cX10_cast 3 (some .long), Cond.methodLink RX10 79 yJxf58ca_floatToIntBits_5c35a, Cond.static yJxf58ca_floatToIntBits_5c35a, Cond.initialized RJxf58ca, Cond.code yJxf58ca_floatToIntBits_5c35a cJxf58ca_floatToIntBits_5c35a 1 (some .int), Cond.methodLink RJxf58ca 74 ⟨"java/lang/Float", "floatToRawIntBits", "(F)I"⟩, Cond.native ⟨"java/lang/Float", "floatToRawIntBits", "(F)I"⟩, Cond.static ⟨"java/lang/Float", "floatToRawIntBits", "(F)I"⟩, Cond.initialized "java/lang/Float", Cond.constant RJxf58ca 77 (2143289344), Cond.methodLink RJxf58ca 59 yJxf58ca_isNaN_12338, Cond.static yJxf58ca_isNaN_12338, Cond.code yJxf58ca_isNaN_12338 cJxf58ca_isNaN_12338 1 (some .boolean)]
def wsX10_play : List Cond := .code yX10_play cX10_play 10 (some .int) :: ((wsX10_play_r1 ++ (wsX10_play_r2 ++ (wsX10_play_r3 ++ wsX10_play_r4))) ++ wsX100)
def wsX10_agree_r1 : List Cond := [Cond.fieldLink RX10 109 "CallWays2Model" "functions" "I", Cond.fieldLink RX10 39 "CallWays2Model" "phases" "[I", Cond.fieldLink RX10 42 "CallWays2Model" "levels" "[D", Cond.fieldLink RX10 112 "CallWays2Model" "failure" "I", Cond.methodLink RX10 91 yX10_isInstrument, Cond.instanceMethod yX10_isInstrument, Cond.selects RX10 yX10_isInstrument yX10_isInstrument, Cond.initialized RX10, Cond.code yX10_isInstrument cX10_isInstrument 2 (some .boolean), Cond.fieldLink RX10 65 "CallWays2Model" "instruments" "I", Cond.methodLink RX10 68 yX10_in, Cond.static yX10_in, Cond.code yX10_in cX10_in 3 (some .boolean), Cond.methodLink RX10 139 yX10_sample, Cond.instanceMethod yX10_sample, Cond.selects RX10 yX10_sample yX10_sample, Cond.code yX10_sample cX10_sample 6 (some .double), Cond.fieldLink RX10 26 "CallWays2Model" "sorts" "[I", Cond.constantDouble RX10 125 (4611686018427387904), Cond.fieldLink RX10 29 "CallWays2Model" "knobs" "[I", Cond.constantDouble RX10 130 (13830554455654793216), Cond.methodLink RX10 121 yX10_tone, Cond.instanceMethod yX10_tone, Cond.selects RX10 yX10_tone yX10_tone]
def wsX10_agree_r2 : List Cond := [Cond.code yX10_tone cX10_tone 3 (some .double), Cond.fieldLink RX10 35 "CallWays2Model" "isOn" "[Z", Cond.fieldLink RX10 32 "CallWays2Model" "pitches" "[I", Cond.methodLink RX10 127 yX10_drum, Cond.instanceMethod yX10_drum, Cond.selects RX10 yX10_drum yX10_drum, Cond.code yX10_drum cX10_drum 5 (some .double), Cond.constantDouble RX10 119 (4652007308841189376), Cond.methodLink RX10 115 yX10_failed, Cond.instanceMethod yX10_failed, Cond.selects RX10 yX10_failed yX10_failed, Cond.code yX10_failed cX10_failed 2 (some .double), Cond.methodLink RX10 132 yX10_reader, Cond.instanceMethod yX10_reader, Cond.selects RX10 yX10_reader yX10_reader, Cond.code yX10_reader cX10_reader 5 (some .double), Cond.fieldLink RX10 13 "CallWays2Model" "tables" "[I", Cond.fieldLink RX10 16 "CallWays2Model" "laneOf" "[I", Cond.fieldLink RX10 19 "CallWays2Model" "sizeOf" "[I", Cond.fieldLink RX10 22 "CallWays2Model" "samples" "[J", Cond.methodLink RX10 142 yX10_through, Cond.instanceMethod yX10_through, Cond.selects RX10 yX10_through yX10_through, Cond.code yX10_through cX10_through 6 (some .double)]
def wsX10_agree_r3 : List Cond := [Cond.fieldLink RX10 49 "CallWays2Model" "numberOf" "[I", Cond.fieldLink RX10 46 "CallWays2Model" "kindOf" "[I", Cond.methodLink RX10 135 yX10_isMinus, Cond.static yX10_isMinus, Cond.code yX10_isMinus cX10_isMinus 2 (some .boolean), Cond.methodLink RX10 85 yJxe99ae_doubleToLongBits_ccdee, Cond.static yJxe99ae_doubleToLongBits_ccdee, Cond.initialized RJxe99ae, Cond.code yJxe99ae_doubleToLongBits_ccdee cJxe99ae_doubleToLongBits_ccdee 2 (some .long), Cond.methodLink RJxe99ae 134 ⟨"java/lang/Double", "doubleToRawLongBits", "(D)J"⟩, Cond.native ⟨"java/lang/Double", "doubleToRawLongBits", "(D)J"⟩, Cond.static ⟨"java/lang/Double", "doubleToRawLongBits", "(D)J"⟩, Cond.initialized "java/lang/Double", Cond.constantLong RJxe99ae 137 (9221120237041090560), Cond.methodLink RJxe99ae 122 yJxe99ae_isNaN_b9ae7, Cond.static yJxe99ae_isNaN_b9ae7, Cond.code yJxe99ae_isNaN_b9ae7 cJxe99ae_isNaN_b9ae7 2 (some .boolean)]
def wsX10_agree : List Cond := .code yX10_agree cX10_agree 14 (some .boolean) :: ((wsX10_agree_r1 ++ (wsX10_agree_r2 ++ wsX10_agree_r3)) ++ wsX100)
def wsX10_find_r1 : List Cond := [Cond.fieldLink RX10 109 "CallWays2Model" "functions" "I", Cond.fieldLink RX10 112 "CallWays2Model" "failure" "I", Cond.methodLink RX10 142 yX10_through, Cond.instanceMethod yX10_through, Cond.selects RX10 yX10_through yX10_through, Cond.initialized RX10, Cond.code yX10_through cX10_through 6 (some .double), Cond.fieldLink RX10 49 "CallWays2Model" "numberOf" "[I", Cond.fieldLink RX10 46 "CallWays2Model" "kindOf" "[I", Cond.methodLink RX10 135 yX10_isMinus, Cond.static yX10_isMinus, Cond.code yX10_isMinus cX10_isMinus 2 (some .boolean), Cond.methodLink RX10 85 yJxe99ae_doubleToLongBits_ccdee, Cond.static yJxe99ae_doubleToLongBits_ccdee, Cond.initialized RJxe99ae, Cond.code yJxe99ae_doubleToLongBits_ccdee cJxe99ae_doubleToLongBits_ccdee 2 (some .long), Cond.methodLink RJxe99ae 134 ⟨"java/lang/Double", "doubleToRawLongBits", "(D)J"⟩, Cond.native ⟨"java/lang/Double", "doubleToRawLongBits", "(D)J"⟩, Cond.static ⟨"java/lang/Double", "doubleToRawLongBits", "(D)J"⟩, Cond.initialized "java/lang/Double", Cond.constantLong RJxe99ae 137 (9221120237041090560), Cond.methodLink RJxe99ae 122 yJxe99ae_isNaN_b9ae7, Cond.static yJxe99ae_isNaN_b9ae7, Cond.code yJxe99ae_isNaN_b9ae7 cJxe99ae_isNaN_b9ae7 2 (some .boolean)]
def wsX10_find_r2 : List Cond := [Cond.methodLink RX10 115 yX10_failed, Cond.instanceMethod yX10_failed, Cond.selects RX10 yX10_failed yX10_failed, Cond.code yX10_failed cX10_failed 2 (some .double)]
def wsX10_find : List Cond := .code yX10_find cX10_find 6 (some .int) :: ((wsX10_find_r1 ++ wsX10_find_r2) ++ wsX100)
def wsX10_next_r1 : List Cond := [Cond.fieldLink RX10 72 "CallWays2Model" "stateNow" "I", Cond.fieldLink RX10 39 "CallWays2Model" "phases" "[I", Cond.fieldLink RX10 42 "CallWays2Model" "levels" "[D", Cond.fieldLink RX10 112 "CallWays2Model" "failure" "I", Cond.methodLink RX10 91 yX10_isInstrument, Cond.instanceMethod yX10_isInstrument, Cond.selects RX10 yX10_isInstrument yX10_isInstrument, Cond.initialized RX10, Cond.code yX10_isInstrument cX10_isInstrument 2 (some .boolean), Cond.fieldLink RX10 65 "CallWays2Model" "instruments" "I", Cond.methodLink RX10 68 yX10_in, Cond.static yX10_in, Cond.code yX10_in cX10_in 3 (some .boolean), Cond.methodLink RX10 139 yX10_sample, Cond.instanceMethod yX10_sample, Cond.selects RX10 yX10_sample yX10_sample, Cond.code yX10_sample cX10_sample 6 (some .double), Cond.fieldLink RX10 26 "CallWays2Model" "sorts" "[I", Cond.constantDouble RX10 125 (4611686018427387904), Cond.fieldLink RX10 29 "CallWays2Model" "knobs" "[I", Cond.constantDouble RX10 130 (13830554455654793216), Cond.methodLink RX10 121 yX10_tone, Cond.instanceMethod yX10_tone, Cond.selects RX10 yX10_tone yX10_tone]
def wsX10_next_r2 : List Cond := [Cond.code yX10_tone cX10_tone 3 (some .double), Cond.fieldLink RX10 35 "CallWays2Model" "isOn" "[Z", Cond.fieldLink RX10 32 "CallWays2Model" "pitches" "[I", Cond.methodLink RX10 127 yX10_drum, Cond.instanceMethod yX10_drum, Cond.selects RX10 yX10_drum yX10_drum, Cond.code yX10_drum cX10_drum 5 (some .double), Cond.constantDouble RX10 119 (4652007308841189376), Cond.methodLink RX10 115 yX10_failed, Cond.instanceMethod yX10_failed, Cond.selects RX10 yX10_failed yX10_failed, Cond.code yX10_failed cX10_failed 2 (some .double), Cond.methodLink RX10 132 yX10_reader, Cond.instanceMethod yX10_reader, Cond.selects RX10 yX10_reader yX10_reader, Cond.code yX10_reader cX10_reader 5 (some .double), Cond.fieldLink RX10 13 "CallWays2Model" "tables" "[I", Cond.fieldLink RX10 16 "CallWays2Model" "laneOf" "[I", Cond.fieldLink RX10 19 "CallWays2Model" "sizeOf" "[I", Cond.fieldLink RX10 22 "CallWays2Model" "samples" "[J", Cond.methodLink RX10 85 yJxe99ae_doubleToLongBits_ccdee, Cond.static yJxe99ae_doubleToLongBits_ccdee, Cond.initialized RJxe99ae, Cond.code yJxe99ae_doubleToLongBits_ccdee cJxe99ae_doubleToLongBits_ccdee 2 (some .long)]
def wsX10_next_r3 : List Cond := [Cond.methodLink RJxe99ae 134 ⟨"java/lang/Double", "doubleToRawLongBits", "(D)J"⟩, Cond.native ⟨"java/lang/Double", "doubleToRawLongBits", "(D)J"⟩, Cond.static ⟨"java/lang/Double", "doubleToRawLongBits", "(D)J"⟩, Cond.initialized "java/lang/Double", Cond.constantLong RJxe99ae 137 (9221120237041090560), Cond.methodLink RJxe99ae 122 yJxe99ae_isNaN_b9ae7, Cond.static yJxe99ae_isNaN_b9ae7, Cond.code yJxe99ae_isNaN_b9ae7 cJxe99ae_isNaN_b9ae7 2 (some .boolean)]
def wsX10_next : List Cond := .code yX10_next cX10_next 7 (some .long) :: ((wsX10_next_r1 ++ (wsX10_next_r2 ++ wsX10_next_r3)) ++ wsX100)
def wsX10_state : List Cond := .code yX10_state cX10_state 1 (some .int) :: ([.fieldLink RX10 72 "CallWays2Model" "stateNow" "I"] ++ wsX100)
def wsX10_count : List Cond := .code yX10_count cX10_count 2 (some .int) :: ([.fieldLink RX10 65 "CallWays2Model" "instruments" "I", .fieldLink RX10 109 "CallWays2Model" "functions" "I", .fieldLink RX10 52 "CallWays2Model" "counts" "[I", .methodLink RX10 68 yX10_in, .static yX10_in, .initialized RX10, .code yX10_in cX10_in 3 (some .boolean)] ++ wsX100)
def wsL_law_r1 : List Cond := [Cond.classLink RL 7 RX9, Cond.instantiable RX9 11, Cond.initialized RX9, Cond.classLink RL 10 RX10, Cond.instantiable RX10 21, Cond.initialized RX10, Cond.methodLink RL 9 yX9_init, Cond.instanceMethod yX9_init, Cond.code yX9_init cX9_init 1 none, Cond.methodLink RX9 1 objectInit, Cond.instanceMethod objectInit, Cond.code objectInit ⟨#[0xb1]⟩ 1 none, Cond.classLink RX9 9 RX5, Cond.fieldLink RX9 11 "CallWays2" "instruments" "[LCallWays2$Instrument;", Cond.classLink RX9 15 RX7, Cond.fieldLink RX9 17 "CallWays2" "blocks" "[LCallWays2$Samples;", Cond.classLink RX9 21 RX3, Cond.fieldLink RX9 23 "CallWays2" "functions" "[LCallWays2$Function;", Cond.arrayClass .double, Cond.fieldLink RX9 27 "CallWays2" "waiting" "[D", Cond.fieldLink RX9 31 "CallWays2" "boundLane" "I", Cond.methodLink RL 12 yX10_init, Cond.instanceMethod yX10_init, Cond.code yX10_init cX10_init 2 none]
def wsL_law_r2 : List Cond := [Cond.methodLink RX10 1 objectInit, Cond.arrayClass .int, Cond.fieldLink RX10 7 "CallWays2Model" "blocks" "[I", Cond.fieldLink RX10 13 "CallWays2Model" "tables" "[I", Cond.fieldLink RX10 16 "CallWays2Model" "laneOf" "[I", Cond.fieldLink RX10 19 "CallWays2Model" "sizeOf" "[I", Cond.arrayClass .long, Cond.fieldLink RX10 22 "CallWays2Model" "samples" "[J", Cond.fieldLink RX10 26 "CallWays2Model" "sorts" "[I", Cond.fieldLink RX10 29 "CallWays2Model" "knobs" "[I", Cond.fieldLink RX10 32 "CallWays2Model" "pitches" "[I", Cond.arrayClass .boolean, Cond.fieldLink RX10 35 "CallWays2Model" "isOn" "[Z", Cond.fieldLink RX10 39 "CallWays2Model" "phases" "[I", Cond.fieldLink RX10 42 "CallWays2Model" "levels" "[D", Cond.fieldLink RX10 46 "CallWays2Model" "kindOf" "[I", Cond.fieldLink RX10 49 "CallWays2Model" "numberOf" "[I", Cond.fieldLink RX10 52 "CallWays2Model" "counts" "[I", Cond.fieldLink RX10 55 "CallWays2Model" "come" "[D", Cond.fieldLink RX10 58 "CallWays2Model" "moved" "[J", Cond.fieldLink RX10 61 "CallWays2Model" "bound" "I", Cond.methodLink RL 13 yX9_instrument, Cond.instanceMethod yX9_instrument, Cond.selects RX9 yX9_instrument yX9_instrument]
def wsL_law_r3 : List Cond := [Cond.code yX9_instrument cX9_instrument 2 (some .int), Cond.fieldLink RX9 35 "CallWays2" "instrumentCount" "I", Cond.methodLink RX9 38 yX9_newInstrument, Cond.static yX9_newInstrument, Cond.code yX9_newInstrument cX9_newInstrument 1 (some (.object "CallWays2$Instrument")), Cond.classLink RX9 176 RX4, Cond.instantiable RX4 7, Cond.initialized RX4, Cond.classLink RX9 179 RX2, Cond.instantiable RX2 7, Cond.initialized RX2, Cond.classLink RX9 182 RX0, Cond.instantiable RX0 7, Cond.initialized RX0, Cond.classLink RX9 185 RX6, Cond.instantiable RX6 7, Cond.initialized RX6, Cond.classLink RX9 188 RX8, Cond.instantiable RX8 7, Cond.initialized RX8, Cond.instanceMethod yX4_init, Cond.code yX4_init cX4_init 1 none, Cond.instanceMethod yX8_init, Cond.code yX8_init cX8_init 1 none]
def wsL_law_r4 : List Cond := [Cond.instanceMethod yX5_init, Cond.initialized RX5, Cond.code yX5_init cX5_init 1 none, Cond.methodLink RX5 3 objectInit, Cond.fieldLink RX5 9 "CallWays2$Instrument" "knobs" "[I", Cond.instanceMethod yX2_init, Cond.code yX2_init cX2_init 1 none, Cond.instanceMethod yX0_init, Cond.code yX0_init cX0_init 1 none, Cond.instanceMethod yX6_init, Cond.code yX6_init cX6_init 1 none, Cond.methodLink RL 17 yX10_instrument, Cond.instanceMethod yX10_instrument, Cond.selects RX10 yX10_instrument yX10_instrument, Cond.code yX10_instrument cX10_instrument 2 (some .int), Cond.fieldLink RX10 65 "CallWays2Model" "instruments" "I", Cond.methodLink RX10 68 yX10_in, Cond.static yX10_in, Cond.code yX10_in cX10_in 3 (some .boolean), Cond.methodLink RL 18 yX9_note, Cond.instanceMethod yX9_note, Cond.selects RX9 yX9_note yX9_note, Cond.code yX9_note cX9_note 6 (some .int), Cond.fieldLink RX9 45 "CallWays2$Instrument" "on" "Z"]
def wsL_law_r5 : List Cond := [Cond.methodLink RX9 42 yX9_instrumentAt, Cond.instanceMethod yX9_instrumentAt, Cond.selects RX9 yX9_instrumentAt yX9_instrumentAt, Cond.code yX9_instrumentAt cX9_instrumentAt 2 (some (.object "CallWays2$Instrument")), Cond.methodLink RX9 49 ⟨"CallWays2$Instrument", "strike", "(IZ)V"⟩, Cond.sameMethod "CallWays2$Instrument" "CallWays2$Instrument" "strike" "(IZ)V", Cond.instanceMethod ⟨"CallWays2$Instrument", "strike", "(IZ)V"⟩, Cond.selects RX0 ⟨"CallWays2$Instrument", "strike", "(IZ)V"⟩ yX2_strike, Cond.instanceMethod yX2_strike, Cond.code yX2_strike cX2_strike 3 none, Cond.fieldLink RX2 13 "CallWays2$Drum" "level" "D", Cond.sameField "CallWays2$Drum" "CallWays2$Instrument" "level" "D", Cond.methodLink RX2 9 yX5_strike, Cond.superclass RX2 RX5, Cond.instanceMethod yX5_strike, Cond.code yX5_strike cX5_strike 3 none, Cond.fieldLink RX5 15 "CallWays2$Instrument" "pitch" "I", Cond.fieldLink RX5 19 "CallWays2$Instrument" "on" "Z", Cond.selects RX2 ⟨"CallWays2$Instrument", "strike", "(IZ)V"⟩ yX2_strike, Cond.selects RX4 ⟨"CallWays2$Instrument", "strike", "(IZ)V"⟩ yX5_strike, Cond.selects RX6 ⟨"CallWays2$Instrument", "strike", "(IZ)V"⟩ yX5_strike, Cond.selects RX8 ⟨"CallWays2$Instrument", "strike", "(IZ)V"⟩ yX5_strike, Cond.methodLink RL 22 yX10_note, Cond.instanceMethod yX10_note]
def wsL_law_r6 : List Cond := [Cond.selects RX10 yX10_note yX10_note, Cond.code yX10_note cX10_note 5 (some .int), Cond.methodLink RX10 91 yX10_isInstrument, Cond.instanceMethod yX10_isInstrument, Cond.selects RX10 yX10_isInstrument yX10_isInstrument, Cond.code yX10_isInstrument cX10_isInstrument 2 (some .boolean), Cond.methodLink RL 23 yX9_knob, Cond.instanceMethod yX9_knob, Cond.selects RX9 yX9_knob yX9_knob, Cond.code yX9_knob cX9_knob 6 (some .int), Cond.fieldLink RX9 53 "CallWays2" "latest" "I", Cond.fieldLink RX9 56 "CallWays2$Instrument" "knobs" "[I", Cond.methodLink RL 27 yX10_knob, Cond.instanceMethod yX10_knob, Cond.selects RX10 yX10_knob yX10_knob, Cond.code yX10_knob cX10_knob 5 (some .int), Cond.fieldLink RX10 72 "CallWays2Model" "stateNow" "I", Cond.methodLink RL 28 yX9_phase, Cond.instanceMethod yX9_phase, Cond.selects RX9 yX9_phase yX9_phase, Cond.code yX9_phase cX9_phase 5 (some .int), Cond.fieldLink RX9 60 "CallWays2$Instrument" "phase" "I", Cond.methodLink RL 32 yX10_phase, Cond.instanceMethod yX10_phase]
def wsL_law_r7 : List Cond := [Cond.selects RX10 yX10_phase yX10_phase, Cond.code yX10_phase cX10_phase 4 (some .int), Cond.methodLink RL 33 yX9_table, Cond.instanceMethod yX9_table, Cond.selects RX9 yX9_table yX9_table, Cond.code yX9_table cX9_table 5 (some .int), Cond.fieldLink RX9 75 "CallWays2$Instrument" "table" "LCallWays2$Samples;", Cond.methodLink RX9 63 yX9_isBlock, Cond.static yX9_isBlock, Cond.code yX9_isBlock cX9_isBlock 1 (some .boolean), Cond.methodLink RX9 67 yX9_heldBy, Cond.instanceMethod yX9_heldBy, Cond.selects RX9 yX9_heldBy yX9_heldBy, Cond.code yX9_heldBy cX9_heldBy 2 (some (.object "CallWays2$Samples")), Cond.methodLink RX9 71 yX9_lentOrTwin, Cond.static yX9_lentOrTwin, Cond.code yX9_lentOrTwin cX9_lentOrTwin 2 (some (.object "CallWays2$Samples")), Cond.methodLink RX9 191 yX7_twin, Cond.instanceMethod yX7_twin, Cond.selects RX7 yX7_twin yX7_twin, Cond.initialized RX7, Cond.code yX7_twin cX7_twin 1 (some (.object "CallWays2$Samples")), Cond.classLink RX7 10 RX7, Cond.instantiable RX7 2]
def wsL_law_r8 : List Cond := [Cond.fieldLink RX7 9 "CallWays2$Samples" "lane" "I", Cond.fieldLink RX7 15 "CallWays2$Samples" "values" "[D", Cond.methodLink RX7 19 ⟨"[D", "clone", "()Ljava/lang/Object;"⟩, Cond.sameMethod "[D" "java/lang/Object" "clone" "()Ljava/lang/Object;", Cond.native ⟨"java/lang/Object", "clone", "()Ljava/lang/Object;"⟩, Cond.instanceMethod ⟨"java/lang/Object", "clone", "()Ljava/lang/Object;"⟩, Cond.selects "[D" ⟨"[D", "clone", "()Ljava/lang/Object;"⟩ ⟨"java/lang/Object", "clone", "()Ljava/lang/Object;"⟩, Cond.classLink RX7 20 "[D", Cond.methodLink RX7 24 yX7_init, Cond.instanceMethod yX7_init, Cond.code yX7_init cX7_init 3 none, Cond.methodLink RX7 3 objectInit, Cond.methodLink RL 36 yX10_table, Cond.instanceMethod yX10_table, Cond.selects RX10 yX10_table yX10_table, Cond.code yX10_table cX10_table 5 (some .int), Cond.methodLink RX10 95 yX10_copyOf, Cond.instanceMethod yX10_copyOf, Cond.selects RX10 yX10_copyOf yX10_copyOf, Cond.code yX10_copyOf cX10_copyOf 4 (some .int), Cond.methodLink RX10 75 yX10_freshRow, Cond.instanceMethod yX10_freshRow, Cond.selects RX10 yX10_freshRow yX10_freshRow, Cond.code yX10_freshRow cX10_freshRow 6 (some .int)]
def wsL_law_r9 : List Cond := [Cond.methodLink RL 37 yX9_block, Cond.instanceMethod yX9_block, Cond.selects RX9 yX9_block yX9_block, Cond.code yX9_block cX9_block 4 (some .int), Cond.methodLink RX9 79 yX9_isLane, Cond.static yX9_isLane, Cond.code yX9_isLane cX9_isLane 1 (some .boolean), Cond.methodLink RX9 82 yX7_init, Cond.methodLink RL 40 yX10_block, Cond.instanceMethod yX10_block, Cond.selects RX10 yX10_block yX10_block, Cond.code yX10_block cX10_block 4 (some .int), Cond.methodLink RL 41 yX9_lend, Cond.instanceMethod yX9_lend, Cond.selects RX9 yX9_lend yX9_lend, Cond.code yX9_lend cX9_lend 5 (some .int), Cond.methodLink RL 44 yX10_lend, Cond.instanceMethod yX10_lend, Cond.selects RX10 yX10_lend yX10_lend, Cond.code yX10_lend cX10_lend 5 (some .int), Cond.methodLink RL 45 yX9_isLent, Cond.instanceMethod yX9_isLent, Cond.selects RX9 yX9_isLent yX9_isLent, Cond.code yX9_isLent cX9_isLent 3 (some .boolean)]
def wsL_law_r10 : List Cond := [Cond.methodLink RL 49 yX10_isLent, Cond.instanceMethod yX10_isLent, Cond.selects RX10 yX10_isLent yX10_isLent, Cond.code yX10_isLent cX10_isLent 3 (some .boolean), Cond.methodLink RL 50 yX9_of, Cond.instanceMethod yX9_of, Cond.selects RX9 yX9_of yX9_of, Cond.code yX9_of cX9_of 4 (some .int), Cond.fieldLink RX9 85 "CallWays2$Samples" "lane" "I", Cond.fieldLink RX9 88 "CallWays2$Samples" "values" "[D", Cond.methodLink RL 53 yX10_of, Cond.instanceMethod yX10_of, Cond.selects RX10 yX10_of yX10_of, Cond.code yX10_of cX10_of 4 (some .int), Cond.methodLink RL 54 yX9_at, Cond.instanceMethod yX9_at, Cond.selects RX9 yX9_at yX9_at, Cond.code yX9_at cX9_at 3 (some .long), Cond.methodLink RX9 91 yX9_againstPlace, Cond.instanceMethod yX9_againstPlace, Cond.selects RX9 yX9_againstPlace yX9_againstPlace, Cond.code yX9_againstPlace cX9_againstPlace 4 (some .int), Cond.methodLink RX9 195 yX7_has, Cond.instanceMethod yX7_has]
def wsL_law_r11 : List Cond := [Cond.selects RX7 yX7_has yX7_has, Cond.code yX7_has cX7_has 2 (some .boolean), Cond.methodLink RX9 95 yX7_bits, Cond.instanceMethod yX7_bits, Cond.selects RX7 yX7_bits yX7_bits, Cond.code yX7_bits cX7_bits 2 (some .long), Cond.methodLink RX7 31 yX1_ofFloat, Cond.static yX1_ofFloat, Cond.initialized RX1, Cond.code yX1_ofFloat cX1_ofFloat 2 (some .int), Cond.constant RX1 23 (-2147483648), Cond.methodLink RX1 7 yX1_isNegative, Cond.static yX1_isNegative, Cond.code yX1_isNegative cX1_isNegative 2 (some .boolean), Cond.methodLink RX1 17 yX1_magnitude, Cond.static yX1_magnitude, Cond.code yX1_magnitude cX1_magnitude 7 (some .long), Cond.constantDouble RX1 24 (4611686018427387904), Cond.constantDouble RX1 26 (4895412794951729152), Cond.methodLink RX7 37 yX1_ofDouble, Cond.static yX1_ofDouble, Cond.code yX1_ofDouble cX1_ofDouble 2 (some .long), Cond.constantLong RX1 15 (-9223372036854775808), Cond.methodLink RL 58 yX10_at]
def wsL_law_r12 : List Cond := [Cond.instanceMethod yX10_at, Cond.selects RX10 yX10_at yX10_at, Cond.code yX10_at cX10_at 3 (some .long), Cond.methodLink RX10 99 yX10_reach, Cond.instanceMethod yX10_reach, Cond.selects RX10 yX10_reach yX10_reach, Cond.code yX10_reach cX10_reach 4 (some .int), Cond.methodLink RX10 102 yX10_says, Cond.instanceMethod yX10_says, Cond.selects RX10 yX10_says yX10_says, Cond.code yX10_says cX10_says 2 (some .int), Cond.methodLink RL 59 yX9_put, Cond.instanceMethod yX9_put, Cond.selects RX9 yX9_put yX9_put, Cond.code yX9_put cX9_put 4 (some .int), Cond.methodLink RX9 99 yX7_set, Cond.instanceMethod yX7_set, Cond.selects RX7 yX7_set yX7_set, Cond.code yX7_set cX7_set 4 none, Cond.methodLink RX7 27 yX7_turned, Cond.instanceMethod yX7_turned, Cond.selects RX7 yX7_turned yX7_turned, Cond.code yX7_turned cX7_turned 3 (some .double), Cond.methodLink RL 62 yX10_put]
def wsL_law_r13 : List Cond := [Cond.instanceMethod yX10_put, Cond.selects RX10 yX10_put yX10_put, Cond.code yX10_put cX10_put 4 (some .int), Cond.methodLink RX10 105 yX10_cast, Cond.static yX10_cast, Cond.code yX10_cast cX10_cast 3 (some .long), Cond.methodLink RX10 79 yJxf58ca_floatToIntBits_5c35a, Cond.static yJxf58ca_floatToIntBits_5c35a, Cond.initialized RJxf58ca, Cond.code yJxf58ca_floatToIntBits_5c35a cJxf58ca_floatToIntBits_5c35a 1 (some .int), Cond.methodLink RJxf58ca 74 ⟨"java/lang/Float", "floatToRawIntBits", "(F)I"⟩, Cond.native ⟨"java/lang/Float", "floatToRawIntBits", "(F)I"⟩, Cond.static ⟨"java/lang/Float", "floatToRawIntBits", "(F)I"⟩, Cond.initialized "java/lang/Float", Cond.constant RJxf58ca 77 (2143289344), Cond.methodLink RJxf58ca 59 yJxf58ca_isNaN_12338, Cond.static yJxf58ca_isNaN_12338, Cond.code yJxf58ca_isNaN_12338 cJxf58ca_isNaN_12338 1 (some .boolean), Cond.methodLink RX10 85 yJxe99ae_doubleToLongBits_ccdee, Cond.static yJxe99ae_doubleToLongBits_ccdee, Cond.initialized RJxe99ae, Cond.code yJxe99ae_doubleToLongBits_ccdee cJxe99ae_doubleToLongBits_ccdee 2 (some .long), Cond.methodLink RJxe99ae 134 ⟨"java/lang/Double", "doubleToRawLongBits", "(D)J"⟩, Cond.native ⟨"java/lang/Double", "doubleToRawLongBits", "(D)J"⟩]
def wsL_law_r14 : List Cond := [Cond.static ⟨"java/lang/Double", "doubleToRawLongBits", "(D)J"⟩, Cond.initialized "java/lang/Double", Cond.constantLong RJxe99ae 137 (9221120237041090560), Cond.methodLink RJxe99ae 122 yJxe99ae_isNaN_b9ae7, Cond.static yJxe99ae_isNaN_b9ae7, Cond.code yJxe99ae_isNaN_b9ae7 cJxe99ae_isNaN_b9ae7 2 (some .boolean), Cond.methodLink RL 63 yX9_copy, Cond.instanceMethod yX9_copy, Cond.selects RX9 yX9_copy yX9_copy, Cond.code yX9_copy cX9_copy 8 (some .int), Cond.methodLink RX9 107 arraycopyName, Cond.native arraycopyName, Cond.static arraycopyName, Cond.initialized "java/lang/System", Cond.methodLink RX9 103 yX7_spans, Cond.instanceMethod yX7_spans, Cond.selects RX7 yX7_spans yX7_spans, Cond.code yX7_spans cX7_spans 3 (some .boolean), Cond.methodLink RL 67 yX10_copy, Cond.instanceMethod yX10_copy, Cond.selects RX10 yX10_copy yX10_copy, Cond.code yX10_copy cX10_copy 9 (some .int), Cond.methodLink RL 68 yX9_bind, Cond.instanceMethod yX9_bind]
def wsL_law_r15 : List Cond := [Cond.selects RX9 yX9_bind yX9_bind, Cond.code yX9_bind cX9_bind 3 (some .int), Cond.methodLink RL 71 yX10_bind, Cond.instanceMethod yX10_bind, Cond.selects RX10 yX10_bind yX10_bind, Cond.code yX10_bind cX10_bind 3 (some .int), Cond.methodLink RL 72 yX9_function, Cond.instanceMethod yX9_function, Cond.selects RX9 yX9_function yX9_function, Cond.code yX9_function cX9_function 3 (some .int), Cond.fieldLink RX9 113 "CallWays2" "functionCount" "I", Cond.instantiable RX3 2, Cond.initialized RX3, Cond.methodLink RX9 116 yX3_init, Cond.instanceMethod yX3_init, Cond.code yX3_init cX3_init 3 none, Cond.methodLink RX3 3 objectInit, Cond.fieldLink RX3 9 "CallWays2$Function" "kind" "I", Cond.fieldLink RX3 15 "CallWays2$Function" "a" "D", Cond.methodLink RL 75 yX10_function, Cond.instanceMethod yX10_function, Cond.selects RX10 yX10_function yX10_function, Cond.code yX10_function cX10_function 3 (some .int), Cond.fieldLink RX10 109 "CallWays2Model" "functions" "I"]
def wsL_law_r16 : List Cond := [Cond.methodLink RL 76 yX9_play, Cond.instanceMethod yX9_play, Cond.selects RX9 yX9_play yX9_play, Cond.code yX9_play cX9_play 12 (some .int), Cond.fieldLink RX9 135 "CallWays2" "playedFailed" "I", Cond.fieldLink RX9 138 "CallWays2" "playedWell" "I", Cond.methodLink RX9 119 yX9_functionAt, Cond.instanceMethod yX9_functionAt, Cond.selects RX9 yX9_functionAt yX9_functionAt, Cond.code yX9_functionAt cX9_functionAt 2 (some (.object "CallWays2$Function")), Cond.methodLink RX9 123 yX9_againstBlock, Cond.instanceMethod yX9_againstBlock, Cond.selects RX9 yX9_againstBlock yX9_againstBlock, Cond.code yX9_againstBlock cX9_againstBlock 5 (some .int), Cond.methodLink RX9 127 yX9_gather, Cond.instanceMethod yX9_gather, Cond.selects RX9 yX9_gather yX9_gather, Cond.code yX9_gather cX9_gather 7 (some .int), Cond.fieldLink RX9 173 "CallWays2" "samplesAsked" "I", Cond.fieldLink RX9 164 "CallWays2$Instrument" "failure" "I", Cond.methodLink RX9 160 ⟨"CallWays2$Instrument", "ask", "()D"⟩, Cond.sameMethod "CallWays2$Instrument" "CallWays2$Instrument" "ask" "()D", Cond.selects RX0 ⟨"CallWays2$Instrument", "ask", "()D"⟩ yX5_ask, Cond.instanceMethod yX5_ask]
def wsL_law_r17 : List Cond := [Cond.code yX5_ask cX5_ask 3 (some .double), Cond.fieldLink RX5 23 "CallWays2$Instrument" "failure" "I", Cond.fieldLink RX5 30 "CallWays2$Instrument" "phase" "I", Cond.methodLink RX5 26 ⟨"CallWays2$Instrument", "give", "()D"⟩, Cond.sameMethod "CallWays2$Instrument" "CallWays2$Instrument" "give" "()D", Cond.selects RX0 ⟨"CallWays2$Instrument", "give", "()D"⟩ yX0_give, Cond.instanceMethod yX0_give, Cond.code yX0_give cX0_give 3 (some .double), Cond.fieldLink RX0 9 "CallWays2$Bell" "phase" "I", Cond.sameField "CallWays2$Bell" "CallWays2$Instrument" "phase" "I", Cond.fieldLink RX0 15 "CallWays2$Bell" "knobs" "[I", Cond.sameField "CallWays2$Bell" "CallWays2$Instrument" "knobs" "[I", Cond.constantDouble RX0 27 (13830554455654793216), Cond.methodLink RX0 19 ⟨"CallWays2$Bell", "fail", "(I)D"⟩, Cond.sameMethod "CallWays2$Bell" "CallWays2$Instrument" "fail" "(I)D", Cond.selects RX0 ⟨"CallWays2$Bell", "fail", "(I)D"⟩ yX5_fail, Cond.instanceMethod yX5_fail, Cond.code yX5_fail cX5_fail 2 (some .double), Cond.methodLink RX0 23 yX2_give, Cond.sameMethod "CallWays2$Drum" "CallWays2$Drum" "give" "()D", Cond.superclass RX0 RX2, Cond.instanceMethod yX2_give, Cond.code yX2_give cX2_give 4 (some .double), Cond.fieldLink RX2 19 "CallWays2$Drum" "knobs" "[I"]
def wsL_law_r18 : List Cond := [Cond.sameField "CallWays2$Drum" "CallWays2$Instrument" "knobs" "[I", Cond.constantDouble RX2 27 (4652007308841189376), Cond.methodLink RX2 23 ⟨"CallWays2$Drum", "fail", "(I)D"⟩, Cond.sameMethod "CallWays2$Drum" "CallWays2$Instrument" "fail" "(I)D", Cond.selects RX0 ⟨"CallWays2$Drum", "fail", "(I)D"⟩ yX5_fail, Cond.selects RX2 ⟨"CallWays2$Drum", "fail", "(I)D"⟩ yX5_fail, Cond.selects RX2 ⟨"CallWays2$Instrument", "give", "()D"⟩ yX2_give, Cond.selects RX4 ⟨"CallWays2$Instrument", "give", "()D"⟩ yX4_give, Cond.instanceMethod yX4_give, Cond.code yX4_give cX4_give 1 (some .double), Cond.constantDouble RX4 7 (4611686018427387904), Cond.fieldLink RX4 13 "CallWays2$Glass" "knobs" "[I", Cond.sameField "CallWays2$Glass" "CallWays2$Instrument" "knobs" "[I", Cond.methodLink RX4 9 yX8_give, Cond.sameMethod "CallWays2$Tone" "CallWays2$Tone" "give" "()D", Cond.superclass RX4 RX8, Cond.instanceMethod yX8_give, Cond.code yX8_give cX8_give 1 (some .double), Cond.fieldLink RX8 7 "CallWays2$Tone" "on" "Z", Cond.sameField "CallWays2$Tone" "CallWays2$Instrument" "on" "Z", Cond.fieldLink RX8 13 "CallWays2$Tone" "phase" "I", Cond.sameField "CallWays2$Tone" "CallWays2$Instrument" "phase" "I", Cond.fieldLink RX8 17 "CallWays2$Tone" "pitch" "I", Cond.sameField "CallWays2$Tone" "CallWays2$Instrument" "pitch" "I"]
def wsL_law_r19 : List Cond := [Cond.selects RX6 ⟨"CallWays2$Instrument", "give", "()D"⟩ yX6_give, Cond.instanceMethod yX6_give, Cond.code yX6_give cX6_give 2 (some .double), Cond.fieldLink RX6 9 "CallWays2$Reader" "on" "Z", Cond.sameField "CallWays2$Reader" "CallWays2$Instrument" "on" "Z", Cond.fieldLink RX6 15 "CallWays2$Reader" "phase" "I", Cond.sameField "CallWays2$Reader" "CallWays2$Instrument" "phase" "I", Cond.fieldLink RX6 23 "CallWays2$Reader" "table" "LCallWays2$Samples;", Cond.sameField "CallWays2$Reader" "CallWays2$Instrument" "table" "LCallWays2$Samples;", Cond.fieldLink RX6 27 "CallWays2$Samples" "lane" "I", Cond.fieldLink RX6 32 "CallWays2$Reader" "knobs" "[I", Cond.sameField "CallWays2$Reader" "CallWays2$Instrument" "knobs" "[I", Cond.fieldLink RX6 40 "CallWays2$Samples" "values" "[D", Cond.methodLink RX6 19 ⟨"CallWays2$Reader", "fail", "(I)D"⟩, Cond.sameMethod "CallWays2$Reader" "CallWays2$Instrument" "fail" "(I)D", Cond.selects RX6 ⟨"CallWays2$Reader", "fail", "(I)D"⟩ yX5_fail, Cond.methodLink RX6 36 yX7_has, Cond.selects RX8 ⟨"CallWays2$Instrument", "give", "()D"⟩ yX8_give, Cond.selects RX2 ⟨"CallWays2$Instrument", "ask", "()D"⟩ yX5_ask, Cond.selects RX4 ⟨"CallWays2$Instrument", "ask", "()D"⟩ yX5_ask, Cond.selects RX6 ⟨"CallWays2$Instrument", "ask", "()D"⟩ yX5_ask, Cond.selects RX8 ⟨"CallWays2$Instrument", "ask", "()D"⟩ yX5_ask, Cond.methodLink RX9 152 yX3_refuses, Cond.instanceMethod yX3_refuses]
def wsL_law_r20 : List Cond := [Cond.selects RX3 yX3_refuses yX3_refuses, Cond.code yX3_refuses cX3_refuses 3 (some .boolean), Cond.methodLink RX9 156 yX3_pass, Cond.instanceMethod yX3_pass, Cond.selects RX3 yX3_pass yX3_pass, Cond.code yX3_pass cX3_pass 3 (some .double), Cond.methodLink RX9 131 yX9_deliver, Cond.instanceMethod yX9_deliver, Cond.selects RX9 yX9_deliver yX9_deliver, Cond.code yX9_deliver cX9_deliver 6 none, Cond.methodLink RL 80 yX10_play, Cond.instanceMethod yX10_play, Cond.selects RX10 yX10_play yX10_play, Cond.code yX10_play cX10_play 10 (some .int), Cond.fieldLink RX10 112 "CallWays2Model" "failure" "I", Cond.methodLink RX10 139 yX10_sample, Cond.instanceMethod yX10_sample, Cond.selects RX10 yX10_sample yX10_sample, Cond.code yX10_sample cX10_sample 6 (some .double), Cond.constantDouble RX10 125 (4611686018427387904), Cond.constantDouble RX10 130 (13830554455654793216), Cond.methodLink RX10 121 yX10_tone, Cond.instanceMethod yX10_tone, Cond.selects RX10 yX10_tone yX10_tone]
def wsL_law_r21 : List Cond := [Cond.code yX10_tone cX10_tone 3 (some .double), Cond.methodLink RX10 127 yX10_drum, Cond.instanceMethod yX10_drum, Cond.selects RX10 yX10_drum yX10_drum, Cond.code yX10_drum cX10_drum 5 (some .double), Cond.constantDouble RX10 119 (4652007308841189376), Cond.methodLink RX10 115 yX10_failed, Cond.instanceMethod yX10_failed, Cond.selects RX10 yX10_failed yX10_failed, Cond.code yX10_failed cX10_failed 2 (some .double), Cond.methodLink RX10 132 yX10_reader, Cond.instanceMethod yX10_reader, Cond.selects RX10 yX10_reader yX10_reader, Cond.code yX10_reader cX10_reader 5 (some .double), Cond.methodLink RX10 142 yX10_through, Cond.instanceMethod yX10_through, Cond.selects RX10 yX10_through yX10_through, Cond.code yX10_through cX10_through 6 (some .double), Cond.methodLink RX10 135 yX10_isMinus, Cond.static yX10_isMinus, Cond.code yX10_isMinus cX10_isMinus 2 (some .boolean), Cond.methodLink RL 81 yX9_agree, Cond.instanceMethod yX9_agree, Cond.selects RX9 yX9_agree yX9_agree]
def wsL_law_r22 : List Cond := [Cond.code yX9_agree cX9_agree 10 (some .boolean), Cond.fieldLink RX9 141 "CallWays2$Instrument" "level" "D", Cond.methodLink RX9 145 yX9_staysAlike, Cond.static yX9_staysAlike, Cond.code yX9_staysAlike cX9_staysAlike 6 (some .boolean), Cond.methodLink RX9 149 ⟨"CallWays2$Instrument", "goBack", "(ID)V"⟩, Cond.sameMethod "CallWays2$Instrument" "CallWays2$Instrument" "goBack" "(ID)V", Cond.selects RX0 ⟨"CallWays2$Instrument", "goBack", "(ID)V"⟩ yX5_goBack, Cond.instanceMethod yX5_goBack, Cond.code yX5_goBack cX5_goBack 4 none, Cond.fieldLink RX5 33 "CallWays2$Instrument" "level" "D", Cond.selects RX2 ⟨"CallWays2$Instrument", "goBack", "(ID)V"⟩ yX5_goBack, Cond.selects RX4 ⟨"CallWays2$Instrument", "goBack", "(ID)V"⟩ yX5_goBack, Cond.selects RX6 ⟨"CallWays2$Instrument", "goBack", "(ID)V"⟩ yX5_goBack, Cond.selects RX8 ⟨"CallWays2$Instrument", "goBack", "(ID)V"⟩ yX5_goBack, Cond.methodLink RL 85 yX10_agree, Cond.instanceMethod yX10_agree, Cond.selects RX10 yX10_agree yX10_agree, Cond.code yX10_agree cX10_agree 14 (some .boolean), Cond.methodLink RL 86 yX9_find, Cond.instanceMethod yX9_find, Cond.selects RX9 yX9_find yX9_find, Cond.code yX9_find cX9_find 4 (some .int), Cond.methodLink RL 89 yX10_find]
def wsL_law_r23 : List Cond := [Cond.instanceMethod yX10_find, Cond.selects RX10 yX10_find yX10_find, Cond.code yX10_find cX10_find 6 (some .int), Cond.methodLink RL 90 yX9_next, Cond.instanceMethod yX9_next, Cond.selects RX9 yX9_next yX9_next, Cond.code yX9_next cX9_next 8 (some .long), Cond.methodLink RX9 167 yX1_ofDouble, Cond.methodLink RL 94 yX10_next, Cond.instanceMethod yX10_next, Cond.selects RX10 yX10_next yX10_next, Cond.code yX10_next cX10_next 7 (some .long), Cond.methodLink RL 95 yX9_state, Cond.instanceMethod yX9_state, Cond.selects RX9 yX9_state yX9_state, Cond.code yX9_state cX9_state 1 (some .int), Cond.methodLink RL 99 yX10_state, Cond.instanceMethod yX10_state, Cond.selects RX10 yX10_state yX10_state, Cond.code yX10_state cX10_state 1 (some .int), Cond.methodLink RL 100 yX9_count, Cond.instanceMethod yX9_count, Cond.selects RX9 yX9_count yX9_count, Cond.code yX9_count cX9_count 2 (some .int)]
def wsL_law_r24 : List Cond := [Cond.methodLink RL 103 yX10_count, Cond.instanceMethod yX10_count, Cond.selects RX10 yX10_count yX10_count, Cond.code yX10_count cX10_count 2 (some .int)]
def wsL_law : List Cond := (wsL_law_r1 ++ (wsL_law_r2 ++ (wsL_law_r3 ++ (wsL_law_r4 ++ (wsL_law_r5 ++ (wsL_law_r6 ++ (wsL_law_r7 ++ (wsL_law_r8 ++ (wsL_law_r9 ++ (wsL_law_r10 ++ (wsL_law_r11 ++ (wsL_law_r12 ++ (wsL_law_r13 ++ (wsL_law_r14 ++ (wsL_law_r15 ++ (wsL_law_r16 ++ (wsL_law_r17 ++ (wsL_law_r18 ++ (wsL_law_r19 ++ (wsL_law_r20 ++ (wsL_law_r21 ++ (wsL_law_r22 ++ (wsL_law_r23 ++ wsL_law_r24))))))))))))))))))))))) ++ wsX90 ++ wsX100 ++ wsX40 ++ wsX20 ++ wsX00 ++ wsX60 ++ wsX80 ++ wsX70 ++ wsX30 ++ ([] : List Cond)
abbrev vwCl : List vw_C := [(RX0, TX0, 7), (RX2, TX2, 7), (RX3, TX3, 2), (RX4, TX4, 7), (RX6, TX6, 7), (RX7, TX7, 2), (RX8, TX8, 7), (RX9, TX9, 11), (RX10, TX10, 21)]
end
section
set_option maxRecDepth 20000 in
theorem ggX0_init_X2_init : GoodIn wsX0_init wsX2_init := goodIn_r _ [3, 4, 5, 6, 7, 8, 9, 10, 11, 12, 13, 14, 15, 16, 17, 18, 19, 20, 21, 22, 23, 24, 25, 26, 27, 28, 29, 30, 31, 32, 33, 34, 35, 36, 37, 38, 39, 40, 41, 42, 43, 44, 45, 46] (by decide +kernel) (by decide +kernel)
set_option maxRecDepth 20000 in
theorem gX0_init_X2_init_n3 : GoodIn wsX0_init (wsX2_init) := ggX0_init_X2_init
theorem dX0_init_0 : decode cX0_init 0 = .ok (.aload_n 0, 1) := by decide +kernel
theorem dX0_init_1 : decode cX0_init 1 = .ok (.invokespecial 3, 3) := by decide +kernel
theorem dX0_init_4 : decode cX0_init 4 = .ok (.return_, 1) := by decide +kernel
set_option maxRecDepth 20000 in
theorem ggX0_give_X5_fail : GoodIn wsX0_give wsX5_fail := goodIn_r _ [11, 12, 28, 29, 30, 31, 32, 33, 34, 35, 36, 37, 38, 39, 40, 41, 42, 43, 44, 45, 46, 47, 48, 49, 50, 51, 52, 53, 54, 55, 56, 57, 58, 59, 60, 61, 62] (by decide +kernel) (by decide +kernel)
set_option maxRecDepth 20000 in
theorem gX0_give_X5_fail_u19X0 : GoodIn wsX0_give (va_wsU RX0 19 RX0 "CallWays2$Instrument" ⟨"CallWays2$Bell", "fail", "(I)D"⟩ yX5_fail wsX5_fail) := goodIn_app (goodIn_of _ (by decide +kernel)) ggX0_give_X5_fail
set_option maxRecDepth 20000 in
theorem ggX0_give_X2_give : GoodIn wsX0_give wsX2_give := goodIn_r _ [18, 19, 20, 21, 22, 23, 24, 25, 26, 9, 10, 11, 12, 27, 28, 29, 30, 31, 32, 33, 34, 35, 36, 37, 38, 39, 40, 41, 42, 43, 44, 45, 46, 47, 48, 49, 50, 51, 52, 53, 54, 55, 56, 57, 58, 59, 60, 61, 62] (by decide +kernel) (by decide +kernel)
set_option maxRecDepth 20000 in
theorem gX0_give_X2_give_s23 : GoodIn wsX0_give (va_wsSU RX0 23 yX2_give wsX2_give) := goodIn_app (goodIn_of _ (by decide +kernel)) ggX0_give_X2_give
theorem dX0_give_0 : decode cX0_give 0 = .ok (.aload_n 0, 1) := by decide +kernel
theorem dX0_give_1 : decode cX0_give 1 = .ok (.getfield 9, 3) := by decide +kernel
theorem dX0_give_4 : decode cX0_give 4 = .ok (.aload_n 0, 1) := by decide +kernel
theorem dX0_give_5 : decode cX0_give 5 = .ok (.getfield 15, 3) := by decide +kernel
theorem dX0_give_8 : decode cX0_give 8 = .ok (.iconst 2, 1) := by decide +kernel
theorem dX0_give_9 : decode cX0_give 9 = .ok (.iaload, 1) := by decide +kernel
theorem dX0_give_10 : decode cX0_give 10 = .ok (.if_icmp .ne 10, 3) := by decide +kernel
theorem dX0_give_13 : decode cX0_give 13 = .ok (.aload_n 0, 1) := by decide +kernel
theorem dX0_give_14 : decode cX0_give 14 = .ok (.bipush (-3), 2) := by decide +kernel
theorem dX0_give_16 : decode cX0_give 16 = .ok (.invokevirtual 19, 3) := by decide +kernel
theorem dX0_give_19 : decode cX0_give 19 = .ok (.dreturn, 1) := by decide +kernel
theorem dX0_give_20 : decode cX0_give 20 = .ok (.aload_n 0, 1) := by decide +kernel
theorem dX0_give_21 : decode cX0_give 21 = .ok (.invokespecial 23, 3) := by decide +kernel
theorem dX0_give_24 : decode cX0_give 24 = .ok (.dstore_n 1, 1) := by decide +kernel
theorem dX0_give_25 : decode cX0_give 25 = .ok (.aload_n 0, 1) := by decide +kernel
theorem dX0_give_26 : decode cX0_give 26 = .ok (.getfield 9, 3) := by decide +kernel
theorem dX0_give_29 : decode cX0_give 29 = .ok (.iconst 1, 1) := by decide +kernel
theorem dX0_give_30 : decode cX0_give 30 = .ok (.iand, 1) := by decide +kernel
theorem dX0_give_31 : decode cX0_give 31 = .ok (.ifCond .ne 7, 3) := by decide +kernel
theorem dX0_give_34 : decode cX0_give 34 = .ok (.dload_n 1, 1) := by decide +kernel
theorem dX0_give_35 : decode cX0_give 35 = .ok (.goto 8, 3) := by decide +kernel
theorem dX0_give_38 : decode cX0_give 38 = .ok (.ldc2_w 27, 3) := by decide +kernel
theorem dX0_give_41 : decode cX0_give 41 = .ok (.dload_n 1, 1) := by decide +kernel
theorem dX0_give_42 : decode cX0_give 42 = .ok (.dmul, 1) := by decide +kernel
theorem dX0_give_43 : decode cX0_give 43 = .ok (.dreturn, 1) := by decide +kernel
set_option maxRecDepth 20000 in
theorem ggX1_ofDouble_X1_isNegative : GoodIn wsX1_ofDouble wsX1_isNegative := goodIn_r _ [5] (by decide +kernel) (by decide +kernel)
set_option maxRecDepth 20000 in
theorem gX1_ofDouble_X1_isNegative : GoodIn wsX1_ofDouble (va_wsS RX1 7 yX1_isNegative wsX1_isNegative) := goodIn_app (goodIn_of _ (by decide +kernel)) ggX1_ofDouble_X1_isNegative
set_option maxRecDepth 20000 in
theorem ggX1_ofDouble_X1_magnitude : GoodIn wsX1_ofDouble wsX1_magnitude := goodIn_r _ [8, 9, 10] (by decide +kernel) (by decide +kernel)
set_option maxRecDepth 20000 in
theorem gX1_ofDouble_X1_magnitude : GoodIn wsX1_ofDouble (va_wsS RX1 17 yX1_magnitude wsX1_magnitude) := goodIn_app (goodIn_of _ (by decide +kernel)) ggX1_ofDouble_X1_magnitude
theorem dX1_ofDouble_0 : decode cX1_ofDouble 0 = .ok (.dload_n 0, 1) := by decide +kernel
theorem dX1_ofDouble_1 : decode cX1_ofDouble 1 = .ok (.invokestatic 7, 3) := by decide +kernel
theorem dX1_ofDouble_4 : decode cX1_ofDouble 4 = .ok (.ifCond .eq 9, 3) := by decide +kernel
theorem dX1_ofDouble_7 : decode cX1_ofDouble 7 = .ok (.ldc2_w 15, 3) := by decide +kernel
theorem dX1_ofDouble_10 : decode cX1_ofDouble 10 = .ok (.goto 4, 3) := by decide +kernel
theorem dX1_ofDouble_13 : decode cX1_ofDouble 13 = .ok (.lconst 0, 1) := by decide +kernel
theorem dX1_ofDouble_14 : decode cX1_ofDouble 14 = .ok (.dload_n 0, 1) := by decide +kernel
theorem dX1_ofDouble_15 : decode cX1_ofDouble 15 = .ok (.dconst 0, 1) := by decide +kernel
theorem dX1_ofDouble_16 : decode cX1_ofDouble 16 = .ok (.dcmp .g, 1) := by decide +kernel
theorem dX1_ofDouble_17 : decode cX1_ofDouble 17 = .ok (.ifCond .ge 8, 3) := by decide +kernel
theorem dX1_ofDouble_20 : decode cX1_ofDouble 20 = .ok (.dload_n 0, 1) := by decide +kernel
theorem dX1_ofDouble_21 : decode cX1_ofDouble 21 = .ok (.dneg, 1) := by decide +kernel
theorem dX1_ofDouble_22 : decode cX1_ofDouble 22 = .ok (.goto 4, 3) := by decide +kernel
theorem dX1_ofDouble_25 : decode cX1_ofDouble 25 = .ok (.dload_n 0, 1) := by decide +kernel
theorem dX1_ofDouble_26 : decode cX1_ofDouble 26 = .ok (.sipush 1023, 3) := by decide +kernel
theorem dX1_ofDouble_29 : decode cX1_ofDouble 29 = .ok (.bipush 52, 2) := by decide +kernel
theorem dX1_ofDouble_31 : decode cX1_ofDouble 31 = .ok (.invokestatic 17, 3) := by decide +kernel
theorem dX1_ofDouble_34 : decode cX1_ofDouble 34 = .ok (.lor, 1) := by decide +kernel
theorem dX1_ofDouble_35 : decode cX1_ofDouble 35 = .ok (.lreturn, 1) := by decide +kernel
set_option maxRecDepth 20000 in
theorem ggX1_ofFloat_X1_isNegative : GoodIn wsX1_ofFloat wsX1_isNegative := goodIn_r _ [5] (by decide +kernel) (by decide +kernel)
set_option maxRecDepth 20000 in
theorem gX1_ofFloat_X1_isNegative : GoodIn wsX1_ofFloat (va_wsS RX1 7 yX1_isNegative wsX1_isNegative) := goodIn_app (goodIn_of _ (by decide +kernel)) ggX1_ofFloat_X1_isNegative
set_option maxRecDepth 20000 in
theorem ggX1_ofFloat_X1_magnitude : GoodIn wsX1_ofFloat wsX1_magnitude := goodIn_r _ [8, 9, 10] (by decide +kernel) (by decide +kernel)
set_option maxRecDepth 20000 in
theorem gX1_ofFloat_X1_magnitude : GoodIn wsX1_ofFloat (va_wsS RX1 17 yX1_magnitude wsX1_magnitude) := goodIn_app (goodIn_of _ (by decide +kernel)) ggX1_ofFloat_X1_magnitude
theorem dX1_ofFloat_0 : decode cX1_ofFloat 0 = .ok (.dload_n 0, 1) := by decide +kernel
theorem dX1_ofFloat_1 : decode cX1_ofFloat 1 = .ok (.invokestatic 7, 3) := by decide +kernel
theorem dX1_ofFloat_4 : decode cX1_ofFloat 4 = .ok (.ifCond .eq 8, 3) := by decide +kernel
theorem dX1_ofFloat_7 : decode cX1_ofFloat 7 = .ok (.ldc 23, 2) := by decide +kernel
theorem dX1_ofFloat_9 : decode cX1_ofFloat 9 = .ok (.goto 4, 3) := by decide +kernel
theorem dX1_ofFloat_12 : decode cX1_ofFloat 12 = .ok (.iconst 0, 1) := by decide +kernel
theorem dX1_ofFloat_13 : decode cX1_ofFloat 13 = .ok (.dload_n 0, 1) := by decide +kernel
theorem dX1_ofFloat_14 : decode cX1_ofFloat 14 = .ok (.dconst 0, 1) := by decide +kernel
theorem dX1_ofFloat_15 : decode cX1_ofFloat 15 = .ok (.dcmp .g, 1) := by decide +kernel
theorem dX1_ofFloat_16 : decode cX1_ofFloat 16 = .ok (.ifCond .ge 8, 3) := by decide +kernel
theorem dX1_ofFloat_19 : decode cX1_ofFloat 19 = .ok (.dload_n 0, 1) := by decide +kernel
theorem dX1_ofFloat_20 : decode cX1_ofFloat 20 = .ok (.dneg, 1) := by decide +kernel
theorem dX1_ofFloat_21 : decode cX1_ofFloat 21 = .ok (.goto 4, 3) := by decide +kernel
theorem dX1_ofFloat_24 : decode cX1_ofFloat 24 = .ok (.dload_n 0, 1) := by decide +kernel
theorem dX1_ofFloat_25 : decode cX1_ofFloat 25 = .ok (.bipush 127, 2) := by decide +kernel
theorem dX1_ofFloat_27 : decode cX1_ofFloat 27 = .ok (.bipush 23, 2) := by decide +kernel
theorem dX1_ofFloat_29 : decode cX1_ofFloat 29 = .ok (.invokestatic 17, 3) := by decide +kernel
theorem dX1_ofFloat_32 : decode cX1_ofFloat 32 = .ok (.l2i, 1) := by decide +kernel
theorem dX1_ofFloat_33 : decode cX1_ofFloat 33 = .ok (.ior, 1) := by decide +kernel
theorem dX1_ofFloat_34 : decode cX1_ofFloat 34 = .ok (.ireturn, 1) := by decide +kernel
theorem dX1_isNegative_0 : decode cX1_isNegative 0 = .ok (.dload_n 0, 1) := by decide +kernel
theorem dX1_isNegative_1 : decode cX1_isNegative 1 = .ok (.dconst 0, 1) := by decide +kernel
theorem dX1_isNegative_2 : decode cX1_isNegative 2 = .ok (.dcmp .g, 1) := by decide +kernel
theorem dX1_isNegative_3 : decode cX1_isNegative 3 = .ok (.ifCond .lt 17, 3) := by decide +kernel
theorem dX1_isNegative_6 : decode cX1_isNegative 6 = .ok (.dload_n 0, 1) := by decide +kernel
theorem dX1_isNegative_7 : decode cX1_isNegative 7 = .ok (.dconst 0, 1) := by decide +kernel
theorem dX1_isNegative_8 : decode cX1_isNegative 8 = .ok (.dcmp .l, 1) := by decide +kernel
theorem dX1_isNegative_9 : decode cX1_isNegative 9 = .ok (.ifCond .ne 15, 3) := by decide +kernel
theorem dX1_isNegative_12 : decode cX1_isNegative 12 = .ok (.dconst 1, 1) := by decide +kernel
theorem dX1_isNegative_13 : decode cX1_isNegative 13 = .ok (.dload_n 0, 1) := by decide +kernel
theorem dX1_isNegative_14 : decode cX1_isNegative 14 = .ok (.ddiv, 1) := by decide +kernel
theorem dX1_isNegative_15 : decode cX1_isNegative 15 = .ok (.dconst 0, 1) := by decide +kernel
theorem dX1_isNegative_16 : decode cX1_isNegative 16 = .ok (.dcmp .g, 1) := by decide +kernel
theorem dX1_isNegative_17 : decode cX1_isNegative 17 = .ok (.ifCond .ge 7, 3) := by decide +kernel
theorem dX1_isNegative_20 : decode cX1_isNegative 20 = .ok (.iconst 1, 1) := by decide +kernel
theorem dX1_isNegative_21 : decode cX1_isNegative 21 = .ok (.goto 4, 3) := by decide +kernel
theorem dX1_isNegative_24 : decode cX1_isNegative 24 = .ok (.iconst 0, 1) := by decide +kernel
theorem dX1_isNegative_25 : decode cX1_isNegative 25 = .ok (.ireturn, 1) := by decide +kernel
theorem dX1_magnitude_0 : decode cX1_magnitude 0 = .ok (.dload_n 0, 1) := by decide +kernel
theorem dX1_magnitude_1 : decode cX1_magnitude 1 = .ok (.dconst 0, 1) := by decide +kernel
theorem dX1_magnitude_2 : decode cX1_magnitude 2 = .ok (.dcmp .l, 1) := by decide +kernel
theorem dX1_magnitude_3 : decode cX1_magnitude 3 = .ok (.ifCond .ne 5, 3) := by decide +kernel
theorem dX1_magnitude_6 : decode cX1_magnitude 6 = .ok (.lconst 0, 1) := by decide +kernel
theorem dX1_magnitude_7 : decode cX1_magnitude 7 = .ok (.lreturn, 1) := by decide +kernel
theorem dX1_magnitude_8 : decode cX1_magnitude 8 = .ok (.dload_n 0, 1) := by decide +kernel
theorem dX1_magnitude_9 : decode cX1_magnitude 9 = .ok (.dstore 4, 2) := by decide +kernel
theorem dX1_magnitude_11 : decode cX1_magnitude 11 = .ok (.iload_n 2, 1) := by decide +kernel
theorem dX1_magnitude_12 : decode cX1_magnitude 12 = .ok (.istore 6, 2) := by decide +kernel
theorem dX1_magnitude_14 : decode cX1_magnitude 14 = .ok (.dload 4, 2) := by decide +kernel
theorem dX1_magnitude_16 : decode cX1_magnitude 16 = .ok (.ldc2_w 24, 3) := by decide +kernel
theorem dX1_magnitude_19 : decode cX1_magnitude 19 = .ok (.dcmp .l, 1) := by decide +kernel
theorem dX1_magnitude_20 : decode cX1_magnitude 20 = .ok (.ifCond .lt 25, 3) := by decide +kernel
theorem dX1_magnitude_23 : decode cX1_magnitude 23 = .ok (.iload 6, 2) := by decide +kernel
theorem dX1_magnitude_25 : decode cX1_magnitude 25 = .ok (.iconst 2, 1) := by decide +kernel
theorem dX1_magnitude_26 : decode cX1_magnitude 26 = .ok (.iload_n 2, 1) := by decide +kernel
theorem dX1_magnitude_27 : decode cX1_magnitude 27 = .ok (.imul, 1) := by decide +kernel
theorem dX1_magnitude_28 : decode cX1_magnitude 28 = .ok (.if_icmp .ge 17, 3) := by decide +kernel
theorem dX1_magnitude_31 : decode cX1_magnitude 31 = .ok (.dload 4, 2) := by decide +kernel
theorem dX1_magnitude_33 : decode cX1_magnitude 33 = .ok (.ldc2_w 24, 3) := by decide +kernel
theorem dX1_magnitude_36 : decode cX1_magnitude 36 = .ok (.ddiv, 1) := by decide +kernel
theorem dX1_magnitude_37 : decode cX1_magnitude 37 = .ok (.dstore 4, 2) := by decide +kernel
theorem dX1_magnitude_39 : decode cX1_magnitude 39 = .ok (.iinc 6 1, 3) := by decide +kernel
theorem dX1_magnitude_42 : decode cX1_magnitude 42 = .ok (.goto (-28), 3) := by decide +kernel
theorem dX1_magnitude_45 : decode cX1_magnitude 45 = .ok (.dload 4, 2) := by decide +kernel
theorem dX1_magnitude_47 : decode cX1_magnitude 47 = .ok (.ldc2_w 26, 3) := by decide +kernel
theorem dX1_magnitude_50 : decode cX1_magnitude 50 = .ok (.dmul, 1) := by decide +kernel
theorem dX1_magnitude_51 : decode cX1_magnitude 51 = .ok (.dconst 1, 1) := by decide +kernel
theorem dX1_magnitude_52 : decode cX1_magnitude 52 = .ok (.dcmp .g, 1) := by decide +kernel
theorem dX1_magnitude_53 : decode cX1_magnitude 53 = .ok (.ifCond .ge 24, 3) := by decide +kernel
theorem dX1_magnitude_56 : decode cX1_magnitude 56 = .ok (.iload 6, 2) := by decide +kernel
theorem dX1_magnitude_58 : decode cX1_magnitude 58 = .ok (.bipush 64, 2) := by decide +kernel
theorem dX1_magnitude_60 : decode cX1_magnitude 60 = .ok (.if_icmp .le 17, 3) := by decide +kernel
theorem dX1_magnitude_63 : decode cX1_magnitude 63 = .ok (.dload 4, 2) := by decide +kernel
theorem dX1_magnitude_65 : decode cX1_magnitude 65 = .ok (.ldc2_w 26, 3) := by decide +kernel
theorem dX1_magnitude_68 : decode cX1_magnitude 68 = .ok (.dmul, 1) := by decide +kernel
theorem dX1_magnitude_69 : decode cX1_magnitude 69 = .ok (.dstore 4, 2) := by decide +kernel
theorem dX1_magnitude_71 : decode cX1_magnitude 71 = .ok (.iinc 6 (-64), 3) := by decide +kernel
theorem dX1_magnitude_74 : decode cX1_magnitude 74 = .ok (.goto (-29), 3) := by decide +kernel
theorem dX1_magnitude_77 : decode cX1_magnitude 77 = .ok (.dload 4, 2) := by decide +kernel
theorem dX1_magnitude_79 : decode cX1_magnitude 79 = .ok (.dconst 1, 1) := by decide +kernel
theorem dX1_magnitude_80 : decode cX1_magnitude 80 = .ok (.dcmp .g, 1) := by decide +kernel
theorem dX1_magnitude_81 : decode cX1_magnitude 81 = .ok (.ifCond .ge 23, 3) := by decide +kernel
theorem dX1_magnitude_84 : decode cX1_magnitude 84 = .ok (.iload 6, 2) := by decide +kernel
theorem dX1_magnitude_86 : decode cX1_magnitude 86 = .ok (.iconst 1, 1) := by decide +kernel
theorem dX1_magnitude_87 : decode cX1_magnitude 87 = .ok (.if_icmp .le 17, 3) := by decide +kernel
theorem dX1_magnitude_90 : decode cX1_magnitude 90 = .ok (.dload 4, 2) := by decide +kernel
theorem dX1_magnitude_92 : decode cX1_magnitude 92 = .ok (.ldc2_w 24, 3) := by decide +kernel
theorem dX1_magnitude_95 : decode cX1_magnitude 95 = .ok (.dmul, 1) := by decide +kernel
theorem dX1_magnitude_96 : decode cX1_magnitude 96 = .ok (.dstore 4, 2) := by decide +kernel
theorem dX1_magnitude_98 : decode cX1_magnitude 98 = .ok (.iinc 6 (-1), 3) := by decide +kernel
theorem dX1_magnitude_101 : decode cX1_magnitude 101 = .ok (.goto (-24), 3) := by decide +kernel
theorem dX1_magnitude_104 : decode cX1_magnitude 104 = .ok (.iload 6, 2) := by decide +kernel
theorem dX1_magnitude_106 : decode cX1_magnitude 106 = .ok (.iconst 1, 1) := by decide +kernel
theorem dX1_magnitude_107 : decode cX1_magnitude 107 = .ok (.isub, 1) := by decide +kernel
theorem dX1_magnitude_108 : decode cX1_magnitude 108 = .ok (.i2l, 1) := by decide +kernel
theorem dX1_magnitude_109 : decode cX1_magnitude 109 = .ok (.iload_n 3, 1) := by decide +kernel
theorem dX1_magnitude_110 : decode cX1_magnitude 110 = .ok (.lshl, 1) := by decide +kernel
theorem dX1_magnitude_111 : decode cX1_magnitude 111 = .ok (.dload 4, 2) := by decide +kernel
theorem dX1_magnitude_113 : decode cX1_magnitude 113 = .ok (.lconst 1, 1) := by decide +kernel
theorem dX1_magnitude_114 : decode cX1_magnitude 114 = .ok (.iload_n 3, 1) := by decide +kernel
theorem dX1_magnitude_115 : decode cX1_magnitude 115 = .ok (.lshl, 1) := by decide +kernel
theorem dX1_magnitude_116 : decode cX1_magnitude 116 = .ok (.l2d, 1) := by decide +kernel
theorem dX1_magnitude_117 : decode cX1_magnitude 117 = .ok (.dmul, 1) := by decide +kernel
theorem dX1_magnitude_118 : decode cX1_magnitude 118 = .ok (.d2l, 1) := by decide +kernel
theorem dX1_magnitude_119 : decode cX1_magnitude 119 = .ok (.ladd, 1) := by decide +kernel
theorem dX1_magnitude_120 : decode cX1_magnitude 120 = .ok (.lreturn, 1) := by decide +kernel
set_option maxRecDepth 20000 in
theorem ggX2_init_X5_init : GoodIn wsX2_init wsX5_init := goodIn_r _ [3, 4, 5, 6, 7, 8, 9, 10, 11, 12, 13, 14, 15, 16, 17, 18, 19, 20, 21, 22, 23, 24, 25, 26, 27, 28, 29, 30, 31, 32, 33, 34, 35, 36, 37, 38, 39, 40, 41, 42, 43] (by decide +kernel) (by decide +kernel)
set_option maxRecDepth 20000 in
theorem gX2_init_X5_init_n3 : GoodIn wsX2_init (wsX5_init) := ggX2_init_X5_init
theorem dX2_init_0 : decode cX2_init 0 = .ok (.aload_n 0, 1) := by decide +kernel
theorem dX2_init_1 : decode cX2_init 1 = .ok (.invokespecial 3, 3) := by decide +kernel
theorem dX2_init_4 : decode cX2_init 4 = .ok (.return_, 1) := by decide +kernel
set_option maxRecDepth 20000 in
theorem ggX2_strike_X5_strike : GoodIn wsX2_strike wsX5_strike := goodIn_r _ [8, 9, 10, 11, 12, 13, 14, 15, 16, 17, 18, 19, 20, 21, 22, 23, 24, 25, 26, 27, 28, 29, 30, 31, 32, 33, 34, 35, 36, 37, 38, 39, 40, 41, 42, 43, 44, 45] (by decide +kernel) (by decide +kernel)
set_option maxRecDepth 20000 in
theorem gX2_strike_X5_strike_s9 : GoodIn wsX2_strike (va_wsSU RX2 9 yX5_strike wsX5_strike) := goodIn_app (goodIn_of _ (by decide +kernel)) ggX2_strike_X5_strike
theorem dX2_strike_0 : decode cX2_strike 0 = .ok (.aload_n 0, 1) := by decide +kernel
theorem dX2_strike_1 : decode cX2_strike 1 = .ok (.iload_n 1, 1) := by decide +kernel
theorem dX2_strike_2 : decode cX2_strike 2 = .ok (.iload_n 2, 1) := by decide +kernel
theorem dX2_strike_3 : decode cX2_strike 3 = .ok (.invokespecial 9, 3) := by decide +kernel
theorem dX2_strike_6 : decode cX2_strike 6 = .ok (.iload_n 2, 1) := by decide +kernel
theorem dX2_strike_7 : decode cX2_strike 7 = .ok (.ifCond .eq 9, 3) := by decide +kernel
theorem dX2_strike_10 : decode cX2_strike 10 = .ok (.aload_n 0, 1) := by decide +kernel
theorem dX2_strike_11 : decode cX2_strike 11 = .ok (.iload_n 1, 1) := by decide +kernel
theorem dX2_strike_12 : decode cX2_strike 12 = .ok (.i2d, 1) := by decide +kernel
theorem dX2_strike_13 : decode cX2_strike 13 = .ok (.putfield 13, 3) := by decide +kernel
theorem dX2_strike_16 : decode cX2_strike 16 = .ok (.return_, 1) := by decide +kernel
set_option maxRecDepth 20000 in
theorem ggX2_give_X5_fail : GoodIn wsX2_give wsX5_fail := goodIn_r _ [11, 12, 14, 15, 16, 17, 18, 19, 20, 21, 22, 23, 24, 25, 26, 27, 28, 29, 30, 31, 32, 33, 34, 35, 36, 37, 38, 39, 40, 41, 42, 43, 44, 45, 46, 47, 48] (by decide +kernel) (by decide +kernel)
set_option maxRecDepth 20000 in
theorem gX2_give_X5_fail_u23X0 : GoodIn wsX2_give (va_wsU RX2 23 RX0 "CallWays2$Instrument" ⟨"CallWays2$Drum", "fail", "(I)D"⟩ yX5_fail wsX5_fail) := goodIn_app (goodIn_of _ (by decide +kernel)) ggX2_give_X5_fail
set_option maxRecDepth 20000 in
theorem gX2_give_X5_fail_u23X2 : GoodIn wsX2_give (va_wsU RX2 23 RX2 "CallWays2$Instrument" ⟨"CallWays2$Drum", "fail", "(I)D"⟩ yX5_fail wsX5_fail) := goodIn_app (goodIn_of _ (by decide +kernel)) ggX2_give_X5_fail
theorem dX2_give_0 : decode cX2_give 0 = .ok (.aload_n 0, 1) := by decide +kernel
theorem dX2_give_1 : decode cX2_give 1 = .ok (.getfield 19, 3) := by decide +kernel
theorem dX2_give_4 : decode cX2_give 4 = .ok (.iconst 1, 1) := by decide +kernel
theorem dX2_give_5 : decode cX2_give 5 = .ok (.iaload, 1) := by decide +kernel
theorem dX2_give_6 : decode cX2_give 6 = .ok (.istore_n 1, 1) := by decide +kernel
theorem dX2_give_7 : decode cX2_give 7 = .ok (.iload_n 1, 1) := by decide +kernel
theorem dX2_give_8 : decode cX2_give 8 = .ok (.ifCond .ne 10, 3) := by decide +kernel
theorem dX2_give_11 : decode cX2_give 11 = .ok (.aload_n 0, 1) := by decide +kernel
theorem dX2_give_12 : decode cX2_give 12 = .ok (.bipush (-4), 2) := by decide +kernel
theorem dX2_give_14 : decode cX2_give 14 = .ok (.invokevirtual 23, 3) := by decide +kernel
theorem dX2_give_17 : decode cX2_give 17 = .ok (.dreturn, 1) := by decide +kernel
theorem dX2_give_18 : decode cX2_give 18 = .ok (.aload_n 0, 1) := by decide +kernel
theorem dX2_give_19 : decode cX2_give 19 = .ok (.getfield 13, 3) := by decide +kernel
theorem dX2_give_22 : decode cX2_give 22 = .ok (.dstore_n 2, 1) := by decide +kernel
theorem dX2_give_23 : decode cX2_give 23 = .ok (.aload_n 0, 1) := by decide +kernel
theorem dX2_give_24 : decode cX2_give 24 = .ok (.aload_n 0, 1) := by decide +kernel
theorem dX2_give_25 : decode cX2_give 25 = .ok (.getfield 13, 3) := by decide +kernel
theorem dX2_give_28 : decode cX2_give 28 = .ok (.sipush 1000, 3) := by decide +kernel
theorem dX2_give_31 : decode cX2_give 31 = .ok (.iload_n 1, 1) := by decide +kernel
theorem dX2_give_32 : decode cX2_give 32 = .ok (.idiv, 1) := by decide +kernel
theorem dX2_give_33 : decode cX2_give 33 = .ok (.i2d, 1) := by decide +kernel
theorem dX2_give_34 : decode cX2_give 34 = .ok (.dmul, 1) := by decide +kernel
theorem dX2_give_35 : decode cX2_give 35 = .ok (.ldc2_w 27, 3) := by decide +kernel
theorem dX2_give_38 : decode cX2_give 38 = .ok (.ddiv, 1) := by decide +kernel
theorem dX2_give_39 : decode cX2_give 39 = .ok (.putfield 13, 3) := by decide +kernel
theorem dX2_give_42 : decode cX2_give 42 = .ok (.dload_n 2, 1) := by decide +kernel
theorem dX2_give_43 : decode cX2_give 43 = .ok (.dreturn, 1) := by decide +kernel
theorem dX3_init_0 : decode cX3_init 0 = .ok (.aload_n 0, 1) := by decide +kernel
theorem dX3_init_1 : decode cX3_init 1 = .ok (.invokespecial 3, 3) := by decide +kernel
theorem dX3_init_4 : decode cX3_init 4 = .ok (.aload_n 0, 1) := by decide +kernel
theorem dX3_init_5 : decode cX3_init 5 = .ok (.iload_n 1, 1) := by decide +kernel
theorem dX3_init_6 : decode cX3_init 6 = .ok (.putfield 9, 3) := by decide +kernel
theorem dX3_init_9 : decode cX3_init 9 = .ok (.aload_n 0, 1) := by decide +kernel
theorem dX3_init_10 : decode cX3_init 10 = .ok (.iload_n 2, 1) := by decide +kernel
theorem dX3_init_11 : decode cX3_init 11 = .ok (.i2d, 1) := by decide +kernel
theorem dX3_init_12 : decode cX3_init 12 = .ok (.putfield 15, 3) := by decide +kernel
theorem dX3_init_15 : decode cX3_init 15 = .ok (.return_, 1) := by decide +kernel
theorem dX3_refuses_0 : decode cX3_refuses 0 = .ok (.aload_n 0, 1) := by decide +kernel
theorem dX3_refuses_1 : decode cX3_refuses 1 = .ok (.getfield 9, 3) := by decide +kernel
theorem dX3_refuses_4 : decode cX3_refuses 4 = .ok (.iconst 5, 1) := by decide +kernel
theorem dX3_refuses_5 : decode cX3_refuses 5 = .ok (.if_icmp .ne 16, 3) := by decide +kernel
theorem dX3_refuses_8 : decode cX3_refuses 8 = .ok (.dload_n 1, 1) := by decide +kernel
theorem dX3_refuses_9 : decode cX3_refuses 9 = .ok (.aload_n 0, 1) := by decide +kernel
theorem dX3_refuses_10 : decode cX3_refuses 10 = .ok (.getfield 15, 3) := by decide +kernel
theorem dX3_refuses_13 : decode cX3_refuses 13 = .ok (.dcmp .l, 1) := by decide +kernel
theorem dX3_refuses_14 : decode cX3_refuses 14 = .ok (.ifCond .ne 7, 3) := by decide +kernel
theorem dX3_refuses_17 : decode cX3_refuses 17 = .ok (.iconst 1, 1) := by decide +kernel
theorem dX3_refuses_18 : decode cX3_refuses 18 = .ok (.goto 4, 3) := by decide +kernel
theorem dX3_refuses_21 : decode cX3_refuses 21 = .ok (.iconst 0, 1) := by decide +kernel
theorem dX3_refuses_22 : decode cX3_refuses 22 = .ok (.ireturn, 1) := by decide +kernel
theorem dX3_pass_0 : decode cX3_pass 0 = .ok (.aload_n 0, 1) := by decide +kernel
theorem dX3_pass_1 : decode cX3_pass 1 = .ok (.getfield 9, 3) := by decide +kernel
theorem dX3_pass_4 : decode cX3_pass 4 = .ok (.tableswitch 82 0 3 #[32, 39, 46, 64], 32) := by decide +kernel
theorem dX3_pass_36 : decode cX3_pass 36 = .ok (.dload_n 1, 1) := by decide +kernel
theorem dX3_pass_37 : decode cX3_pass 37 = .ok (.aload_n 0, 1) := by decide +kernel
theorem dX3_pass_38 : decode cX3_pass 38 = .ok (.getfield 15, 3) := by decide +kernel
theorem dX3_pass_41 : decode cX3_pass 41 = .ok (.dadd, 1) := by decide +kernel
theorem dX3_pass_42 : decode cX3_pass 42 = .ok (.dreturn, 1) := by decide +kernel
theorem dX3_pass_43 : decode cX3_pass 43 = .ok (.dload_n 1, 1) := by decide +kernel
theorem dX3_pass_44 : decode cX3_pass 44 = .ok (.aload_n 0, 1) := by decide +kernel
theorem dX3_pass_45 : decode cX3_pass 45 = .ok (.getfield 15, 3) := by decide +kernel
theorem dX3_pass_48 : decode cX3_pass 48 = .ok (.dmul, 1) := by decide +kernel
theorem dX3_pass_49 : decode cX3_pass 49 = .ok (.dreturn, 1) := by decide +kernel
theorem dX3_pass_50 : decode cX3_pass 50 = .ok (.dload_n 1, 1) := by decide +kernel
theorem dX3_pass_51 : decode cX3_pass 51 = .ok (.aload_n 0, 1) := by decide +kernel
theorem dX3_pass_52 : decode cX3_pass 52 = .ok (.getfield 15, 3) := by decide +kernel
theorem dX3_pass_55 : decode cX3_pass 55 = .ok (.dcmp .g, 1) := by decide +kernel
theorem dX3_pass_56 : decode cX3_pass 56 = .ok (.ifCond .gt 7, 3) := by decide +kernel
theorem dX3_pass_59 : decode cX3_pass 59 = .ok (.dload_n 1, 1) := by decide +kernel
theorem dX3_pass_60 : decode cX3_pass 60 = .ok (.goto 7, 3) := by decide +kernel
theorem dX3_pass_63 : decode cX3_pass 63 = .ok (.aload_n 0, 1) := by decide +kernel
theorem dX3_pass_64 : decode cX3_pass 64 = .ok (.getfield 15, 3) := by decide +kernel
theorem dX3_pass_67 : decode cX3_pass 67 = .ok (.dreturn, 1) := by decide +kernel
theorem dX3_pass_68 : decode cX3_pass 68 = .ok (.dload_n 1, 1) := by decide +kernel
theorem dX3_pass_69 : decode cX3_pass 69 = .ok (.aload_n 0, 1) := by decide +kernel
theorem dX3_pass_70 : decode cX3_pass 70 = .ok (.getfield 15, 3) := by decide +kernel
theorem dX3_pass_73 : decode cX3_pass 73 = .ok (.dcmp .l, 1) := by decide +kernel
theorem dX3_pass_74 : decode cX3_pass 74 = .ok (.ifCond .le 7, 3) := by decide +kernel
theorem dX3_pass_77 : decode cX3_pass 77 = .ok (.dload_n 1, 1) := by decide +kernel
theorem dX3_pass_78 : decode cX3_pass 78 = .ok (.goto 7, 3) := by decide +kernel
theorem dX3_pass_81 : decode cX3_pass 81 = .ok (.aload_n 0, 1) := by decide +kernel
theorem dX3_pass_82 : decode cX3_pass 82 = .ok (.getfield 15, 3) := by decide +kernel
theorem dX3_pass_85 : decode cX3_pass 85 = .ok (.dreturn, 1) := by decide +kernel
theorem dX3_pass_86 : decode cX3_pass 86 = .ok (.dload_n 1, 1) := by decide +kernel
theorem dX3_pass_87 : decode cX3_pass 87 = .ok (.dreturn, 1) := by decide +kernel
set_option maxRecDepth 20000 in
theorem ggX4_init_X8_init : GoodIn wsX4_init wsX8_init := goodIn_r _ [3, 4, 5, 6, 7, 8, 9, 10, 11, 12, 13, 14, 15, 16, 17, 18, 19, 20, 21, 22, 23, 24, 25, 26, 27, 28, 29, 30, 31, 32, 33, 34, 35, 36, 37, 38, 39, 40, 41, 42, 43, 44, 45, 46] (by decide +kernel) (by decide +kernel)
set_option maxRecDepth 20000 in
theorem gX4_init_X8_init_n1 : GoodIn wsX4_init (wsX8_init) := ggX4_init_X8_init
theorem dX4_init_0 : decode cX4_init 0 = .ok (.aload_n 0, 1) := by decide +kernel
theorem dX4_init_1 : decode cX4_init 1 = .ok (.invokespecial 1, 3) := by decide +kernel
theorem dX4_init_4 : decode cX4_init 4 = .ok (.return_, 1) := by decide +kernel
set_option maxRecDepth 20000 in
theorem ggX4_give_X8_give : GoodIn wsX4_give wsX8_give := goodIn_r _ [9, 10, 11, 12, 13, 14, 15, 16, 17, 18, 19, 20, 21, 22, 23, 24, 25, 26, 27, 28, 29, 30, 31, 32, 33, 34, 35, 36, 37, 38, 39, 40, 41, 42, 43, 44, 45, 46, 47, 48, 49, 50] (by decide +kernel) (by decide +kernel)
set_option maxRecDepth 20000 in
theorem gX4_give_X8_give_s9 : GoodIn wsX4_give (va_wsSU RX4 9 yX8_give wsX8_give) := goodIn_app (goodIn_of _ (by decide +kernel)) ggX4_give_X8_give
theorem dX4_give_0 : decode cX4_give 0 = .ok (.ldc2_w 7, 3) := by decide +kernel
theorem dX4_give_3 : decode cX4_give 3 = .ok (.aload_n 0, 1) := by decide +kernel
theorem dX4_give_4 : decode cX4_give 4 = .ok (.invokespecial 9, 3) := by decide +kernel
theorem dX4_give_7 : decode cX4_give 7 = .ok (.dmul, 1) := by decide +kernel
theorem dX4_give_8 : decode cX4_give 8 = .ok (.aload_n 0, 1) := by decide +kernel
theorem dX4_give_9 : decode cX4_give 9 = .ok (.getfield 13, 3) := by decide +kernel
theorem dX4_give_12 : decode cX4_give 12 = .ok (.iconst 0, 1) := by decide +kernel
theorem dX4_give_13 : decode cX4_give 13 = .ok (.iaload, 1) := by decide +kernel
theorem dX4_give_14 : decode cX4_give 14 = .ok (.i2d, 1) := by decide +kernel
theorem dX4_give_15 : decode cX4_give 15 = .ok (.dadd, 1) := by decide +kernel
theorem dX4_give_16 : decode cX4_give 16 = .ok (.dreturn, 1) := by decide +kernel
theorem dX5_init_0 : decode cX5_init 0 = .ok (.aload_n 0, 1) := by decide +kernel
theorem dX5_init_1 : decode cX5_init 1 = .ok (.invokespecial 3, 3) := by decide +kernel
theorem dX5_init_4 : decode cX5_init 4 = .ok (.aload_n 0, 1) := by decide +kernel
theorem dX5_init_5 : decode cX5_init 5 = .ok (.iconst 4, 1) := by decide +kernel
theorem dX5_init_6 : decode cX5_init 6 = .ok (.newarray .int, 2) := by decide +kernel
theorem dX5_init_8 : decode cX5_init 8 = .ok (.putfield 9, 3) := by decide +kernel
theorem dX5_init_11 : decode cX5_init 11 = .ok (.return_, 1) := by decide +kernel
theorem dX5_strike_0 : decode cX5_strike 0 = .ok (.aload_n 0, 1) := by decide +kernel
theorem dX5_strike_1 : decode cX5_strike 1 = .ok (.iload_n 1, 1) := by decide +kernel
theorem dX5_strike_2 : decode cX5_strike 2 = .ok (.putfield 15, 3) := by decide +kernel
theorem dX5_strike_5 : decode cX5_strike 5 = .ok (.aload_n 0, 1) := by decide +kernel
theorem dX5_strike_6 : decode cX5_strike 6 = .ok (.iload_n 2, 1) := by decide +kernel
theorem dX5_strike_7 : decode cX5_strike 7 = .ok (.putfield 19, 3) := by decide +kernel
theorem dX5_strike_10 : decode cX5_strike 10 = .ok (.return_, 1) := by decide +kernel
set_option maxRecDepth 20000 in
theorem ggX5_ask_X0_give : GoodIn wsX5_ask wsX0_give := goodIn_r _ [8, 9, 10, 11, 12, 13, 14, 15, 16, 17, 18, 19, 1, 20, 21, 22, 23, 24, 25, 26, 27, 28, 29, 30, 31, 32, 33, 34, 79, 80, 81, 82, 83, 84, 85, 86, 87, 88, 89, 90, 91, 92, 93, 94, 95, 96, 97, 98, 99, 100, 101, 102, 103, 104, 105, 106, 107, 108, 109, 110, 111, 112, 113] (by decide +kernel) (by decide +kernel)
set_option maxRecDepth 20000 in
theorem gX5_ask_X0_give_u26X0 : GoodIn wsX5_ask (va_wsU RX5 26 RX0 "CallWays2$Instrument" ⟨"CallWays2$Instrument", "give", "()D"⟩ yX0_give wsX0_give) := goodIn_app (goodIn_of _ (by decide +kernel)) ggX5_ask_X0_give
set_option maxRecDepth 20000 in
theorem ggX5_ask_X2_give : GoodIn wsX5_ask wsX2_give := goodIn_r _ [25, 26, 27, 28, 29, 30, 31, 32, 33, 17, 18, 19, 1, 34, 79, 80, 81, 82, 83, 84, 85, 86, 87, 88, 89, 90, 91, 92, 93, 94, 95, 96, 97, 98, 99, 100, 101, 102, 103, 104, 105, 106, 107, 108, 109, 110, 111, 112, 113] (by decide +kernel) (by decide +kernel)
set_option maxRecDepth 20000 in
theorem gX5_ask_X2_give_u26X2 : GoodIn wsX5_ask (va_wsU RX5 26 RX2 "CallWays2$Instrument" ⟨"CallWays2$Instrument", "give", "()D"⟩ yX2_give wsX2_give) := goodIn_app (goodIn_of _ (by decide +kernel)) ggX5_ask_X2_give
set_option maxRecDepth 20000 in
theorem ggX5_ask_X4_give : GoodIn wsX5_ask wsX4_give := goodIn_r _ [39, 40, 41, 42, 43, 44, 45, 46, 47, 48, 49, 50, 51, 52, 53, 54, 79, 80, 81, 82, 83, 84, 85, 86, 87, 88, 89, 90, 91, 92, 93, 94, 95, 96, 97, 98, 99, 100, 101, 102, 103, 104, 105, 106, 107, 108, 109, 110, 111, 112, 113] (by decide +kernel) (by decide +kernel)
set_option maxRecDepth 20000 in
theorem gX5_ask_X4_give_u26X4 : GoodIn wsX5_ask (va_wsU RX5 26 RX4 "CallWays2$Instrument" ⟨"CallWays2$Instrument", "give", "()D"⟩ yX4_give wsX4_give) := goodIn_app (goodIn_of _ (by decide +kernel)) ggX5_ask_X4_give
set_option maxRecDepth 20000 in
theorem ggX5_ask_X6_give : GoodIn wsX5_ask wsX6_give := goodIn_r _ [58, 59, 60, 61, 62, 63, 64, 65, 66, 67, 68, 69, 70, 71, 17, 18, 19, 1, 72, 73, 74, 75, 76, 77, 79, 80, 81, 82, 83, 84, 85, 86, 87, 88, 89, 90, 91, 92, 93, 94, 95, 96, 97, 98, 99, 100, 101, 102, 103, 104, 105, 106, 107, 108, 109, 110, 111, 112, 113, 114, 115] (by decide +kernel) (by decide +kernel)
set_option maxRecDepth 20000 in
theorem gX5_ask_X6_give_u26X6 : GoodIn wsX5_ask (va_wsU RX5 26 RX6 "CallWays2$Instrument" ⟨"CallWays2$Instrument", "give", "()D"⟩ yX6_give wsX6_give) := goodIn_app (goodIn_of _ (by decide +kernel)) ggX5_ask_X6_give
set_option maxRecDepth 20000 in
theorem ggX5_ask_X8_give : GoodIn wsX5_ask wsX8_give := goodIn_r _ [48, 49, 50, 51, 52, 53, 54, 79, 80, 81, 82, 83, 84, 85, 86, 87, 88, 89, 90, 91, 92, 93, 94, 95, 96, 97, 98, 99, 100, 101, 102, 103, 104, 105, 106, 107, 108, 109, 110, 111, 112, 113] (by decide +kernel) (by decide +kernel)
set_option maxRecDepth 20000 in
theorem gX5_ask_X8_give_u26X8 : GoodIn wsX5_ask (va_wsU RX5 26 RX8 "CallWays2$Instrument" ⟨"CallWays2$Instrument", "give", "()D"⟩ yX8_give wsX8_give) := goodIn_app (goodIn_of _ (by decide +kernel)) ggX5_ask_X8_give
theorem dX5_ask_0 : decode cX5_ask 0 = .ok (.aload_n 0, 1) := by decide +kernel
theorem dX5_ask_1 : decode cX5_ask 1 = .ok (.iconst 0, 1) := by decide +kernel
theorem dX5_ask_2 : decode cX5_ask 2 = .ok (.putfield 23, 3) := by decide +kernel
theorem dX5_ask_5 : decode cX5_ask 5 = .ok (.aload_n 0, 1) := by decide +kernel
theorem dX5_ask_6 : decode cX5_ask 6 = .ok (.invokevirtual 26, 3) := by decide +kernel
theorem dX5_ask_9 : decode cX5_ask 9 = .ok (.dstore_n 1, 1) := by decide +kernel
theorem dX5_ask_10 : decode cX5_ask 10 = .ok (.aload_n 0, 1) := by decide +kernel
theorem dX5_ask_11 : decode cX5_ask 11 = .ok (.dup, 1) := by decide +kernel
theorem dX5_ask_12 : decode cX5_ask 12 = .ok (.getfield 30, 3) := by decide +kernel
theorem dX5_ask_15 : decode cX5_ask 15 = .ok (.iconst 1, 1) := by decide +kernel
theorem dX5_ask_16 : decode cX5_ask 16 = .ok (.iadd, 1) := by decide +kernel
theorem dX5_ask_17 : decode cX5_ask 17 = .ok (.putfield 30, 3) := by decide +kernel
theorem dX5_ask_20 : decode cX5_ask 20 = .ok (.dload_n 1, 1) := by decide +kernel
theorem dX5_ask_21 : decode cX5_ask 21 = .ok (.dreturn, 1) := by decide +kernel
theorem dX5_fail_0 : decode cX5_fail 0 = .ok (.aload_n 0, 1) := by decide +kernel
theorem dX5_fail_1 : decode cX5_fail 1 = .ok (.iload_n 1, 1) := by decide +kernel
theorem dX5_fail_2 : decode cX5_fail 2 = .ok (.putfield 23, 3) := by decide +kernel
theorem dX5_fail_5 : decode cX5_fail 5 = .ok (.dconst 0, 1) := by decide +kernel
theorem dX5_fail_6 : decode cX5_fail 6 = .ok (.dreturn, 1) := by decide +kernel
theorem dX5_goBack_0 : decode cX5_goBack 0 = .ok (.aload_n 0, 1) := by decide +kernel
theorem dX5_goBack_1 : decode cX5_goBack 1 = .ok (.iload_n 1, 1) := by decide +kernel
theorem dX5_goBack_2 : decode cX5_goBack 2 = .ok (.putfield 30, 3) := by decide +kernel
theorem dX5_goBack_5 : decode cX5_goBack 5 = .ok (.aload_n 0, 1) := by decide +kernel
theorem dX5_goBack_6 : decode cX5_goBack 6 = .ok (.dload_n 2, 1) := by decide +kernel
theorem dX5_goBack_7 : decode cX5_goBack 7 = .ok (.putfield 33, 3) := by decide +kernel
theorem dX5_goBack_10 : decode cX5_goBack 10 = .ok (.return_, 1) := by decide +kernel
set_option maxRecDepth 20000 in
theorem ggX6_init_X5_init : GoodIn wsX6_init wsX5_init := goodIn_r _ [3, 4, 5, 6, 7, 8, 9, 10, 11, 12, 13, 14, 15, 16, 17, 18, 19, 20, 21, 22, 23, 24, 25, 26, 27, 28, 29, 30, 31, 32, 33, 34, 35, 36, 37, 38, 39, 40, 41, 42, 43] (by decide +kernel) (by decide +kernel)
set_option maxRecDepth 20000 in
theorem gX6_init_X5_init_n3 : GoodIn wsX6_init (wsX5_init) := ggX6_init_X5_init
theorem dX6_init_0 : decode cX6_init 0 = .ok (.aload_n 0, 1) := by decide +kernel
theorem dX6_init_1 : decode cX6_init 1 = .ok (.invokespecial 3, 3) := by decide +kernel
theorem dX6_init_4 : decode cX6_init 4 = .ok (.return_, 1) := by decide +kernel
set_option maxRecDepth 20000 in
theorem ggX6_give_X5_fail : GoodIn wsX6_give wsX5_fail := goodIn_r _ [16, 17, 24, 25, 26, 27, 28, 29, 30, 31, 32, 33, 34, 35, 36, 37, 38, 39, 40, 41, 42, 43, 44, 45, 46, 47, 48, 49, 50, 51, 52, 53, 54, 55, 56, 57, 58] (by decide +kernel) (by decide +kernel)
set_option maxRecDepth 20000 in
theorem gX6_give_X5_fail_u19X6 : GoodIn wsX6_give (va_wsU RX6 19 RX6 "CallWays2$Instrument" ⟨"CallWays2$Reader", "fail", "(I)D"⟩ yX5_fail wsX5_fail) := goodIn_app (goodIn_of _ (by decide +kernel)) ggX6_give_X5_fail
set_option maxRecDepth 20000 in
theorem ggX6_give_X7_has : GoodIn wsX6_give wsX7_has := goodIn_r _ [22, 23, 59, 60] (by decide +kernel) (by decide +kernel)
set_option maxRecDepth 20000 in
theorem gX6_give_X7_has : GoodIn wsX6_give (wsV RX6 36 RX7 yX7_has wsX7_has) := goodIn_app (goodIn_of _ (by decide +kernel)) ggX6_give_X7_has
theorem dX6_give_0 : decode cX6_give 0 = .ok (.aload_n 0, 1) := by decide +kernel
theorem dX6_give_1 : decode cX6_give 1 = .ok (.getfield 9, 3) := by decide +kernel
theorem dX6_give_4 : decode cX6_give 4 = .ok (.ifCond .ne 20, 3) := by decide +kernel
theorem dX6_give_7 : decode cX6_give 7 = .ok (.aload_n 0, 1) := by decide +kernel
theorem dX6_give_8 : decode cX6_give 8 = .ok (.getfield 15, 3) := by decide +kernel
theorem dX6_give_11 : decode cX6_give 11 = .ok (.bipush 8, 2) := by decide +kernel
theorem dX6_give_13 : decode cX6_give 13 = .ok (.irem, 1) := by decide +kernel
theorem dX6_give_14 : decode cX6_give 14 = .ok (.ifCond .ge 10, 3) := by decide +kernel
theorem dX6_give_17 : decode cX6_give 17 = .ok (.aload_n 0, 1) := by decide +kernel
theorem dX6_give_18 : decode cX6_give 18 = .ok (.bipush (-8), 2) := by decide +kernel
theorem dX6_give_20 : decode cX6_give 20 = .ok (.invokevirtual 19, 3) := by decide +kernel
theorem dX6_give_23 : decode cX6_give 23 = .ok (.dreturn, 1) := by decide +kernel
theorem dX6_give_24 : decode cX6_give 24 = .ok (.aload_n 0, 1) := by decide +kernel
theorem dX6_give_25 : decode cX6_give 25 = .ok (.getfield 23, 3) := by decide +kernel
theorem dX6_give_28 : decode cX6_give 28 = .ok (.ifnonnull 10, 3) := by decide +kernel
theorem dX6_give_31 : decode cX6_give 31 = .ok (.aload_n 0, 1) := by decide +kernel
theorem dX6_give_32 : decode cX6_give 32 = .ok (.bipush (-5), 2) := by decide +kernel
theorem dX6_give_34 : decode cX6_give 34 = .ok (.invokevirtual 19, 3) := by decide +kernel
theorem dX6_give_37 : decode cX6_give 37 = .ok (.dreturn, 1) := by decide +kernel
theorem dX6_give_38 : decode cX6_give 38 = .ok (.aload_n 0, 1) := by decide +kernel
theorem dX6_give_39 : decode cX6_give 39 = .ok (.getfield 23, 3) := by decide +kernel
theorem dX6_give_42 : decode cX6_give 42 = .ok (.getfield 27, 3) := by decide +kernel
theorem dX6_give_45 : decode cX6_give 45 = .ok (.iconst 1, 1) := by decide +kernel
theorem dX6_give_46 : decode cX6_give 46 = .ok (.if_icmp .eq 10, 3) := by decide +kernel
theorem dX6_give_49 : decode cX6_give 49 = .ok (.aload_n 0, 1) := by decide +kernel
theorem dX6_give_50 : decode cX6_give 50 = .ok (.bipush (-6), 2) := by decide +kernel
theorem dX6_give_52 : decode cX6_give 52 = .ok (.invokevirtual 19, 3) := by decide +kernel
theorem dX6_give_55 : decode cX6_give 55 = .ok (.dreturn, 1) := by decide +kernel
theorem dX6_give_56 : decode cX6_give 56 = .ok (.aload_n 0, 1) := by decide +kernel
theorem dX6_give_57 : decode cX6_give 57 = .ok (.getfield 15, 3) := by decide +kernel
theorem dX6_give_60 : decode cX6_give 60 = .ok (.aload_n 0, 1) := by decide +kernel
theorem dX6_give_61 : decode cX6_give 61 = .ok (.getfield 32, 3) := by decide +kernel
theorem dX6_give_64 : decode cX6_give 64 = .ok (.iconst 0, 1) := by decide +kernel
theorem dX6_give_65 : decode cX6_give 65 = .ok (.iaload, 1) := by decide +kernel
theorem dX6_give_66 : decode cX6_give 66 = .ok (.iadd, 1) := by decide +kernel
theorem dX6_give_67 : decode cX6_give 67 = .ok (.istore_n 1, 1) := by decide +kernel
theorem dX6_give_68 : decode cX6_give 68 = .ok (.aload_n 0, 1) := by decide +kernel
theorem dX6_give_69 : decode cX6_give 69 = .ok (.getfield 23, 3) := by decide +kernel
theorem dX6_give_72 : decode cX6_give 72 = .ok (.iload_n 1, 1) := by decide +kernel
theorem dX6_give_73 : decode cX6_give 73 = .ok (.invokevirtual 36, 3) := by decide +kernel
theorem dX6_give_76 : decode cX6_give 76 = .ok (.ifCond .eq 15, 3) := by decide +kernel
theorem dX6_give_79 : decode cX6_give 79 = .ok (.aload_n 0, 1) := by decide +kernel
theorem dX6_give_80 : decode cX6_give 80 = .ok (.getfield 23, 3) := by decide +kernel
theorem dX6_give_83 : decode cX6_give 83 = .ok (.getfield 40, 3) := by decide +kernel
theorem dX6_give_86 : decode cX6_give 86 = .ok (.iload_n 1, 1) := by decide +kernel
theorem dX6_give_87 : decode cX6_give 87 = .ok (.daload, 1) := by decide +kernel
theorem dX6_give_88 : decode cX6_give 88 = .ok (.goto 9, 3) := by decide +kernel
theorem dX6_give_91 : decode cX6_give 91 = .ok (.aload_n 0, 1) := by decide +kernel
theorem dX6_give_92 : decode cX6_give 92 = .ok (.bipush (-7), 2) := by decide +kernel
theorem dX6_give_94 : decode cX6_give 94 = .ok (.invokevirtual 19, 3) := by decide +kernel
theorem dX6_give_97 : decode cX6_give 97 = .ok (.dreturn, 1) := by decide +kernel
theorem dX7_init_0 : decode cX7_init 0 = .ok (.aload_n 0, 1) := by decide +kernel
theorem dX7_init_1 : decode cX7_init 1 = .ok (.invokespecial 3, 3) := by decide +kernel
theorem dX7_init_4 : decode cX7_init 4 = .ok (.aload_n 0, 1) := by decide +kernel
theorem dX7_init_5 : decode cX7_init 5 = .ok (.iload_n 1, 1) := by decide +kernel
theorem dX7_init_6 : decode cX7_init 6 = .ok (.putfield 9, 3) := by decide +kernel
theorem dX7_init_9 : decode cX7_init 9 = .ok (.aload_n 0, 1) := by decide +kernel
theorem dX7_init_10 : decode cX7_init 10 = .ok (.aload_n 2, 1) := by decide +kernel
theorem dX7_init_11 : decode cX7_init 11 = .ok (.putfield 15, 3) := by decide +kernel
theorem dX7_init_14 : decode cX7_init 14 = .ok (.return_, 1) := by decide +kernel
set_option maxRecDepth 20000 in
theorem ggX7_twin_X7_init : GoodIn wsX7_twin wsX7_init := goodIn_r _ [14, 15, 16, 17, 4, 5, 18, 19] (by decide +kernel) (by decide +kernel)
set_option maxRecDepth 20000 in
theorem gX7_twin_X7_init : GoodIn wsX7_twin (wsX7_init) := ggX7_twin_X7_init
theorem dX7_twin_0 : decode cX7_twin 0 = .ok (.new 10, 3) := by decide +kernel
theorem dX7_twin_3 : decode cX7_twin 3 = .ok (.dup, 1) := by decide +kernel
theorem dX7_twin_4 : decode cX7_twin 4 = .ok (.aload_n 0, 1) := by decide +kernel
theorem dX7_twin_5 : decode cX7_twin 5 = .ok (.getfield 9, 3) := by decide +kernel
theorem dX7_twin_8 : decode cX7_twin 8 = .ok (.aload_n 0, 1) := by decide +kernel
theorem dX7_twin_9 : decode cX7_twin 9 = .ok (.getfield 15, 3) := by decide +kernel
theorem dX7_twin_12 : decode cX7_twin 12 = .ok (.invokevirtual 19, 3) := by decide +kernel
theorem dX7_twin_15 : decode cX7_twin 15 = .ok (.checkcast 20, 3) := by decide +kernel
theorem dX7_twin_18 : decode cX7_twin 18 = .ok (.invokespecial 24, 3) := by decide +kernel
theorem dX7_twin_21 : decode cX7_twin 21 = .ok (.areturn, 1) := by decide +kernel
theorem dX7_has_0 : decode cX7_has 0 = .ok (.iload_n 1, 1) := by decide +kernel
theorem dX7_has_1 : decode cX7_has 1 = .ok (.ifCond .lt 16, 3) := by decide +kernel
theorem dX7_has_4 : decode cX7_has 4 = .ok (.iload_n 1, 1) := by decide +kernel
theorem dX7_has_5 : decode cX7_has 5 = .ok (.aload_n 0, 1) := by decide +kernel
theorem dX7_has_6 : decode cX7_has 6 = .ok (.getfield 15, 3) := by decide +kernel
theorem dX7_has_9 : decode cX7_has 9 = .ok (.arraylength, 1) := by decide +kernel
theorem dX7_has_10 : decode cX7_has 10 = .ok (.if_icmp .ge 7, 3) := by decide +kernel
theorem dX7_has_13 : decode cX7_has 13 = .ok (.iconst 1, 1) := by decide +kernel
theorem dX7_has_14 : decode cX7_has 14 = .ok (.goto 4, 3) := by decide +kernel
theorem dX7_has_17 : decode cX7_has 17 = .ok (.iconst 0, 1) := by decide +kernel
theorem dX7_has_18 : decode cX7_has 18 = .ok (.ireturn, 1) := by decide +kernel
theorem dX7_spans_0 : decode cX7_spans 0 = .ok (.iload_n 1, 1) := by decide +kernel
theorem dX7_spans_1 : decode cX7_spans 1 = .ok (.ifCond .lt 31, 3) := by decide +kernel
theorem dX7_spans_4 : decode cX7_spans 4 = .ok (.iload_n 2, 1) := by decide +kernel
theorem dX7_spans_5 : decode cX7_spans 5 = .ok (.ifCond .lt 27, 3) := by decide +kernel
theorem dX7_spans_8 : decode cX7_spans 8 = .ok (.iload_n 2, 1) := by decide +kernel
theorem dX7_spans_9 : decode cX7_spans 9 = .ok (.aload_n 0, 1) := by decide +kernel
theorem dX7_spans_10 : decode cX7_spans 10 = .ok (.getfield 15, 3) := by decide +kernel
theorem dX7_spans_13 : decode cX7_spans 13 = .ok (.arraylength, 1) := by decide +kernel
theorem dX7_spans_14 : decode cX7_spans 14 = .ok (.if_icmp .gt 18, 3) := by decide +kernel
theorem dX7_spans_17 : decode cX7_spans 17 = .ok (.iload_n 1, 1) := by decide +kernel
theorem dX7_spans_18 : decode cX7_spans 18 = .ok (.aload_n 0, 1) := by decide +kernel
theorem dX7_spans_19 : decode cX7_spans 19 = .ok (.getfield 15, 3) := by decide +kernel
theorem dX7_spans_22 : decode cX7_spans 22 = .ok (.arraylength, 1) := by decide +kernel
theorem dX7_spans_23 : decode cX7_spans 23 = .ok (.iload_n 2, 1) := by decide +kernel
theorem dX7_spans_24 : decode cX7_spans 24 = .ok (.isub, 1) := by decide +kernel
theorem dX7_spans_25 : decode cX7_spans 25 = .ok (.if_icmp .gt 7, 3) := by decide +kernel
theorem dX7_spans_28 : decode cX7_spans 28 = .ok (.iconst 1, 1) := by decide +kernel
theorem dX7_spans_29 : decode cX7_spans 29 = .ok (.goto 4, 3) := by decide +kernel
theorem dX7_spans_32 : decode cX7_spans 32 = .ok (.iconst 0, 1) := by decide +kernel
theorem dX7_spans_33 : decode cX7_spans 33 = .ok (.ireturn, 1) := by decide +kernel
set_option maxRecDepth 20000 in
theorem ggX7_set_X7_turned : GoodIn wsX7_set wsX7_turned := goodIn_r _ [6, 7, 8, 9] (by decide +kernel) (by decide +kernel)
set_option maxRecDepth 20000 in
theorem gX7_set_X7_turned : GoodIn wsX7_set (wsV RX7 27 RX7 yX7_turned wsX7_turned) := goodIn_app (goodIn_of _ (by decide +kernel)) ggX7_set_X7_turned
theorem dX7_set_0 : decode cX7_set 0 = .ok (.aload_n 0, 1) := by decide +kernel
theorem dX7_set_1 : decode cX7_set 1 = .ok (.getfield 15, 3) := by decide +kernel
theorem dX7_set_4 : decode cX7_set 4 = .ok (.iload_n 1, 1) := by decide +kernel
theorem dX7_set_5 : decode cX7_set 5 = .ok (.aload_n 0, 1) := by decide +kernel
theorem dX7_set_6 : decode cX7_set 6 = .ok (.dload_n 2, 1) := by decide +kernel
theorem dX7_set_7 : decode cX7_set 7 = .ok (.invokevirtual 27, 3) := by decide +kernel
theorem dX7_set_10 : decode cX7_set 10 = .ok (.dastore, 1) := by decide +kernel
theorem dX7_set_11 : decode cX7_set 11 = .ok (.return_, 1) := by decide +kernel
theorem dX7_turned_0 : decode cX7_turned 0 = .ok (.aload_n 0, 1) := by decide +kernel
theorem dX7_turned_1 : decode cX7_turned 1 = .ok (.getfield 9, 3) := by decide +kernel
theorem dX7_turned_4 : decode cX7_turned 4 = .ok (.tableswitch 41 0 2 #[28, 33, 37], 28) := by decide +kernel
theorem dX7_turned_32 : decode cX7_turned 32 = .ok (.dload_n 1, 1) := by decide +kernel
theorem dX7_turned_33 : decode cX7_turned 33 = .ok (.d2i, 1) := by decide +kernel
theorem dX7_turned_34 : decode cX7_turned 34 = .ok (.i2s, 1) := by decide +kernel
theorem dX7_turned_35 : decode cX7_turned 35 = .ok (.i2d, 1) := by decide +kernel
theorem dX7_turned_36 : decode cX7_turned 36 = .ok (.dreturn, 1) := by decide +kernel
theorem dX7_turned_37 : decode cX7_turned 37 = .ok (.dload_n 1, 1) := by decide +kernel
theorem dX7_turned_38 : decode cX7_turned 38 = .ok (.d2i, 1) := by decide +kernel
theorem dX7_turned_39 : decode cX7_turned 39 = .ok (.i2d, 1) := by decide +kernel
theorem dX7_turned_40 : decode cX7_turned 40 = .ok (.dreturn, 1) := by decide +kernel
theorem dX7_turned_41 : decode cX7_turned 41 = .ok (.dload_n 1, 1) := by decide +kernel
theorem dX7_turned_42 : decode cX7_turned 42 = .ok (.d2f, 1) := by decide +kernel
theorem dX7_turned_43 : decode cX7_turned 43 = .ok (.f2d, 1) := by decide +kernel
theorem dX7_turned_44 : decode cX7_turned 44 = .ok (.dreturn, 1) := by decide +kernel
theorem dX7_turned_45 : decode cX7_turned 45 = .ok (.dload_n 1, 1) := by decide +kernel
theorem dX7_turned_46 : decode cX7_turned 46 = .ok (.dreturn, 1) := by decide +kernel
set_option maxRecDepth 20000 in
theorem ggX7_bits_X1_ofFloat : GoodIn wsX7_bits wsX1_ofFloat := goodIn_r _ [6, 7, 8, 9, 5, 10, 11, 12, 13, 14, 15] (by decide +kernel) (by decide +kernel)
set_option maxRecDepth 20000 in
theorem gX7_bits_X1_ofFloat : GoodIn wsX7_bits (va_wsS RX7 31 yX1_ofFloat wsX1_ofFloat) := goodIn_app (goodIn_of _ (by decide +kernel)) ggX7_bits_X1_ofFloat
set_option maxRecDepth 20000 in
theorem ggX7_bits_X1_ofDouble : GoodIn wsX7_bits wsX1_ofDouble := goodIn_r _ [18, 19, 8, 9, 5, 10, 11, 12, 13, 14, 15] (by decide +kernel) (by decide +kernel)
set_option maxRecDepth 20000 in
theorem gX7_bits_X1_ofDouble : GoodIn wsX7_bits (va_wsS RX7 37 yX1_ofDouble wsX1_ofDouble) := goodIn_app (goodIn_of _ (by decide +kernel)) ggX7_bits_X1_ofDouble
theorem dX7_bits_0 : decode cX7_bits 0 = .ok (.aload_n 0, 1) := by decide +kernel
theorem dX7_bits_1 : decode cX7_bits 1 = .ok (.getfield 9, 3) := by decide +kernel
theorem dX7_bits_4 : decode cX7_bits 4 = .ok (.lookupswitch 49 #[(2, 28), (3, 39)], 28) := by decide +kernel
theorem dX7_bits_32 : decode cX7_bits 32 = .ok (.aload_n 0, 1) := by decide +kernel
theorem dX7_bits_33 : decode cX7_bits 33 = .ok (.getfield 15, 3) := by decide +kernel
theorem dX7_bits_36 : decode cX7_bits 36 = .ok (.iload_n 1, 1) := by decide +kernel
theorem dX7_bits_37 : decode cX7_bits 37 = .ok (.daload, 1) := by decide +kernel
theorem dX7_bits_38 : decode cX7_bits 38 = .ok (.invokestatic 31, 3) := by decide +kernel
theorem dX7_bits_41 : decode cX7_bits 41 = .ok (.i2l, 1) := by decide +kernel
theorem dX7_bits_42 : decode cX7_bits 42 = .ok (.lreturn, 1) := by decide +kernel
theorem dX7_bits_43 : decode cX7_bits 43 = .ok (.aload_n 0, 1) := by decide +kernel
theorem dX7_bits_44 : decode cX7_bits 44 = .ok (.getfield 15, 3) := by decide +kernel
theorem dX7_bits_47 : decode cX7_bits 47 = .ok (.iload_n 1, 1) := by decide +kernel
theorem dX7_bits_48 : decode cX7_bits 48 = .ok (.daload, 1) := by decide +kernel
theorem dX7_bits_49 : decode cX7_bits 49 = .ok (.invokestatic 37, 3) := by decide +kernel
theorem dX7_bits_52 : decode cX7_bits 52 = .ok (.lreturn, 1) := by decide +kernel
theorem dX7_bits_53 : decode cX7_bits 53 = .ok (.aload_n 0, 1) := by decide +kernel
theorem dX7_bits_54 : decode cX7_bits 54 = .ok (.getfield 15, 3) := by decide +kernel
theorem dX7_bits_57 : decode cX7_bits 57 = .ok (.iload_n 1, 1) := by decide +kernel
theorem dX7_bits_58 : decode cX7_bits 58 = .ok (.daload, 1) := by decide +kernel
theorem dX7_bits_59 : decode cX7_bits 59 = .ok (.d2l, 1) := by decide +kernel
theorem dX7_bits_60 : decode cX7_bits 60 = .ok (.lreturn, 1) := by decide +kernel
set_option maxRecDepth 20000 in
theorem ggX8_init_X5_init : GoodIn wsX8_init wsX5_init := goodIn_r _ [3, 4, 5, 6, 7, 8, 9, 10, 11, 12, 13, 14, 15, 16, 17, 18, 19, 20, 21, 22, 23, 24, 25, 26, 27, 28, 29, 30, 31, 32, 33, 34, 35, 36, 37, 38, 39, 40, 41, 42, 43] (by decide +kernel) (by decide +kernel)
set_option maxRecDepth 20000 in
theorem gX8_init_X5_init_n1 : GoodIn wsX8_init (wsX5_init) := ggX8_init_X5_init
theorem dX8_init_0 : decode cX8_init 0 = .ok (.aload_n 0, 1) := by decide +kernel
theorem dX8_init_1 : decode cX8_init 1 = .ok (.invokespecial 1, 3) := by decide +kernel
theorem dX8_init_4 : decode cX8_init 4 = .ok (.return_, 1) := by decide +kernel
theorem dX8_give_0 : decode cX8_give 0 = .ok (.aload_n 0, 1) := by decide +kernel
theorem dX8_give_1 : decode cX8_give 1 = .ok (.getfield 7, 3) := by decide +kernel
theorem dX8_give_4 : decode cX8_give 4 = .ok (.ifCond .eq 24, 3) := by decide +kernel
theorem dX8_give_7 : decode cX8_give 7 = .ok (.aload_n 0, 1) := by decide +kernel
theorem dX8_give_8 : decode cX8_give 8 = .ok (.getfield 13, 3) := by decide +kernel
theorem dX8_give_11 : decode cX8_give 11 = .ok (.aload_n 0, 1) := by decide +kernel
theorem dX8_give_12 : decode cX8_give 12 = .ok (.getfield 17, 3) := by decide +kernel
theorem dX8_give_15 : decode cX8_give 15 = .ok (.imul, 1) := by decide +kernel
theorem dX8_give_16 : decode cX8_give 16 = .ok (.sipush 256, 3) := by decide +kernel
theorem dX8_give_19 : decode cX8_give 19 = .ok (.irem, 1) := by decide +kernel
theorem dX8_give_20 : decode cX8_give 20 = .ok (.sipush 128, 3) := by decide +kernel
theorem dX8_give_23 : decode cX8_give 23 = .ok (.isub, 1) := by decide +kernel
theorem dX8_give_24 : decode cX8_give 24 = .ok (.i2d, 1) := by decide +kernel
theorem dX8_give_25 : decode cX8_give 25 = .ok (.goto 4, 3) := by decide +kernel
theorem dX8_give_28 : decode cX8_give 28 = .ok (.dconst 0, 1) := by decide +kernel
theorem dX8_give_29 : decode cX8_give 29 = .ok (.dreturn, 1) := by decide +kernel
theorem dX9_init_0 : decode cX9_init 0 = .ok (.aload_n 0, 1) := by decide +kernel
theorem dX9_init_1 : decode cX9_init 1 = .ok (.invokespecial 1, 3) := by decide +kernel
theorem dX9_init_4 : decode cX9_init 4 = .ok (.aload_n 0, 1) := by decide +kernel
theorem dX9_init_5 : decode cX9_init 5 = .ok (.bipush 12, 2) := by decide +kernel
theorem dX9_init_7 : decode cX9_init 7 = .ok (.anewarray 9, 3) := by decide +kernel
theorem dX9_init_10 : decode cX9_init 10 = .ok (.putfield 11, 3) := by decide +kernel
theorem dX9_init_13 : decode cX9_init 13 = .ok (.aload_n 0, 1) := by decide +kernel
theorem dX9_init_14 : decode cX9_init 14 = .ok (.bipush 10, 2) := by decide +kernel
theorem dX9_init_16 : decode cX9_init 16 = .ok (.anewarray 15, 3) := by decide +kernel
theorem dX9_init_19 : decode cX9_init 19 = .ok (.putfield 17, 3) := by decide +kernel
theorem dX9_init_22 : decode cX9_init 22 = .ok (.aload_n 0, 1) := by decide +kernel
theorem dX9_init_23 : decode cX9_init 23 = .ok (.bipush 8, 2) := by decide +kernel
theorem dX9_init_25 : decode cX9_init 25 = .ok (.anewarray 21, 3) := by decide +kernel
theorem dX9_init_28 : decode cX9_init 28 = .ok (.putfield 23, 3) := by decide +kernel
theorem dX9_init_31 : decode cX9_init 31 = .ok (.aload_n 0, 1) := by decide +kernel
theorem dX9_init_32 : decode cX9_init 32 = .ok (.bipush 40, 2) := by decide +kernel
theorem dX9_init_34 : decode cX9_init 34 = .ok (.newarray .double, 2) := by decide +kernel
theorem dX9_init_36 : decode cX9_init 36 = .ok (.putfield 27, 3) := by decide +kernel
theorem dX9_init_39 : decode cX9_init 39 = .ok (.aload_n 0, 1) := by decide +kernel
theorem dX9_init_40 : decode cX9_init 40 = .ok (.iconst (-1), 1) := by decide +kernel
theorem dX9_init_41 : decode cX9_init 41 = .ok (.putfield 31, 3) := by decide +kernel
theorem dX9_init_44 : decode cX9_init 44 = .ok (.return_, 1) := by decide +kernel
set_option maxRecDepth 20000 in
theorem ggX9_instrument_X9_newInstrument : GoodIn wsX9_instrument wsX9_newInstrument := goodIn_r _ [6, 7, 8, 9, 10, 11, 12, 13, 14, 15, 16, 17, 18, 19, 20, 21, 22, 23, 24, 25, 26, 27, 28, 29, 30, 31, 32, 33, 34, 35, 36, 37, 38, 39, 51, 52, 53, 54, 55, 56, 57, 58, 59, 60, 61, 62, 63, 64, 65, 66, 67, 68, 69, 70, 71, 72, 73, 74, 75, 76, 77, 78, 79, 80, 81, 82, 83, 84, 85] (by decide +kernel) (by decide +kernel)
set_option maxRecDepth 20000 in
theorem gX9_instrument_X9_newInstrument : GoodIn wsX9_instrument (va_wsS RX9 38 yX9_newInstrument wsX9_newInstrument) := goodIn_app (goodIn_of _ (by decide +kernel)) ggX9_instrument_X9_newInstrument
theorem dX9_instrument_0 : decode cX9_instrument 0 = .ok (.iload_n 1, 1) := by decide +kernel
theorem dX9_instrument_1 : decode cX9_instrument 1 = .ok (.ifCond .lt 8, 3) := by decide +kernel
theorem dX9_instrument_4 : decode cX9_instrument 4 = .ok (.iload_n 1, 1) := by decide +kernel
theorem dX9_instrument_5 : decode cX9_instrument 5 = .ok (.iconst 4, 1) := by decide +kernel
theorem dX9_instrument_6 : decode cX9_instrument 6 = .ok (.if_icmp .le 5, 3) := by decide +kernel
theorem dX9_instrument_9 : decode cX9_instrument 9 = .ok (.iconst (-1), 1) := by decide +kernel
theorem dX9_instrument_10 : decode cX9_instrument 10 = .ok (.ireturn, 1) := by decide +kernel
theorem dX9_instrument_11 : decode cX9_instrument 11 = .ok (.aload_n 0, 1) := by decide +kernel
theorem dX9_instrument_12 : decode cX9_instrument 12 = .ok (.getfield 35, 3) := by decide +kernel
theorem dX9_instrument_15 : decode cX9_instrument 15 = .ok (.bipush 12, 2) := by decide +kernel
theorem dX9_instrument_17 : decode cX9_instrument 17 = .ok (.if_icmp .lt 6, 3) := by decide +kernel
theorem dX9_instrument_20 : decode cX9_instrument 20 = .ok (.bipush (-2), 2) := by decide +kernel
theorem dX9_instrument_22 : decode cX9_instrument 22 = .ok (.ireturn, 1) := by decide +kernel
theorem dX9_instrument_23 : decode cX9_instrument 23 = .ok (.aload_n 0, 1) := by decide +kernel
theorem dX9_instrument_24 : decode cX9_instrument 24 = .ok (.getfield 11, 3) := by decide +kernel
theorem dX9_instrument_27 : decode cX9_instrument 27 = .ok (.aload_n 0, 1) := by decide +kernel
theorem dX9_instrument_28 : decode cX9_instrument 28 = .ok (.getfield 35, 3) := by decide +kernel
theorem dX9_instrument_31 : decode cX9_instrument 31 = .ok (.iload_n 1, 1) := by decide +kernel
theorem dX9_instrument_32 : decode cX9_instrument 32 = .ok (.invokestatic 38, 3) := by decide +kernel
theorem dX9_instrument_35 : decode cX9_instrument 35 = .ok (.aastore, 1) := by decide +kernel
theorem dX9_instrument_36 : decode cX9_instrument 36 = .ok (.aload_n 0, 1) := by decide +kernel
theorem dX9_instrument_37 : decode cX9_instrument 37 = .ok (.dup, 1) := by decide +kernel
theorem dX9_instrument_38 : decode cX9_instrument 38 = .ok (.getfield 35, 3) := by decide +kernel
theorem dX9_instrument_41 : decode cX9_instrument 41 = .ok (.iconst 1, 1) := by decide +kernel
theorem dX9_instrument_42 : decode cX9_instrument 42 = .ok (.iadd, 1) := by decide +kernel
theorem dX9_instrument_43 : decode cX9_instrument 43 = .ok (.putfield 35, 3) := by decide +kernel
theorem dX9_instrument_46 : decode cX9_instrument 46 = .ok (.aload_n 0, 1) := by decide +kernel
theorem dX9_instrument_47 : decode cX9_instrument 47 = .ok (.getfield 35, 3) := by decide +kernel
theorem dX9_instrument_50 : decode cX9_instrument 50 = .ok (.iconst 1, 1) := by decide +kernel
theorem dX9_instrument_51 : decode cX9_instrument 51 = .ok (.isub, 1) := by decide +kernel
theorem dX9_instrument_52 : decode cX9_instrument 52 = .ok (.ireturn, 1) := by decide +kernel
set_option maxRecDepth 20000 in
theorem ggX9_note_X9_instrumentAt : GoodIn wsX9_note wsX9_instrumentAt := goodIn_r _ [6, 7, 8, 64, 65, 66, 67, 68, 69, 70, 71, 72, 73, 74] (by decide +kernel) (by decide +kernel)
set_option maxRecDepth 20000 in
theorem gX9_note_X9_instrumentAt : GoodIn wsX9_note (wsV RX9 42 RX9 yX9_instrumentAt wsX9_instrumentAt) := goodIn_app (goodIn_of _ (by decide +kernel)) ggX9_note_X9_instrumentAt
set_option maxRecDepth 20000 in
theorem ggX9_note_X2_strike : GoodIn wsX9_note wsX2_strike := goodIn_r _ [15, 16, 17, 18, 10, 19, 20, 21, 22, 23, 24, 29, 30, 31, 32, 33, 34, 35, 36, 37, 38, 39, 40, 41, 42, 43, 44, 45, 46, 47, 48, 49, 50, 51, 52, 53, 54, 55, 56, 57, 58, 59, 60, 61, 62, 63] (by decide +kernel) (by decide +kernel)
set_option maxRecDepth 20000 in
theorem gX9_note_X2_strike_u49X0 : GoodIn wsX9_note (va_wsO RX9 49 RX0 "CallWays2$Instrument" ⟨"CallWays2$Instrument", "strike", "(IZ)V"⟩ yX2_strike wsX2_strike) := goodIn_app (goodIn_of _ (by decide +kernel)) ggX9_note_X2_strike
set_option maxRecDepth 20000 in
theorem gX9_note_X2_strike_u49X2 : GoodIn wsX9_note (va_wsO RX9 49 RX2 "CallWays2$Instrument" ⟨"CallWays2$Instrument", "strike", "(IZ)V"⟩ yX2_strike wsX2_strike) := goodIn_app (goodIn_of _ (by decide +kernel)) ggX9_note_X2_strike
set_option maxRecDepth 20000 in
theorem ggX9_note_X5_strike : GoodIn wsX9_note wsX5_strike := goodIn_r _ [22, 23, 24, 29, 30, 31, 32, 33, 34, 35, 36, 37, 38, 39, 40, 41, 42, 43, 44, 45, 46, 47, 48, 49, 50, 51, 52, 53, 54, 55, 56, 57, 58, 59, 60, 61, 62, 63] (by decide +kernel) (by decide +kernel)
set_option maxRecDepth 20000 in
theorem gX9_note_X5_strike_u49X4 : GoodIn wsX9_note (va_wsU RX9 49 RX4 "CallWays2$Instrument" ⟨"CallWays2$Instrument", "strike", "(IZ)V"⟩ yX5_strike wsX5_strike) := goodIn_app (goodIn_of _ (by decide +kernel)) ggX9_note_X5_strike
set_option maxRecDepth 20000 in
theorem gX9_note_X5_strike_u49X6 : GoodIn wsX9_note (va_wsU RX9 49 RX6 "CallWays2$Instrument" ⟨"CallWays2$Instrument", "strike", "(IZ)V"⟩ yX5_strike wsX5_strike) := goodIn_app (goodIn_of _ (by decide +kernel)) ggX9_note_X5_strike
set_option maxRecDepth 20000 in
theorem gX9_note_X5_strike_u49X8 : GoodIn wsX9_note (va_wsU RX9 49 RX8 "CallWays2$Instrument" ⟨"CallWays2$Instrument", "strike", "(IZ)V"⟩ yX5_strike wsX5_strike) := goodIn_app (goodIn_of _ (by decide +kernel)) ggX9_note_X5_strike
theorem dX9_note_0 : decode cX9_note 0 = .ok (.aload_n 0, 1) := by decide +kernel
theorem dX9_note_1 : decode cX9_note 1 = .ok (.iload_n 1, 1) := by decide +kernel
theorem dX9_note_2 : decode cX9_note 2 = .ok (.invokevirtual 42, 3) := by decide +kernel
theorem dX9_note_5 : decode cX9_note 5 = .ok (.astore 4, 2) := by decide +kernel
theorem dX9_note_7 : decode cX9_note 7 = .ok (.aload 4, 2) := by decide +kernel
theorem dX9_note_9 : decode cX9_note 9 = .ok (.ifnull 13, 3) := by decide +kernel
theorem dX9_note_12 : decode cX9_note 12 = .ok (.iload_n 2, 1) := by decide +kernel
theorem dX9_note_13 : decode cX9_note 13 = .ok (.ifCond .lt 9, 3) := by decide +kernel
theorem dX9_note_16 : decode cX9_note 16 = .ok (.iload_n 2, 1) := by decide +kernel
theorem dX9_note_17 : decode cX9_note 17 = .ok (.bipush 127, 2) := by decide +kernel
theorem dX9_note_19 : decode cX9_note 19 = .ok (.if_icmp .le 5, 3) := by decide +kernel
theorem dX9_note_22 : decode cX9_note 22 = .ok (.iconst (-1), 1) := by decide +kernel
theorem dX9_note_23 : decode cX9_note 23 = .ok (.ireturn, 1) := by decide +kernel
theorem dX9_note_24 : decode cX9_note 24 = .ok (.aload 4, 2) := by decide +kernel
theorem dX9_note_26 : decode cX9_note 26 = .ok (.getfield 45, 3) := by decide +kernel
theorem dX9_note_29 : decode cX9_note 29 = .ok (.ifCond .eq 7, 3) := by decide +kernel
theorem dX9_note_32 : decode cX9_note 32 = .ok (.iconst 1, 1) := by decide +kernel
theorem dX9_note_33 : decode cX9_note 33 = .ok (.goto 4, 3) := by decide +kernel
theorem dX9_note_36 : decode cX9_note 36 = .ok (.iconst 0, 1) := by decide +kernel
theorem dX9_note_37 : decode cX9_note 37 = .ok (.istore 5, 2) := by decide +kernel
theorem dX9_note_39 : decode cX9_note 39 = .ok (.aload 4, 2) := by decide +kernel
theorem dX9_note_41 : decode cX9_note 41 = .ok (.iload_n 2, 1) := by decide +kernel
theorem dX9_note_42 : decode cX9_note 42 = .ok (.iload_n 3, 1) := by decide +kernel
theorem dX9_note_43 : decode cX9_note 43 = .ok (.invokevirtual 49, 3) := by decide +kernel
theorem dX9_note_46 : decode cX9_note 46 = .ok (.iload 5, 2) := by decide +kernel
theorem dX9_note_48 : decode cX9_note 48 = .ok (.ireturn, 1) := by decide +kernel
set_option maxRecDepth 20000 in
theorem ggX9_knob_X9_instrumentAt : GoodIn wsX9_knob wsX9_instrumentAt := goodIn_r _ [7, 8, 9, 10, 11, 12, 13, 14, 15, 16, 17, 18, 19, 20] (by decide +kernel) (by decide +kernel)
set_option maxRecDepth 20000 in
theorem gX9_knob_X9_instrumentAt : GoodIn wsX9_knob (wsV RX9 42 RX9 yX9_instrumentAt wsX9_instrumentAt) := goodIn_app (goodIn_of _ (by decide +kernel)) ggX9_knob_X9_instrumentAt
theorem dX9_knob_0 : decode cX9_knob 0 = .ok (.aload_n 0, 1) := by decide +kernel
theorem dX9_knob_1 : decode cX9_knob 1 = .ok (.iload_n 1, 1) := by decide +kernel
theorem dX9_knob_2 : decode cX9_knob 2 = .ok (.invokevirtual 42, 3) := by decide +kernel
theorem dX9_knob_5 : decode cX9_knob 5 = .ok (.astore 4, 2) := by decide +kernel
theorem dX9_knob_7 : decode cX9_knob 7 = .ok (.aload 4, 2) := by decide +kernel
theorem dX9_knob_9 : decode cX9_knob 9 = .ok (.ifnull 12, 3) := by decide +kernel
theorem dX9_knob_12 : decode cX9_knob 12 = .ok (.iload_n 2, 1) := by decide +kernel
theorem dX9_knob_13 : decode cX9_knob 13 = .ok (.ifCond .lt 8, 3) := by decide +kernel
theorem dX9_knob_16 : decode cX9_knob 16 = .ok (.iload_n 2, 1) := by decide +kernel
theorem dX9_knob_17 : decode cX9_knob 17 = .ok (.iconst 4, 1) := by decide +kernel
theorem dX9_knob_18 : decode cX9_knob 18 = .ok (.if_icmp .lt 10, 3) := by decide +kernel
theorem dX9_knob_21 : decode cX9_knob 21 = .ok (.aload_n 0, 1) := by decide +kernel
theorem dX9_knob_22 : decode cX9_knob 22 = .ok (.iconst (-1), 1) := by decide +kernel
theorem dX9_knob_23 : decode cX9_knob 23 = .ok (.putfield 53, 3) := by decide +kernel
theorem dX9_knob_26 : decode cX9_knob 26 = .ok (.iconst 0, 1) := by decide +kernel
theorem dX9_knob_27 : decode cX9_knob 27 = .ok (.ireturn, 1) := by decide +kernel
theorem dX9_knob_28 : decode cX9_knob 28 = .ok (.aload 4, 2) := by decide +kernel
theorem dX9_knob_30 : decode cX9_knob 30 = .ok (.getfield 56, 3) := by decide +kernel
theorem dX9_knob_33 : decode cX9_knob 33 = .ok (.iload_n 2, 1) := by decide +kernel
theorem dX9_knob_34 : decode cX9_knob 34 = .ok (.iaload, 1) := by decide +kernel
theorem dX9_knob_35 : decode cX9_knob 35 = .ok (.istore 5, 2) := by decide +kernel
theorem dX9_knob_37 : decode cX9_knob 37 = .ok (.aload 4, 2) := by decide +kernel
theorem dX9_knob_39 : decode cX9_knob 39 = .ok (.getfield 56, 3) := by decide +kernel
theorem dX9_knob_42 : decode cX9_knob 42 = .ok (.iload_n 2, 1) := by decide +kernel
theorem dX9_knob_43 : decode cX9_knob 43 = .ok (.iload_n 3, 1) := by decide +kernel
theorem dX9_knob_44 : decode cX9_knob 44 = .ok (.iastore, 1) := by decide +kernel
theorem dX9_knob_45 : decode cX9_knob 45 = .ok (.aload_n 0, 1) := by decide +kernel
theorem dX9_knob_46 : decode cX9_knob 46 = .ok (.iconst 0, 1) := by decide +kernel
theorem dX9_knob_47 : decode cX9_knob 47 = .ok (.putfield 53, 3) := by decide +kernel
theorem dX9_knob_50 : decode cX9_knob 50 = .ok (.iload 5, 2) := by decide +kernel
theorem dX9_knob_52 : decode cX9_knob 52 = .ok (.ireturn, 1) := by decide +kernel
set_option maxRecDepth 20000 in
theorem ggX9_phase_X9_instrumentAt : GoodIn wsX9_phase wsX9_instrumentAt := goodIn_r _ [7, 8, 9, 10, 11, 12, 13, 14, 15, 16, 17, 18, 19, 20] (by decide +kernel) (by decide +kernel)
set_option maxRecDepth 20000 in
theorem gX9_phase_X9_instrumentAt : GoodIn wsX9_phase (wsV RX9 42 RX9 yX9_instrumentAt wsX9_instrumentAt) := goodIn_app (goodIn_of _ (by decide +kernel)) ggX9_phase_X9_instrumentAt
theorem dX9_phase_0 : decode cX9_phase 0 = .ok (.aload_n 0, 1) := by decide +kernel
theorem dX9_phase_1 : decode cX9_phase 1 = .ok (.iload_n 1, 1) := by decide +kernel
theorem dX9_phase_2 : decode cX9_phase 2 = .ok (.invokevirtual 42, 3) := by decide +kernel
theorem dX9_phase_5 : decode cX9_phase 5 = .ok (.astore_n 3, 1) := by decide +kernel
theorem dX9_phase_6 : decode cX9_phase 6 = .ok (.aload_n 3, 1) := by decide +kernel
theorem dX9_phase_7 : decode cX9_phase 7 = .ok (.ifnonnull 10, 3) := by decide +kernel
theorem dX9_phase_10 : decode cX9_phase 10 = .ok (.aload_n 0, 1) := by decide +kernel
theorem dX9_phase_11 : decode cX9_phase 11 = .ok (.iconst (-1), 1) := by decide +kernel
theorem dX9_phase_12 : decode cX9_phase 12 = .ok (.putfield 53, 3) := by decide +kernel
theorem dX9_phase_15 : decode cX9_phase 15 = .ok (.iconst 0, 1) := by decide +kernel
theorem dX9_phase_16 : decode cX9_phase 16 = .ok (.ireturn, 1) := by decide +kernel
theorem dX9_phase_17 : decode cX9_phase 17 = .ok (.aload_n 3, 1) := by decide +kernel
theorem dX9_phase_18 : decode cX9_phase 18 = .ok (.getfield 60, 3) := by decide +kernel
theorem dX9_phase_21 : decode cX9_phase 21 = .ok (.istore 4, 2) := by decide +kernel
theorem dX9_phase_23 : decode cX9_phase 23 = .ok (.aload_n 3, 1) := by decide +kernel
theorem dX9_phase_24 : decode cX9_phase 24 = .ok (.iload_n 2, 1) := by decide +kernel
theorem dX9_phase_25 : decode cX9_phase 25 = .ok (.putfield 60, 3) := by decide +kernel
theorem dX9_phase_28 : decode cX9_phase 28 = .ok (.aload_n 0, 1) := by decide +kernel
theorem dX9_phase_29 : decode cX9_phase 29 = .ok (.iconst 0, 1) := by decide +kernel
theorem dX9_phase_30 : decode cX9_phase 30 = .ok (.putfield 53, 3) := by decide +kernel
theorem dX9_phase_33 : decode cX9_phase 33 = .ok (.iload 4, 2) := by decide +kernel
theorem dX9_phase_35 : decode cX9_phase 35 = .ok (.ireturn, 1) := by decide +kernel
set_option maxRecDepth 20000 in
theorem ggX9_table_X9_instrumentAt : GoodIn wsX9_table wsX9_instrumentAt := goodIn_r _ [6, 7, 8, 76, 77, 78, 79, 80, 81, 82, 83, 84, 85, 86] (by decide +kernel) (by decide +kernel)
set_option maxRecDepth 20000 in
theorem gX9_table_X9_instrumentAt : GoodIn wsX9_table (wsV RX9 42 RX9 yX9_instrumentAt wsX9_instrumentAt) := goodIn_app (goodIn_of _ (by decide +kernel)) ggX9_table_X9_instrumentAt
set_option maxRecDepth 20000 in
theorem ggX9_table_X9_isBlock : GoodIn wsX9_table wsX9_isBlock := goodIn_r _ [11] (by decide +kernel) (by decide +kernel)
set_option maxRecDepth 20000 in
theorem gX9_table_X9_isBlock : GoodIn wsX9_table (va_wsS RX9 63 yX9_isBlock wsX9_isBlock) := goodIn_app (goodIn_of _ (by decide +kernel)) ggX9_table_X9_isBlock
set_option maxRecDepth 20000 in
theorem ggX9_table_X9_heldBy : GoodIn wsX9_table wsX9_heldBy := goodIn_r _ [15, 16, 9, 10, 5, 11, 76, 77, 78, 79, 80, 81, 82, 83, 84, 85, 86] (by decide +kernel) (by decide +kernel)
set_option maxRecDepth 20000 in
theorem gX9_table_X9_heldBy : GoodIn wsX9_table (wsV RX9 67 RX9 yX9_heldBy wsX9_heldBy) := goodIn_app (goodIn_of _ (by decide +kernel)) ggX9_table_X9_heldBy
set_option maxRecDepth 20000 in
theorem ggX9_table_X9_lentOrTwin : GoodIn wsX9_table wsX9_lentOrTwin := goodIn_r _ [19, 20, 21, 22, 23, 24, 25, 26, 27, 28, 29, 30, 31, 32, 33, 34, 35, 36, 37, 38, 39, 40, 87, 88] (by decide +kernel) (by decide +kernel)
set_option maxRecDepth 20000 in
theorem gX9_table_X9_lentOrTwin : GoodIn wsX9_table (va_wsS RX9 71 yX9_lentOrTwin wsX9_lentOrTwin) := goodIn_app (goodIn_of _ (by decide +kernel)) ggX9_table_X9_lentOrTwin
theorem dX9_table_0 : decode cX9_table 0 = .ok (.aload_n 0, 1) := by decide +kernel
theorem dX9_table_1 : decode cX9_table 1 = .ok (.iload_n 1, 1) := by decide +kernel
theorem dX9_table_2 : decode cX9_table 2 = .ok (.invokevirtual 42, 3) := by decide +kernel
theorem dX9_table_5 : decode cX9_table 5 = .ok (.astore 4, 2) := by decide +kernel
theorem dX9_table_7 : decode cX9_table 7 = .ok (.aload 4, 2) := by decide +kernel
theorem dX9_table_9 : decode cX9_table 9 = .ok (.ifnull 15, 3) := by decide +kernel
theorem dX9_table_12 : decode cX9_table 12 = .ok (.iload_n 2, 1) := by decide +kernel
theorem dX9_table_13 : decode cX9_table 13 = .ok (.iconst (-1), 1) := by decide +kernel
theorem dX9_table_14 : decode cX9_table 14 = .ok (.if_icmp .eq 12, 3) := by decide +kernel
theorem dX9_table_17 : decode cX9_table 17 = .ok (.iload_n 2, 1) := by decide +kernel
theorem dX9_table_18 : decode cX9_table 18 = .ok (.invokestatic 63, 3) := by decide +kernel
theorem dX9_table_21 : decode cX9_table 21 = .ok (.ifCond .ne 5, 3) := by decide +kernel
theorem dX9_table_24 : decode cX9_table 24 = .ok (.iconst (-1), 1) := by decide +kernel
theorem dX9_table_25 : decode cX9_table 25 = .ok (.ireturn, 1) := by decide +kernel
theorem dX9_table_26 : decode cX9_table 26 = .ok (.aload 4, 2) := by decide +kernel
theorem dX9_table_28 : decode cX9_table 28 = .ok (.aload_n 0, 1) := by decide +kernel
theorem dX9_table_29 : decode cX9_table 29 = .ok (.iload_n 2, 1) := by decide +kernel
theorem dX9_table_30 : decode cX9_table 30 = .ok (.invokevirtual 67, 3) := by decide +kernel
theorem dX9_table_33 : decode cX9_table 33 = .ok (.iload_n 3, 1) := by decide +kernel
theorem dX9_table_34 : decode cX9_table 34 = .ok (.invokestatic 71, 3) := by decide +kernel
theorem dX9_table_37 : decode cX9_table 37 = .ok (.putfield 75, 3) := by decide +kernel
theorem dX9_table_40 : decode cX9_table 40 = .ok (.iconst 1, 1) := by decide +kernel
theorem dX9_table_41 : decode cX9_table 41 = .ok (.ireturn, 1) := by decide +kernel
set_option maxRecDepth 20000 in
theorem ggX9_block_X9_isBlock : GoodIn wsX9_block wsX9_isBlock := goodIn_r _ [9] (by decide +kernel) (by decide +kernel)
set_option maxRecDepth 20000 in
theorem gX9_block_X9_isBlock : GoodIn wsX9_block (va_wsS RX9 63 yX9_isBlock wsX9_isBlock) := goodIn_app (goodIn_of _ (by decide +kernel)) ggX9_block_X9_isBlock
set_option maxRecDepth 20000 in
theorem ggX9_block_X9_isLane : GoodIn wsX9_block wsX9_isLane := goodIn_r _ [12] (by decide +kernel) (by decide +kernel)
set_option maxRecDepth 20000 in
theorem gX9_block_X9_isLane : GoodIn wsX9_block (va_wsS RX9 79 yX9_isLane wsX9_isLane) := goodIn_app (goodIn_of _ (by decide +kernel)) ggX9_block_X9_isLane
set_option maxRecDepth 20000 in
theorem ggX9_block_X7_init : GoodIn wsX9_block wsX7_init := goodIn_r _ [15, 16, 17, 18, 19, 20, 32, 33] (by decide +kernel) (by decide +kernel)
set_option maxRecDepth 20000 in
theorem gX9_block_X7_init : GoodIn wsX9_block (wsX7_init) := ggX9_block_X7_init
theorem dX9_block_0 : decode cX9_block 0 = .ok (.iload_n 1, 1) := by decide +kernel
theorem dX9_block_1 : decode cX9_block 1 = .ok (.invokestatic 63, 3) := by decide +kernel
theorem dX9_block_4 : decode cX9_block 4 = .ok (.ifCond .eq 16, 3) := by decide +kernel
theorem dX9_block_7 : decode cX9_block 7 = .ok (.iload_n 2, 1) := by decide +kernel
theorem dX9_block_8 : decode cX9_block 8 = .ok (.invokestatic 79, 3) := by decide +kernel
theorem dX9_block_11 : decode cX9_block 11 = .ok (.ifCond .eq 9, 3) := by decide +kernel
theorem dX9_block_14 : decode cX9_block 14 = .ok (.iload_n 3, 1) := by decide +kernel
theorem dX9_block_15 : decode cX9_block 15 = .ok (.bipush 40, 2) := by decide +kernel
theorem dX9_block_17 : decode cX9_block 17 = .ok (.if_icmp .le 5, 3) := by decide +kernel
theorem dX9_block_20 : decode cX9_block 20 = .ok (.iconst (-1), 1) := by decide +kernel
theorem dX9_block_21 : decode cX9_block 21 = .ok (.ireturn, 1) := by decide +kernel
theorem dX9_block_22 : decode cX9_block 22 = .ok (.iload_n 3, 1) := by decide +kernel
theorem dX9_block_23 : decode cX9_block 23 = .ok (.ifCond .ge 6, 3) := by decide +kernel
theorem dX9_block_26 : decode cX9_block 26 = .ok (.bipush (-8), 2) := by decide +kernel
theorem dX9_block_28 : decode cX9_block 28 = .ok (.ireturn, 1) := by decide +kernel
theorem dX9_block_29 : decode cX9_block 29 = .ok (.aload_n 0, 1) := by decide +kernel
theorem dX9_block_30 : decode cX9_block 30 = .ok (.getfield 17, 3) := by decide +kernel
theorem dX9_block_33 : decode cX9_block 33 = .ok (.iload_n 1, 1) := by decide +kernel
theorem dX9_block_34 : decode cX9_block 34 = .ok (.new 15, 3) := by decide +kernel
theorem dX9_block_37 : decode cX9_block 37 = .ok (.dup, 1) := by decide +kernel
theorem dX9_block_38 : decode cX9_block 38 = .ok (.iload_n 2, 1) := by decide +kernel
theorem dX9_block_39 : decode cX9_block 39 = .ok (.iload_n 3, 1) := by decide +kernel
theorem dX9_block_40 : decode cX9_block 40 = .ok (.newarray .double, 2) := by decide +kernel
theorem dX9_block_42 : decode cX9_block 42 = .ok (.invokespecial 82, 3) := by decide +kernel
theorem dX9_block_45 : decode cX9_block 45 = .ok (.aastore, 1) := by decide +kernel
theorem dX9_block_46 : decode cX9_block 46 = .ok (.iconst 1, 1) := by decide +kernel
theorem dX9_block_47 : decode cX9_block 47 = .ok (.ireturn, 1) := by decide +kernel
set_option maxRecDepth 20000 in
theorem ggX9_lend_X9_isBlock : GoodIn wsX9_lend wsX9_isBlock := goodIn_r _ [5] (by decide +kernel) (by decide +kernel)
set_option maxRecDepth 20000 in
theorem gX9_lend_X9_isBlock : GoodIn wsX9_lend (va_wsS RX9 63 yX9_isBlock wsX9_isBlock) := goodIn_app (goodIn_of _ (by decide +kernel)) ggX9_lend_X9_isBlock
set_option maxRecDepth 20000 in
theorem ggX9_lend_X9_heldBy : GoodIn wsX9_lend wsX9_heldBy := goodIn_r _ [9, 1, 2, 3, 4, 5, 34, 35, 36, 37, 38, 39, 40, 41, 42, 43, 44] (by decide +kernel) (by decide +kernel)
set_option maxRecDepth 20000 in
theorem gX9_lend_X9_heldBy : GoodIn wsX9_lend (wsV RX9 67 RX9 yX9_heldBy wsX9_heldBy) := goodIn_app (goodIn_of _ (by decide +kernel)) ggX9_lend_X9_heldBy
set_option maxRecDepth 20000 in
theorem ggX9_lend_X9_lentOrTwin : GoodIn wsX9_lend wsX9_lentOrTwin := goodIn_r _ [12, 13, 14, 15, 16, 17, 18, 19, 20, 21, 22, 23, 24, 25, 26, 27, 28, 29, 30, 31, 32, 33, 45, 46] (by decide +kernel) (by decide +kernel)
set_option maxRecDepth 20000 in
theorem gX9_lend_X9_lentOrTwin : GoodIn wsX9_lend (va_wsS RX9 71 yX9_lentOrTwin wsX9_lentOrTwin) := goodIn_app (goodIn_of _ (by decide +kernel)) ggX9_lend_X9_lentOrTwin
theorem dX9_lend_0 : decode cX9_lend 0 = .ok (.iload_n 1, 1) := by decide +kernel
theorem dX9_lend_1 : decode cX9_lend 1 = .ok (.invokestatic 63, 3) := by decide +kernel
theorem dX9_lend_4 : decode cX9_lend 4 = .ok (.ifCond .eq 10, 3) := by decide +kernel
theorem dX9_lend_7 : decode cX9_lend 7 = .ok (.iload_n 2, 1) := by decide +kernel
theorem dX9_lend_8 : decode cX9_lend 8 = .ok (.invokestatic 63, 3) := by decide +kernel
theorem dX9_lend_11 : decode cX9_lend 11 = .ok (.ifCond .ne 5, 3) := by decide +kernel
theorem dX9_lend_14 : decode cX9_lend 14 = .ok (.iconst (-1), 1) := by decide +kernel
theorem dX9_lend_15 : decode cX9_lend 15 = .ok (.ireturn, 1) := by decide +kernel
theorem dX9_lend_16 : decode cX9_lend 16 = .ok (.aload_n 0, 1) := by decide +kernel
theorem dX9_lend_17 : decode cX9_lend 17 = .ok (.iload_n 2, 1) := by decide +kernel
theorem dX9_lend_18 : decode cX9_lend 18 = .ok (.invokevirtual 67, 3) := by decide +kernel
theorem dX9_lend_21 : decode cX9_lend 21 = .ok (.astore 4, 2) := by decide +kernel
theorem dX9_lend_23 : decode cX9_lend 23 = .ok (.aload 4, 2) := by decide +kernel
theorem dX9_lend_25 : decode cX9_lend 25 = .ok (.ifnonnull 10, 3) := by decide +kernel
theorem dX9_lend_28 : decode cX9_lend 28 = .ok (.iload_n 3, 1) := by decide +kernel
theorem dX9_lend_29 : decode cX9_lend 29 = .ok (.ifCond .ne 6, 3) := by decide +kernel
theorem dX9_lend_32 : decode cX9_lend 32 = .ok (.bipush (-5), 2) := by decide +kernel
theorem dX9_lend_34 : decode cX9_lend 34 = .ok (.ireturn, 1) := by decide +kernel
theorem dX9_lend_35 : decode cX9_lend 35 = .ok (.aload_n 0, 1) := by decide +kernel
theorem dX9_lend_36 : decode cX9_lend 36 = .ok (.getfield 17, 3) := by decide +kernel
theorem dX9_lend_39 : decode cX9_lend 39 = .ok (.iload_n 1, 1) := by decide +kernel
theorem dX9_lend_40 : decode cX9_lend 40 = .ok (.aload 4, 2) := by decide +kernel
theorem dX9_lend_42 : decode cX9_lend 42 = .ok (.iload_n 3, 1) := by decide +kernel
theorem dX9_lend_43 : decode cX9_lend 43 = .ok (.invokestatic 71, 3) := by decide +kernel
theorem dX9_lend_46 : decode cX9_lend 46 = .ok (.aastore, 1) := by decide +kernel
theorem dX9_lend_47 : decode cX9_lend 47 = .ok (.iconst 1, 1) := by decide +kernel
theorem dX9_lend_48 : decode cX9_lend 48 = .ok (.ireturn, 1) := by decide +kernel
set_option maxRecDepth 20000 in
theorem ggX9_isLent_X9_isBlock : GoodIn wsX9_isLent wsX9_isBlock := goodIn_r _ [4] (by decide +kernel) (by decide +kernel)
set_option maxRecDepth 20000 in
theorem gX9_isLent_X9_isBlock : GoodIn wsX9_isLent (va_wsS RX9 63 yX9_isBlock wsX9_isBlock) := goodIn_app (goodIn_of _ (by decide +kernel)) ggX9_isLent_X9_isBlock
set_option maxRecDepth 20000 in
theorem ggX9_isLent_X9_heldBy : GoodIn wsX9_isLent wsX9_heldBy := goodIn_r _ [8, 9, 1, 2, 3, 4, 10, 11, 12, 13, 14, 15, 16, 17, 18, 19, 20] (by decide +kernel) (by decide +kernel)
set_option maxRecDepth 20000 in
theorem gX9_isLent_X9_heldBy : GoodIn wsX9_isLent (wsV RX9 67 RX9 yX9_heldBy wsX9_heldBy) := goodIn_app (goodIn_of _ (by decide +kernel)) ggX9_isLent_X9_heldBy
theorem dX9_isLent_0 : decode cX9_isLent 0 = .ok (.iload_n 1, 1) := by decide +kernel
theorem dX9_isLent_1 : decode cX9_isLent 1 = .ok (.invokestatic 63, 3) := by decide +kernel
theorem dX9_isLent_4 : decode cX9_isLent 4 = .ok (.ifCond .eq 27, 3) := by decide +kernel
theorem dX9_isLent_7 : decode cX9_isLent 7 = .ok (.iload_n 2, 1) := by decide +kernel
theorem dX9_isLent_8 : decode cX9_isLent 8 = .ok (.invokestatic 63, 3) := by decide +kernel
theorem dX9_isLent_11 : decode cX9_isLent 11 = .ok (.ifCond .eq 20, 3) := by decide +kernel
theorem dX9_isLent_14 : decode cX9_isLent 14 = .ok (.aload_n 0, 1) := by decide +kernel
theorem dX9_isLent_15 : decode cX9_isLent 15 = .ok (.iload_n 1, 1) := by decide +kernel
theorem dX9_isLent_16 : decode cX9_isLent 16 = .ok (.invokevirtual 67, 3) := by decide +kernel
theorem dX9_isLent_19 : decode cX9_isLent 19 = .ok (.aload_n 0, 1) := by decide +kernel
theorem dX9_isLent_20 : decode cX9_isLent 20 = .ok (.iload_n 2, 1) := by decide +kernel
theorem dX9_isLent_21 : decode cX9_isLent 21 = .ok (.invokevirtual 67, 3) := by decide +kernel
theorem dX9_isLent_24 : decode cX9_isLent 24 = .ok (.if_acmp .ne 7, 3) := by decide +kernel
theorem dX9_isLent_27 : decode cX9_isLent 27 = .ok (.iconst 1, 1) := by decide +kernel
theorem dX9_isLent_28 : decode cX9_isLent 28 = .ok (.goto 4, 3) := by decide +kernel
theorem dX9_isLent_31 : decode cX9_isLent 31 = .ok (.iconst 0, 1) := by decide +kernel
theorem dX9_isLent_32 : decode cX9_isLent 32 = .ok (.ireturn, 1) := by decide +kernel
set_option maxRecDepth 20000 in
theorem ggX9_of_X9_isBlock : GoodIn wsX9_of wsX9_isBlock := goodIn_r _ [6] (by decide +kernel) (by decide +kernel)
set_option maxRecDepth 20000 in
theorem gX9_of_X9_isBlock : GoodIn wsX9_of (va_wsS RX9 63 yX9_isBlock wsX9_isBlock) := goodIn_app (goodIn_of _ (by decide +kernel)) ggX9_of_X9_isBlock
set_option maxRecDepth 20000 in
theorem ggX9_of_X9_heldBy : GoodIn wsX9_of wsX9_heldBy := goodIn_r _ [10, 11, 3, 4, 5, 6, 14, 15, 16, 17, 18, 19, 20, 21, 22, 23, 24] (by decide +kernel) (by decide +kernel)
set_option maxRecDepth 20000 in
theorem gX9_of_X9_heldBy : GoodIn wsX9_of (wsV RX9 67 RX9 yX9_heldBy wsX9_heldBy) := goodIn_app (goodIn_of _ (by decide +kernel)) ggX9_of_X9_heldBy
theorem dX9_of_0 : decode cX9_of 0 = .ok (.iload_n 1, 1) := by decide +kernel
theorem dX9_of_1 : decode cX9_of 1 = .ok (.invokestatic 63, 3) := by decide +kernel
theorem dX9_of_4 : decode cX9_of 4 = .ok (.ifCond .eq 12, 3) := by decide +kernel
theorem dX9_of_7 : decode cX9_of 7 = .ok (.iload_n 2, 1) := by decide +kernel
theorem dX9_of_8 : decode cX9_of 8 = .ok (.ifCond .lt 8, 3) := by decide +kernel
theorem dX9_of_11 : decode cX9_of 11 = .ok (.iload_n 2, 1) := by decide +kernel
theorem dX9_of_12 : decode cX9_of 12 = .ok (.iconst 1, 1) := by decide +kernel
theorem dX9_of_13 : decode cX9_of 13 = .ok (.if_icmp .le 5, 3) := by decide +kernel
theorem dX9_of_16 : decode cX9_of 16 = .ok (.iconst (-1), 1) := by decide +kernel
theorem dX9_of_17 : decode cX9_of 17 = .ok (.ireturn, 1) := by decide +kernel
theorem dX9_of_18 : decode cX9_of 18 = .ok (.aload_n 0, 1) := by decide +kernel
theorem dX9_of_19 : decode cX9_of 19 = .ok (.iload_n 1, 1) := by decide +kernel
theorem dX9_of_20 : decode cX9_of 20 = .ok (.invokevirtual 67, 3) := by decide +kernel
theorem dX9_of_23 : decode cX9_of 23 = .ok (.astore_n 3, 1) := by decide +kernel
theorem dX9_of_24 : decode cX9_of 24 = .ok (.aload_n 3, 1) := by decide +kernel
theorem dX9_of_25 : decode cX9_of 25 = .ok (.ifnonnull 6, 3) := by decide +kernel
theorem dX9_of_28 : decode cX9_of 28 = .ok (.bipush (-5), 2) := by decide +kernel
theorem dX9_of_30 : decode cX9_of 30 = .ok (.ireturn, 1) := by decide +kernel
theorem dX9_of_31 : decode cX9_of 31 = .ok (.iload_n 2, 1) := by decide +kernel
theorem dX9_of_32 : decode cX9_of 32 = .ok (.ifCond .ne 10, 3) := by decide +kernel
theorem dX9_of_35 : decode cX9_of 35 = .ok (.aload_n 3, 1) := by decide +kernel
theorem dX9_of_36 : decode cX9_of 36 = .ok (.getfield 85, 3) := by decide +kernel
theorem dX9_of_39 : decode cX9_of 39 = .ok (.goto 8, 3) := by decide +kernel
theorem dX9_of_42 : decode cX9_of 42 = .ok (.aload_n 3, 1) := by decide +kernel
theorem dX9_of_43 : decode cX9_of 43 = .ok (.getfield 88, 3) := by decide +kernel
theorem dX9_of_46 : decode cX9_of 46 = .ok (.arraylength, 1) := by decide +kernel
theorem dX9_of_47 : decode cX9_of 47 = .ok (.ireturn, 1) := by decide +kernel
set_option maxRecDepth 20000 in
theorem ggX9_at_X9_againstPlace : GoodIn wsX9_at wsX9_againstPlace := goodIn_r _ [7, 2, 8, 9, 6, 10, 11, 12, 13, 14, 15, 16, 39, 40, 41, 42, 43, 44, 45, 46, 47, 48, 49, 50, 51] (by decide +kernel) (by decide +kernel)
set_option maxRecDepth 20000 in
theorem gX9_at_X9_againstPlace : GoodIn wsX9_at (wsV RX9 91 RX9 yX9_againstPlace wsX9_againstPlace) := goodIn_app (goodIn_of _ (by decide +kernel)) ggX9_at_X9_againstPlace
set_option maxRecDepth 20000 in
theorem ggX9_at_X7_bits : GoodIn wsX9_at wsX7_bits := goodIn_r _ [20, 21, 16, 22, 23, 24, 25, 26, 27, 28, 29, 30, 31, 32, 33, 34, 35, 36, 37, 38, 50, 51] (by decide +kernel) (by decide +kernel)
set_option maxRecDepth 20000 in
theorem gX9_at_X7_bits : GoodIn wsX9_at (wsV RX9 95 RX7 yX7_bits wsX7_bits) := goodIn_app (goodIn_of _ (by decide +kernel)) ggX9_at_X7_bits
theorem dX9_at_0 : decode cX9_at 0 = .ok (.aload_n 0, 1) := by decide +kernel
theorem dX9_at_1 : decode cX9_at 1 = .ok (.aload_n 0, 1) := by decide +kernel
theorem dX9_at_2 : decode cX9_at 2 = .ok (.iload_n 1, 1) := by decide +kernel
theorem dX9_at_3 : decode cX9_at 3 = .ok (.iload_n 2, 1) := by decide +kernel
theorem dX9_at_4 : decode cX9_at 4 = .ok (.invokevirtual 91, 3) := by decide +kernel
theorem dX9_at_7 : decode cX9_at 7 = .ok (.putfield 53, 3) := by decide +kernel
theorem dX9_at_10 : decode cX9_at 10 = .ok (.aload_n 0, 1) := by decide +kernel
theorem dX9_at_11 : decode cX9_at 11 = .ok (.getfield 53, 3) := by decide +kernel
theorem dX9_at_14 : decode cX9_at 14 = .ok (.ifCond .ne 16, 3) := by decide +kernel
theorem dX9_at_17 : decode cX9_at 17 = .ok (.aload_n 0, 1) := by decide +kernel
theorem dX9_at_18 : decode cX9_at 18 = .ok (.getfield 17, 3) := by decide +kernel
theorem dX9_at_21 : decode cX9_at 21 = .ok (.iload_n 1, 1) := by decide +kernel
theorem dX9_at_22 : decode cX9_at 22 = .ok (.aaload, 1) := by decide +kernel
theorem dX9_at_23 : decode cX9_at 23 = .ok (.iload_n 2, 1) := by decide +kernel
theorem dX9_at_24 : decode cX9_at 24 = .ok (.invokevirtual 95, 3) := by decide +kernel
theorem dX9_at_27 : decode cX9_at 27 = .ok (.goto 4, 3) := by decide +kernel
theorem dX9_at_30 : decode cX9_at 30 = .ok (.lconst 0, 1) := by decide +kernel
theorem dX9_at_31 : decode cX9_at 31 = .ok (.lreturn, 1) := by decide +kernel
set_option maxRecDepth 20000 in
theorem ggX9_put_X9_againstPlace : GoodIn wsX9_put wsX9_againstPlace := goodIn_r _ [7, 2, 8, 9, 6, 10, 11, 12, 13, 14, 15, 16, 26, 27, 28, 29, 30, 31, 32, 33, 34, 35, 36, 37, 38] (by decide +kernel) (by decide +kernel)
set_option maxRecDepth 20000 in
theorem gX9_put_X9_againstPlace : GoodIn wsX9_put (wsV RX9 91 RX9 yX9_againstPlace wsX9_againstPlace) := goodIn_app (goodIn_of _ (by decide +kernel)) ggX9_put_X9_againstPlace
set_option maxRecDepth 20000 in
theorem ggX9_put_X7_set : GoodIn wsX9_put wsX7_set := goodIn_r _ [20, 16, 21, 22, 23, 14, 24, 25, 37, 38] (by decide +kernel) (by decide +kernel)
set_option maxRecDepth 20000 in
theorem gX9_put_X7_set : GoodIn wsX9_put (wsV RX9 99 RX7 yX7_set wsX7_set) := goodIn_app (goodIn_of _ (by decide +kernel)) ggX9_put_X7_set
theorem dX9_put_0 : decode cX9_put 0 = .ok (.aload_n 0, 1) := by decide +kernel
theorem dX9_put_1 : decode cX9_put 1 = .ok (.aload_n 0, 1) := by decide +kernel
theorem dX9_put_2 : decode cX9_put 2 = .ok (.iload_n 1, 1) := by decide +kernel
theorem dX9_put_3 : decode cX9_put 3 = .ok (.iload_n 2, 1) := by decide +kernel
theorem dX9_put_4 : decode cX9_put 4 = .ok (.invokevirtual 91, 3) := by decide +kernel
theorem dX9_put_7 : decode cX9_put 7 = .ok (.putfield 53, 3) := by decide +kernel
theorem dX9_put_10 : decode cX9_put 10 = .ok (.aload_n 0, 1) := by decide +kernel
theorem dX9_put_11 : decode cX9_put 11 = .ok (.getfield 53, 3) := by decide +kernel
theorem dX9_put_14 : decode cX9_put 14 = .ok (.ifCond .eq 8, 3) := by decide +kernel
theorem dX9_put_17 : decode cX9_put 17 = .ok (.aload_n 0, 1) := by decide +kernel
theorem dX9_put_18 : decode cX9_put 18 = .ok (.getfield 53, 3) := by decide +kernel
theorem dX9_put_21 : decode cX9_put 21 = .ok (.ireturn, 1) := by decide +kernel
theorem dX9_put_22 : decode cX9_put 22 = .ok (.aload_n 0, 1) := by decide +kernel
theorem dX9_put_23 : decode cX9_put 23 = .ok (.getfield 17, 3) := by decide +kernel
theorem dX9_put_26 : decode cX9_put 26 = .ok (.iload_n 1, 1) := by decide +kernel
theorem dX9_put_27 : decode cX9_put 27 = .ok (.aaload, 1) := by decide +kernel
theorem dX9_put_28 : decode cX9_put 28 = .ok (.iload_n 2, 1) := by decide +kernel
theorem dX9_put_29 : decode cX9_put 29 = .ok (.iload_n 3, 1) := by decide +kernel
theorem dX9_put_30 : decode cX9_put 30 = .ok (.i2d, 1) := by decide +kernel
theorem dX9_put_31 : decode cX9_put 31 = .ok (.invokevirtual 99, 3) := by decide +kernel
theorem dX9_put_34 : decode cX9_put 34 = .ok (.iconst 1, 1) := by decide +kernel
theorem dX9_put_35 : decode cX9_put 35 = .ok (.ireturn, 1) := by decide +kernel
set_option maxRecDepth 20000 in
theorem ggX9_copy_X9_heldBy : GoodIn wsX9_copy wsX9_heldBy := goodIn_r _ [12, 13, 14, 15, 11, 16, 23, 24, 25, 26, 27, 28, 29, 30, 31, 32, 33] (by decide +kernel) (by decide +kernel)
set_option maxRecDepth 20000 in
theorem gX9_copy_X9_heldBy : GoodIn wsX9_copy (wsV RX9 67 RX9 yX9_heldBy wsX9_heldBy) := goodIn_app (goodIn_of _ (by decide +kernel)) ggX9_copy_X9_heldBy
set_option maxRecDepth 20000 in
theorem ggX9_copy_X9_isBlock : GoodIn wsX9_copy wsX9_isBlock := goodIn_r _ [16] (by decide +kernel) (by decide +kernel)
set_option maxRecDepth 20000 in
theorem gX9_copy_X9_isBlock : GoodIn wsX9_copy (va_wsS RX9 63 yX9_isBlock wsX9_isBlock) := goodIn_app (goodIn_of _ (by decide +kernel)) ggX9_copy_X9_isBlock
set_option maxRecDepth 20000 in
theorem ggX9_copy_X7_spans : GoodIn wsX9_copy wsX7_spans := goodIn_r _ [21, 22, 34, 35] (by decide +kernel) (by decide +kernel)
set_option maxRecDepth 20000 in
theorem gX9_copy_X7_spans : GoodIn wsX9_copy (wsV RX9 103 RX7 yX7_spans wsX7_spans) := goodIn_app (goodIn_of _ (by decide +kernel)) ggX9_copy_X7_spans
theorem dX9_copy_0 : decode cX9_copy 0 = .ok (.aload_n 0, 1) := by decide +kernel
theorem dX9_copy_1 : decode cX9_copy 1 = .ok (.iload_n 1, 1) := by decide +kernel
theorem dX9_copy_2 : decode cX9_copy 2 = .ok (.invokevirtual 67, 3) := by decide +kernel
theorem dX9_copy_5 : decode cX9_copy 5 = .ok (.astore 6, 2) := by decide +kernel
theorem dX9_copy_7 : decode cX9_copy 7 = .ok (.aload_n 0, 1) := by decide +kernel
theorem dX9_copy_8 : decode cX9_copy 8 = .ok (.iload_n 3, 1) := by decide +kernel
theorem dX9_copy_9 : decode cX9_copy 9 = .ok (.invokevirtual 67, 3) := by decide +kernel
theorem dX9_copy_12 : decode cX9_copy 12 = .ok (.astore 7, 2) := by decide +kernel
theorem dX9_copy_14 : decode cX9_copy 14 = .ok (.iload_n 1, 1) := by decide +kernel
theorem dX9_copy_15 : decode cX9_copy 15 = .ok (.invokestatic 63, 3) := by decide +kernel
theorem dX9_copy_18 : decode cX9_copy 18 = .ok (.ifCond .eq 10, 3) := by decide +kernel
theorem dX9_copy_21 : decode cX9_copy 21 = .ok (.iload_n 3, 1) := by decide +kernel
theorem dX9_copy_22 : decode cX9_copy 22 = .ok (.invokestatic 63, 3) := by decide +kernel
theorem dX9_copy_25 : decode cX9_copy 25 = .ok (.ifCond .ne 11, 3) := by decide +kernel
theorem dX9_copy_28 : decode cX9_copy 28 = .ok (.aload_n 0, 1) := by decide +kernel
theorem dX9_copy_29 : decode cX9_copy 29 = .ok (.iconst (-1), 1) := by decide +kernel
theorem dX9_copy_30 : decode cX9_copy 30 = .ok (.putfield 53, 3) := by decide +kernel
theorem dX9_copy_33 : decode cX9_copy 33 = .ok (.goto 99, 3) := by decide +kernel
theorem dX9_copy_36 : decode cX9_copy 36 = .ok (.aload 6, 2) := by decide +kernel
theorem dX9_copy_38 : decode cX9_copy 38 = .ok (.ifnull 8, 3) := by decide +kernel
theorem dX9_copy_41 : decode cX9_copy 41 = .ok (.aload 7, 2) := by decide +kernel
theorem dX9_copy_43 : decode cX9_copy 43 = .ok (.ifnonnull 12, 3) := by decide +kernel
theorem dX9_copy_46 : decode cX9_copy 46 = .ok (.aload_n 0, 1) := by decide +kernel
theorem dX9_copy_47 : decode cX9_copy 47 = .ok (.bipush (-5), 2) := by decide +kernel
theorem dX9_copy_49 : decode cX9_copy 49 = .ok (.putfield 53, 3) := by decide +kernel
theorem dX9_copy_52 : decode cX9_copy 52 = .ok (.goto 80, 3) := by decide +kernel
theorem dX9_copy_55 : decode cX9_copy 55 = .ok (.aload 6, 2) := by decide +kernel
theorem dX9_copy_57 : decode cX9_copy 57 = .ok (.getfield 85, 3) := by decide +kernel
theorem dX9_copy_60 : decode cX9_copy 60 = .ok (.aload 7, 2) := by decide +kernel
theorem dX9_copy_62 : decode cX9_copy 62 = .ok (.getfield 85, 3) := by decide +kernel
theorem dX9_copy_65 : decode cX9_copy 65 = .ok (.if_icmp .eq 12, 3) := by decide +kernel
theorem dX9_copy_68 : decode cX9_copy 68 = .ok (.aload_n 0, 1) := by decide +kernel
theorem dX9_copy_69 : decode cX9_copy 69 = .ok (.bipush (-9), 2) := by decide +kernel
theorem dX9_copy_71 : decode cX9_copy 71 = .ok (.putfield 53, 3) := by decide +kernel
theorem dX9_copy_74 : decode cX9_copy 74 = .ok (.goto 58, 3) := by decide +kernel
theorem dX9_copy_77 : decode cX9_copy 77 = .ok (.aload 6, 2) := by decide +kernel
theorem dX9_copy_79 : decode cX9_copy 79 = .ok (.iload_n 2, 1) := by decide +kernel
theorem dX9_copy_80 : decode cX9_copy 80 = .ok (.iload 5, 2) := by decide +kernel
theorem dX9_copy_82 : decode cX9_copy 82 = .ok (.invokevirtual 103, 3) := by decide +kernel
theorem dX9_copy_85 : decode cX9_copy 85 = .ok (.ifCond .eq 15, 3) := by decide +kernel
theorem dX9_copy_88 : decode cX9_copy 88 = .ok (.aload 7, 2) := by decide +kernel
theorem dX9_copy_90 : decode cX9_copy 90 = .ok (.iload 4, 2) := by decide +kernel
theorem dX9_copy_92 : decode cX9_copy 92 = .ok (.iload 5, 2) := by decide +kernel
theorem dX9_copy_94 : decode cX9_copy 94 = .ok (.invokevirtual 103, 3) := by decide +kernel
theorem dX9_copy_97 : decode cX9_copy 97 = .ok (.ifCond .ne 12, 3) := by decide +kernel
theorem dX9_copy_100 : decode cX9_copy 100 = .ok (.aload_n 0, 1) := by decide +kernel
theorem dX9_copy_101 : decode cX9_copy 101 = .ok (.bipush (-7), 2) := by decide +kernel
theorem dX9_copy_103 : decode cX9_copy 103 = .ok (.putfield 53, 3) := by decide +kernel
theorem dX9_copy_106 : decode cX9_copy 106 = .ok (.goto 26, 3) := by decide +kernel
theorem dX9_copy_109 : decode cX9_copy 109 = .ok (.aload 6, 2) := by decide +kernel
theorem dX9_copy_111 : decode cX9_copy 111 = .ok (.getfield 88, 3) := by decide +kernel
theorem dX9_copy_114 : decode cX9_copy 114 = .ok (.iload_n 2, 1) := by decide +kernel
theorem dX9_copy_115 : decode cX9_copy 115 = .ok (.aload 7, 2) := by decide +kernel
theorem dX9_copy_117 : decode cX9_copy 117 = .ok (.getfield 88, 3) := by decide +kernel
theorem dX9_copy_120 : decode cX9_copy 120 = .ok (.iload 4, 2) := by decide +kernel
theorem dX9_copy_122 : decode cX9_copy 122 = .ok (.iload 5, 2) := by decide +kernel
theorem dX9_copy_124 : decode cX9_copy 124 = .ok (.invokestatic 107, 3) := by decide +kernel
theorem dX9_copy_127 : decode cX9_copy 127 = .ok (.aload_n 0, 1) := by decide +kernel
theorem dX9_copy_128 : decode cX9_copy 128 = .ok (.iconst 0, 1) := by decide +kernel
theorem dX9_copy_129 : decode cX9_copy 129 = .ok (.putfield 53, 3) := by decide +kernel
theorem dX9_copy_132 : decode cX9_copy 132 = .ok (.aload_n 0, 1) := by decide +kernel
theorem dX9_copy_133 : decode cX9_copy 133 = .ok (.getfield 53, 3) := by decide +kernel
theorem dX9_copy_136 : decode cX9_copy 136 = .ok (.ifCond .ne 7, 3) := by decide +kernel
theorem dX9_copy_139 : decode cX9_copy 139 = .ok (.iconst 1, 1) := by decide +kernel
theorem dX9_copy_140 : decode cX9_copy 140 = .ok (.goto 7, 3) := by decide +kernel
theorem dX9_copy_143 : decode cX9_copy 143 = .ok (.aload_n 0, 1) := by decide +kernel
theorem dX9_copy_144 : decode cX9_copy 144 = .ok (.getfield 53, 3) := by decide +kernel
theorem dX9_copy_147 : decode cX9_copy 147 = .ok (.ireturn, 1) := by decide +kernel
set_option maxRecDepth 20000 in
theorem ggX9_bind_X9_isLane : GoodIn wsX9_bind wsX9_isLane := goodIn_r _ [5] (by decide +kernel) (by decide +kernel)
set_option maxRecDepth 20000 in
theorem gX9_bind_X9_isLane : GoodIn wsX9_bind (va_wsS RX9 79 yX9_isLane wsX9_isLane) := goodIn_app (goodIn_of _ (by decide +kernel)) ggX9_bind_X9_isLane
theorem dX9_bind_0 : decode cX9_bind 0 = .ok (.iload_n 1, 1) := by decide +kernel
theorem dX9_bind_1 : decode cX9_bind 1 = .ok (.invokestatic 79, 3) := by decide +kernel
theorem dX9_bind_4 : decode cX9_bind 4 = .ok (.ifCond .ne 6, 3) := by decide +kernel
theorem dX9_bind_7 : decode cX9_bind 7 = .ok (.bipush (-2), 2) := by decide +kernel
theorem dX9_bind_9 : decode cX9_bind 9 = .ok (.ireturn, 1) := by decide +kernel
theorem dX9_bind_10 : decode cX9_bind 10 = .ok (.aload_n 0, 1) := by decide +kernel
theorem dX9_bind_11 : decode cX9_bind 11 = .ok (.getfield 31, 3) := by decide +kernel
theorem dX9_bind_14 : decode cX9_bind 14 = .ok (.istore_n 2, 1) := by decide +kernel
theorem dX9_bind_15 : decode cX9_bind 15 = .ok (.aload_n 0, 1) := by decide +kernel
theorem dX9_bind_16 : decode cX9_bind 16 = .ok (.iload_n 1, 1) := by decide +kernel
theorem dX9_bind_17 : decode cX9_bind 17 = .ok (.putfield 31, 3) := by decide +kernel
theorem dX9_bind_20 : decode cX9_bind 20 = .ok (.iload_n 2, 1) := by decide +kernel
theorem dX9_bind_21 : decode cX9_bind 21 = .ok (.ireturn, 1) := by decide +kernel
set_option maxRecDepth 20000 in
theorem ggX9_function_X3_init : GoodIn wsX9_function wsX3_init := goodIn_r _ [8, 9, 10, 11, 12, 13, 25, 26] (by decide +kernel) (by decide +kernel)
set_option maxRecDepth 20000 in
theorem gX9_function_X3_init : GoodIn wsX9_function (wsX3_init) := ggX9_function_X3_init
theorem dX9_function_0 : decode cX9_function 0 = .ok (.iload_n 1, 1) := by decide +kernel
theorem dX9_function_1 : decode cX9_function 1 = .ok (.ifCond .lt 8, 3) := by decide +kernel
theorem dX9_function_4 : decode cX9_function 4 = .ok (.iload_n 1, 1) := by decide +kernel
theorem dX9_function_5 : decode cX9_function 5 = .ok (.iconst 5, 1) := by decide +kernel
theorem dX9_function_6 : decode cX9_function 6 = .ok (.if_icmp .le 5, 3) := by decide +kernel
theorem dX9_function_9 : decode cX9_function 9 = .ok (.iconst (-1), 1) := by decide +kernel
theorem dX9_function_10 : decode cX9_function 10 = .ok (.ireturn, 1) := by decide +kernel
theorem dX9_function_11 : decode cX9_function 11 = .ok (.aload_n 0, 1) := by decide +kernel
theorem dX9_function_12 : decode cX9_function 12 = .ok (.getfield 113, 3) := by decide +kernel
theorem dX9_function_15 : decode cX9_function 15 = .ok (.bipush 8, 2) := by decide +kernel
theorem dX9_function_17 : decode cX9_function 17 = .ok (.if_icmp .lt 6, 3) := by decide +kernel
theorem dX9_function_20 : decode cX9_function 20 = .ok (.bipush (-2), 2) := by decide +kernel
theorem dX9_function_22 : decode cX9_function 22 = .ok (.ireturn, 1) := by decide +kernel
theorem dX9_function_23 : decode cX9_function 23 = .ok (.aload_n 0, 1) := by decide +kernel
theorem dX9_function_24 : decode cX9_function 24 = .ok (.getfield 23, 3) := by decide +kernel
theorem dX9_function_27 : decode cX9_function 27 = .ok (.aload_n 0, 1) := by decide +kernel
theorem dX9_function_28 : decode cX9_function 28 = .ok (.getfield 113, 3) := by decide +kernel
theorem dX9_function_31 : decode cX9_function 31 = .ok (.new 21, 3) := by decide +kernel
theorem dX9_function_34 : decode cX9_function 34 = .ok (.dup, 1) := by decide +kernel
theorem dX9_function_35 : decode cX9_function 35 = .ok (.iload_n 1, 1) := by decide +kernel
theorem dX9_function_36 : decode cX9_function 36 = .ok (.iload_n 2, 1) := by decide +kernel
theorem dX9_function_37 : decode cX9_function 37 = .ok (.invokespecial 116, 3) := by decide +kernel
theorem dX9_function_40 : decode cX9_function 40 = .ok (.aastore, 1) := by decide +kernel
theorem dX9_function_41 : decode cX9_function 41 = .ok (.aload_n 0, 1) := by decide +kernel
theorem dX9_function_42 : decode cX9_function 42 = .ok (.dup, 1) := by decide +kernel
theorem dX9_function_43 : decode cX9_function 43 = .ok (.getfield 113, 3) := by decide +kernel
theorem dX9_function_46 : decode cX9_function 46 = .ok (.iconst 1, 1) := by decide +kernel
theorem dX9_function_47 : decode cX9_function 47 = .ok (.iadd, 1) := by decide +kernel
theorem dX9_function_48 : decode cX9_function 48 = .ok (.putfield 113, 3) := by decide +kernel
theorem dX9_function_51 : decode cX9_function 51 = .ok (.aload_n 0, 1) := by decide +kernel
theorem dX9_function_52 : decode cX9_function 52 = .ok (.getfield 113, 3) := by decide +kernel
theorem dX9_function_55 : decode cX9_function 55 = .ok (.iconst 1, 1) := by decide +kernel
theorem dX9_function_56 : decode cX9_function 56 = .ok (.isub, 1) := by decide +kernel
theorem dX9_function_57 : decode cX9_function 57 = .ok (.ireturn, 1) := by decide +kernel
set_option maxRecDepth 20000 in
theorem ggX9_play_X9_instrumentAt : GoodIn wsX9_play wsX9_instrumentAt := goodIn_r _ [8, 9, 10, 153, 154, 155, 156, 157, 158, 159, 160, 161, 162, 163] (by decide +kernel) (by decide +kernel)
set_option maxRecDepth 20000 in
theorem gX9_play_X9_instrumentAt : GoodIn wsX9_play (wsV RX9 42 RX9 yX9_instrumentAt wsX9_instrumentAt) := goodIn_app (goodIn_of _ (by decide +kernel)) ggX9_play_X9_instrumentAt
set_option maxRecDepth 20000 in
theorem ggX9_play_X9_functionAt : GoodIn wsX9_play wsX9_functionAt := goodIn_r _ [14, 15, 16, 153, 154, 155, 156, 157, 158, 159, 160, 161, 162, 163] (by decide +kernel) (by decide +kernel)
set_option maxRecDepth 20000 in
theorem gX9_play_X9_functionAt : GoodIn wsX9_play (wsV RX9 119 RX9 yX9_functionAt wsX9_functionAt) := goodIn_app (goodIn_of _ (by decide +kernel)) ggX9_play_X9_functionAt
set_option maxRecDepth 20000 in
theorem ggX9_play_X9_isBlock : GoodIn wsX9_play wsX9_isBlock := goodIn_r _ [19] (by decide +kernel) (by decide +kernel)
set_option maxRecDepth 20000 in
theorem gX9_play_X9_isBlock : GoodIn wsX9_play (va_wsS RX9 63 yX9_isBlock wsX9_isBlock) := goodIn_app (goodIn_of _ (by decide +kernel)) ggX9_play_X9_isBlock
set_option maxRecDepth 20000 in
theorem ggX9_play_X9_heldBy : GoodIn wsX9_play wsX9_heldBy := goodIn_r _ [23, 24, 17, 18, 7, 19, 153, 154, 155, 156, 157, 158, 159, 160, 161, 162, 163] (by decide +kernel) (by decide +kernel)
set_option maxRecDepth 20000 in
theorem gX9_play_X9_heldBy : GoodIn wsX9_play (wsV RX9 67 RX9 yX9_heldBy wsX9_heldBy) := goodIn_app (goodIn_of _ (by decide +kernel)) ggX9_play_X9_heldBy
set_option maxRecDepth 20000 in
theorem ggX9_play_X9_againstBlock : GoodIn wsX9_play wsX9_againstBlock := goodIn_r _ [28, 29, 30, 31, 32, 33, 34, 35, 36, 164, 165, 153, 154, 155, 156, 157, 158, 159, 160, 161, 162, 163] (by decide +kernel) (by decide +kernel)
set_option maxRecDepth 20000 in
theorem gX9_play_X9_againstBlock : GoodIn wsX9_play (wsV RX9 123 RX9 yX9_againstBlock wsX9_againstBlock) := goodIn_app (goodIn_of _ (by decide +kernel)) ggX9_play_X9_againstBlock
set_option maxRecDepth 20000 in
theorem ggX9_play_X9_gather : GoodIn wsX9_play wsX9_gather := goodIn_r _ [40, 41, 42, 43, 44, 45, 46, 47, 48, 49, 50, 51, 52, 53, 54, 55, 56, 57, 58, 59, 60, 61, 62, 63, 64, 65, 66, 67, 68, 69, 70, 71, 72, 73, 74, 75, 76, 77, 78, 79, 80, 81, 82, 83, 84, 85, 86, 87, 88, 89, 90, 91, 92, 93, 94, 95, 96, 97, 98, 99, 100, 101, 102, 103, 104, 105, 106, 107, 108, 109, 110, 111, 112, 113, 114, 115, 116, 117, 118, 119, 120, 121, 122, 34, 123, 36, 124, 125, 126, 127, 128, 129, 130, 131, 132, 133, 134, 135, 136, 137, 138, 139, 153, 154, 155, 156, 157, 158, 159, 160, 161, 162, 163, 166, 167, 168, 169, 170, 171, 172, 173, 174, 175, 176, 177, 178, 179, 180, 181, 182, 183, 184, 185, 186, 187, 188, 189, 190, 191, 192, 193, 194, 195, 196, 197, 198, 199, 200, 164, 165, 201, 202] (by decide +kernel) (by decide +kernel)
set_option maxRecDepth 20000 in
theorem gX9_play_X9_gather : GoodIn wsX9_play (wsV RX9 127 RX9 yX9_gather wsX9_gather) := goodIn_app (goodIn_of _ (by decide +kernel)) ggX9_play_X9_gather
set_option maxRecDepth 20000 in
theorem ggX9_play_X9_deliver : GoodIn wsX9_play wsX9_deliver := goodIn_r _ [143, 43, 144, 145, 146, 34, 147, 36, 148, 149, 150, 151, 152, 153, 154, 155, 156, 157, 158, 159, 160, 161, 162, 163, 164, 165] (by decide +kernel) (by decide +kernel)
set_option maxRecDepth 20000 in
theorem gX9_play_X9_deliver : GoodIn wsX9_play (wsV RX9 131 RX9 yX9_deliver wsX9_deliver) := goodIn_app (goodIn_of _ (by decide +kernel)) ggX9_play_X9_deliver
theorem dX9_play_0 : decode cX9_play 0 = .ok (.aload_n 0, 1) := by decide +kernel
theorem dX9_play_1 : decode cX9_play 1 = .ok (.iload_n 1, 1) := by decide +kernel
theorem dX9_play_2 : decode cX9_play 2 = .ok (.invokevirtual 42, 3) := by decide +kernel
theorem dX9_play_5 : decode cX9_play 5 = .ok (.astore 7, 2) := by decide +kernel
theorem dX9_play_7 : decode cX9_play 7 = .ok (.iload_n 2, 1) := by decide +kernel
theorem dX9_play_8 : decode cX9_play 8 = .ok (.iconst 2, 1) := by decide +kernel
theorem dX9_play_9 : decode cX9_play 9 = .ok (.if_icmp .ne 11, 3) := by decide +kernel
theorem dX9_play_12 : decode cX9_play 12 = .ok (.aload_n 0, 1) := by decide +kernel
theorem dX9_play_13 : decode cX9_play 13 = .ok (.iload_n 3, 1) := by decide +kernel
theorem dX9_play_14 : decode cX9_play 14 = .ok (.invokevirtual 119, 3) := by decide +kernel
theorem dX9_play_17 : decode cX9_play 17 = .ok (.goto 4, 3) := by decide +kernel
theorem dX9_play_20 : decode cX9_play 20 = .ok (.aconst_null, 1) := by decide +kernel
theorem dX9_play_21 : decode cX9_play 21 = .ok (.astore 8, 2) := by decide +kernel
theorem dX9_play_23 : decode cX9_play 23 = .ok (.iload_n 2, 1) := by decide +kernel
theorem dX9_play_24 : decode cX9_play 24 = .ok (.ifCond .eq 13, 3) := by decide +kernel
theorem dX9_play_27 : decode cX9_play 27 = .ok (.iload_n 2, 1) := by decide +kernel
theorem dX9_play_28 : decode cX9_play 28 = .ok (.iconst 1, 1) := by decide +kernel
theorem dX9_play_29 : decode cX9_play 29 = .ok (.if_icmp .eq 8, 3) := by decide +kernel
theorem dX9_play_32 : decode cX9_play 32 = .ok (.aload 8, 2) := by decide +kernel
theorem dX9_play_34 : decode cX9_play 34 = .ok (.ifnull 7, 3) := by decide +kernel
theorem dX9_play_37 : decode cX9_play 37 = .ok (.iconst 1, 1) := by decide +kernel
theorem dX9_play_38 : decode cX9_play 38 = .ok (.goto 4, 3) := by decide +kernel
theorem dX9_play_41 : decode cX9_play 41 = .ok (.iconst 0, 1) := by decide +kernel
theorem dX9_play_42 : decode cX9_play 42 = .ok (.istore 9, 2) := by decide +kernel
theorem dX9_play_44 : decode cX9_play 44 = .ok (.aload 7, 2) := by decide +kernel
theorem dX9_play_46 : decode cX9_play 46 = .ok (.ifnull 16, 3) := by decide +kernel
theorem dX9_play_49 : decode cX9_play 49 = .ok (.iload 9, 2) := by decide +kernel
theorem dX9_play_51 : decode cX9_play 51 = .ok (.ifCond .eq 11, 3) := by decide +kernel
theorem dX9_play_54 : decode cX9_play 54 = .ok (.iload 4, 2) := by decide +kernel
theorem dX9_play_56 : decode cX9_play 56 = .ok (.invokestatic 63, 3) := by decide +kernel
theorem dX9_play_59 : decode cX9_play 59 = .ok (.ifCond .ne 10, 3) := by decide +kernel
theorem dX9_play_62 : decode cX9_play 62 = .ok (.aload_n 0, 1) := by decide +kernel
theorem dX9_play_63 : decode cX9_play 63 = .ok (.iconst (-1), 1) := by decide +kernel
theorem dX9_play_64 : decode cX9_play 64 = .ok (.putfield 53, 3) := by decide +kernel
theorem dX9_play_67 : decode cX9_play 67 = .ok (.iconst (-1), 1) := by decide +kernel
theorem dX9_play_68 : decode cX9_play 68 = .ok (.ireturn, 1) := by decide +kernel
theorem dX9_play_69 : decode cX9_play 69 = .ok (.aload_n 0, 1) := by decide +kernel
theorem dX9_play_70 : decode cX9_play 70 = .ok (.iload 4, 2) := by decide +kernel
theorem dX9_play_72 : decode cX9_play 72 = .ok (.invokevirtual 67, 3) := by decide +kernel
theorem dX9_play_75 : decode cX9_play 75 = .ok (.astore 10, 2) := by decide +kernel
theorem dX9_play_77 : decode cX9_play 77 = .ok (.aload_n 0, 1) := by decide +kernel
theorem dX9_play_78 : decode cX9_play 78 = .ok (.aload 10, 2) := by decide +kernel
theorem dX9_play_80 : decode cX9_play 80 = .ok (.iload_n 2, 1) := by decide +kernel
theorem dX9_play_81 : decode cX9_play 81 = .ok (.iload 5, 2) := by decide +kernel
theorem dX9_play_83 : decode cX9_play 83 = .ok (.iload 6, 2) := by decide +kernel
theorem dX9_play_85 : decode cX9_play 85 = .ok (.invokevirtual 123, 3) := by decide +kernel
theorem dX9_play_88 : decode cX9_play 88 = .ok (.istore 11, 2) := by decide +kernel
theorem dX9_play_90 : decode cX9_play 90 = .ok (.iload 11, 2) := by decide +kernel
theorem dX9_play_92 : decode cX9_play 92 = .ok (.ifCond .ne 27, 3) := by decide +kernel
theorem dX9_play_95 : decode cX9_play 95 = .ok (.aload_n 0, 1) := by decide +kernel
theorem dX9_play_96 : decode cX9_play 96 = .ok (.aload 7, 2) := by decide +kernel
theorem dX9_play_98 : decode cX9_play 98 = .ok (.aload 8, 2) := by decide +kernel
theorem dX9_play_100 : decode cX9_play 100 = .ok (.iload 6, 2) := by decide +kernel
theorem dX9_play_102 : decode cX9_play 102 = .ok (.invokevirtual 127, 3) := by decide +kernel
theorem dX9_play_105 : decode cX9_play 105 = .ok (.istore 11, 2) := by decide +kernel
theorem dX9_play_107 : decode cX9_play 107 = .ok (.aload_n 0, 1) := by decide +kernel
theorem dX9_play_108 : decode cX9_play 108 = .ok (.aload 10, 2) := by decide +kernel
theorem dX9_play_110 : decode cX9_play 110 = .ok (.iload 5, 2) := by decide +kernel
theorem dX9_play_112 : decode cX9_play 112 = .ok (.iload 6, 2) := by decide +kernel
theorem dX9_play_114 : decode cX9_play 114 = .ok (.iload 11, 2) := by decide +kernel
theorem dX9_play_116 : decode cX9_play 116 = .ok (.invokevirtual 131, 3) := by decide +kernel
theorem dX9_play_119 : decode cX9_play 119 = .ok (.aload_n 0, 1) := by decide +kernel
theorem dX9_play_120 : decode cX9_play 120 = .ok (.iload 11, 2) := by decide +kernel
theorem dX9_play_122 : decode cX9_play 122 = .ok (.putfield 53, 3) := by decide +kernel
theorem dX9_play_125 : decode cX9_play 125 = .ok (.iload 11, 2) := by decide +kernel
theorem dX9_play_127 : decode cX9_play 127 = .ok (.ifCond .eq 16, 3) := by decide +kernel
theorem dX9_play_130 : decode cX9_play 130 = .ok (.aload_n 0, 1) := by decide +kernel
theorem dX9_play_131 : decode cX9_play 131 = .ok (.dup, 1) := by decide +kernel
theorem dX9_play_132 : decode cX9_play 132 = .ok (.getfield 135, 3) := by decide +kernel
theorem dX9_play_135 : decode cX9_play 135 = .ok (.iconst 1, 1) := by decide +kernel
theorem dX9_play_136 : decode cX9_play 136 = .ok (.iadd, 1) := by decide +kernel
theorem dX9_play_137 : decode cX9_play 137 = .ok (.putfield 135, 3) := by decide +kernel
theorem dX9_play_140 : decode cX9_play 140 = .ok (.iload 11, 2) := by decide +kernel
theorem dX9_play_142 : decode cX9_play 142 = .ok (.ireturn, 1) := by decide +kernel
theorem dX9_play_143 : decode cX9_play 143 = .ok (.aload_n 0, 1) := by decide +kernel
theorem dX9_play_144 : decode cX9_play 144 = .ok (.dup, 1) := by decide +kernel
theorem dX9_play_145 : decode cX9_play 145 = .ok (.getfield 138, 3) := by decide +kernel
theorem dX9_play_148 : decode cX9_play 148 = .ok (.iconst 1, 1) := by decide +kernel
theorem dX9_play_149 : decode cX9_play 149 = .ok (.iadd, 1) := by decide +kernel
theorem dX9_play_150 : decode cX9_play 150 = .ok (.putfield 138, 3) := by decide +kernel
theorem dX9_play_153 : decode cX9_play 153 = .ok (.iload 6, 2) := by decide +kernel
theorem dX9_play_155 : decode cX9_play 155 = .ok (.ireturn, 1) := by decide +kernel
set_option maxRecDepth 20000 in
theorem ggX9_agree_X9_instrumentAt : GoodIn wsX9_agree wsX9_instrumentAt := goodIn_r _ [7, 8, 9, 163, 164, 165, 166, 167, 168, 169, 170, 171, 172, 173] (by decide +kernel) (by decide +kernel)
set_option maxRecDepth 20000 in
theorem gX9_agree_X9_instrumentAt : GoodIn wsX9_agree (wsV RX9 42 RX9 yX9_instrumentAt wsX9_instrumentAt) := goodIn_app (goodIn_of _ (by decide +kernel)) ggX9_agree_X9_instrumentAt
set_option maxRecDepth 20000 in
theorem ggX9_agree_X9_functionAt : GoodIn wsX9_agree wsX9_functionAt := goodIn_r _ [13, 14, 15, 163, 164, 165, 166, 167, 168, 169, 170, 171, 172, 173] (by decide +kernel) (by decide +kernel)
set_option maxRecDepth 20000 in
theorem gX9_agree_X9_functionAt : GoodIn wsX9_agree (wsV RX9 119 RX9 yX9_functionAt wsX9_functionAt) := goodIn_app (goodIn_of _ (by decide +kernel)) ggX9_agree_X9_functionAt
set_option maxRecDepth 20000 in
theorem ggX9_agree_X9_staysAlike : GoodIn wsX9_agree wsX9_staysAlike := goodIn_r _ [18, 19, 20, 21, 22, 23, 24, 25, 26, 27, 28, 29, 30, 31, 32, 33, 34, 35, 36, 37, 38, 39, 40, 41, 42, 43, 44, 45, 46, 47, 48, 49, 50, 51, 52, 53, 54, 55, 56, 57, 58, 59, 60, 61, 62, 63, 64, 65, 66, 67, 68, 69, 70, 71, 72, 73, 74, 75, 76, 77, 78, 79, 80, 81, 82, 83, 84, 85, 86, 87, 88, 89, 90, 91, 92, 93, 94, 95, 96, 97, 98, 99, 100, 101, 102, 103, 104, 105, 106, 107, 108, 109, 110, 111, 112, 113, 114, 115, 116, 117, 128, 129, 130, 131, 132, 133, 134, 135, 136, 137, 138, 139, 140, 141, 142, 143, 144, 145, 146, 147, 148, 149, 150, 151, 152, 153, 154, 155, 156, 157, 158, 159, 160, 161, 162, 174, 175, 176, 177] (by decide +kernel) (by decide +kernel)
set_option maxRecDepth 20000 in
theorem gX9_agree_X9_staysAlike : GoodIn wsX9_agree (va_wsS RX9 145 yX9_staysAlike wsX9_staysAlike) := goodIn_app (goodIn_of _ (by decide +kernel)) ggX9_agree_X9_staysAlike
set_option maxRecDepth 20000 in
theorem ggX9_agree_X5_goBack : GoodIn wsX9_agree wsX5_goBack := goodIn_r _ [122, 27, 123, 128, 129, 130, 131, 132, 133, 134, 135, 136, 137, 138, 139, 140, 141, 142, 143, 144, 145, 146, 147, 148, 149, 150, 151, 152, 153, 154, 155, 156, 157, 158, 159, 160, 161, 162] (by decide +kernel) (by decide +kernel)
set_option maxRecDepth 20000 in
theorem gX9_agree_X5_goBack_u149X0 : GoodIn wsX9_agree (va_wsU RX9 149 RX0 "CallWays2$Instrument" ⟨"CallWays2$Instrument", "goBack", "(ID)V"⟩ yX5_goBack wsX5_goBack) := goodIn_app (goodIn_of _ (by decide +kernel)) ggX9_agree_X5_goBack
set_option maxRecDepth 20000 in
theorem gX9_agree_X5_goBack_u149X2 : GoodIn wsX9_agree (va_wsU RX9 149 RX2 "CallWays2$Instrument" ⟨"CallWays2$Instrument", "goBack", "(ID)V"⟩ yX5_goBack wsX5_goBack) := goodIn_app (goodIn_of _ (by decide +kernel)) ggX9_agree_X5_goBack
set_option maxRecDepth 20000 in
theorem gX9_agree_X5_goBack_u149X4 : GoodIn wsX9_agree (va_wsU RX9 149 RX4 "CallWays2$Instrument" ⟨"CallWays2$Instrument", "goBack", "(ID)V"⟩ yX5_goBack wsX5_goBack) := goodIn_app (goodIn_of _ (by decide +kernel)) ggX9_agree_X5_goBack
set_option maxRecDepth 20000 in
theorem gX9_agree_X5_goBack_u149X6 : GoodIn wsX9_agree (va_wsU RX9 149 RX6 "CallWays2$Instrument" ⟨"CallWays2$Instrument", "goBack", "(ID)V"⟩ yX5_goBack wsX5_goBack) := goodIn_app (goodIn_of _ (by decide +kernel)) ggX9_agree_X5_goBack
set_option maxRecDepth 20000 in
theorem gX9_agree_X5_goBack_u149X8 : GoodIn wsX9_agree (va_wsU RX9 149 RX8 "CallWays2$Instrument" ⟨"CallWays2$Instrument", "goBack", "(ID)V"⟩ yX5_goBack wsX5_goBack) := goodIn_app (goodIn_of _ (by decide +kernel)) ggX9_agree_X5_goBack
theorem dX9_agree_0 : decode cX9_agree 0 = .ok (.aload_n 0, 1) := by decide +kernel
theorem dX9_agree_1 : decode cX9_agree 1 = .ok (.iload_n 1, 1) := by decide +kernel
theorem dX9_agree_2 : decode cX9_agree 2 = .ok (.invokevirtual 42, 3) := by decide +kernel
theorem dX9_agree_5 : decode cX9_agree 5 = .ok (.astore 4, 2) := by decide +kernel
theorem dX9_agree_7 : decode cX9_agree 7 = .ok (.aload_n 0, 1) := by decide +kernel
theorem dX9_agree_8 : decode cX9_agree 8 = .ok (.iload_n 2, 1) := by decide +kernel
theorem dX9_agree_9 : decode cX9_agree 9 = .ok (.invokevirtual 119, 3) := by decide +kernel
theorem dX9_agree_12 : decode cX9_agree 12 = .ok (.astore 5, 2) := by decide +kernel
theorem dX9_agree_14 : decode cX9_agree 14 = .ok (.aload 4, 2) := by decide +kernel
theorem dX9_agree_16 : decode cX9_agree 16 = .ok (.ifnull 18, 3) := by decide +kernel
theorem dX9_agree_19 : decode cX9_agree 19 = .ok (.aload 5, 2) := by decide +kernel
theorem dX9_agree_21 : decode cX9_agree 21 = .ok (.ifnull 13, 3) := by decide +kernel
theorem dX9_agree_24 : decode cX9_agree 24 = .ok (.iload_n 3, 1) := by decide +kernel
theorem dX9_agree_25 : decode cX9_agree 25 = .ok (.ifCond .lt 9, 3) := by decide +kernel
theorem dX9_agree_28 : decode cX9_agree 28 = .ok (.iload_n 3, 1) := by decide +kernel
theorem dX9_agree_29 : decode cX9_agree 29 = .ok (.bipush 40, 2) := by decide +kernel
theorem dX9_agree_31 : decode cX9_agree 31 = .ok (.if_icmp .le 5, 3) := by decide +kernel
theorem dX9_agree_34 : decode cX9_agree 34 = .ok (.iconst 0, 1) := by decide +kernel
theorem dX9_agree_35 : decode cX9_agree 35 = .ok (.ireturn, 1) := by decide +kernel
theorem dX9_agree_36 : decode cX9_agree 36 = .ok (.aload 4, 2) := by decide +kernel
theorem dX9_agree_38 : decode cX9_agree 38 = .ok (.getfield 60, 3) := by decide +kernel
theorem dX9_agree_41 : decode cX9_agree 41 = .ok (.istore 6, 2) := by decide +kernel
theorem dX9_agree_43 : decode cX9_agree 43 = .ok (.aload 4, 2) := by decide +kernel
theorem dX9_agree_45 : decode cX9_agree 45 = .ok (.getfield 141, 3) := by decide +kernel
theorem dX9_agree_48 : decode cX9_agree 48 = .ok (.dstore 7, 2) := by decide +kernel
theorem dX9_agree_50 : decode cX9_agree 50 = .ok (.aload 4, 2) := by decide +kernel
theorem dX9_agree_52 : decode cX9_agree 52 = .ok (.aload 5, 2) := by decide +kernel
theorem dX9_agree_54 : decode cX9_agree 54 = .ok (.iload_n 3, 1) := by decide +kernel
theorem dX9_agree_55 : decode cX9_agree 55 = .ok (.invokestatic 145, 3) := by decide +kernel
theorem dX9_agree_58 : decode cX9_agree 58 = .ok (.istore 9, 2) := by decide +kernel
theorem dX9_agree_60 : decode cX9_agree 60 = .ok (.aload 4, 2) := by decide +kernel
theorem dX9_agree_62 : decode cX9_agree 62 = .ok (.iload 6, 2) := by decide +kernel
theorem dX9_agree_64 : decode cX9_agree 64 = .ok (.dload 7, 2) := by decide +kernel
theorem dX9_agree_66 : decode cX9_agree 66 = .ok (.invokevirtual 149, 3) := by decide +kernel
theorem dX9_agree_69 : decode cX9_agree 69 = .ok (.iload 9, 2) := by decide +kernel
theorem dX9_agree_71 : decode cX9_agree 71 = .ok (.ireturn, 1) := by decide +kernel
set_option maxRecDepth 20000 in
theorem ggX9_find_X3_refuses : GoodIn wsX9_find wsX3_refuses := goodIn_r _ [7, 8, 9, 25, 26] (by decide +kernel) (by decide +kernel)
set_option maxRecDepth 20000 in
theorem gX9_find_X3_refuses : GoodIn wsX9_find (wsV RX9 152 RX3 yX3_refuses wsX3_refuses) := goodIn_app (goodIn_of _ (by decide +kernel)) ggX9_find_X3_refuses
set_option maxRecDepth 20000 in
theorem ggX9_find_X3_pass : GoodIn wsX9_find wsX3_pass := goodIn_r _ [13, 8, 9, 25, 26] (by decide +kernel) (by decide +kernel)
set_option maxRecDepth 20000 in
theorem gX9_find_X3_pass : GoodIn wsX9_find (wsV RX9 156 RX3 yX3_pass wsX3_pass) := goodIn_app (goodIn_of _ (by decide +kernel)) ggX9_find_X3_pass
theorem dX9_find_0 : decode cX9_find 0 = .ok (.iconst 0, 1) := by decide +kernel
theorem dX9_find_1 : decode cX9_find 1 = .ok (.istore_n 3, 1) := by decide +kernel
theorem dX9_find_2 : decode cX9_find 2 = .ok (.iload_n 3, 1) := by decide +kernel
theorem dX9_find_3 : decode cX9_find 3 = .ok (.aload_n 0, 1) := by decide +kernel
theorem dX9_find_4 : decode cX9_find 4 = .ok (.getfield 113, 3) := by decide +kernel
theorem dX9_find_7 : decode cX9_find 7 = .ok (.if_icmp .ge 42, 3) := by decide +kernel
theorem dX9_find_10 : decode cX9_find 10 = .ok (.aload_n 0, 1) := by decide +kernel
theorem dX9_find_11 : decode cX9_find 11 = .ok (.getfield 23, 3) := by decide +kernel
theorem dX9_find_14 : decode cX9_find 14 = .ok (.iload_n 3, 1) := by decide +kernel
theorem dX9_find_15 : decode cX9_find 15 = .ok (.aaload, 1) := by decide +kernel
theorem dX9_find_16 : decode cX9_find 16 = .ok (.iload_n 1, 1) := by decide +kernel
theorem dX9_find_17 : decode cX9_find 17 = .ok (.i2d, 1) := by decide +kernel
theorem dX9_find_18 : decode cX9_find 18 = .ok (.invokevirtual 152, 3) := by decide +kernel
theorem dX9_find_21 : decode cX9_find 21 = .ok (.ifCond .ne 22, 3) := by decide +kernel
theorem dX9_find_24 : decode cX9_find 24 = .ok (.aload_n 0, 1) := by decide +kernel
theorem dX9_find_25 : decode cX9_find 25 = .ok (.getfield 23, 3) := by decide +kernel
theorem dX9_find_28 : decode cX9_find 28 = .ok (.iload_n 3, 1) := by decide +kernel
theorem dX9_find_29 : decode cX9_find 29 = .ok (.aaload, 1) := by decide +kernel
theorem dX9_find_30 : decode cX9_find 30 = .ok (.iload_n 1, 1) := by decide +kernel
theorem dX9_find_31 : decode cX9_find 31 = .ok (.i2d, 1) := by decide +kernel
theorem dX9_find_32 : decode cX9_find 32 = .ok (.invokevirtual 156, 3) := by decide +kernel
theorem dX9_find_35 : decode cX9_find 35 = .ok (.iload_n 2, 1) := by decide +kernel
theorem dX9_find_36 : decode cX9_find 36 = .ok (.i2d, 1) := by decide +kernel
theorem dX9_find_37 : decode cX9_find 37 = .ok (.dcmp .l, 1) := by decide +kernel
theorem dX9_find_38 : decode cX9_find 38 = .ok (.ifCond .ne 5, 3) := by decide +kernel
theorem dX9_find_41 : decode cX9_find 41 = .ok (.iload_n 3, 1) := by decide +kernel
theorem dX9_find_42 : decode cX9_find 42 = .ok (.ireturn, 1) := by decide +kernel
theorem dX9_find_43 : decode cX9_find 43 = .ok (.iinc 3 1, 3) := by decide +kernel
theorem dX9_find_46 : decode cX9_find 46 = .ok (.goto (-44), 3) := by decide +kernel
theorem dX9_find_49 : decode cX9_find 49 = .ok (.iconst (-1), 1) := by decide +kernel
theorem dX9_find_50 : decode cX9_find 50 = .ok (.ireturn, 1) := by decide +kernel
set_option maxRecDepth 20000 in
theorem ggX9_next_X9_instrumentAt : GoodIn wsX9_next wsX9_instrumentAt := goodIn_r _ [9, 10, 11, 122, 123, 124, 125, 126, 127, 128, 129, 130, 131, 132] (by decide +kernel) (by decide +kernel)
set_option maxRecDepth 20000 in
theorem gX9_next_X9_instrumentAt : GoodIn wsX9_next (wsV RX9 42 RX9 yX9_instrumentAt wsX9_instrumentAt) := goodIn_app (goodIn_of _ (by decide +kernel)) ggX9_next_X9_instrumentAt
set_option maxRecDepth 20000 in
theorem ggX9_next_X5_ask : GoodIn wsX9_next wsX5_ask := goodIn_r _ [17, 18, 19, 20, 21, 22, 23, 24, 25, 26, 27, 28, 29, 30, 31, 32, 33, 34, 16, 35, 36, 37, 38, 39, 40, 41, 42, 43, 44, 45, 46, 47, 48, 49, 50, 51, 52, 53, 54, 55, 56, 57, 58, 59, 60, 61, 62, 63, 64, 65, 66, 67, 68, 69, 70, 71, 72, 73, 74, 75, 76, 77, 78, 79, 80, 81, 82, 83, 84, 85, 86, 87, 88, 89, 90, 91, 92, 93, 94, 133, 134, 135, 136, 137, 138, 139, 140, 141, 142, 143, 144, 145, 146, 147, 148, 149, 150, 151, 152, 153, 154, 155, 156, 157, 158, 159, 160, 161, 162, 163, 164, 165, 166, 167, 168, 169] (by decide +kernel) (by decide +kernel)
set_option maxRecDepth 20000 in
theorem gX9_next_X5_ask_u160X0 : GoodIn wsX9_next (va_wsU RX9 160 RX0 "CallWays2$Instrument" ⟨"CallWays2$Instrument", "ask", "()D"⟩ yX5_ask wsX5_ask) := goodIn_app (goodIn_of _ (by decide +kernel)) ggX9_next_X5_ask
set_option maxRecDepth 20000 in
theorem gX9_next_X5_ask_u160X2 : GoodIn wsX9_next (va_wsU RX9 160 RX2 "CallWays2$Instrument" ⟨"CallWays2$Instrument", "ask", "()D"⟩ yX5_ask wsX5_ask) := goodIn_app (goodIn_of _ (by decide +kernel)) ggX9_next_X5_ask
set_option maxRecDepth 20000 in
theorem gX9_next_X5_ask_u160X4 : GoodIn wsX9_next (va_wsU RX9 160 RX4 "CallWays2$Instrument" ⟨"CallWays2$Instrument", "ask", "()D"⟩ yX5_ask wsX5_ask) := goodIn_app (goodIn_of _ (by decide +kernel)) ggX9_next_X5_ask
set_option maxRecDepth 20000 in
theorem gX9_next_X5_ask_u160X6 : GoodIn wsX9_next (va_wsU RX9 160 RX6 "CallWays2$Instrument" ⟨"CallWays2$Instrument", "ask", "()D"⟩ yX5_ask wsX5_ask) := goodIn_app (goodIn_of _ (by decide +kernel)) ggX9_next_X5_ask
set_option maxRecDepth 20000 in
theorem gX9_next_X5_ask_u160X8 : GoodIn wsX9_next (va_wsU RX9 160 RX8 "CallWays2$Instrument" ⟨"CallWays2$Instrument", "ask", "()D"⟩ yX5_ask wsX5_ask) := goodIn_app (goodIn_of _ (by decide +kernel)) ggX9_next_X5_ask
set_option maxRecDepth 20000 in
theorem ggX9_next_X5_goBack : GoodIn wsX9_next wsX5_goBack := goodIn_r _ [103, 19, 104, 133, 134, 135, 136, 137, 138, 139, 140, 141, 142, 143, 144, 145, 146, 147, 148, 149, 150, 151, 152, 153, 154, 155, 156, 157, 158, 159, 160, 161, 162, 163, 164, 165, 166, 167] (by decide +kernel) (by decide +kernel)
set_option maxRecDepth 20000 in
theorem gX9_next_X5_goBack_u149X0 : GoodIn wsX9_next (va_wsU RX9 149 RX0 "CallWays2$Instrument" ⟨"CallWays2$Instrument", "goBack", "(ID)V"⟩ yX5_goBack wsX5_goBack) := goodIn_app (goodIn_of _ (by decide +kernel)) ggX9_next_X5_goBack
set_option maxRecDepth 20000 in
theorem gX9_next_X5_goBack_u149X2 : GoodIn wsX9_next (va_wsU RX9 149 RX2 "CallWays2$Instrument" ⟨"CallWays2$Instrument", "goBack", "(ID)V"⟩ yX5_goBack wsX5_goBack) := goodIn_app (goodIn_of _ (by decide +kernel)) ggX9_next_X5_goBack
set_option maxRecDepth 20000 in
theorem gX9_next_X5_goBack_u149X4 : GoodIn wsX9_next (va_wsU RX9 149 RX4 "CallWays2$Instrument" ⟨"CallWays2$Instrument", "goBack", "(ID)V"⟩ yX5_goBack wsX5_goBack) := goodIn_app (goodIn_of _ (by decide +kernel)) ggX9_next_X5_goBack
set_option maxRecDepth 20000 in
theorem gX9_next_X5_goBack_u149X6 : GoodIn wsX9_next (va_wsU RX9 149 RX6 "CallWays2$Instrument" ⟨"CallWays2$Instrument", "goBack", "(ID)V"⟩ yX5_goBack wsX5_goBack) := goodIn_app (goodIn_of _ (by decide +kernel)) ggX9_next_X5_goBack
set_option maxRecDepth 20000 in
theorem gX9_next_X5_goBack_u149X8 : GoodIn wsX9_next (va_wsU RX9 149 RX8 "CallWays2$Instrument" ⟨"CallWays2$Instrument", "goBack", "(ID)V"⟩ yX5_goBack wsX5_goBack) := goodIn_app (goodIn_of _ (by decide +kernel)) ggX9_next_X5_goBack
set_option maxRecDepth 20000 in
theorem ggX9_next_X1_ofDouble : GoodIn wsX9_next wsX1_ofDouble := goodIn_r _ [112, 113, 114, 115, 111, 116, 117, 118, 119, 120, 121] (by decide +kernel) (by decide +kernel)
set_option maxRecDepth 20000 in
theorem gX9_next_X1_ofDouble : GoodIn wsX9_next (va_wsS RX9 167 yX1_ofDouble wsX1_ofDouble) := goodIn_app (goodIn_of _ (by decide +kernel)) ggX9_next_X1_ofDouble
theorem dX9_next_0 : decode cX9_next 0 = .ok (.aload_n 0, 1) := by decide +kernel
theorem dX9_next_1 : decode cX9_next 1 = .ok (.iload_n 1, 1) := by decide +kernel
theorem dX9_next_2 : decode cX9_next 2 = .ok (.invokevirtual 42, 3) := by decide +kernel
theorem dX9_next_5 : decode cX9_next 5 = .ok (.astore_n 2, 1) := by decide +kernel
theorem dX9_next_6 : decode cX9_next 6 = .ok (.aload_n 2, 1) := by decide +kernel
theorem dX9_next_7 : decode cX9_next 7 = .ok (.ifnonnull 10, 3) := by decide +kernel
theorem dX9_next_10 : decode cX9_next 10 = .ok (.aload_n 0, 1) := by decide +kernel
theorem dX9_next_11 : decode cX9_next 11 = .ok (.iconst (-1), 1) := by decide +kernel
theorem dX9_next_12 : decode cX9_next 12 = .ok (.putfield 53, 3) := by decide +kernel
theorem dX9_next_15 : decode cX9_next 15 = .ok (.lconst 0, 1) := by decide +kernel
theorem dX9_next_16 : decode cX9_next 16 = .ok (.lreturn, 1) := by decide +kernel
theorem dX9_next_17 : decode cX9_next 17 = .ok (.aload_n 2, 1) := by decide +kernel
theorem dX9_next_18 : decode cX9_next 18 = .ok (.getfield 60, 3) := by decide +kernel
theorem dX9_next_21 : decode cX9_next 21 = .ok (.istore_n 3, 1) := by decide +kernel
theorem dX9_next_22 : decode cX9_next 22 = .ok (.aload_n 2, 1) := by decide +kernel
theorem dX9_next_23 : decode cX9_next 23 = .ok (.getfield 141, 3) := by decide +kernel
theorem dX9_next_26 : decode cX9_next 26 = .ok (.dstore 4, 2) := by decide +kernel
theorem dX9_next_28 : decode cX9_next 28 = .ok (.aload_n 2, 1) := by decide +kernel
theorem dX9_next_29 : decode cX9_next 29 = .ok (.invokevirtual 160, 3) := by decide +kernel
theorem dX9_next_32 : decode cX9_next 32 = .ok (.dstore 6, 2) := by decide +kernel
theorem dX9_next_34 : decode cX9_next 34 = .ok (.aload_n 2, 1) := by decide +kernel
theorem dX9_next_35 : decode cX9_next 35 = .ok (.iload_n 3, 1) := by decide +kernel
theorem dX9_next_36 : decode cX9_next 36 = .ok (.dload 4, 2) := by decide +kernel
theorem dX9_next_38 : decode cX9_next 38 = .ok (.invokevirtual 149, 3) := by decide +kernel
theorem dX9_next_41 : decode cX9_next 41 = .ok (.aload_n 0, 1) := by decide +kernel
theorem dX9_next_42 : decode cX9_next 42 = .ok (.aload_n 2, 1) := by decide +kernel
theorem dX9_next_43 : decode cX9_next 43 = .ok (.getfield 164, 3) := by decide +kernel
theorem dX9_next_46 : decode cX9_next 46 = .ok (.putfield 53, 3) := by decide +kernel
theorem dX9_next_49 : decode cX9_next 49 = .ok (.aload_n 0, 1) := by decide +kernel
theorem dX9_next_50 : decode cX9_next 50 = .ok (.getfield 53, 3) := by decide +kernel
theorem dX9_next_53 : decode cX9_next 53 = .ok (.ifCond .ne 11, 3) := by decide +kernel
theorem dX9_next_56 : decode cX9_next 56 = .ok (.dload 6, 2) := by decide +kernel
theorem dX9_next_58 : decode cX9_next 58 = .ok (.invokestatic 167, 3) := by decide +kernel
theorem dX9_next_61 : decode cX9_next 61 = .ok (.goto 4, 3) := by decide +kernel
theorem dX9_next_64 : decode cX9_next 64 = .ok (.lconst 0, 1) := by decide +kernel
theorem dX9_next_65 : decode cX9_next 65 = .ok (.lreturn, 1) := by decide +kernel
theorem dX9_state_0 : decode cX9_state 0 = .ok (.aload_n 0, 1) := by decide +kernel
theorem dX9_state_1 : decode cX9_state 1 = .ok (.getfield 53, 3) := by decide +kernel
theorem dX9_state_4 : decode cX9_state 4 = .ok (.ireturn, 1) := by decide +kernel
theorem dX9_count_0 : decode cX9_count 0 = .ok (.iload_n 1, 1) := by decide +kernel
theorem dX9_count_1 : decode cX9_count 1 = .ok (.tableswitch 60 0 4 #[35, 40, 45, 50, 55], 35) := by decide +kernel
theorem dX9_count_36 : decode cX9_count 36 = .ok (.aload_n 0, 1) := by decide +kernel
theorem dX9_count_37 : decode cX9_count 37 = .ok (.getfield 35, 3) := by decide +kernel
theorem dX9_count_40 : decode cX9_count 40 = .ok (.ireturn, 1) := by decide +kernel
theorem dX9_count_41 : decode cX9_count 41 = .ok (.aload_n 0, 1) := by decide +kernel
theorem dX9_count_42 : decode cX9_count 42 = .ok (.getfield 113, 3) := by decide +kernel
theorem dX9_count_45 : decode cX9_count 45 = .ok (.ireturn, 1) := by decide +kernel
theorem dX9_count_46 : decode cX9_count 46 = .ok (.aload_n 0, 1) := by decide +kernel
theorem dX9_count_47 : decode cX9_count 47 = .ok (.getfield 138, 3) := by decide +kernel
theorem dX9_count_50 : decode cX9_count 50 = .ok (.ireturn, 1) := by decide +kernel
theorem dX9_count_51 : decode cX9_count 51 = .ok (.aload_n 0, 1) := by decide +kernel
theorem dX9_count_52 : decode cX9_count 52 = .ok (.getfield 135, 3) := by decide +kernel
theorem dX9_count_55 : decode cX9_count 55 = .ok (.ireturn, 1) := by decide +kernel
theorem dX9_count_56 : decode cX9_count 56 = .ok (.aload_n 0, 1) := by decide +kernel
theorem dX9_count_57 : decode cX9_count 57 = .ok (.getfield 173, 3) := by decide +kernel
theorem dX9_count_60 : decode cX9_count 60 = .ok (.ireturn, 1) := by decide +kernel
theorem dX9_count_61 : decode cX9_count 61 = .ok (.iconst (-1), 1) := by decide +kernel
theorem dX9_count_62 : decode cX9_count 62 = .ok (.ireturn, 1) := by decide +kernel
theorem dX9_isBlock_0 : decode cX9_isBlock 0 = .ok (.iload_n 0, 1) := by decide +kernel
theorem dX9_isBlock_1 : decode cX9_isBlock 1 = .ok (.ifCond .lt 13, 3) := by decide +kernel
theorem dX9_isBlock_4 : decode cX9_isBlock 4 = .ok (.iload_n 0, 1) := by decide +kernel
theorem dX9_isBlock_5 : decode cX9_isBlock 5 = .ok (.bipush 10, 2) := by decide +kernel
theorem dX9_isBlock_7 : decode cX9_isBlock 7 = .ok (.if_icmp .ge 7, 3) := by decide +kernel
theorem dX9_isBlock_10 : decode cX9_isBlock 10 = .ok (.iconst 1, 1) := by decide +kernel
theorem dX9_isBlock_11 : decode cX9_isBlock 11 = .ok (.goto 4, 3) := by decide +kernel
theorem dX9_isBlock_14 : decode cX9_isBlock 14 = .ok (.iconst 0, 1) := by decide +kernel
theorem dX9_isBlock_15 : decode cX9_isBlock 15 = .ok (.ireturn, 1) := by decide +kernel
theorem dX9_isLane_0 : decode cX9_isLane 0 = .ok (.iload_n 0, 1) := by decide +kernel
theorem dX9_isLane_1 : decode cX9_isLane 1 = .ok (.ifCond .lt 12, 3) := by decide +kernel
theorem dX9_isLane_4 : decode cX9_isLane 4 = .ok (.iload_n 0, 1) := by decide +kernel
theorem dX9_isLane_5 : decode cX9_isLane 5 = .ok (.iconst 3, 1) := by decide +kernel
theorem dX9_isLane_6 : decode cX9_isLane 6 = .ok (.if_icmp .gt 7, 3) := by decide +kernel
theorem dX9_isLane_9 : decode cX9_isLane 9 = .ok (.iconst 1, 1) := by decide +kernel
theorem dX9_isLane_10 : decode cX9_isLane 10 = .ok (.goto 4, 3) := by decide +kernel
theorem dX9_isLane_13 : decode cX9_isLane 13 = .ok (.iconst 0, 1) := by decide +kernel
theorem dX9_isLane_14 : decode cX9_isLane 14 = .ok (.ireturn, 1) := by decide +kernel
theorem dX9_instrumentAt_0 : decode cX9_instrumentAt 0 = .ok (.iload_n 1, 1) := by decide +kernel
theorem dX9_instrumentAt_1 : decode cX9_instrumentAt 1 = .ok (.ifCond .lt 20, 3) := by decide +kernel
theorem dX9_instrumentAt_4 : decode cX9_instrumentAt 4 = .ok (.iload_n 1, 1) := by decide +kernel
theorem dX9_instrumentAt_5 : decode cX9_instrumentAt 5 = .ok (.aload_n 0, 1) := by decide +kernel
theorem dX9_instrumentAt_6 : decode cX9_instrumentAt 6 = .ok (.getfield 35, 3) := by decide +kernel
theorem dX9_instrumentAt_9 : decode cX9_instrumentAt 9 = .ok (.if_icmp .ge 12, 3) := by decide +kernel
theorem dX9_instrumentAt_12 : decode cX9_instrumentAt 12 = .ok (.aload_n 0, 1) := by decide +kernel
theorem dX9_instrumentAt_13 : decode cX9_instrumentAt 13 = .ok (.getfield 11, 3) := by decide +kernel
theorem dX9_instrumentAt_16 : decode cX9_instrumentAt 16 = .ok (.iload_n 1, 1) := by decide +kernel
theorem dX9_instrumentAt_17 : decode cX9_instrumentAt 17 = .ok (.aaload, 1) := by decide +kernel
theorem dX9_instrumentAt_18 : decode cX9_instrumentAt 18 = .ok (.goto 4, 3) := by decide +kernel
theorem dX9_instrumentAt_21 : decode cX9_instrumentAt 21 = .ok (.aconst_null, 1) := by decide +kernel
theorem dX9_instrumentAt_22 : decode cX9_instrumentAt 22 = .ok (.areturn, 1) := by decide +kernel
theorem dX9_functionAt_0 : decode cX9_functionAt 0 = .ok (.iload_n 1, 1) := by decide +kernel
theorem dX9_functionAt_1 : decode cX9_functionAt 1 = .ok (.ifCond .lt 20, 3) := by decide +kernel
theorem dX9_functionAt_4 : decode cX9_functionAt 4 = .ok (.iload_n 1, 1) := by decide +kernel
theorem dX9_functionAt_5 : decode cX9_functionAt 5 = .ok (.aload_n 0, 1) := by decide +kernel
theorem dX9_functionAt_6 : decode cX9_functionAt 6 = .ok (.getfield 113, 3) := by decide +kernel
theorem dX9_functionAt_9 : decode cX9_functionAt 9 = .ok (.if_icmp .ge 12, 3) := by decide +kernel
theorem dX9_functionAt_12 : decode cX9_functionAt 12 = .ok (.aload_n 0, 1) := by decide +kernel
theorem dX9_functionAt_13 : decode cX9_functionAt 13 = .ok (.getfield 23, 3) := by decide +kernel
theorem dX9_functionAt_16 : decode cX9_functionAt 16 = .ok (.iload_n 1, 1) := by decide +kernel
theorem dX9_functionAt_17 : decode cX9_functionAt 17 = .ok (.aaload, 1) := by decide +kernel
theorem dX9_functionAt_18 : decode cX9_functionAt 18 = .ok (.goto 4, 3) := by decide +kernel
theorem dX9_functionAt_21 : decode cX9_functionAt 21 = .ok (.aconst_null, 1) := by decide +kernel
theorem dX9_functionAt_22 : decode cX9_functionAt 22 = .ok (.areturn, 1) := by decide +kernel
set_option maxRecDepth 20000 in
theorem ggX9_heldBy_X9_isBlock : GoodIn wsX9_heldBy wsX9_isBlock := goodIn_r _ [5] (by decide +kernel) (by decide +kernel)
set_option maxRecDepth 20000 in
theorem gX9_heldBy_X9_isBlock : GoodIn wsX9_heldBy (va_wsS RX9 63 yX9_isBlock wsX9_isBlock) := goodIn_app (goodIn_of _ (by decide +kernel)) ggX9_heldBy_X9_isBlock
theorem dX9_heldBy_0 : decode cX9_heldBy 0 = .ok (.iload_n 1, 1) := by decide +kernel
theorem dX9_heldBy_1 : decode cX9_heldBy 1 = .ok (.invokestatic 63, 3) := by decide +kernel
theorem dX9_heldBy_4 : decode cX9_heldBy 4 = .ok (.ifCond .eq 12, 3) := by decide +kernel
theorem dX9_heldBy_7 : decode cX9_heldBy 7 = .ok (.aload_n 0, 1) := by decide +kernel
theorem dX9_heldBy_8 : decode cX9_heldBy 8 = .ok (.getfield 17, 3) := by decide +kernel
theorem dX9_heldBy_11 : decode cX9_heldBy 11 = .ok (.iload_n 1, 1) := by decide +kernel
theorem dX9_heldBy_12 : decode cX9_heldBy 12 = .ok (.aaload, 1) := by decide +kernel
theorem dX9_heldBy_13 : decode cX9_heldBy 13 = .ok (.goto 4, 3) := by decide +kernel
theorem dX9_heldBy_16 : decode cX9_heldBy 16 = .ok (.aconst_null, 1) := by decide +kernel
theorem dX9_heldBy_17 : decode cX9_heldBy 17 = .ok (.areturn, 1) := by decide +kernel
set_option maxRecDepth 20000 in
theorem ggX9_newInstrument_X4_init : GoodIn wsX9_newInstrument wsX4_init := goodIn_r _ [17, 18, 15, 19, 20, 21, 22, 23, 24, 25, 26, 27, 48, 49, 50, 51, 52, 53, 54, 41, 42, 43, 44, 45, 46, 47, 34, 35, 36, 37, 38, 39, 40, 55, 56, 57, 58, 59, 60, 61, 62, 63, 64, 65, 66, 67, 68] (by decide +kernel) (by decide +kernel)
set_option maxRecDepth 20000 in
theorem gX9_newInstrument_X4_init_n178 : GoodIn wsX9_newInstrument (wsX4_init) := ggX9_newInstrument_X4_init
set_option maxRecDepth 20000 in
theorem ggX9_newInstrument_X2_init : GoodIn wsX9_newInstrument wsX2_init := goodIn_r _ [29, 20, 21, 22, 23, 24, 25, 26, 27, 48, 49, 50, 51, 52, 53, 54, 41, 42, 43, 44, 45, 46, 47, 34, 35, 36, 37, 38, 39, 40, 55, 56, 57, 58, 59, 60, 61, 62, 63, 64, 65, 66, 67, 68] (by decide +kernel) (by decide +kernel)
set_option maxRecDepth 20000 in
theorem gX9_newInstrument_X2_init_n181 : GoodIn wsX9_newInstrument (wsX2_init) := ggX9_newInstrument_X2_init
set_option maxRecDepth 20000 in
theorem ggX9_newInstrument_X0_init : GoodIn wsX9_newInstrument wsX0_init := goodIn_r _ [31, 28, 6, 29, 20, 21, 22, 23, 24, 25, 26, 27, 48, 49, 50, 51, 52, 53, 54, 41, 42, 43, 44, 45, 46, 47, 34, 35, 36, 37, 38, 39, 40, 55, 56, 57, 58, 59, 60, 61, 62, 63, 64, 65, 66, 67, 68] (by decide +kernel) (by decide +kernel)
set_option maxRecDepth 20000 in
theorem gX9_newInstrument_X0_init_n184 : GoodIn wsX9_newInstrument (wsX0_init) := ggX9_newInstrument_X0_init
set_option maxRecDepth 20000 in
theorem ggX9_newInstrument_X6_init : GoodIn wsX9_newInstrument wsX6_init := goodIn_r _ [33, 20, 21, 22, 23, 24, 25, 26, 27, 48, 49, 50, 51, 52, 53, 54, 41, 42, 43, 44, 45, 46, 47, 34, 35, 36, 37, 38, 39, 40, 55, 56, 57, 58, 59, 60, 61, 62, 63, 64, 65, 66, 67, 68] (by decide +kernel) (by decide +kernel)
set_option maxRecDepth 20000 in
theorem gX9_newInstrument_X6_init_n187 : GoodIn wsX9_newInstrument (wsX6_init) := ggX9_newInstrument_X6_init
set_option maxRecDepth 20000 in
theorem ggX9_newInstrument_X8_init : GoodIn wsX9_newInstrument wsX8_init := goodIn_r _ [19, 20, 21, 22, 23, 24, 25, 26, 27, 48, 49, 50, 51, 52, 53, 54, 41, 42, 43, 44, 45, 46, 47, 34, 35, 36, 37, 38, 39, 40, 55, 56, 57, 58, 59, 60, 61, 62, 63, 64, 65, 66, 67, 68] (by decide +kernel) (by decide +kernel)
set_option maxRecDepth 20000 in
theorem gX9_newInstrument_X8_init_n190 : GoodIn wsX9_newInstrument (wsX8_init) := ggX9_newInstrument_X8_init
theorem dX9_newInstrument_0 : decode cX9_newInstrument 0 = .ok (.iload_n 0, 1) := by decide +kernel
theorem dX9_newInstrument_1 : decode cX9_newInstrument 1 = .ok (.tableswitch 63 1 4 #[31, 39, 47, 55], 31) := by decide +kernel
theorem dX9_newInstrument_32 : decode cX9_newInstrument 32 = .ok (.new 176, 3) := by decide +kernel
theorem dX9_newInstrument_35 : decode cX9_newInstrument 35 = .ok (.dup, 1) := by decide +kernel
theorem dX9_newInstrument_36 : decode cX9_newInstrument 36 = .ok (.invokespecial 178, 3) := by decide +kernel
theorem dX9_newInstrument_39 : decode cX9_newInstrument 39 = .ok (.areturn, 1) := by decide +kernel
theorem dX9_newInstrument_40 : decode cX9_newInstrument 40 = .ok (.new 179, 3) := by decide +kernel
theorem dX9_newInstrument_43 : decode cX9_newInstrument 43 = .ok (.dup, 1) := by decide +kernel
theorem dX9_newInstrument_44 : decode cX9_newInstrument 44 = .ok (.invokespecial 181, 3) := by decide +kernel
theorem dX9_newInstrument_47 : decode cX9_newInstrument 47 = .ok (.areturn, 1) := by decide +kernel
theorem dX9_newInstrument_48 : decode cX9_newInstrument 48 = .ok (.new 182, 3) := by decide +kernel
theorem dX9_newInstrument_51 : decode cX9_newInstrument 51 = .ok (.dup, 1) := by decide +kernel
theorem dX9_newInstrument_52 : decode cX9_newInstrument 52 = .ok (.invokespecial 184, 3) := by decide +kernel
theorem dX9_newInstrument_55 : decode cX9_newInstrument 55 = .ok (.areturn, 1) := by decide +kernel
theorem dX9_newInstrument_56 : decode cX9_newInstrument 56 = .ok (.new 185, 3) := by decide +kernel
theorem dX9_newInstrument_59 : decode cX9_newInstrument 59 = .ok (.dup, 1) := by decide +kernel
theorem dX9_newInstrument_60 : decode cX9_newInstrument 60 = .ok (.invokespecial 187, 3) := by decide +kernel
theorem dX9_newInstrument_63 : decode cX9_newInstrument 63 = .ok (.areturn, 1) := by decide +kernel
theorem dX9_newInstrument_64 : decode cX9_newInstrument 64 = .ok (.new 188, 3) := by decide +kernel
theorem dX9_newInstrument_67 : decode cX9_newInstrument 67 = .ok (.dup, 1) := by decide +kernel
theorem dX9_newInstrument_68 : decode cX9_newInstrument 68 = .ok (.invokespecial 190, 3) := by decide +kernel
theorem dX9_newInstrument_71 : decode cX9_newInstrument 71 = .ok (.areturn, 1) := by decide +kernel
set_option maxRecDepth 20000 in
theorem ggX9_lentOrTwin_X7_twin : GoodIn wsX9_lentOrTwin wsX7_twin := goodIn_r _ [5, 6, 7, 4, 8, 9, 10, 11, 12, 13, 14, 15, 16, 17, 18, 19, 20, 21, 22, 23] (by decide +kernel) (by decide +kernel)
set_option maxRecDepth 20000 in
theorem gX9_lentOrTwin_X7_twin : GoodIn wsX9_lentOrTwin (wsV RX9 191 RX7 yX7_twin wsX7_twin) := goodIn_app (goodIn_of _ (by decide +kernel)) ggX9_lentOrTwin_X7_twin
theorem dX9_lentOrTwin_0 : decode cX9_lentOrTwin 0 = .ok (.aload_n 0, 1) := by decide +kernel
theorem dX9_lentOrTwin_1 : decode cX9_lentOrTwin 1 = .ok (.ifnull 7, 3) := by decide +kernel
theorem dX9_lentOrTwin_4 : decode cX9_lentOrTwin 4 = .ok (.iload_n 1, 1) := by decide +kernel
theorem dX9_lentOrTwin_5 : decode cX9_lentOrTwin 5 = .ok (.ifCond .eq 7, 3) := by decide +kernel
theorem dX9_lentOrTwin_8 : decode cX9_lentOrTwin 8 = .ok (.aload_n 0, 1) := by decide +kernel
theorem dX9_lentOrTwin_9 : decode cX9_lentOrTwin 9 = .ok (.goto 7, 3) := by decide +kernel
theorem dX9_lentOrTwin_12 : decode cX9_lentOrTwin 12 = .ok (.aload_n 0, 1) := by decide +kernel
theorem dX9_lentOrTwin_13 : decode cX9_lentOrTwin 13 = .ok (.invokevirtual 191, 3) := by decide +kernel
theorem dX9_lentOrTwin_16 : decode cX9_lentOrTwin 16 = .ok (.areturn, 1) := by decide +kernel
set_option maxRecDepth 20000 in
theorem ggX9_againstPlace_X9_isBlock : GoodIn wsX9_againstPlace wsX9_isBlock := goodIn_r _ [5] (by decide +kernel) (by decide +kernel)
set_option maxRecDepth 20000 in
theorem gX9_againstPlace_X9_isBlock : GoodIn wsX9_againstPlace (va_wsS RX9 63 yX9_isBlock wsX9_isBlock) := goodIn_app (goodIn_of _ (by decide +kernel)) ggX9_againstPlace_X9_isBlock
set_option maxRecDepth 20000 in
theorem ggX9_againstPlace_X7_has : GoodIn wsX9_againstPlace wsX7_has := goodIn_r _ [10, 11, 23, 24] (by decide +kernel) (by decide +kernel)
set_option maxRecDepth 20000 in
theorem gX9_againstPlace_X7_has : GoodIn wsX9_againstPlace (wsV RX9 195 RX7 yX7_has wsX7_has) := goodIn_app (goodIn_of _ (by decide +kernel)) ggX9_againstPlace_X7_has
theorem dX9_againstPlace_0 : decode cX9_againstPlace 0 = .ok (.iload_n 1, 1) := by decide +kernel
theorem dX9_againstPlace_1 : decode cX9_againstPlace 1 = .ok (.invokestatic 63, 3) := by decide +kernel
theorem dX9_againstPlace_4 : decode cX9_againstPlace 4 = .ok (.ifCond .ne 5, 3) := by decide +kernel
theorem dX9_againstPlace_7 : decode cX9_againstPlace 7 = .ok (.iconst (-1), 1) := by decide +kernel
theorem dX9_againstPlace_8 : decode cX9_againstPlace 8 = .ok (.ireturn, 1) := by decide +kernel
theorem dX9_againstPlace_9 : decode cX9_againstPlace 9 = .ok (.aload_n 0, 1) := by decide +kernel
theorem dX9_againstPlace_10 : decode cX9_againstPlace 10 = .ok (.getfield 17, 3) := by decide +kernel
theorem dX9_againstPlace_13 : decode cX9_againstPlace 13 = .ok (.iload_n 1, 1) := by decide +kernel
theorem dX9_againstPlace_14 : decode cX9_againstPlace 14 = .ok (.aaload, 1) := by decide +kernel
theorem dX9_againstPlace_15 : decode cX9_againstPlace 15 = .ok (.astore_n 3, 1) := by decide +kernel
theorem dX9_againstPlace_16 : decode cX9_againstPlace 16 = .ok (.aload_n 3, 1) := by decide +kernel
theorem dX9_againstPlace_17 : decode cX9_againstPlace 17 = .ok (.ifnonnull 6, 3) := by decide +kernel
theorem dX9_againstPlace_20 : decode cX9_againstPlace 20 = .ok (.bipush (-5), 2) := by decide +kernel
theorem dX9_againstPlace_22 : decode cX9_againstPlace 22 = .ok (.ireturn, 1) := by decide +kernel
theorem dX9_againstPlace_23 : decode cX9_againstPlace 23 = .ok (.aload_n 3, 1) := by decide +kernel
theorem dX9_againstPlace_24 : decode cX9_againstPlace 24 = .ok (.iload_n 2, 1) := by decide +kernel
theorem dX9_againstPlace_25 : decode cX9_againstPlace 25 = .ok (.invokevirtual 195, 3) := by decide +kernel
theorem dX9_againstPlace_28 : decode cX9_againstPlace 28 = .ok (.ifCond .eq 7, 3) := by decide +kernel
theorem dX9_againstPlace_31 : decode cX9_againstPlace 31 = .ok (.iconst 0, 1) := by decide +kernel
theorem dX9_againstPlace_32 : decode cX9_againstPlace 32 = .ok (.goto 5, 3) := by decide +kernel
theorem dX9_againstPlace_35 : decode cX9_againstPlace 35 = .ok (.bipush (-7), 2) := by decide +kernel
theorem dX9_againstPlace_37 : decode cX9_againstPlace 37 = .ok (.ireturn, 1) := by decide +kernel
set_option maxRecDepth 20000 in
theorem ggX9_againstBlock_X7_spans : GoodIn wsX9_againstBlock wsX7_spans := goodIn_r _ [7, 8, 9, 10] (by decide +kernel) (by decide +kernel)
set_option maxRecDepth 20000 in
theorem gX9_againstBlock_X7_spans : GoodIn wsX9_againstBlock (wsV RX9 103 RX7 yX7_spans wsX7_spans) := goodIn_app (goodIn_of _ (by decide +kernel)) ggX9_againstBlock_X7_spans
theorem dX9_againstBlock_0 : decode cX9_againstBlock 0 = .ok (.aload_n 1, 1) := by decide +kernel
theorem dX9_againstBlock_1 : decode cX9_againstBlock 1 = .ok (.ifnonnull 6, 3) := by decide +kernel
theorem dX9_againstBlock_4 : decode cX9_againstBlock 4 = .ok (.bipush (-5), 2) := by decide +kernel
theorem dX9_againstBlock_6 : decode cX9_againstBlock 6 = .ok (.ireturn, 1) := by decide +kernel
theorem dX9_againstBlock_7 : decode cX9_againstBlock 7 = .ok (.iload_n 2, 1) := by decide +kernel
theorem dX9_againstBlock_8 : decode cX9_againstBlock 8 = .ok (.iconst 1, 1) := by decide +kernel
theorem dX9_againstBlock_9 : decode cX9_againstBlock 9 = .ok (.if_icmp .ne 17, 3) := by decide +kernel
theorem dX9_againstBlock_12 : decode cX9_againstBlock 12 = .ok (.aload_n 1, 1) := by decide +kernel
theorem dX9_againstBlock_13 : decode cX9_againstBlock 13 = .ok (.getfield 85, 3) := by decide +kernel
theorem dX9_againstBlock_16 : decode cX9_againstBlock 16 = .ok (.aload_n 0, 1) := by decide +kernel
theorem dX9_againstBlock_17 : decode cX9_againstBlock 17 = .ok (.getfield 31, 3) := by decide +kernel
theorem dX9_againstBlock_20 : decode cX9_againstBlock 20 = .ok (.if_icmp .eq 6, 3) := by decide +kernel
theorem dX9_againstBlock_23 : decode cX9_againstBlock 23 = .ok (.bipush (-6), 2) := by decide +kernel
theorem dX9_againstBlock_25 : decode cX9_againstBlock 25 = .ok (.ireturn, 1) := by decide +kernel
theorem dX9_againstBlock_26 : decode cX9_againstBlock 26 = .ok (.iload 4, 2) := by decide +kernel
theorem dX9_againstBlock_28 : decode cX9_againstBlock 28 = .ok (.ifCond .ge 6, 3) := by decide +kernel
theorem dX9_againstBlock_31 : decode cX9_againstBlock 31 = .ok (.bipush (-8), 2) := by decide +kernel
theorem dX9_againstBlock_33 : decode cX9_againstBlock 33 = .ok (.ireturn, 1) := by decide +kernel
theorem dX9_againstBlock_34 : decode cX9_againstBlock 34 = .ok (.aload_n 1, 1) := by decide +kernel
theorem dX9_againstBlock_35 : decode cX9_againstBlock 35 = .ok (.iload_n 3, 1) := by decide +kernel
theorem dX9_againstBlock_36 : decode cX9_againstBlock 36 = .ok (.iload 4, 2) := by decide +kernel
theorem dX9_againstBlock_38 : decode cX9_againstBlock 38 = .ok (.invokevirtual 103, 3) := by decide +kernel
theorem dX9_againstBlock_41 : decode cX9_againstBlock 41 = .ok (.ifCond .eq 7, 3) := by decide +kernel
theorem dX9_againstBlock_44 : decode cX9_againstBlock 44 = .ok (.iconst 0, 1) := by decide +kernel
theorem dX9_againstBlock_45 : decode cX9_againstBlock 45 = .ok (.goto 5, 3) := by decide +kernel
theorem dX9_againstBlock_48 : decode cX9_againstBlock 48 = .ok (.bipush (-7), 2) := by decide +kernel
theorem dX9_againstBlock_50 : decode cX9_againstBlock 50 = .ok (.ireturn, 1) := by decide +kernel
set_option maxRecDepth 20000 in
theorem ggX9_gather_X5_ask : GoodIn wsX9_gather wsX5_ask := goodIn_r _ [9, 10, 11, 12, 13, 14, 15, 16, 17, 18, 19, 20, 21, 22, 23, 24, 25, 26, 8, 27, 28, 29, 30, 31, 32, 33, 34, 35, 36, 37, 38, 39, 40, 41, 42, 43, 44, 45, 46, 47, 48, 49, 50, 51, 52, 53, 54, 55, 56, 57, 58, 59, 60, 61, 62, 63, 64, 65, 66, 67, 68, 69, 70, 71, 72, 73, 74, 75, 76, 77, 78, 79, 80, 81, 82, 83, 84, 85, 86, 113, 114, 115, 116, 117, 118, 119, 120, 121, 122, 123, 124, 125, 126, 127, 128, 129, 130, 131, 132, 133, 134, 135, 136, 137, 138, 139, 140, 141, 142, 143, 144, 145, 146, 147, 148, 149] (by decide +kernel) (by decide +kernel)
set_option maxRecDepth 20000 in
theorem gX9_gather_X5_ask_u160X0 : GoodIn wsX9_gather (va_wsU RX9 160 RX0 "CallWays2$Instrument" ⟨"CallWays2$Instrument", "ask", "()D"⟩ yX5_ask wsX5_ask) := goodIn_app (goodIn_of _ (by decide +kernel)) ggX9_gather_X5_ask
set_option maxRecDepth 20000 in
theorem gX9_gather_X5_ask_u160X2 : GoodIn wsX9_gather (va_wsU RX9 160 RX2 "CallWays2$Instrument" ⟨"CallWays2$Instrument", "ask", "()D"⟩ yX5_ask wsX5_ask) := goodIn_app (goodIn_of _ (by decide +kernel)) ggX9_gather_X5_ask
set_option maxRecDepth 20000 in
theorem gX9_gather_X5_ask_u160X4 : GoodIn wsX9_gather (va_wsU RX9 160 RX4 "CallWays2$Instrument" ⟨"CallWays2$Instrument", "ask", "()D"⟩ yX5_ask wsX5_ask) := goodIn_app (goodIn_of _ (by decide +kernel)) ggX9_gather_X5_ask
set_option maxRecDepth 20000 in
theorem gX9_gather_X5_ask_u160X6 : GoodIn wsX9_gather (va_wsU RX9 160 RX6 "CallWays2$Instrument" ⟨"CallWays2$Instrument", "ask", "()D"⟩ yX5_ask wsX5_ask) := goodIn_app (goodIn_of _ (by decide +kernel)) ggX9_gather_X5_ask
set_option maxRecDepth 20000 in
theorem gX9_gather_X5_ask_u160X8 : GoodIn wsX9_gather (va_wsU RX9 160 RX8 "CallWays2$Instrument" ⟨"CallWays2$Instrument", "ask", "()D"⟩ yX5_ask wsX5_ask) := goodIn_app (goodIn_of _ (by decide +kernel)) ggX9_gather_X5_ask
set_option maxRecDepth 20000 in
theorem ggX9_gather_X3_refuses : GoodIn wsX9_gather wsX3_refuses := goodIn_r _ [95, 96, 97, 150, 151] (by decide +kernel) (by decide +kernel)
set_option maxRecDepth 20000 in
theorem gX9_gather_X3_refuses : GoodIn wsX9_gather (wsV RX9 152 RX3 yX3_refuses wsX3_refuses) := goodIn_app (goodIn_of _ (by decide +kernel)) ggX9_gather_X3_refuses
set_option maxRecDepth 20000 in
theorem ggX9_gather_X3_pass : GoodIn wsX9_gather wsX3_pass := goodIn_r _ [101, 96, 97, 150, 151] (by decide +kernel) (by decide +kernel)
set_option maxRecDepth 20000 in
theorem gX9_gather_X3_pass : GoodIn wsX9_gather (wsV RX9 156 RX3 yX3_pass wsX3_pass) := goodIn_app (goodIn_of _ (by decide +kernel)) ggX9_gather_X3_pass
theorem dX9_gather_0 : decode cX9_gather 0 = .ok (.iconst 0, 1) := by decide +kernel
theorem dX9_gather_1 : decode cX9_gather 1 = .ok (.istore 4, 2) := by decide +kernel
theorem dX9_gather_3 : decode cX9_gather 3 = .ok (.iload 4, 2) := by decide +kernel
theorem dX9_gather_5 : decode cX9_gather 5 = .ok (.iload_n 3, 1) := by decide +kernel
theorem dX9_gather_6 : decode cX9_gather 6 = .ok (.if_icmp .ge 75, 3) := by decide +kernel
theorem dX9_gather_9 : decode cX9_gather 9 = .ok (.aload_n 1, 1) := by decide +kernel
theorem dX9_gather_10 : decode cX9_gather 10 = .ok (.invokevirtual 160, 3) := by decide +kernel
theorem dX9_gather_13 : decode cX9_gather 13 = .ok (.dstore 5, 2) := by decide +kernel
theorem dX9_gather_15 : decode cX9_gather 15 = .ok (.aload_n 0, 1) := by decide +kernel
theorem dX9_gather_16 : decode cX9_gather 16 = .ok (.dup, 1) := by decide +kernel
theorem dX9_gather_17 : decode cX9_gather 17 = .ok (.getfield 173, 3) := by decide +kernel
theorem dX9_gather_20 : decode cX9_gather 20 = .ok (.iconst 1, 1) := by decide +kernel
theorem dX9_gather_21 : decode cX9_gather 21 = .ok (.iadd, 1) := by decide +kernel
theorem dX9_gather_22 : decode cX9_gather 22 = .ok (.putfield 173, 3) := by decide +kernel
theorem dX9_gather_25 : decode cX9_gather 25 = .ok (.aload_n 1, 1) := by decide +kernel
theorem dX9_gather_26 : decode cX9_gather 26 = .ok (.getfield 164, 3) := by decide +kernel
theorem dX9_gather_29 : decode cX9_gather 29 = .ok (.ifCond .eq 8, 3) := by decide +kernel
theorem dX9_gather_32 : decode cX9_gather 32 = .ok (.aload_n 1, 1) := by decide +kernel
theorem dX9_gather_33 : decode cX9_gather 33 = .ok (.getfield 164, 3) := by decide +kernel
theorem dX9_gather_36 : decode cX9_gather 36 = .ok (.ireturn, 1) := by decide +kernel
theorem dX9_gather_37 : decode cX9_gather 37 = .ok (.aload_n 2, 1) := by decide +kernel
theorem dX9_gather_38 : decode cX9_gather 38 = .ok (.ifnull 15, 3) := by decide +kernel
theorem dX9_gather_41 : decode cX9_gather 41 = .ok (.aload_n 2, 1) := by decide +kernel
theorem dX9_gather_42 : decode cX9_gather 42 = .ok (.dload 5, 2) := by decide +kernel
theorem dX9_gather_44 : decode cX9_gather 44 = .ok (.invokevirtual 152, 3) := by decide +kernel
theorem dX9_gather_47 : decode cX9_gather 47 = .ok (.ifCond .eq 6, 3) := by decide +kernel
theorem dX9_gather_50 : decode cX9_gather 50 = .ok (.bipush (-3), 2) := by decide +kernel
theorem dX9_gather_52 : decode cX9_gather 52 = .ok (.ireturn, 1) := by decide +kernel
theorem dX9_gather_53 : decode cX9_gather 53 = .ok (.aload_n 0, 1) := by decide +kernel
theorem dX9_gather_54 : decode cX9_gather 54 = .ok (.getfield 27, 3) := by decide +kernel
theorem dX9_gather_57 : decode cX9_gather 57 = .ok (.iload 4, 2) := by decide +kernel
theorem dX9_gather_59 : decode cX9_gather 59 = .ok (.aload_n 2, 1) := by decide +kernel
theorem dX9_gather_60 : decode cX9_gather 60 = .ok (.ifnonnull 8, 3) := by decide +kernel
theorem dX9_gather_63 : decode cX9_gather 63 = .ok (.dload 5, 2) := by decide +kernel
theorem dX9_gather_65 : decode cX9_gather 65 = .ok (.goto 9, 3) := by decide +kernel
theorem dX9_gather_68 : decode cX9_gather 68 = .ok (.aload_n 2, 1) := by decide +kernel
theorem dX9_gather_69 : decode cX9_gather 69 = .ok (.dload 5, 2) := by decide +kernel
theorem dX9_gather_71 : decode cX9_gather 71 = .ok (.invokevirtual 156, 3) := by decide +kernel
theorem dX9_gather_74 : decode cX9_gather 74 = .ok (.dastore, 1) := by decide +kernel
theorem dX9_gather_75 : decode cX9_gather 75 = .ok (.iinc 4 1, 3) := by decide +kernel
theorem dX9_gather_78 : decode cX9_gather 78 = .ok (.goto (-75), 3) := by decide +kernel
theorem dX9_gather_81 : decode cX9_gather 81 = .ok (.iconst 0, 1) := by decide +kernel
theorem dX9_gather_82 : decode cX9_gather 82 = .ok (.ireturn, 1) := by decide +kernel
set_option maxRecDepth 20000 in
theorem ggX9_deliver_X7_set : GoodIn wsX9_deliver wsX7_set := goodIn_r _ [6, 7, 8, 9, 10, 5, 11, 12, 24, 25] (by decide +kernel) (by decide +kernel)
set_option maxRecDepth 20000 in
theorem gX9_deliver_X7_set : GoodIn wsX9_deliver (wsV RX9 99 RX7 yX7_set wsX7_set) := goodIn_app (goodIn_of _ (by decide +kernel)) ggX9_deliver_X7_set
theorem dX9_deliver_0 : decode cX9_deliver 0 = .ok (.iconst 0, 1) := by decide +kernel
theorem dX9_deliver_1 : decode cX9_deliver 1 = .ok (.istore 5, 2) := by decide +kernel
theorem dX9_deliver_3 : decode cX9_deliver 3 = .ok (.iload 5, 2) := by decide +kernel
theorem dX9_deliver_5 : decode cX9_deliver 5 = .ok (.iload_n 3, 1) := by decide +kernel
theorem dX9_deliver_6 : decode cX9_deliver 6 = .ok (.if_icmp .ge 33, 3) := by decide +kernel
theorem dX9_deliver_9 : decode cX9_deliver 9 = .ok (.aload_n 1, 1) := by decide +kernel
theorem dX9_deliver_10 : decode cX9_deliver 10 = .ok (.iload_n 2, 1) := by decide +kernel
theorem dX9_deliver_11 : decode cX9_deliver 11 = .ok (.iload 5, 2) := by decide +kernel
theorem dX9_deliver_13 : decode cX9_deliver 13 = .ok (.iadd, 1) := by decide +kernel
theorem dX9_deliver_14 : decode cX9_deliver 14 = .ok (.iload 4, 2) := by decide +kernel
theorem dX9_deliver_16 : decode cX9_deliver 16 = .ok (.ifCond .ne 13, 3) := by decide +kernel
theorem dX9_deliver_19 : decode cX9_deliver 19 = .ok (.aload_n 0, 1) := by decide +kernel
theorem dX9_deliver_20 : decode cX9_deliver 20 = .ok (.getfield 27, 3) := by decide +kernel
theorem dX9_deliver_23 : decode cX9_deliver 23 = .ok (.iload 5, 2) := by decide +kernel
theorem dX9_deliver_25 : decode cX9_deliver 25 = .ok (.daload, 1) := by decide +kernel
theorem dX9_deliver_26 : decode cX9_deliver 26 = .ok (.goto 4, 3) := by decide +kernel
theorem dX9_deliver_29 : decode cX9_deliver 29 = .ok (.dconst 0, 1) := by decide +kernel
theorem dX9_deliver_30 : decode cX9_deliver 30 = .ok (.invokevirtual 99, 3) := by decide +kernel
theorem dX9_deliver_33 : decode cX9_deliver 33 = .ok (.iinc 5 1, 3) := by decide +kernel
theorem dX9_deliver_36 : decode cX9_deliver 36 = .ok (.goto (-33), 3) := by decide +kernel
theorem dX9_deliver_39 : decode cX9_deliver 39 = .ok (.return_, 1) := by decide +kernel
set_option maxRecDepth 20000 in
theorem ggX9_staysAlike_X5_ask : GoodIn wsX9_staysAlike wsX5_ask := goodIn_r _ [7, 8, 9, 10, 11, 12, 13, 14, 15, 16, 17, 18, 19, 20, 21, 22, 23, 24, 6, 25, 26, 27, 28, 29, 30, 31, 32, 33, 34, 35, 36, 37, 38, 39, 40, 41, 42, 43, 44, 45, 46, 47, 48, 49, 50, 51, 52, 53, 54, 55, 56, 57, 58, 59, 60, 61, 62, 63, 64, 65, 66, 67, 68, 69, 70, 71, 72, 73, 74, 75, 76, 77, 78, 79, 80, 81, 82, 83, 84, 100, 101, 102, 103, 104, 105, 106, 107, 108, 109, 110, 111, 112, 113, 114, 115, 116, 117, 118, 119, 120, 121, 122, 123, 124, 125, 126, 127, 128, 129, 130, 131, 132, 133, 134, 135, 136] (by decide +kernel) (by decide +kernel)
set_option maxRecDepth 20000 in
theorem gX9_staysAlike_X5_ask_u160X0 : GoodIn wsX9_staysAlike (va_wsU RX9 160 RX0 "CallWays2$Instrument" ⟨"CallWays2$Instrument", "ask", "()D"⟩ yX5_ask wsX5_ask) := goodIn_app (goodIn_of _ (by decide +kernel)) ggX9_staysAlike_X5_ask
set_option maxRecDepth 20000 in
theorem gX9_staysAlike_X5_ask_u160X2 : GoodIn wsX9_staysAlike (va_wsU RX9 160 RX2 "CallWays2$Instrument" ⟨"CallWays2$Instrument", "ask", "()D"⟩ yX5_ask wsX5_ask) := goodIn_app (goodIn_of _ (by decide +kernel)) ggX9_staysAlike_X5_ask
set_option maxRecDepth 20000 in
theorem gX9_staysAlike_X5_ask_u160X4 : GoodIn wsX9_staysAlike (va_wsU RX9 160 RX4 "CallWays2$Instrument" ⟨"CallWays2$Instrument", "ask", "()D"⟩ yX5_ask wsX5_ask) := goodIn_app (goodIn_of _ (by decide +kernel)) ggX9_staysAlike_X5_ask
set_option maxRecDepth 20000 in
theorem gX9_staysAlike_X5_ask_u160X6 : GoodIn wsX9_staysAlike (va_wsU RX9 160 RX6 "CallWays2$Instrument" ⟨"CallWays2$Instrument", "ask", "()D"⟩ yX5_ask wsX5_ask) := goodIn_app (goodIn_of _ (by decide +kernel)) ggX9_staysAlike_X5_ask
set_option maxRecDepth 20000 in
theorem gX9_staysAlike_X5_ask_u160X8 : GoodIn wsX9_staysAlike (va_wsU RX9 160 RX8 "CallWays2$Instrument" ⟨"CallWays2$Instrument", "ask", "()D"⟩ yX5_ask wsX5_ask) := goodIn_app (goodIn_of _ (by decide +kernel)) ggX9_staysAlike_X5_ask
set_option maxRecDepth 20000 in
theorem ggX9_staysAlike_X3_refuses : GoodIn wsX9_staysAlike wsX3_refuses := goodIn_r _ [93, 94, 95, 137, 138] (by decide +kernel) (by decide +kernel)
set_option maxRecDepth 20000 in
theorem gX9_staysAlike_X3_refuses : GoodIn wsX9_staysAlike (wsV RX9 152 RX3 yX3_refuses wsX3_refuses) := goodIn_app (goodIn_of _ (by decide +kernel)) ggX9_staysAlike_X3_refuses
set_option maxRecDepth 20000 in
theorem ggX9_staysAlike_X3_pass : GoodIn wsX9_staysAlike wsX3_pass := goodIn_r _ [99, 94, 95, 137, 138] (by decide +kernel) (by decide +kernel)
set_option maxRecDepth 20000 in
theorem gX9_staysAlike_X3_pass : GoodIn wsX9_staysAlike (wsV RX9 156 RX3 yX3_pass wsX3_pass) := goodIn_app (goodIn_of _ (by decide +kernel)) ggX9_staysAlike_X3_pass
theorem dX9_staysAlike_0 : decode cX9_staysAlike 0 = .ok (.iconst 0, 1) := by decide +kernel
theorem dX9_staysAlike_1 : decode cX9_staysAlike 1 = .ok (.istore_n 3, 1) := by decide +kernel
theorem dX9_staysAlike_2 : decode cX9_staysAlike 2 = .ok (.iload_n 3, 1) := by decide +kernel
theorem dX9_staysAlike_3 : decode cX9_staysAlike 3 = .ok (.iload_n 2, 1) := by decide +kernel
theorem dX9_staysAlike_4 : decode cX9_staysAlike 4 = .ok (.if_icmp .ge 47, 3) := by decide +kernel
theorem dX9_staysAlike_7 : decode cX9_staysAlike 7 = .ok (.aload_n 0, 1) := by decide +kernel
theorem dX9_staysAlike_8 : decode cX9_staysAlike 8 = .ok (.invokevirtual 160, 3) := by decide +kernel
theorem dX9_staysAlike_11 : decode cX9_staysAlike 11 = .ok (.dstore 4, 2) := by decide +kernel
theorem dX9_staysAlike_13 : decode cX9_staysAlike 13 = .ok (.aload_n 0, 1) := by decide +kernel
theorem dX9_staysAlike_14 : decode cX9_staysAlike 14 = .ok (.getfield 164, 3) := by decide +kernel
theorem dX9_staysAlike_17 : decode cX9_staysAlike 17 = .ok (.ifCond .eq 5, 3) := by decide +kernel
theorem dX9_staysAlike_20 : decode cX9_staysAlike 20 = .ok (.iconst 1, 1) := by decide +kernel
theorem dX9_staysAlike_21 : decode cX9_staysAlike 21 = .ok (.ireturn, 1) := by decide +kernel
theorem dX9_staysAlike_22 : decode cX9_staysAlike 22 = .ok (.aload_n 1, 1) := by decide +kernel
theorem dX9_staysAlike_23 : decode cX9_staysAlike 23 = .ok (.dload 4, 2) := by decide +kernel
theorem dX9_staysAlike_25 : decode cX9_staysAlike 25 = .ok (.invokevirtual 152, 3) := by decide +kernel
theorem dX9_staysAlike_28 : decode cX9_staysAlike 28 = .ok (.ifCond .ne 15, 3) := by decide +kernel
theorem dX9_staysAlike_31 : decode cX9_staysAlike 31 = .ok (.aload_n 1, 1) := by decide +kernel
theorem dX9_staysAlike_32 : decode cX9_staysAlike 32 = .ok (.dload 4, 2) := by decide +kernel
theorem dX9_staysAlike_34 : decode cX9_staysAlike 34 = .ok (.invokevirtual 156, 3) := by decide +kernel
theorem dX9_staysAlike_37 : decode cX9_staysAlike 37 = .ok (.dload 4, 2) := by decide +kernel
theorem dX9_staysAlike_39 : decode cX9_staysAlike 39 = .ok (.dcmp .l, 1) := by decide +kernel
theorem dX9_staysAlike_40 : decode cX9_staysAlike 40 = .ok (.ifCond .eq 5, 3) := by decide +kernel
theorem dX9_staysAlike_43 : decode cX9_staysAlike 43 = .ok (.iconst 0, 1) := by decide +kernel
theorem dX9_staysAlike_44 : decode cX9_staysAlike 44 = .ok (.ireturn, 1) := by decide +kernel
theorem dX9_staysAlike_45 : decode cX9_staysAlike 45 = .ok (.iinc 3 1, 3) := by decide +kernel
theorem dX9_staysAlike_48 : decode cX9_staysAlike 48 = .ok (.goto (-46), 3) := by decide +kernel
theorem dX9_staysAlike_51 : decode cX9_staysAlike 51 = .ok (.iconst 1, 1) := by decide +kernel
theorem dX9_staysAlike_52 : decode cX9_staysAlike 52 = .ok (.ireturn, 1) := by decide +kernel
end
section
theorem dX10_init_0 : decode cX10_init 0 = .ok (.aload_n 0, 1) := by decide +kernel
theorem dX10_init_1 : decode cX10_init 1 = .ok (.invokespecial 1, 3) := by decide +kernel
theorem dX10_init_4 : decode cX10_init 4 = .ok (.aload_n 0, 1) := by decide +kernel
theorem dX10_init_5 : decode cX10_init 5 = .ok (.bipush 10, 2) := by decide +kernel
theorem dX10_init_7 : decode cX10_init 7 = .ok (.newarray .int, 2) := by decide +kernel
theorem dX10_init_9 : decode cX10_init 9 = .ok (.putfield 7, 3) := by decide +kernel
theorem dX10_init_12 : decode cX10_init 12 = .ok (.aload_n 0, 1) := by decide +kernel
theorem dX10_init_13 : decode cX10_init 13 = .ok (.bipush 12, 2) := by decide +kernel
theorem dX10_init_15 : decode cX10_init 15 = .ok (.newarray .int, 2) := by decide +kernel
theorem dX10_init_17 : decode cX10_init 17 = .ok (.putfield 13, 3) := by decide +kernel
theorem dX10_init_20 : decode cX10_init 20 = .ok (.aload_n 0, 1) := by decide +kernel
theorem dX10_init_21 : decode cX10_init 21 = .ok (.bipush 24, 2) := by decide +kernel
theorem dX10_init_23 : decode cX10_init 23 = .ok (.newarray .int, 2) := by decide +kernel
theorem dX10_init_25 : decode cX10_init 25 = .ok (.putfield 16, 3) := by decide +kernel
theorem dX10_init_28 : decode cX10_init 28 = .ok (.aload_n 0, 1) := by decide +kernel
theorem dX10_init_29 : decode cX10_init 29 = .ok (.bipush 24, 2) := by decide +kernel
theorem dX10_init_31 : decode cX10_init 31 = .ok (.newarray .int, 2) := by decide +kernel
theorem dX10_init_33 : decode cX10_init 33 = .ok (.putfield 19, 3) := by decide +kernel
theorem dX10_init_36 : decode cX10_init 36 = .ok (.aload_n 0, 1) := by decide +kernel
theorem dX10_init_37 : decode cX10_init 37 = .ok (.sipush 960, 3) := by decide +kernel
theorem dX10_init_40 : decode cX10_init 40 = .ok (.newarray .long, 2) := by decide +kernel
theorem dX10_init_42 : decode cX10_init 42 = .ok (.putfield 22, 3) := by decide +kernel
theorem dX10_init_45 : decode cX10_init 45 = .ok (.aload_n 0, 1) := by decide +kernel
theorem dX10_init_46 : decode cX10_init 46 = .ok (.bipush 12, 2) := by decide +kernel
theorem dX10_init_48 : decode cX10_init 48 = .ok (.newarray .int, 2) := by decide +kernel
theorem dX10_init_50 : decode cX10_init 50 = .ok (.putfield 26, 3) := by decide +kernel
theorem dX10_init_53 : decode cX10_init 53 = .ok (.aload_n 0, 1) := by decide +kernel
theorem dX10_init_54 : decode cX10_init 54 = .ok (.bipush 48, 2) := by decide +kernel
theorem dX10_init_56 : decode cX10_init 56 = .ok (.newarray .int, 2) := by decide +kernel
theorem dX10_init_58 : decode cX10_init 58 = .ok (.putfield 29, 3) := by decide +kernel
theorem dX10_init_61 : decode cX10_init 61 = .ok (.aload_n 0, 1) := by decide +kernel
theorem dX10_init_62 : decode cX10_init 62 = .ok (.bipush 12, 2) := by decide +kernel
theorem dX10_init_64 : decode cX10_init 64 = .ok (.newarray .int, 2) := by decide +kernel
theorem dX10_init_66 : decode cX10_init 66 = .ok (.putfield 32, 3) := by decide +kernel
theorem dX10_init_69 : decode cX10_init 69 = .ok (.aload_n 0, 1) := by decide +kernel
theorem dX10_init_70 : decode cX10_init 70 = .ok (.bipush 12, 2) := by decide +kernel
theorem dX10_init_72 : decode cX10_init 72 = .ok (.newarray .boolean, 2) := by decide +kernel
theorem dX10_init_74 : decode cX10_init 74 = .ok (.putfield 35, 3) := by decide +kernel
theorem dX10_init_77 : decode cX10_init 77 = .ok (.aload_n 0, 1) := by decide +kernel
theorem dX10_init_78 : decode cX10_init 78 = .ok (.bipush 12, 2) := by decide +kernel
theorem dX10_init_80 : decode cX10_init 80 = .ok (.newarray .int, 2) := by decide +kernel
theorem dX10_init_82 : decode cX10_init 82 = .ok (.putfield 39, 3) := by decide +kernel
theorem dX10_init_85 : decode cX10_init 85 = .ok (.aload_n 0, 1) := by decide +kernel
theorem dX10_init_86 : decode cX10_init 86 = .ok (.bipush 12, 2) := by decide +kernel
theorem dX10_init_88 : decode cX10_init 88 = .ok (.newarray .double, 2) := by decide +kernel
theorem dX10_init_90 : decode cX10_init 90 = .ok (.putfield 42, 3) := by decide +kernel
theorem dX10_init_93 : decode cX10_init 93 = .ok (.aload_n 0, 1) := by decide +kernel
theorem dX10_init_94 : decode cX10_init 94 = .ok (.bipush 8, 2) := by decide +kernel
theorem dX10_init_96 : decode cX10_init 96 = .ok (.newarray .int, 2) := by decide +kernel
theorem dX10_init_98 : decode cX10_init 98 = .ok (.putfield 46, 3) := by decide +kernel
theorem dX10_init_101 : decode cX10_init 101 = .ok (.aload_n 0, 1) := by decide +kernel
theorem dX10_init_102 : decode cX10_init 102 = .ok (.bipush 8, 2) := by decide +kernel
theorem dX10_init_104 : decode cX10_init 104 = .ok (.newarray .int, 2) := by decide +kernel
theorem dX10_init_106 : decode cX10_init 106 = .ok (.putfield 49, 3) := by decide +kernel
theorem dX10_init_109 : decode cX10_init 109 = .ok (.aload_n 0, 1) := by decide +kernel
theorem dX10_init_110 : decode cX10_init 110 = .ok (.iconst 3, 1) := by decide +kernel
theorem dX10_init_111 : decode cX10_init 111 = .ok (.newarray .int, 2) := by decide +kernel
theorem dX10_init_113 : decode cX10_init 113 = .ok (.putfield 52, 3) := by decide +kernel
theorem dX10_init_116 : decode cX10_init 116 = .ok (.aload_n 0, 1) := by decide +kernel
theorem dX10_init_117 : decode cX10_init 117 = .ok (.bipush 40, 2) := by decide +kernel
theorem dX10_init_119 : decode cX10_init 119 = .ok (.newarray .double, 2) := by decide +kernel
theorem dX10_init_121 : decode cX10_init 121 = .ok (.putfield 55, 3) := by decide +kernel
theorem dX10_init_124 : decode cX10_init 124 = .ok (.aload_n 0, 1) := by decide +kernel
theorem dX10_init_125 : decode cX10_init 125 = .ok (.bipush 40, 2) := by decide +kernel
theorem dX10_init_127 : decode cX10_init 127 = .ok (.newarray .long, 2) := by decide +kernel
theorem dX10_init_129 : decode cX10_init 129 = .ok (.putfield 58, 3) := by decide +kernel
theorem dX10_init_132 : decode cX10_init 132 = .ok (.aload_n 0, 1) := by decide +kernel
theorem dX10_init_133 : decode cX10_init 133 = .ok (.iconst (-1), 1) := by decide +kernel
theorem dX10_init_134 : decode cX10_init 134 = .ok (.putfield 61, 3) := by decide +kernel
theorem dX10_init_137 : decode cX10_init 137 = .ok (.iconst 0, 1) := by decide +kernel
theorem dX10_init_138 : decode cX10_init 138 = .ok (.istore_n 1, 1) := by decide +kernel
theorem dX10_init_139 : decode cX10_init 139 = .ok (.iload_n 1, 1) := by decide +kernel
theorem dX10_init_140 : decode cX10_init 140 = .ok (.bipush 10, 2) := by decide +kernel
theorem dX10_init_142 : decode cX10_init 142 = .ok (.if_icmp .ge 16, 3) := by decide +kernel
theorem dX10_init_145 : decode cX10_init 145 = .ok (.aload_n 0, 1) := by decide +kernel
theorem dX10_init_146 : decode cX10_init 146 = .ok (.getfield 7, 3) := by decide +kernel
theorem dX10_init_149 : decode cX10_init 149 = .ok (.iload_n 1, 1) := by decide +kernel
theorem dX10_init_150 : decode cX10_init 150 = .ok (.iconst (-1), 1) := by decide +kernel
theorem dX10_init_151 : decode cX10_init 151 = .ok (.iastore, 1) := by decide +kernel
theorem dX10_init_152 : decode cX10_init 152 = .ok (.iinc 1 1, 3) := by decide +kernel
theorem dX10_init_155 : decode cX10_init 155 = .ok (.goto (-16), 3) := by decide +kernel
theorem dX10_init_158 : decode cX10_init 158 = .ok (.iconst 0, 1) := by decide +kernel
theorem dX10_init_159 : decode cX10_init 159 = .ok (.istore_n 1, 1) := by decide +kernel
theorem dX10_init_160 : decode cX10_init 160 = .ok (.iload_n 1, 1) := by decide +kernel
theorem dX10_init_161 : decode cX10_init 161 = .ok (.bipush 12, 2) := by decide +kernel
theorem dX10_init_163 : decode cX10_init 163 = .ok (.if_icmp .ge 16, 3) := by decide +kernel
theorem dX10_init_166 : decode cX10_init 166 = .ok (.aload_n 0, 1) := by decide +kernel
theorem dX10_init_167 : decode cX10_init 167 = .ok (.getfield 13, 3) := by decide +kernel
theorem dX10_init_170 : decode cX10_init 170 = .ok (.iload_n 1, 1) := by decide +kernel
theorem dX10_init_171 : decode cX10_init 171 = .ok (.iconst (-1), 1) := by decide +kernel
theorem dX10_init_172 : decode cX10_init 172 = .ok (.iastore, 1) := by decide +kernel
theorem dX10_init_173 : decode cX10_init 173 = .ok (.iinc 1 1, 3) := by decide +kernel
theorem dX10_init_176 : decode cX10_init 176 = .ok (.goto (-16), 3) := by decide +kernel
theorem dX10_init_179 : decode cX10_init 179 = .ok (.return_, 1) := by decide +kernel
theorem dX10_in_0 : decode cX10_in 0 = .ok (.iload_n 0, 1) := by decide +kernel
theorem dX10_in_1 : decode cX10_in 1 = .ok (.iload_n 1, 1) := by decide +kernel
theorem dX10_in_2 : decode cX10_in 2 = .ok (.if_icmp .lt 12, 3) := by decide +kernel
theorem dX10_in_5 : decode cX10_in 5 = .ok (.iload_n 0, 1) := by decide +kernel
theorem dX10_in_6 : decode cX10_in 6 = .ok (.iload_n 2, 1) := by decide +kernel
theorem dX10_in_7 : decode cX10_in 7 = .ok (.if_icmp .gt 7, 3) := by decide +kernel
theorem dX10_in_10 : decode cX10_in 10 = .ok (.iconst 1, 1) := by decide +kernel
theorem dX10_in_11 : decode cX10_in 11 = .ok (.goto 4, 3) := by decide +kernel
theorem dX10_in_14 : decode cX10_in 14 = .ok (.iconst 0, 1) := by decide +kernel
theorem dX10_in_15 : decode cX10_in 15 = .ok (.ireturn, 1) := by decide +kernel
set_option maxRecDepth 20000 in
theorem ggX10_isInstrument_X10_in : GoodIn wsX10_isInstrument wsX10_in := goodIn_r _ [5] (by decide +kernel) (by decide +kernel)
set_option maxRecDepth 20000 in
theorem gX10_isInstrument_X10_in : GoodIn wsX10_isInstrument (va_wsS RX10 68 yX10_in wsX10_in) := goodIn_app (goodIn_of _ (by decide +kernel)) ggX10_isInstrument_X10_in
theorem dX10_isInstrument_0 : decode cX10_isInstrument 0 = .ok (.iload_n 1, 1) := by decide +kernel
theorem dX10_isInstrument_1 : decode cX10_isInstrument 1 = .ok (.iconst 0, 1) := by decide +kernel
theorem dX10_isInstrument_2 : decode cX10_isInstrument 2 = .ok (.aload_n 0, 1) := by decide +kernel
theorem dX10_isInstrument_3 : decode cX10_isInstrument 3 = .ok (.getfield 65, 3) := by decide +kernel
theorem dX10_isInstrument_6 : decode cX10_isInstrument 6 = .ok (.iconst 1, 1) := by decide +kernel
theorem dX10_isInstrument_7 : decode cX10_isInstrument 7 = .ok (.isub, 1) := by decide +kernel
theorem dX10_isInstrument_8 : decode cX10_isInstrument 8 = .ok (.invokestatic 68, 3) := by decide +kernel
theorem dX10_isInstrument_11 : decode cX10_isInstrument 11 = .ok (.ireturn, 1) := by decide +kernel
theorem dX10_says_0 : decode cX10_says 0 = .ok (.aload_n 0, 1) := by decide +kernel
theorem dX10_says_1 : decode cX10_says 1 = .ok (.iload_n 1, 1) := by decide +kernel
theorem dX10_says_2 : decode cX10_says 2 = .ok (.ifCond .ge 7, 3) := by decide +kernel
theorem dX10_says_5 : decode cX10_says 5 = .ok (.iload_n 1, 1) := by decide +kernel
theorem dX10_says_6 : decode cX10_says 6 = .ok (.goto 4, 3) := by decide +kernel
theorem dX10_says_9 : decode cX10_says 9 = .ok (.iconst 0, 1) := by decide +kernel
theorem dX10_says_10 : decode cX10_says 10 = .ok (.putfield 72, 3) := by decide +kernel
theorem dX10_says_13 : decode cX10_says 13 = .ok (.iload_n 1, 1) := by decide +kernel
theorem dX10_says_14 : decode cX10_says 14 = .ok (.ireturn, 1) := by decide +kernel
theorem dX10_freshRow_0 : decode cX10_freshRow 0 = .ok (.iconst 0, 1) := by decide +kernel
theorem dX10_freshRow_1 : decode cX10_freshRow 1 = .ok (.istore_n 3, 1) := by decide +kernel
theorem dX10_freshRow_2 : decode cX10_freshRow 2 = .ok (.iconst 1, 1) := by decide +kernel
theorem dX10_freshRow_3 : decode cX10_freshRow 3 = .ok (.istore 4, 2) := by decide +kernel
theorem dX10_freshRow_5 : decode cX10_freshRow 5 = .ok (.iload 4, 2) := by decide +kernel
theorem dX10_freshRow_7 : decode cX10_freshRow 7 = .ok (.ifCond .eq 100, 3) := by decide +kernel
theorem dX10_freshRow_10 : decode cX10_freshRow 10 = .ok (.iconst 0, 1) := by decide +kernel
theorem dX10_freshRow_11 : decode cX10_freshRow 11 = .ok (.istore 4, 2) := by decide +kernel
theorem dX10_freshRow_13 : decode cX10_freshRow 13 = .ok (.iconst 0, 1) := by decide +kernel
theorem dX10_freshRow_14 : decode cX10_freshRow 14 = .ok (.istore 5, 2) := by decide +kernel
theorem dX10_freshRow_16 : decode cX10_freshRow 16 = .ok (.iload 5, 2) := by decide +kernel
theorem dX10_freshRow_18 : decode cX10_freshRow 18 = .ok (.bipush 10, 2) := by decide +kernel
theorem dX10_freshRow_20 : decode cX10_freshRow 20 = .ok (.if_icmp .ge 32, 3) := by decide +kernel
theorem dX10_freshRow_23 : decode cX10_freshRow 23 = .ok (.iload 4, 2) := by decide +kernel
theorem dX10_freshRow_25 : decode cX10_freshRow 25 = .ok (.ifCond .ne 14, 3) := by decide +kernel
theorem dX10_freshRow_28 : decode cX10_freshRow 28 = .ok (.aload_n 0, 1) := by decide +kernel
theorem dX10_freshRow_29 : decode cX10_freshRow 29 = .ok (.getfield 7, 3) := by decide +kernel
theorem dX10_freshRow_32 : decode cX10_freshRow 32 = .ok (.iload 5, 2) := by decide +kernel
theorem dX10_freshRow_34 : decode cX10_freshRow 34 = .ok (.iaload, 1) := by decide +kernel
theorem dX10_freshRow_35 : decode cX10_freshRow 35 = .ok (.iload_n 3, 1) := by decide +kernel
theorem dX10_freshRow_36 : decode cX10_freshRow 36 = .ok (.if_icmp .ne 7, 3) := by decide +kernel
theorem dX10_freshRow_39 : decode cX10_freshRow 39 = .ok (.iconst 1, 1) := by decide +kernel
theorem dX10_freshRow_40 : decode cX10_freshRow 40 = .ok (.goto 4, 3) := by decide +kernel
theorem dX10_freshRow_43 : decode cX10_freshRow 43 = .ok (.iconst 0, 1) := by decide +kernel
theorem dX10_freshRow_44 : decode cX10_freshRow 44 = .ok (.istore 4, 2) := by decide +kernel
theorem dX10_freshRow_46 : decode cX10_freshRow 46 = .ok (.iinc 5 1, 3) := by decide +kernel
theorem dX10_freshRow_49 : decode cX10_freshRow 49 = .ok (.goto (-33), 3) := by decide +kernel
theorem dX10_freshRow_52 : decode cX10_freshRow 52 = .ok (.iconst 0, 1) := by decide +kernel
theorem dX10_freshRow_53 : decode cX10_freshRow 53 = .ok (.istore 5, 2) := by decide +kernel
theorem dX10_freshRow_55 : decode cX10_freshRow 55 = .ok (.iload 5, 2) := by decide +kernel
theorem dX10_freshRow_57 : decode cX10_freshRow 57 = .ok (.bipush 12, 2) := by decide +kernel
theorem dX10_freshRow_59 : decode cX10_freshRow 59 = .ok (.if_icmp .ge 32, 3) := by decide +kernel
theorem dX10_freshRow_62 : decode cX10_freshRow 62 = .ok (.iload 4, 2) := by decide +kernel
theorem dX10_freshRow_64 : decode cX10_freshRow 64 = .ok (.ifCond .ne 14, 3) := by decide +kernel
theorem dX10_freshRow_67 : decode cX10_freshRow 67 = .ok (.aload_n 0, 1) := by decide +kernel
theorem dX10_freshRow_68 : decode cX10_freshRow 68 = .ok (.getfield 13, 3) := by decide +kernel
theorem dX10_freshRow_71 : decode cX10_freshRow 71 = .ok (.iload 5, 2) := by decide +kernel
theorem dX10_freshRow_73 : decode cX10_freshRow 73 = .ok (.iaload, 1) := by decide +kernel
theorem dX10_freshRow_74 : decode cX10_freshRow 74 = .ok (.iload_n 3, 1) := by decide +kernel
theorem dX10_freshRow_75 : decode cX10_freshRow 75 = .ok (.if_icmp .ne 7, 3) := by decide +kernel
theorem dX10_freshRow_78 : decode cX10_freshRow 78 = .ok (.iconst 1, 1) := by decide +kernel
theorem dX10_freshRow_79 : decode cX10_freshRow 79 = .ok (.goto 4, 3) := by decide +kernel
theorem dX10_freshRow_82 : decode cX10_freshRow 82 = .ok (.iconst 0, 1) := by decide +kernel
theorem dX10_freshRow_83 : decode cX10_freshRow 83 = .ok (.istore 4, 2) := by decide +kernel
theorem dX10_freshRow_85 : decode cX10_freshRow 85 = .ok (.iinc 5 1, 3) := by decide +kernel
theorem dX10_freshRow_88 : decode cX10_freshRow 88 = .ok (.goto (-33), 3) := by decide +kernel
theorem dX10_freshRow_91 : decode cX10_freshRow 91 = .ok (.iload_n 3, 1) := by decide +kernel
theorem dX10_freshRow_92 : decode cX10_freshRow 92 = .ok (.iload 4, 2) := by decide +kernel
theorem dX10_freshRow_94 : decode cX10_freshRow 94 = .ok (.ifCond .eq 7, 3) := by decide +kernel
theorem dX10_freshRow_97 : decode cX10_freshRow 97 = .ok (.iconst 1, 1) := by decide +kernel
theorem dX10_freshRow_98 : decode cX10_freshRow 98 = .ok (.goto 4, 3) := by decide +kernel
theorem dX10_freshRow_101 : decode cX10_freshRow 101 = .ok (.iconst 0, 1) := by decide +kernel
theorem dX10_freshRow_102 : decode cX10_freshRow 102 = .ok (.iadd, 1) := by decide +kernel
theorem dX10_freshRow_103 : decode cX10_freshRow 103 = .ok (.istore_n 3, 1) := by decide +kernel
theorem dX10_freshRow_104 : decode cX10_freshRow 104 = .ok (.goto (-99), 3) := by decide +kernel
theorem dX10_freshRow_107 : decode cX10_freshRow 107 = .ok (.aload_n 0, 1) := by decide +kernel
theorem dX10_freshRow_108 : decode cX10_freshRow 108 = .ok (.getfield 16, 3) := by decide +kernel
theorem dX10_freshRow_111 : decode cX10_freshRow 111 = .ok (.iload_n 3, 1) := by decide +kernel
theorem dX10_freshRow_112 : decode cX10_freshRow 112 = .ok (.iload_n 1, 1) := by decide +kernel
theorem dX10_freshRow_113 : decode cX10_freshRow 113 = .ok (.iastore, 1) := by decide +kernel
theorem dX10_freshRow_114 : decode cX10_freshRow 114 = .ok (.aload_n 0, 1) := by decide +kernel
theorem dX10_freshRow_115 : decode cX10_freshRow 115 = .ok (.getfield 19, 3) := by decide +kernel
theorem dX10_freshRow_118 : decode cX10_freshRow 118 = .ok (.iload_n 3, 1) := by decide +kernel
theorem dX10_freshRow_119 : decode cX10_freshRow 119 = .ok (.iload_n 2, 1) := by decide +kernel
theorem dX10_freshRow_120 : decode cX10_freshRow 120 = .ok (.iastore, 1) := by decide +kernel
theorem dX10_freshRow_121 : decode cX10_freshRow 121 = .ok (.iconst 0, 1) := by decide +kernel
theorem dX10_freshRow_122 : decode cX10_freshRow 122 = .ok (.istore 5, 2) := by decide +kernel
theorem dX10_freshRow_124 : decode cX10_freshRow 124 = .ok (.iload 5, 2) := by decide +kernel
theorem dX10_freshRow_126 : decode cX10_freshRow 126 = .ok (.bipush 40, 2) := by decide +kernel
theorem dX10_freshRow_128 : decode cX10_freshRow 128 = .ok (.if_icmp .ge 22, 3) := by decide +kernel
theorem dX10_freshRow_131 : decode cX10_freshRow 131 = .ok (.aload_n 0, 1) := by decide +kernel
theorem dX10_freshRow_132 : decode cX10_freshRow 132 = .ok (.getfield 22, 3) := by decide +kernel
theorem dX10_freshRow_135 : decode cX10_freshRow 135 = .ok (.bipush 40, 2) := by decide +kernel
theorem dX10_freshRow_137 : decode cX10_freshRow 137 = .ok (.iload_n 3, 1) := by decide +kernel
theorem dX10_freshRow_138 : decode cX10_freshRow 138 = .ok (.imul, 1) := by decide +kernel
theorem dX10_freshRow_139 : decode cX10_freshRow 139 = .ok (.iload 5, 2) := by decide +kernel
theorem dX10_freshRow_141 : decode cX10_freshRow 141 = .ok (.iadd, 1) := by decide +kernel
theorem dX10_freshRow_142 : decode cX10_freshRow 142 = .ok (.lconst 0, 1) := by decide +kernel
theorem dX10_freshRow_143 : decode cX10_freshRow 143 = .ok (.lastore, 1) := by decide +kernel
theorem dX10_freshRow_144 : decode cX10_freshRow 144 = .ok (.iinc 5 1, 3) := by decide +kernel
theorem dX10_freshRow_147 : decode cX10_freshRow 147 = .ok (.goto (-23), 3) := by decide +kernel
theorem dX10_freshRow_150 : decode cX10_freshRow 150 = .ok (.iload_n 3, 1) := by decide +kernel
theorem dX10_freshRow_151 : decode cX10_freshRow 151 = .ok (.ireturn, 1) := by decide +kernel
set_option maxRecDepth 20000 in
theorem ggX10_copyOf_X10_freshRow : GoodIn wsX10_copyOf wsX10_freshRow := goodIn_r _ [8, 9, 10, 1, 2, 3, 11, 12, 13, 14, 15, 16, 17, 18, 19, 20, 21, 22, 23, 24, 25, 26, 27, 28, 29, 30, 31] (by decide +kernel) (by decide +kernel)
set_option maxRecDepth 20000 in
theorem gX10_copyOf_X10_freshRow : GoodIn wsX10_copyOf (wsV RX10 75 RX10 yX10_freshRow wsX10_freshRow) := goodIn_app (goodIn_of _ (by decide +kernel)) ggX10_copyOf_X10_freshRow
theorem dX10_copyOf_0 : decode cX10_copyOf 0 = .ok (.aload_n 0, 1) := by decide +kernel
theorem dX10_copyOf_1 : decode cX10_copyOf 1 = .ok (.aload_n 0, 1) := by decide +kernel
theorem dX10_copyOf_2 : decode cX10_copyOf 2 = .ok (.getfield 16, 3) := by decide +kernel
theorem dX10_copyOf_5 : decode cX10_copyOf 5 = .ok (.iload_n 1, 1) := by decide +kernel
theorem dX10_copyOf_6 : decode cX10_copyOf 6 = .ok (.iaload, 1) := by decide +kernel
theorem dX10_copyOf_7 : decode cX10_copyOf 7 = .ok (.aload_n 0, 1) := by decide +kernel
theorem dX10_copyOf_8 : decode cX10_copyOf 8 = .ok (.getfield 19, 3) := by decide +kernel
theorem dX10_copyOf_11 : decode cX10_copyOf 11 = .ok (.iload_n 1, 1) := by decide +kernel
theorem dX10_copyOf_12 : decode cX10_copyOf 12 = .ok (.iaload, 1) := by decide +kernel
theorem dX10_copyOf_13 : decode cX10_copyOf 13 = .ok (.invokevirtual 75, 3) := by decide +kernel
theorem dX10_copyOf_16 : decode cX10_copyOf 16 = .ok (.istore_n 2, 1) := by decide +kernel
theorem dX10_copyOf_17 : decode cX10_copyOf 17 = .ok (.iconst 0, 1) := by decide +kernel
theorem dX10_copyOf_18 : decode cX10_copyOf 18 = .ok (.istore_n 3, 1) := by decide +kernel
theorem dX10_copyOf_19 : decode cX10_copyOf 19 = .ok (.iload_n 3, 1) := by decide +kernel
theorem dX10_copyOf_20 : decode cX10_copyOf 20 = .ok (.bipush 40, 2) := by decide +kernel
theorem dX10_copyOf_22 : decode cX10_copyOf 22 = .ok (.if_icmp .ge 31, 3) := by decide +kernel
theorem dX10_copyOf_25 : decode cX10_copyOf 25 = .ok (.aload_n 0, 1) := by decide +kernel
theorem dX10_copyOf_26 : decode cX10_copyOf 26 = .ok (.getfield 22, 3) := by decide +kernel
theorem dX10_copyOf_29 : decode cX10_copyOf 29 = .ok (.bipush 40, 2) := by decide +kernel
theorem dX10_copyOf_31 : decode cX10_copyOf 31 = .ok (.iload_n 2, 1) := by decide +kernel
theorem dX10_copyOf_32 : decode cX10_copyOf 32 = .ok (.imul, 1) := by decide +kernel
theorem dX10_copyOf_33 : decode cX10_copyOf 33 = .ok (.iload_n 3, 1) := by decide +kernel
theorem dX10_copyOf_34 : decode cX10_copyOf 34 = .ok (.iadd, 1) := by decide +kernel
theorem dX10_copyOf_35 : decode cX10_copyOf 35 = .ok (.aload_n 0, 1) := by decide +kernel
theorem dX10_copyOf_36 : decode cX10_copyOf 36 = .ok (.getfield 22, 3) := by decide +kernel
theorem dX10_copyOf_39 : decode cX10_copyOf 39 = .ok (.bipush 40, 2) := by decide +kernel
theorem dX10_copyOf_41 : decode cX10_copyOf 41 = .ok (.iload_n 1, 1) := by decide +kernel
theorem dX10_copyOf_42 : decode cX10_copyOf 42 = .ok (.imul, 1) := by decide +kernel
theorem dX10_copyOf_43 : decode cX10_copyOf 43 = .ok (.iload_n 3, 1) := by decide +kernel
theorem dX10_copyOf_44 : decode cX10_copyOf 44 = .ok (.iadd, 1) := by decide +kernel
theorem dX10_copyOf_45 : decode cX10_copyOf 45 = .ok (.laload, 1) := by decide +kernel
theorem dX10_copyOf_46 : decode cX10_copyOf 46 = .ok (.lastore, 1) := by decide +kernel
theorem dX10_copyOf_47 : decode cX10_copyOf 47 = .ok (.iinc 3 1, 3) := by decide +kernel
theorem dX10_copyOf_50 : decode cX10_copyOf 50 = .ok (.goto (-31), 3) := by decide +kernel
theorem dX10_copyOf_53 : decode cX10_copyOf 53 = .ok (.iload_n 2, 1) := by decide +kernel
theorem dX10_copyOf_54 : decode cX10_copyOf 54 = .ok (.ireturn, 1) := by decide +kernel
set_option maxRecDepth 20000 in
theorem ggX10_cast_Jxf58ca_floatToIntBits_5c35a : GoodIn wsX10_cast wsJxf58ca_floatToIntBits_5c35a := goodIn_r _ [4, 5, 6, 7, 8, 9, 10, 11, 3, 12] (by decide +kernel) (by decide +kernel)
set_option maxRecDepth 20000 in
theorem gX10_cast_Jxf58ca_floatToIntBits_5c35a : GoodIn wsX10_cast (va_wsS RX10 79 yJxf58ca_floatToIntBits_5c35a wsJxf58ca_floatToIntBits_5c35a) := goodIn_app (goodIn_of _ (by decide +kernel)) ggX10_cast_Jxf58ca_floatToIntBits_5c35a
set_option maxRecDepth 20000 in
theorem ggX10_cast_Jxe99ae_doubleToLongBits_ccdee : GoodIn wsX10_cast wsJxe99ae_doubleToLongBits_ccdee := goodIn_r _ [16, 17, 18, 19, 20, 21, 22, 23, 15, 24] (by decide +kernel) (by decide +kernel)
set_option maxRecDepth 20000 in
theorem gX10_cast_Jxe99ae_doubleToLongBits_ccdee : GoodIn wsX10_cast (va_wsS RX10 85 yJxe99ae_doubleToLongBits_ccdee wsJxe99ae_doubleToLongBits_ccdee) := goodIn_app (goodIn_of _ (by decide +kernel)) ggX10_cast_Jxe99ae_doubleToLongBits_ccdee
theorem dX10_cast_0 : decode cX10_cast 0 = .ok (.iload_n 0, 1) := by decide +kernel
theorem dX10_cast_1 : decode cX10_cast 1 = .ok (.ifCond .ne 10, 3) := by decide +kernel
theorem dX10_cast_4 : decode cX10_cast 4 = .ok (.dload_n 1, 1) := by decide +kernel
theorem dX10_cast_5 : decode cX10_cast 5 = .ok (.d2i, 1) := by decide +kernel
theorem dX10_cast_6 : decode cX10_cast 6 = .ok (.i2s, 1) := by decide +kernel
theorem dX10_cast_7 : decode cX10_cast 7 = .ok (.i2l, 1) := by decide +kernel
theorem dX10_cast_8 : decode cX10_cast 8 = .ok (.goto 32, 3) := by decide +kernel
theorem dX10_cast_11 : decode cX10_cast 11 = .ok (.iload_n 0, 1) := by decide +kernel
theorem dX10_cast_12 : decode cX10_cast 12 = .ok (.iconst 1, 1) := by decide +kernel
theorem dX10_cast_13 : decode cX10_cast 13 = .ok (.if_icmp .ne 9, 3) := by decide +kernel
theorem dX10_cast_16 : decode cX10_cast 16 = .ok (.dload_n 1, 1) := by decide +kernel
theorem dX10_cast_17 : decode cX10_cast 17 = .ok (.d2i, 1) := by decide +kernel
theorem dX10_cast_18 : decode cX10_cast 18 = .ok (.i2l, 1) := by decide +kernel
theorem dX10_cast_19 : decode cX10_cast 19 = .ok (.goto 21, 3) := by decide +kernel
theorem dX10_cast_22 : decode cX10_cast 22 = .ok (.iload_n 0, 1) := by decide +kernel
theorem dX10_cast_23 : decode cX10_cast 23 = .ok (.iconst 2, 1) := by decide +kernel
theorem dX10_cast_24 : decode cX10_cast 24 = .ok (.if_icmp .ne 12, 3) := by decide +kernel
theorem dX10_cast_27 : decode cX10_cast 27 = .ok (.dload_n 1, 1) := by decide +kernel
theorem dX10_cast_28 : decode cX10_cast 28 = .ok (.d2f, 1) := by decide +kernel
theorem dX10_cast_29 : decode cX10_cast 29 = .ok (.invokestatic 79, 3) := by decide +kernel
theorem dX10_cast_32 : decode cX10_cast 32 = .ok (.i2l, 1) := by decide +kernel
theorem dX10_cast_33 : decode cX10_cast 33 = .ok (.goto 7, 3) := by decide +kernel
theorem dX10_cast_36 : decode cX10_cast 36 = .ok (.dload_n 1, 1) := by decide +kernel
theorem dX10_cast_37 : decode cX10_cast 37 = .ok (.invokestatic 85, 3) := by decide +kernel
theorem dX10_cast_40 : decode cX10_cast 40 = .ok (.lreturn, 1) := by decide +kernel
set_option maxRecDepth 20000 in
theorem ggX10_instrument_X10_in : GoodIn wsX10_instrument wsX10_in := goodIn_r _ [6] (by decide +kernel) (by decide +kernel)
set_option maxRecDepth 20000 in
theorem gX10_instrument_X10_in : GoodIn wsX10_instrument (va_wsS RX10 68 yX10_in wsX10_in) := goodIn_app (goodIn_of _ (by decide +kernel)) ggX10_instrument_X10_in
theorem dX10_instrument_0 : decode cX10_instrument 0 = .ok (.iload_n 1, 1) := by decide +kernel
theorem dX10_instrument_1 : decode cX10_instrument 1 = .ok (.iconst 0, 1) := by decide +kernel
theorem dX10_instrument_2 : decode cX10_instrument 2 = .ok (.iconst 4, 1) := by decide +kernel
theorem dX10_instrument_3 : decode cX10_instrument 3 = .ok (.invokestatic 68, 3) := by decide +kernel
theorem dX10_instrument_6 : decode cX10_instrument 6 = .ok (.ifCond .ne 5, 3) := by decide +kernel
theorem dX10_instrument_9 : decode cX10_instrument 9 = .ok (.iconst (-1), 1) := by decide +kernel
theorem dX10_instrument_10 : decode cX10_instrument 10 = .ok (.ireturn, 1) := by decide +kernel
theorem dX10_instrument_11 : decode cX10_instrument 11 = .ok (.aload_n 0, 1) := by decide +kernel
theorem dX10_instrument_12 : decode cX10_instrument 12 = .ok (.getfield 65, 3) := by decide +kernel
theorem dX10_instrument_15 : decode cX10_instrument 15 = .ok (.bipush 12, 2) := by decide +kernel
theorem dX10_instrument_17 : decode cX10_instrument 17 = .ok (.if_icmp .ne 6, 3) := by decide +kernel
theorem dX10_instrument_20 : decode cX10_instrument 20 = .ok (.bipush (-2), 2) := by decide +kernel
theorem dX10_instrument_22 : decode cX10_instrument 22 = .ok (.ireturn, 1) := by decide +kernel
theorem dX10_instrument_23 : decode cX10_instrument 23 = .ok (.aload_n 0, 1) := by decide +kernel
theorem dX10_instrument_24 : decode cX10_instrument 24 = .ok (.getfield 26, 3) := by decide +kernel
theorem dX10_instrument_27 : decode cX10_instrument 27 = .ok (.aload_n 0, 1) := by decide +kernel
theorem dX10_instrument_28 : decode cX10_instrument 28 = .ok (.getfield 65, 3) := by decide +kernel
theorem dX10_instrument_31 : decode cX10_instrument 31 = .ok (.iload_n 1, 1) := by decide +kernel
theorem dX10_instrument_32 : decode cX10_instrument 32 = .ok (.iastore, 1) := by decide +kernel
theorem dX10_instrument_33 : decode cX10_instrument 33 = .ok (.aload_n 0, 1) := by decide +kernel
theorem dX10_instrument_34 : decode cX10_instrument 34 = .ok (.dup, 1) := by decide +kernel
theorem dX10_instrument_35 : decode cX10_instrument 35 = .ok (.getfield 65, 3) := by decide +kernel
theorem dX10_instrument_38 : decode cX10_instrument 38 = .ok (.iconst 1, 1) := by decide +kernel
theorem dX10_instrument_39 : decode cX10_instrument 39 = .ok (.iadd, 1) := by decide +kernel
theorem dX10_instrument_40 : decode cX10_instrument 40 = .ok (.putfield 65, 3) := by decide +kernel
theorem dX10_instrument_43 : decode cX10_instrument 43 = .ok (.aload_n 0, 1) := by decide +kernel
theorem dX10_instrument_44 : decode cX10_instrument 44 = .ok (.getfield 65, 3) := by decide +kernel
theorem dX10_instrument_47 : decode cX10_instrument 47 = .ok (.iconst 1, 1) := by decide +kernel
theorem dX10_instrument_48 : decode cX10_instrument 48 = .ok (.isub, 1) := by decide +kernel
theorem dX10_instrument_49 : decode cX10_instrument 49 = .ok (.ireturn, 1) := by decide +kernel
set_option maxRecDepth 20000 in
theorem ggX10_note_X10_isInstrument : GoodIn wsX10_note wsX10_isInstrument := goodIn_r _ [8, 9, 10, 11, 7, 12, 13, 14, 15, 16, 17, 18, 19, 20, 21, 22, 23, 24, 25, 26, 27, 28, 29, 30, 31, 32, 33] (by decide +kernel) (by decide +kernel)
set_option maxRecDepth 20000 in
theorem gX10_note_X10_isInstrument : GoodIn wsX10_note (wsV RX10 91 RX10 yX10_isInstrument wsX10_isInstrument) := goodIn_app (goodIn_of _ (by decide +kernel)) ggX10_note_X10_isInstrument
set_option maxRecDepth 20000 in
theorem ggX10_note_X10_in : GoodIn wsX10_note wsX10_in := goodIn_r _ [12] (by decide +kernel) (by decide +kernel)
set_option maxRecDepth 20000 in
theorem gX10_note_X10_in : GoodIn wsX10_note (va_wsS RX10 68 yX10_in wsX10_in) := goodIn_app (goodIn_of _ (by decide +kernel)) ggX10_note_X10_in
theorem dX10_note_0 : decode cX10_note 0 = .ok (.aload_n 0, 1) := by decide +kernel
theorem dX10_note_1 : decode cX10_note 1 = .ok (.iload_n 1, 1) := by decide +kernel
theorem dX10_note_2 : decode cX10_note 2 = .ok (.invokevirtual 91, 3) := by decide +kernel
theorem dX10_note_5 : decode cX10_note 5 = .ok (.ifCond .eq 13, 3) := by decide +kernel
theorem dX10_note_8 : decode cX10_note 8 = .ok (.iload_n 2, 1) := by decide +kernel
theorem dX10_note_9 : decode cX10_note 9 = .ok (.iconst 0, 1) := by decide +kernel
theorem dX10_note_10 : decode cX10_note 10 = .ok (.bipush 127, 2) := by decide +kernel
theorem dX10_note_12 : decode cX10_note 12 = .ok (.invokestatic 68, 3) := by decide +kernel
theorem dX10_note_15 : decode cX10_note 15 = .ok (.ifCond .ne 5, 3) := by decide +kernel
theorem dX10_note_18 : decode cX10_note 18 = .ok (.iconst (-1), 1) := by decide +kernel
theorem dX10_note_19 : decode cX10_note 19 = .ok (.ireturn, 1) := by decide +kernel
theorem dX10_note_20 : decode cX10_note 20 = .ok (.aload_n 0, 1) := by decide +kernel
theorem dX10_note_21 : decode cX10_note 21 = .ok (.getfield 35, 3) := by decide +kernel
theorem dX10_note_24 : decode cX10_note 24 = .ok (.iload_n 1, 1) := by decide +kernel
theorem dX10_note_25 : decode cX10_note 25 = .ok (.baload, 1) := by decide +kernel
theorem dX10_note_26 : decode cX10_note 26 = .ok (.ifCond .eq 7, 3) := by decide +kernel
theorem dX10_note_29 : decode cX10_note 29 = .ok (.iconst 1, 1) := by decide +kernel
theorem dX10_note_30 : decode cX10_note 30 = .ok (.goto 4, 3) := by decide +kernel
theorem dX10_note_33 : decode cX10_note 33 = .ok (.iconst 0, 1) := by decide +kernel
theorem dX10_note_34 : decode cX10_note 34 = .ok (.istore 4, 2) := by decide +kernel
theorem dX10_note_36 : decode cX10_note 36 = .ok (.aload_n 0, 1) := by decide +kernel
theorem dX10_note_37 : decode cX10_note 37 = .ok (.getfield 32, 3) := by decide +kernel
theorem dX10_note_40 : decode cX10_note 40 = .ok (.iload_n 1, 1) := by decide +kernel
theorem dX10_note_41 : decode cX10_note 41 = .ok (.iload_n 2, 1) := by decide +kernel
theorem dX10_note_42 : decode cX10_note 42 = .ok (.iastore, 1) := by decide +kernel
theorem dX10_note_43 : decode cX10_note 43 = .ok (.aload_n 0, 1) := by decide +kernel
theorem dX10_note_44 : decode cX10_note 44 = .ok (.getfield 35, 3) := by decide +kernel
theorem dX10_note_47 : decode cX10_note 47 = .ok (.iload_n 1, 1) := by decide +kernel
theorem dX10_note_48 : decode cX10_note 48 = .ok (.iload_n 3, 1) := by decide +kernel
theorem dX10_note_49 : decode cX10_note 49 = .ok (.bastore, 1) := by decide +kernel
theorem dX10_note_50 : decode cX10_note 50 = .ok (.iload_n 3, 1) := by decide +kernel
theorem dX10_note_51 : decode cX10_note 51 = .ok (.ifCond .eq 11, 3) := by decide +kernel
theorem dX10_note_54 : decode cX10_note 54 = .ok (.aload_n 0, 1) := by decide +kernel
theorem dX10_note_55 : decode cX10_note 55 = .ok (.getfield 42, 3) := by decide +kernel
theorem dX10_note_58 : decode cX10_note 58 = .ok (.iload_n 1, 1) := by decide +kernel
theorem dX10_note_59 : decode cX10_note 59 = .ok (.iload_n 2, 1) := by decide +kernel
theorem dX10_note_60 : decode cX10_note 60 = .ok (.i2d, 1) := by decide +kernel
theorem dX10_note_61 : decode cX10_note 61 = .ok (.dastore, 1) := by decide +kernel
theorem dX10_note_62 : decode cX10_note 62 = .ok (.iload 4, 2) := by decide +kernel
theorem dX10_note_64 : decode cX10_note 64 = .ok (.ireturn, 1) := by decide +kernel
set_option maxRecDepth 20000 in
theorem ggX10_knob_X10_isInstrument : GoodIn wsX10_knob wsX10_isInstrument := goodIn_r _ [7, 8, 9, 10, 6, 11, 12, 13, 14, 15, 16, 17, 18, 19, 20, 21, 22, 23, 24, 25, 26, 27, 28, 29, 30, 31, 32] (by decide +kernel) (by decide +kernel)
set_option maxRecDepth 20000 in
theorem gX10_knob_X10_isInstrument : GoodIn wsX10_knob (wsV RX10 91 RX10 yX10_isInstrument wsX10_isInstrument) := goodIn_app (goodIn_of _ (by decide +kernel)) ggX10_knob_X10_isInstrument
set_option maxRecDepth 20000 in
theorem ggX10_knob_X10_in : GoodIn wsX10_knob wsX10_in := goodIn_r _ [11] (by decide +kernel) (by decide +kernel)
set_option maxRecDepth 20000 in
theorem gX10_knob_X10_in : GoodIn wsX10_knob (va_wsS RX10 68 yX10_in wsX10_in) := goodIn_app (goodIn_of _ (by decide +kernel)) ggX10_knob_X10_in
theorem dX10_knob_0 : decode cX10_knob 0 = .ok (.aload_n 0, 1) := by decide +kernel
theorem dX10_knob_1 : decode cX10_knob 1 = .ok (.iload_n 1, 1) := by decide +kernel
theorem dX10_knob_2 : decode cX10_knob 2 = .ok (.invokevirtual 91, 3) := by decide +kernel
theorem dX10_knob_5 : decode cX10_knob 5 = .ok (.ifCond .eq 12, 3) := by decide +kernel
theorem dX10_knob_8 : decode cX10_knob 8 = .ok (.iload_n 2, 1) := by decide +kernel
theorem dX10_knob_9 : decode cX10_knob 9 = .ok (.iconst 0, 1) := by decide +kernel
theorem dX10_knob_10 : decode cX10_knob 10 = .ok (.iconst 3, 1) := by decide +kernel
theorem dX10_knob_11 : decode cX10_knob 11 = .ok (.invokestatic 68, 3) := by decide +kernel
theorem dX10_knob_14 : decode cX10_knob 14 = .ok (.ifCond .ne 10, 3) := by decide +kernel
theorem dX10_knob_17 : decode cX10_knob 17 = .ok (.aload_n 0, 1) := by decide +kernel
theorem dX10_knob_18 : decode cX10_knob 18 = .ok (.iconst (-1), 1) := by decide +kernel
theorem dX10_knob_19 : decode cX10_knob 19 = .ok (.putfield 72, 3) := by decide +kernel
theorem dX10_knob_22 : decode cX10_knob 22 = .ok (.iconst 0, 1) := by decide +kernel
theorem dX10_knob_23 : decode cX10_knob 23 = .ok (.ireturn, 1) := by decide +kernel
theorem dX10_knob_24 : decode cX10_knob 24 = .ok (.aload_n 0, 1) := by decide +kernel
theorem dX10_knob_25 : decode cX10_knob 25 = .ok (.iconst 0, 1) := by decide +kernel
theorem dX10_knob_26 : decode cX10_knob 26 = .ok (.putfield 72, 3) := by decide +kernel
theorem dX10_knob_29 : decode cX10_knob 29 = .ok (.aload_n 0, 1) := by decide +kernel
theorem dX10_knob_30 : decode cX10_knob 30 = .ok (.getfield 29, 3) := by decide +kernel
theorem dX10_knob_33 : decode cX10_knob 33 = .ok (.iconst 4, 1) := by decide +kernel
theorem dX10_knob_34 : decode cX10_knob 34 = .ok (.iload_n 1, 1) := by decide +kernel
theorem dX10_knob_35 : decode cX10_knob 35 = .ok (.imul, 1) := by decide +kernel
theorem dX10_knob_36 : decode cX10_knob 36 = .ok (.iload_n 2, 1) := by decide +kernel
theorem dX10_knob_37 : decode cX10_knob 37 = .ok (.iadd, 1) := by decide +kernel
theorem dX10_knob_38 : decode cX10_knob 38 = .ok (.iaload, 1) := by decide +kernel
theorem dX10_knob_39 : decode cX10_knob 39 = .ok (.istore 4, 2) := by decide +kernel
theorem dX10_knob_41 : decode cX10_knob 41 = .ok (.aload_n 0, 1) := by decide +kernel
theorem dX10_knob_42 : decode cX10_knob 42 = .ok (.getfield 29, 3) := by decide +kernel
theorem dX10_knob_45 : decode cX10_knob 45 = .ok (.iconst 4, 1) := by decide +kernel
theorem dX10_knob_46 : decode cX10_knob 46 = .ok (.iload_n 1, 1) := by decide +kernel
theorem dX10_knob_47 : decode cX10_knob 47 = .ok (.imul, 1) := by decide +kernel
theorem dX10_knob_48 : decode cX10_knob 48 = .ok (.iload_n 2, 1) := by decide +kernel
theorem dX10_knob_49 : decode cX10_knob 49 = .ok (.iadd, 1) := by decide +kernel
theorem dX10_knob_50 : decode cX10_knob 50 = .ok (.iload_n 3, 1) := by decide +kernel
theorem dX10_knob_51 : decode cX10_knob 51 = .ok (.iastore, 1) := by decide +kernel
theorem dX10_knob_52 : decode cX10_knob 52 = .ok (.iload 4, 2) := by decide +kernel
theorem dX10_knob_54 : decode cX10_knob 54 = .ok (.ireturn, 1) := by decide +kernel
set_option maxRecDepth 20000 in
theorem ggX10_phase_X10_isInstrument : GoodIn wsX10_phase wsX10_isInstrument := goodIn_r _ [7, 8, 9, 10, 6, 11, 12, 13, 14, 15, 16, 17, 18, 19, 20, 21, 22, 23, 24, 25, 26, 27, 28, 29, 30, 31, 32] (by decide +kernel) (by decide +kernel)
set_option maxRecDepth 20000 in
theorem gX10_phase_X10_isInstrument : GoodIn wsX10_phase (wsV RX10 91 RX10 yX10_isInstrument wsX10_isInstrument) := goodIn_app (goodIn_of _ (by decide +kernel)) ggX10_phase_X10_isInstrument
theorem dX10_phase_0 : decode cX10_phase 0 = .ok (.aload_n 0, 1) := by decide +kernel
theorem dX10_phase_1 : decode cX10_phase 1 = .ok (.iload_n 1, 1) := by decide +kernel
theorem dX10_phase_2 : decode cX10_phase 2 = .ok (.invokevirtual 91, 3) := by decide +kernel
theorem dX10_phase_5 : decode cX10_phase 5 = .ok (.ifCond .ne 10, 3) := by decide +kernel
theorem dX10_phase_8 : decode cX10_phase 8 = .ok (.aload_n 0, 1) := by decide +kernel
theorem dX10_phase_9 : decode cX10_phase 9 = .ok (.iconst (-1), 1) := by decide +kernel
theorem dX10_phase_10 : decode cX10_phase 10 = .ok (.putfield 72, 3) := by decide +kernel
theorem dX10_phase_13 : decode cX10_phase 13 = .ok (.iconst 0, 1) := by decide +kernel
theorem dX10_phase_14 : decode cX10_phase 14 = .ok (.ireturn, 1) := by decide +kernel
theorem dX10_phase_15 : decode cX10_phase 15 = .ok (.aload_n 0, 1) := by decide +kernel
theorem dX10_phase_16 : decode cX10_phase 16 = .ok (.iconst 0, 1) := by decide +kernel
theorem dX10_phase_17 : decode cX10_phase 17 = .ok (.putfield 72, 3) := by decide +kernel
theorem dX10_phase_20 : decode cX10_phase 20 = .ok (.aload_n 0, 1) := by decide +kernel
theorem dX10_phase_21 : decode cX10_phase 21 = .ok (.getfield 39, 3) := by decide +kernel
theorem dX10_phase_24 : decode cX10_phase 24 = .ok (.iload_n 1, 1) := by decide +kernel
theorem dX10_phase_25 : decode cX10_phase 25 = .ok (.iaload, 1) := by decide +kernel
theorem dX10_phase_26 : decode cX10_phase 26 = .ok (.istore_n 3, 1) := by decide +kernel
theorem dX10_phase_27 : decode cX10_phase 27 = .ok (.aload_n 0, 1) := by decide +kernel
theorem dX10_phase_28 : decode cX10_phase 28 = .ok (.getfield 39, 3) := by decide +kernel
theorem dX10_phase_31 : decode cX10_phase 31 = .ok (.iload_n 1, 1) := by decide +kernel
theorem dX10_phase_32 : decode cX10_phase 32 = .ok (.iload_n 2, 1) := by decide +kernel
theorem dX10_phase_33 : decode cX10_phase 33 = .ok (.iastore, 1) := by decide +kernel
theorem dX10_phase_34 : decode cX10_phase 34 = .ok (.iload_n 3, 1) := by decide +kernel
theorem dX10_phase_35 : decode cX10_phase 35 = .ok (.ireturn, 1) := by decide +kernel
set_option maxRecDepth 20000 in
theorem ggX10_table_X10_isInstrument : GoodIn wsX10_table wsX10_isInstrument := goodIn_r _ [7, 8, 9, 10, 6, 11, 23, 24, 25, 26, 27, 28, 29, 30, 31, 32, 33, 34, 35, 36, 37, 38, 39, 40, 41, 42, 43] (by decide +kernel) (by decide +kernel)
set_option maxRecDepth 20000 in
theorem gX10_table_X10_isInstrument : GoodIn wsX10_table (wsV RX10 91 RX10 yX10_isInstrument wsX10_isInstrument) := goodIn_app (goodIn_of _ (by decide +kernel)) ggX10_table_X10_isInstrument
set_option maxRecDepth 20000 in
theorem ggX10_table_X10_in : GoodIn wsX10_table wsX10_in := goodIn_r _ [11] (by decide +kernel) (by decide +kernel)
set_option maxRecDepth 20000 in
theorem gX10_table_X10_in : GoodIn wsX10_table (va_wsS RX10 68 yX10_in wsX10_in) := goodIn_app (goodIn_of _ (by decide +kernel)) ggX10_table_X10_in
set_option maxRecDepth 20000 in
theorem ggX10_table_X10_copyOf : GoodIn wsX10_table wsX10_copyOf := goodIn_r _ [15, 16, 17, 18, 19, 20, 21, 6, 22, 1, 2, 23, 24, 25, 26, 27, 28, 29, 30, 31, 32, 33, 34, 35, 36, 37, 38, 39, 40, 41, 42, 43] (by decide +kernel) (by decide +kernel)
set_option maxRecDepth 20000 in
theorem gX10_table_X10_copyOf : GoodIn wsX10_table (wsV RX10 95 RX10 yX10_copyOf wsX10_copyOf) := goodIn_app (goodIn_of _ (by decide +kernel)) ggX10_table_X10_copyOf
theorem dX10_table_0 : decode cX10_table 0 = .ok (.aload_n 0, 1) := by decide +kernel
theorem dX10_table_1 : decode cX10_table 1 = .ok (.iload_n 1, 1) := by decide +kernel
theorem dX10_table_2 : decode cX10_table 2 = .ok (.invokevirtual 91, 3) := by decide +kernel
theorem dX10_table_5 : decode cX10_table 5 = .ok (.ifCond .eq 13, 3) := by decide +kernel
theorem dX10_table_8 : decode cX10_table 8 = .ok (.iload_n 2, 1) := by decide +kernel
theorem dX10_table_9 : decode cX10_table 9 = .ok (.iconst (-1), 1) := by decide +kernel
theorem dX10_table_10 : decode cX10_table 10 = .ok (.bipush 9, 2) := by decide +kernel
theorem dX10_table_12 : decode cX10_table 12 = .ok (.invokestatic 68, 3) := by decide +kernel
theorem dX10_table_15 : decode cX10_table 15 = .ok (.ifCond .ne 5, 3) := by decide +kernel
theorem dX10_table_18 : decode cX10_table 18 = .ok (.iconst (-1), 1) := by decide +kernel
theorem dX10_table_19 : decode cX10_table 19 = .ok (.ireturn, 1) := by decide +kernel
theorem dX10_table_20 : decode cX10_table 20 = .ok (.iload_n 2, 1) := by decide +kernel
theorem dX10_table_21 : decode cX10_table 21 = .ok (.ifCond .ge 7, 3) := by decide +kernel
theorem dX10_table_24 : decode cX10_table 24 = .ok (.iconst (-1), 1) := by decide +kernel
theorem dX10_table_25 : decode cX10_table 25 = .ok (.goto 9, 3) := by decide +kernel
theorem dX10_table_28 : decode cX10_table 28 = .ok (.aload_n 0, 1) := by decide +kernel
theorem dX10_table_29 : decode cX10_table 29 = .ok (.getfield 7, 3) := by decide +kernel
theorem dX10_table_32 : decode cX10_table 32 = .ok (.iload_n 2, 1) := by decide +kernel
theorem dX10_table_33 : decode cX10_table 33 = .ok (.iaload, 1) := by decide +kernel
theorem dX10_table_34 : decode cX10_table 34 = .ok (.istore 4, 2) := by decide +kernel
theorem dX10_table_36 : decode cX10_table 36 = .ok (.aload_n 0, 1) := by decide +kernel
theorem dX10_table_37 : decode cX10_table 37 = .ok (.getfield 13, 3) := by decide +kernel
theorem dX10_table_40 : decode cX10_table 40 = .ok (.iload_n 1, 1) := by decide +kernel
theorem dX10_table_41 : decode cX10_table 41 = .ok (.iconst (-1), 1) := by decide +kernel
theorem dX10_table_42 : decode cX10_table 42 = .ok (.iastore, 1) := by decide +kernel
theorem dX10_table_43 : decode cX10_table 43 = .ok (.aload_n 0, 1) := by decide +kernel
theorem dX10_table_44 : decode cX10_table 44 = .ok (.getfield 13, 3) := by decide +kernel
theorem dX10_table_47 : decode cX10_table 47 = .ok (.iload_n 1, 1) := by decide +kernel
theorem dX10_table_48 : decode cX10_table 48 = .ok (.iload 4, 2) := by decide +kernel
theorem dX10_table_50 : decode cX10_table 50 = .ok (.ifCond .lt 7, 3) := by decide +kernel
theorem dX10_table_53 : decode cX10_table 53 = .ok (.iload_n 3, 1) := by decide +kernel
theorem dX10_table_54 : decode cX10_table 54 = .ok (.ifCond .eq 8, 3) := by decide +kernel
theorem dX10_table_57 : decode cX10_table 57 = .ok (.iload 4, 2) := by decide +kernel
theorem dX10_table_59 : decode cX10_table 59 = .ok (.goto 9, 3) := by decide +kernel
theorem dX10_table_62 : decode cX10_table 62 = .ok (.aload_n 0, 1) := by decide +kernel
theorem dX10_table_63 : decode cX10_table 63 = .ok (.iload 4, 2) := by decide +kernel
theorem dX10_table_65 : decode cX10_table 65 = .ok (.invokevirtual 95, 3) := by decide +kernel
theorem dX10_table_68 : decode cX10_table 68 = .ok (.iastore, 1) := by decide +kernel
theorem dX10_table_69 : decode cX10_table 69 = .ok (.iconst 1, 1) := by decide +kernel
theorem dX10_table_70 : decode cX10_table 70 = .ok (.ireturn, 1) := by decide +kernel
set_option maxRecDepth 20000 in
theorem ggX10_block_X10_in : GoodIn wsX10_block wsX10_in := goodIn_r _ [5] (by decide +kernel) (by decide +kernel)
set_option maxRecDepth 20000 in
theorem gX10_block_X10_in : GoodIn wsX10_block (va_wsS RX10 68 yX10_in wsX10_in) := goodIn_app (goodIn_of _ (by decide +kernel)) ggX10_block_X10_in
set_option maxRecDepth 20000 in
theorem ggX10_block_X10_freshRow : GoodIn wsX10_block wsX10_freshRow := goodIn_r _ [9, 1, 10, 11, 12, 13, 14, 15, 16, 17, 18, 19, 20, 21, 22, 23, 24, 25, 26, 27, 28, 29, 30, 31, 32, 33, 34] (by decide +kernel) (by decide +kernel)
set_option maxRecDepth 20000 in
theorem gX10_block_X10_freshRow : GoodIn wsX10_block (wsV RX10 75 RX10 yX10_freshRow wsX10_freshRow) := goodIn_app (goodIn_of _ (by decide +kernel)) ggX10_block_X10_freshRow
theorem dX10_block_0 : decode cX10_block 0 = .ok (.iload_n 1, 1) := by decide +kernel
theorem dX10_block_1 : decode cX10_block 1 = .ok (.iconst 0, 1) := by decide +kernel
theorem dX10_block_2 : decode cX10_block 2 = .ok (.bipush 9, 2) := by decide +kernel
theorem dX10_block_4 : decode cX10_block 4 = .ok (.invokestatic 68, 3) := by decide +kernel
theorem dX10_block_7 : decode cX10_block 7 = .ok (.ifCond .eq 18, 3) := by decide +kernel
theorem dX10_block_10 : decode cX10_block 10 = .ok (.iload_n 2, 1) := by decide +kernel
theorem dX10_block_11 : decode cX10_block 11 = .ok (.iconst 0, 1) := by decide +kernel
theorem dX10_block_12 : decode cX10_block 12 = .ok (.iconst 3, 1) := by decide +kernel
theorem dX10_block_13 : decode cX10_block 13 = .ok (.invokestatic 68, 3) := by decide +kernel
theorem dX10_block_16 : decode cX10_block 16 = .ok (.ifCond .eq 9, 3) := by decide +kernel
theorem dX10_block_19 : decode cX10_block 19 = .ok (.iload_n 3, 1) := by decide +kernel
theorem dX10_block_20 : decode cX10_block 20 = .ok (.bipush 40, 2) := by decide +kernel
theorem dX10_block_22 : decode cX10_block 22 = .ok (.if_icmp .le 5, 3) := by decide +kernel
theorem dX10_block_25 : decode cX10_block 25 = .ok (.iconst (-1), 1) := by decide +kernel
theorem dX10_block_26 : decode cX10_block 26 = .ok (.ireturn, 1) := by decide +kernel
theorem dX10_block_27 : decode cX10_block 27 = .ok (.iload_n 3, 1) := by decide +kernel
theorem dX10_block_28 : decode cX10_block 28 = .ok (.ifCond .ge 6, 3) := by decide +kernel
theorem dX10_block_31 : decode cX10_block 31 = .ok (.bipush (-8), 2) := by decide +kernel
theorem dX10_block_33 : decode cX10_block 33 = .ok (.ireturn, 1) := by decide +kernel
theorem dX10_block_34 : decode cX10_block 34 = .ok (.aload_n 0, 1) := by decide +kernel
theorem dX10_block_35 : decode cX10_block 35 = .ok (.getfield 7, 3) := by decide +kernel
theorem dX10_block_38 : decode cX10_block 38 = .ok (.iload_n 1, 1) := by decide +kernel
theorem dX10_block_39 : decode cX10_block 39 = .ok (.iconst (-1), 1) := by decide +kernel
theorem dX10_block_40 : decode cX10_block 40 = .ok (.iastore, 1) := by decide +kernel
theorem dX10_block_41 : decode cX10_block 41 = .ok (.aload_n 0, 1) := by decide +kernel
theorem dX10_block_42 : decode cX10_block 42 = .ok (.getfield 7, 3) := by decide +kernel
theorem dX10_block_45 : decode cX10_block 45 = .ok (.iload_n 1, 1) := by decide +kernel
theorem dX10_block_46 : decode cX10_block 46 = .ok (.aload_n 0, 1) := by decide +kernel
theorem dX10_block_47 : decode cX10_block 47 = .ok (.iload_n 2, 1) := by decide +kernel
theorem dX10_block_48 : decode cX10_block 48 = .ok (.iload_n 3, 1) := by decide +kernel
theorem dX10_block_49 : decode cX10_block 49 = .ok (.invokevirtual 75, 3) := by decide +kernel
theorem dX10_block_52 : decode cX10_block 52 = .ok (.iastore, 1) := by decide +kernel
theorem dX10_block_53 : decode cX10_block 53 = .ok (.iconst 1, 1) := by decide +kernel
theorem dX10_block_54 : decode cX10_block 54 = .ok (.ireturn, 1) := by decide +kernel
set_option maxRecDepth 20000 in
theorem ggX10_lend_X10_in : GoodIn wsX10_lend wsX10_in := goodIn_r _ [5] (by decide +kernel) (by decide +kernel)
set_option maxRecDepth 20000 in
theorem gX10_lend_X10_in : GoodIn wsX10_lend (va_wsS RX10 68 yX10_in wsX10_in) := goodIn_app (goodIn_of _ (by decide +kernel)) ggX10_lend_X10_in
set_option maxRecDepth 20000 in
theorem ggX10_lend_X10_copyOf : GoodIn wsX10_lend wsX10_copyOf := goodIn_r _ [9, 10, 11, 12, 13, 14, 15, 4, 16, 1, 17, 18, 19, 20, 21, 22, 23, 24, 25, 26, 27, 28, 29, 30, 31, 32, 33, 34, 35, 36, 37, 38] (by decide +kernel) (by decide +kernel)
set_option maxRecDepth 20000 in
theorem gX10_lend_X10_copyOf : GoodIn wsX10_lend (wsV RX10 95 RX10 yX10_copyOf wsX10_copyOf) := goodIn_app (goodIn_of _ (by decide +kernel)) ggX10_lend_X10_copyOf
theorem dX10_lend_0 : decode cX10_lend 0 = .ok (.iload_n 1, 1) := by decide +kernel
theorem dX10_lend_1 : decode cX10_lend 1 = .ok (.iconst 0, 1) := by decide +kernel
theorem dX10_lend_2 : decode cX10_lend 2 = .ok (.bipush 9, 2) := by decide +kernel
theorem dX10_lend_4 : decode cX10_lend 4 = .ok (.invokestatic 68, 3) := by decide +kernel
theorem dX10_lend_7 : decode cX10_lend 7 = .ok (.ifCond .eq 13, 3) := by decide +kernel
theorem dX10_lend_10 : decode cX10_lend 10 = .ok (.iload_n 2, 1) := by decide +kernel
theorem dX10_lend_11 : decode cX10_lend 11 = .ok (.iconst 0, 1) := by decide +kernel
theorem dX10_lend_12 : decode cX10_lend 12 = .ok (.bipush 9, 2) := by decide +kernel
theorem dX10_lend_14 : decode cX10_lend 14 = .ok (.invokestatic 68, 3) := by decide +kernel
theorem dX10_lend_17 : decode cX10_lend 17 = .ok (.ifCond .ne 5, 3) := by decide +kernel
theorem dX10_lend_20 : decode cX10_lend 20 = .ok (.iconst (-1), 1) := by decide +kernel
theorem dX10_lend_21 : decode cX10_lend 21 = .ok (.ireturn, 1) := by decide +kernel
theorem dX10_lend_22 : decode cX10_lend 22 = .ok (.aload_n 0, 1) := by decide +kernel
theorem dX10_lend_23 : decode cX10_lend 23 = .ok (.getfield 7, 3) := by decide +kernel
theorem dX10_lend_26 : decode cX10_lend 26 = .ok (.iload_n 2, 1) := by decide +kernel
theorem dX10_lend_27 : decode cX10_lend 27 = .ok (.iaload, 1) := by decide +kernel
theorem dX10_lend_28 : decode cX10_lend 28 = .ok (.istore 4, 2) := by decide +kernel
theorem dX10_lend_30 : decode cX10_lend 30 = .ok (.iload 4, 2) := by decide +kernel
theorem dX10_lend_32 : decode cX10_lend 32 = .ok (.ifCond .ge 10, 3) := by decide +kernel
theorem dX10_lend_35 : decode cX10_lend 35 = .ok (.iload_n 3, 1) := by decide +kernel
theorem dX10_lend_36 : decode cX10_lend 36 = .ok (.ifCond .ne 6, 3) := by decide +kernel
theorem dX10_lend_39 : decode cX10_lend 39 = .ok (.bipush (-5), 2) := by decide +kernel
theorem dX10_lend_41 : decode cX10_lend 41 = .ok (.ireturn, 1) := by decide +kernel
theorem dX10_lend_42 : decode cX10_lend 42 = .ok (.aload_n 0, 1) := by decide +kernel
theorem dX10_lend_43 : decode cX10_lend 43 = .ok (.getfield 7, 3) := by decide +kernel
theorem dX10_lend_46 : decode cX10_lend 46 = .ok (.iload_n 1, 1) := by decide +kernel
theorem dX10_lend_47 : decode cX10_lend 47 = .ok (.iload_n 3, 1) := by decide +kernel
theorem dX10_lend_48 : decode cX10_lend 48 = .ok (.ifCond .eq 8, 3) := by decide +kernel
theorem dX10_lend_51 : decode cX10_lend 51 = .ok (.iload 4, 2) := by decide +kernel
theorem dX10_lend_53 : decode cX10_lend 53 = .ok (.goto 9, 3) := by decide +kernel
theorem dX10_lend_56 : decode cX10_lend 56 = .ok (.aload_n 0, 1) := by decide +kernel
theorem dX10_lend_57 : decode cX10_lend 57 = .ok (.iload 4, 2) := by decide +kernel
theorem dX10_lend_59 : decode cX10_lend 59 = .ok (.invokevirtual 95, 3) := by decide +kernel
theorem dX10_lend_62 : decode cX10_lend 62 = .ok (.iastore, 1) := by decide +kernel
theorem dX10_lend_63 : decode cX10_lend 63 = .ok (.iconst 1, 1) := by decide +kernel
theorem dX10_lend_64 : decode cX10_lend 64 = .ok (.ireturn, 1) := by decide +kernel
set_option maxRecDepth 20000 in
theorem ggX10_isLent_X10_in : GoodIn wsX10_isLent wsX10_in := goodIn_r _ [5] (by decide +kernel) (by decide +kernel)
set_option maxRecDepth 20000 in
theorem gX10_isLent_X10_in : GoodIn wsX10_isLent (va_wsS RX10 68 yX10_in wsX10_in) := goodIn_app (goodIn_of _ (by decide +kernel)) ggX10_isLent_X10_in
theorem dX10_isLent_0 : decode cX10_isLent 0 = .ok (.iload_n 1, 1) := by decide +kernel
theorem dX10_isLent_1 : decode cX10_isLent 1 = .ok (.iconst 0, 1) := by decide +kernel
theorem dX10_isLent_2 : decode cX10_isLent 2 = .ok (.bipush 9, 2) := by decide +kernel
theorem dX10_isLent_4 : decode cX10_isLent 4 = .ok (.invokestatic 68, 3) := by decide +kernel
theorem dX10_isLent_7 : decode cX10_isLent 7 = .ok (.ifCond .eq 32, 3) := by decide +kernel
theorem dX10_isLent_10 : decode cX10_isLent 10 = .ok (.iload_n 2, 1) := by decide +kernel
theorem dX10_isLent_11 : decode cX10_isLent 11 = .ok (.iconst 0, 1) := by decide +kernel
theorem dX10_isLent_12 : decode cX10_isLent 12 = .ok (.bipush 9, 2) := by decide +kernel
theorem dX10_isLent_14 : decode cX10_isLent 14 = .ok (.invokestatic 68, 3) := by decide +kernel
theorem dX10_isLent_17 : decode cX10_isLent 17 = .ok (.ifCond .eq 22, 3) := by decide +kernel
theorem dX10_isLent_20 : decode cX10_isLent 20 = .ok (.aload_n 0, 1) := by decide +kernel
theorem dX10_isLent_21 : decode cX10_isLent 21 = .ok (.getfield 7, 3) := by decide +kernel
theorem dX10_isLent_24 : decode cX10_isLent 24 = .ok (.iload_n 1, 1) := by decide +kernel
theorem dX10_isLent_25 : decode cX10_isLent 25 = .ok (.iaload, 1) := by decide +kernel
theorem dX10_isLent_26 : decode cX10_isLent 26 = .ok (.aload_n 0, 1) := by decide +kernel
theorem dX10_isLent_27 : decode cX10_isLent 27 = .ok (.getfield 7, 3) := by decide +kernel
theorem dX10_isLent_30 : decode cX10_isLent 30 = .ok (.iload_n 2, 1) := by decide +kernel
theorem dX10_isLent_31 : decode cX10_isLent 31 = .ok (.iaload, 1) := by decide +kernel
theorem dX10_isLent_32 : decode cX10_isLent 32 = .ok (.if_icmp .ne 7, 3) := by decide +kernel
theorem dX10_isLent_35 : decode cX10_isLent 35 = .ok (.iconst 1, 1) := by decide +kernel
theorem dX10_isLent_36 : decode cX10_isLent 36 = .ok (.goto 4, 3) := by decide +kernel
theorem dX10_isLent_39 : decode cX10_isLent 39 = .ok (.iconst 0, 1) := by decide +kernel
theorem dX10_isLent_40 : decode cX10_isLent 40 = .ok (.ireturn, 1) := by decide +kernel
set_option maxRecDepth 20000 in
theorem ggX10_of_X10_in : GoodIn wsX10_of wsX10_in := goodIn_r _ [7] (by decide +kernel) (by decide +kernel)
set_option maxRecDepth 20000 in
theorem gX10_of_X10_in : GoodIn wsX10_of (va_wsS RX10 68 yX10_in wsX10_in) := goodIn_app (goodIn_of _ (by decide +kernel)) ggX10_of_X10_in
theorem dX10_of_0 : decode cX10_of 0 = .ok (.iload_n 1, 1) := by decide +kernel
theorem dX10_of_1 : decode cX10_of 1 = .ok (.iconst 0, 1) := by decide +kernel
theorem dX10_of_2 : decode cX10_of 2 = .ok (.bipush 9, 2) := by decide +kernel
theorem dX10_of_4 : decode cX10_of 4 = .ok (.invokestatic 68, 3) := by decide +kernel
theorem dX10_of_7 : decode cX10_of 7 = .ok (.ifCond .eq 12, 3) := by decide +kernel
theorem dX10_of_10 : decode cX10_of 10 = .ok (.iload_n 2, 1) := by decide +kernel
theorem dX10_of_11 : decode cX10_of 11 = .ok (.iconst 0, 1) := by decide +kernel
theorem dX10_of_12 : decode cX10_of 12 = .ok (.iconst 1, 1) := by decide +kernel
theorem dX10_of_13 : decode cX10_of 13 = .ok (.invokestatic 68, 3) := by decide +kernel
theorem dX10_of_16 : decode cX10_of 16 = .ok (.ifCond .ne 5, 3) := by decide +kernel
theorem dX10_of_19 : decode cX10_of 19 = .ok (.iconst (-1), 1) := by decide +kernel
theorem dX10_of_20 : decode cX10_of 20 = .ok (.ireturn, 1) := by decide +kernel
theorem dX10_of_21 : decode cX10_of 21 = .ok (.aload_n 0, 1) := by decide +kernel
theorem dX10_of_22 : decode cX10_of 22 = .ok (.getfield 7, 3) := by decide +kernel
theorem dX10_of_25 : decode cX10_of 25 = .ok (.iload_n 1, 1) := by decide +kernel
theorem dX10_of_26 : decode cX10_of 26 = .ok (.iaload, 1) := by decide +kernel
theorem dX10_of_27 : decode cX10_of 27 = .ok (.istore_n 3, 1) := by decide +kernel
theorem dX10_of_28 : decode cX10_of 28 = .ok (.iload_n 3, 1) := by decide +kernel
theorem dX10_of_29 : decode cX10_of 29 = .ok (.ifCond .ge 8, 3) := by decide +kernel
theorem dX10_of_32 : decode cX10_of 32 = .ok (.bipush (-5), 2) := by decide +kernel
theorem dX10_of_34 : decode cX10_of 34 = .ok (.goto 22, 3) := by decide +kernel
theorem dX10_of_37 : decode cX10_of 37 = .ok (.iload_n 2, 1) := by decide +kernel
theorem dX10_of_38 : decode cX10_of 38 = .ok (.ifCond .ne 12, 3) := by decide +kernel
theorem dX10_of_41 : decode cX10_of 41 = .ok (.aload_n 0, 1) := by decide +kernel
theorem dX10_of_42 : decode cX10_of 42 = .ok (.getfield 16, 3) := by decide +kernel
theorem dX10_of_45 : decode cX10_of 45 = .ok (.iload_n 3, 1) := by decide +kernel
theorem dX10_of_46 : decode cX10_of 46 = .ok (.iaload, 1) := by decide +kernel
theorem dX10_of_47 : decode cX10_of 47 = .ok (.goto 9, 3) := by decide +kernel
theorem dX10_of_50 : decode cX10_of 50 = .ok (.aload_n 0, 1) := by decide +kernel
theorem dX10_of_51 : decode cX10_of 51 = .ok (.getfield 19, 3) := by decide +kernel
theorem dX10_of_54 : decode cX10_of 54 = .ok (.iload_n 3, 1) := by decide +kernel
theorem dX10_of_55 : decode cX10_of 55 = .ok (.iaload, 1) := by decide +kernel
theorem dX10_of_56 : decode cX10_of 56 = .ok (.ireturn, 1) := by decide +kernel
set_option maxRecDepth 20000 in
theorem ggX10_reach_X10_in : GoodIn wsX10_reach wsX10_in := goodIn_r _ [6] (by decide +kernel) (by decide +kernel)
set_option maxRecDepth 20000 in
theorem gX10_reach_X10_in : GoodIn wsX10_reach (va_wsS RX10 68 yX10_in wsX10_in) := goodIn_app (goodIn_of _ (by decide +kernel)) ggX10_reach_X10_in
theorem dX10_reach_0 : decode cX10_reach 0 = .ok (.iload_n 1, 1) := by decide +kernel
theorem dX10_reach_1 : decode cX10_reach 1 = .ok (.iconst 0, 1) := by decide +kernel
theorem dX10_reach_2 : decode cX10_reach 2 = .ok (.bipush 9, 2) := by decide +kernel
theorem dX10_reach_4 : decode cX10_reach 4 = .ok (.invokestatic 68, 3) := by decide +kernel
theorem dX10_reach_7 : decode cX10_reach 7 = .ok (.ifCond .ne 5, 3) := by decide +kernel
theorem dX10_reach_10 : decode cX10_reach 10 = .ok (.iconst (-1), 1) := by decide +kernel
theorem dX10_reach_11 : decode cX10_reach 11 = .ok (.ireturn, 1) := by decide +kernel
theorem dX10_reach_12 : decode cX10_reach 12 = .ok (.aload_n 0, 1) := by decide +kernel
theorem dX10_reach_13 : decode cX10_reach 13 = .ok (.getfield 7, 3) := by decide +kernel
theorem dX10_reach_16 : decode cX10_reach 16 = .ok (.iload_n 1, 1) := by decide +kernel
theorem dX10_reach_17 : decode cX10_reach 17 = .ok (.iaload, 1) := by decide +kernel
theorem dX10_reach_18 : decode cX10_reach 18 = .ok (.istore_n 3, 1) := by decide +kernel
theorem dX10_reach_19 : decode cX10_reach 19 = .ok (.iload_n 3, 1) := by decide +kernel
theorem dX10_reach_20 : decode cX10_reach 20 = .ok (.ifCond .ge 8, 3) := by decide +kernel
theorem dX10_reach_23 : decode cX10_reach 23 = .ok (.bipush (-5), 2) := by decide +kernel
theorem dX10_reach_25 : decode cX10_reach 25 = .ok (.goto 25, 3) := by decide +kernel
theorem dX10_reach_28 : decode cX10_reach 28 = .ok (.iload_n 2, 1) := by decide +kernel
theorem dX10_reach_29 : decode cX10_reach 29 = .ok (.iconst 0, 1) := by decide +kernel
theorem dX10_reach_30 : decode cX10_reach 30 = .ok (.aload_n 0, 1) := by decide +kernel
theorem dX10_reach_31 : decode cX10_reach 31 = .ok (.getfield 19, 3) := by decide +kernel
theorem dX10_reach_34 : decode cX10_reach 34 = .ok (.iload_n 3, 1) := by decide +kernel
theorem dX10_reach_35 : decode cX10_reach 35 = .ok (.iaload, 1) := by decide +kernel
theorem dX10_reach_36 : decode cX10_reach 36 = .ok (.iconst 1, 1) := by decide +kernel
theorem dX10_reach_37 : decode cX10_reach 37 = .ok (.isub, 1) := by decide +kernel
theorem dX10_reach_38 : decode cX10_reach 38 = .ok (.invokestatic 68, 3) := by decide +kernel
theorem dX10_reach_41 : decode cX10_reach 41 = .ok (.ifCond .eq 7, 3) := by decide +kernel
theorem dX10_reach_44 : decode cX10_reach 44 = .ok (.iconst 1, 1) := by decide +kernel
theorem dX10_reach_45 : decode cX10_reach 45 = .ok (.goto 5, 3) := by decide +kernel
theorem dX10_reach_48 : decode cX10_reach 48 = .ok (.bipush (-7), 2) := by decide +kernel
theorem dX10_reach_50 : decode cX10_reach 50 = .ok (.ireturn, 1) := by decide +kernel
set_option maxRecDepth 20000 in
theorem ggX10_at_X10_reach : GoodIn wsX10_at wsX10_reach := goodIn_r _ [7, 2, 8, 9, 10, 6, 11, 17, 18, 19, 20, 21, 22, 23, 24, 25, 26, 27, 28, 29, 30, 31, 32, 33, 34, 35, 36, 37] (by decide +kernel) (by decide +kernel)
set_option maxRecDepth 20000 in
theorem gX10_at_X10_reach : GoodIn wsX10_at (wsV RX10 99 RX10 yX10_reach wsX10_reach) := goodIn_app (goodIn_of _ (by decide +kernel)) ggX10_at_X10_reach
set_option maxRecDepth 20000 in
theorem ggX10_at_X10_says : GoodIn wsX10_at wsX10_says := goodIn_r _ [15, 16, 17, 18, 19, 20, 21, 22, 23, 24, 25, 26, 27, 28, 29, 30, 31, 32, 33, 34, 35, 36, 37] (by decide +kernel) (by decide +kernel)
set_option maxRecDepth 20000 in
theorem gX10_at_X10_says : GoodIn wsX10_at (wsV RX10 102 RX10 yX10_says wsX10_says) := goodIn_app (goodIn_of _ (by decide +kernel)) ggX10_at_X10_says
theorem dX10_at_0 : decode cX10_at 0 = .ok (.aload_n 0, 1) := by decide +kernel
theorem dX10_at_1 : decode cX10_at 1 = .ok (.aload_n 0, 1) := by decide +kernel
theorem dX10_at_2 : decode cX10_at 2 = .ok (.iload_n 1, 1) := by decide +kernel
theorem dX10_at_3 : decode cX10_at 3 = .ok (.iload_n 2, 1) := by decide +kernel
theorem dX10_at_4 : decode cX10_at 4 = .ok (.invokevirtual 99, 3) := by decide +kernel
theorem dX10_at_7 : decode cX10_at 7 = .ok (.invokevirtual 102, 3) := by decide +kernel
theorem dX10_at_10 : decode cX10_at 10 = .ok (.iconst 1, 1) := by decide +kernel
theorem dX10_at_11 : decode cX10_at 11 = .ok (.if_icmp .ne 22, 3) := by decide +kernel
theorem dX10_at_14 : decode cX10_at 14 = .ok (.aload_n 0, 1) := by decide +kernel
theorem dX10_at_15 : decode cX10_at 15 = .ok (.getfield 22, 3) := by decide +kernel
theorem dX10_at_18 : decode cX10_at 18 = .ok (.bipush 40, 2) := by decide +kernel
theorem dX10_at_20 : decode cX10_at 20 = .ok (.aload_n 0, 1) := by decide +kernel
theorem dX10_at_21 : decode cX10_at 21 = .ok (.getfield 7, 3) := by decide +kernel
theorem dX10_at_24 : decode cX10_at 24 = .ok (.iload_n 1, 1) := by decide +kernel
theorem dX10_at_25 : decode cX10_at 25 = .ok (.iaload, 1) := by decide +kernel
theorem dX10_at_26 : decode cX10_at 26 = .ok (.imul, 1) := by decide +kernel
theorem dX10_at_27 : decode cX10_at 27 = .ok (.iload_n 2, 1) := by decide +kernel
theorem dX10_at_28 : decode cX10_at 28 = .ok (.iadd, 1) := by decide +kernel
theorem dX10_at_29 : decode cX10_at 29 = .ok (.laload, 1) := by decide +kernel
theorem dX10_at_30 : decode cX10_at 30 = .ok (.goto 4, 3) := by decide +kernel
theorem dX10_at_33 : decode cX10_at 33 = .ok (.lconst 0, 1) := by decide +kernel
theorem dX10_at_34 : decode cX10_at 34 = .ok (.lreturn, 1) := by decide +kernel
set_option maxRecDepth 20000 in
theorem ggX10_put_X10_reach : GoodIn wsX10_put wsX10_reach := goodIn_r _ [9, 3, 10, 11, 12, 8, 13, 45, 46, 47, 48, 49, 50, 51, 52, 53, 54, 55, 56, 57, 58, 59, 60, 61, 62, 63, 64, 65] (by decide +kernel) (by decide +kernel)
set_option maxRecDepth 20000 in
theorem gX10_put_X10_reach : GoodIn wsX10_put (wsV RX10 99 RX10 yX10_reach wsX10_reach) := goodIn_app (goodIn_of _ (by decide +kernel)) ggX10_put_X10_reach
set_option maxRecDepth 20000 in
theorem ggX10_put_X10_says : GoodIn wsX10_put wsX10_says := goodIn_r _ [17, 1, 45, 46, 47, 48, 49, 50, 51, 52, 53, 54, 55, 56, 57, 58, 59, 60, 61, 62, 63, 64, 65] (by decide +kernel) (by decide +kernel)
set_option maxRecDepth 20000 in
theorem gX10_put_X10_says : GoodIn wsX10_put (wsV RX10 102 RX10 yX10_says wsX10_says) := goodIn_app (goodIn_of _ (by decide +kernel)) ggX10_put_X10_says
set_option maxRecDepth 20000 in
theorem ggX10_put_X10_cast : GoodIn wsX10_put wsX10_cast := goodIn_r _ [20, 21, 22, 23, 24, 25, 26, 27, 28, 29, 30, 31, 32, 33, 34, 35, 36, 37, 38, 39, 40, 41, 42, 43, 44] (by decide +kernel) (by decide +kernel)
set_option maxRecDepth 20000 in
theorem gX10_put_X10_cast : GoodIn wsX10_put (va_wsS RX10 105 yX10_cast wsX10_cast) := goodIn_app (goodIn_of _ (by decide +kernel)) ggX10_put_X10_cast
theorem dX10_put_0 : decode cX10_put 0 = .ok (.aload_n 0, 1) := by decide +kernel
theorem dX10_put_1 : decode cX10_put 1 = .ok (.aload_n 0, 1) := by decide +kernel
theorem dX10_put_2 : decode cX10_put 2 = .ok (.iload_n 1, 1) := by decide +kernel
theorem dX10_put_3 : decode cX10_put 3 = .ok (.iload_n 2, 1) := by decide +kernel
theorem dX10_put_4 : decode cX10_put 4 = .ok (.invokevirtual 99, 3) := by decide +kernel
theorem dX10_put_7 : decode cX10_put 7 = .ok (.invokevirtual 102, 3) := by decide +kernel
theorem dX10_put_10 : decode cX10_put 10 = .ok (.iconst 1, 1) := by decide +kernel
theorem dX10_put_11 : decode cX10_put 11 = .ok (.if_icmp .eq 8, 3) := by decide +kernel
theorem dX10_put_14 : decode cX10_put 14 = .ok (.aload_n 0, 1) := by decide +kernel
theorem dX10_put_15 : decode cX10_put 15 = .ok (.getfield 72, 3) := by decide +kernel
theorem dX10_put_18 : decode cX10_put 18 = .ok (.ireturn, 1) := by decide +kernel
theorem dX10_put_19 : decode cX10_put 19 = .ok (.aload_n 0, 1) := by decide +kernel
theorem dX10_put_20 : decode cX10_put 20 = .ok (.getfield 22, 3) := by decide +kernel
theorem dX10_put_23 : decode cX10_put 23 = .ok (.bipush 40, 2) := by decide +kernel
theorem dX10_put_25 : decode cX10_put 25 = .ok (.aload_n 0, 1) := by decide +kernel
theorem dX10_put_26 : decode cX10_put 26 = .ok (.getfield 7, 3) := by decide +kernel
theorem dX10_put_29 : decode cX10_put 29 = .ok (.iload_n 1, 1) := by decide +kernel
theorem dX10_put_30 : decode cX10_put 30 = .ok (.iaload, 1) := by decide +kernel
theorem dX10_put_31 : decode cX10_put 31 = .ok (.imul, 1) := by decide +kernel
theorem dX10_put_32 : decode cX10_put 32 = .ok (.iload_n 2, 1) := by decide +kernel
theorem dX10_put_33 : decode cX10_put 33 = .ok (.iadd, 1) := by decide +kernel
theorem dX10_put_34 : decode cX10_put 34 = .ok (.aload_n 0, 1) := by decide +kernel
theorem dX10_put_35 : decode cX10_put 35 = .ok (.getfield 16, 3) := by decide +kernel
theorem dX10_put_38 : decode cX10_put 38 = .ok (.aload_n 0, 1) := by decide +kernel
theorem dX10_put_39 : decode cX10_put 39 = .ok (.getfield 7, 3) := by decide +kernel
theorem dX10_put_42 : decode cX10_put 42 = .ok (.iload_n 1, 1) := by decide +kernel
theorem dX10_put_43 : decode cX10_put 43 = .ok (.iaload, 1) := by decide +kernel
theorem dX10_put_44 : decode cX10_put 44 = .ok (.iaload, 1) := by decide +kernel
theorem dX10_put_45 : decode cX10_put 45 = .ok (.iload_n 3, 1) := by decide +kernel
theorem dX10_put_46 : decode cX10_put 46 = .ok (.i2d, 1) := by decide +kernel
theorem dX10_put_47 : decode cX10_put 47 = .ok (.invokestatic 105, 3) := by decide +kernel
theorem dX10_put_50 : decode cX10_put 50 = .ok (.lastore, 1) := by decide +kernel
theorem dX10_put_51 : decode cX10_put 51 = .ok (.iconst 1, 1) := by decide +kernel
theorem dX10_put_52 : decode cX10_put 52 = .ok (.ireturn, 1) := by decide +kernel
set_option maxRecDepth 20000 in
theorem ggX10_copy_X10_in : GoodIn wsX10_copy wsX10_in := goodIn_r _ [9] (by decide +kernel) (by decide +kernel)
set_option maxRecDepth 20000 in
theorem gX10_copy_X10_in : GoodIn wsX10_copy (va_wsS RX10 68 yX10_in wsX10_in) := goodIn_app (goodIn_of _ (by decide +kernel)) ggX10_copy_X10_in
set_option maxRecDepth 20000 in
theorem ggX10_copy_X10_says : GoodIn wsX10_copy wsX10_says := goodIn_r _ [13, 14, 15, 16, 17, 18, 19, 20, 21, 22, 23, 24, 25, 26, 27, 28, 29, 30, 31, 32, 33, 34, 35] (by decide +kernel) (by decide +kernel)
set_option maxRecDepth 20000 in
theorem gX10_copy_X10_says : GoodIn wsX10_copy (wsV RX10 102 RX10 yX10_says wsX10_says) := goodIn_app (goodIn_of _ (by decide +kernel)) ggX10_copy_X10_says
theorem dX10_copy_0 : decode cX10_copy 0 = .ok (.iload_n 1, 1) := by decide +kernel
theorem dX10_copy_1 : decode cX10_copy 1 = .ok (.iconst 0, 1) := by decide +kernel
theorem dX10_copy_2 : decode cX10_copy 2 = .ok (.bipush 9, 2) := by decide +kernel
theorem dX10_copy_4 : decode cX10_copy 4 = .ok (.invokestatic 68, 3) := by decide +kernel
theorem dX10_copy_7 : decode cX10_copy 7 = .ok (.ifCond .eq 13, 3) := by decide +kernel
theorem dX10_copy_10 : decode cX10_copy 10 = .ok (.iload_n 3, 1) := by decide +kernel
theorem dX10_copy_11 : decode cX10_copy 11 = .ok (.iconst 0, 1) := by decide +kernel
theorem dX10_copy_12 : decode cX10_copy 12 = .ok (.bipush 9, 2) := by decide +kernel
theorem dX10_copy_14 : decode cX10_copy 14 = .ok (.invokestatic 68, 3) := by decide +kernel
theorem dX10_copy_17 : decode cX10_copy 17 = .ok (.ifCond .ne 9, 3) := by decide +kernel
theorem dX10_copy_20 : decode cX10_copy 20 = .ok (.aload_n 0, 1) := by decide +kernel
theorem dX10_copy_21 : decode cX10_copy 21 = .ok (.iconst (-1), 1) := by decide +kernel
theorem dX10_copy_22 : decode cX10_copy 22 = .ok (.invokevirtual 102, 3) := by decide +kernel
theorem dX10_copy_25 : decode cX10_copy 25 = .ok (.ireturn, 1) := by decide +kernel
theorem dX10_copy_26 : decode cX10_copy 26 = .ok (.aload_n 0, 1) := by decide +kernel
theorem dX10_copy_27 : decode cX10_copy 27 = .ok (.getfield 7, 3) := by decide +kernel
theorem dX10_copy_30 : decode cX10_copy 30 = .ok (.iload_n 1, 1) := by decide +kernel
theorem dX10_copy_31 : decode cX10_copy 31 = .ok (.iaload, 1) := by decide +kernel
theorem dX10_copy_32 : decode cX10_copy 32 = .ok (.istore 6, 2) := by decide +kernel
theorem dX10_copy_34 : decode cX10_copy 34 = .ok (.aload_n 0, 1) := by decide +kernel
theorem dX10_copy_35 : decode cX10_copy 35 = .ok (.getfield 7, 3) := by decide +kernel
theorem dX10_copy_38 : decode cX10_copy 38 = .ok (.iload_n 3, 1) := by decide +kernel
theorem dX10_copy_39 : decode cX10_copy 39 = .ok (.iaload, 1) := by decide +kernel
theorem dX10_copy_40 : decode cX10_copy 40 = .ok (.istore 7, 2) := by decide +kernel
theorem dX10_copy_42 : decode cX10_copy 42 = .ok (.iload 6, 2) := by decide +kernel
theorem dX10_copy_44 : decode cX10_copy 44 = .ok (.ifCond .lt 8, 3) := by decide +kernel
theorem dX10_copy_47 : decode cX10_copy 47 = .ok (.iload 7, 2) := by decide +kernel
theorem dX10_copy_49 : decode cX10_copy 49 = .ok (.ifCond .ge 10, 3) := by decide +kernel
theorem dX10_copy_52 : decode cX10_copy 52 = .ok (.aload_n 0, 1) := by decide +kernel
theorem dX10_copy_53 : decode cX10_copy 53 = .ok (.bipush (-5), 2) := by decide +kernel
theorem dX10_copy_55 : decode cX10_copy 55 = .ok (.invokevirtual 102, 3) := by decide +kernel
theorem dX10_copy_58 : decode cX10_copy 58 = .ok (.ireturn, 1) := by decide +kernel
theorem dX10_copy_59 : decode cX10_copy 59 = .ok (.aload_n 0, 1) := by decide +kernel
theorem dX10_copy_60 : decode cX10_copy 60 = .ok (.getfield 16, 3) := by decide +kernel
theorem dX10_copy_63 : decode cX10_copy 63 = .ok (.iload 6, 2) := by decide +kernel
theorem dX10_copy_65 : decode cX10_copy 65 = .ok (.iaload, 1) := by decide +kernel
theorem dX10_copy_66 : decode cX10_copy 66 = .ok (.aload_n 0, 1) := by decide +kernel
theorem dX10_copy_67 : decode cX10_copy 67 = .ok (.getfield 16, 3) := by decide +kernel
theorem dX10_copy_70 : decode cX10_copy 70 = .ok (.iload 7, 2) := by decide +kernel
theorem dX10_copy_72 : decode cX10_copy 72 = .ok (.iaload, 1) := by decide +kernel
theorem dX10_copy_73 : decode cX10_copy 73 = .ok (.if_icmp .eq 10, 3) := by decide +kernel
theorem dX10_copy_76 : decode cX10_copy 76 = .ok (.aload_n 0, 1) := by decide +kernel
theorem dX10_copy_77 : decode cX10_copy 77 = .ok (.bipush (-9), 2) := by decide +kernel
theorem dX10_copy_79 : decode cX10_copy 79 = .ok (.invokevirtual 102, 3) := by decide +kernel
theorem dX10_copy_82 : decode cX10_copy 82 = .ok (.ireturn, 1) := by decide +kernel
theorem dX10_copy_83 : decode cX10_copy 83 = .ok (.iload_n 2, 1) := by decide +kernel
theorem dX10_copy_84 : decode cX10_copy 84 = .ok (.ifCond .lt 50, 3) := by decide +kernel
theorem dX10_copy_87 : decode cX10_copy 87 = .ok (.iload 4, 2) := by decide +kernel
theorem dX10_copy_89 : decode cX10_copy 89 = .ok (.ifCond .lt 45, 3) := by decide +kernel
theorem dX10_copy_92 : decode cX10_copy 92 = .ok (.iload 5, 2) := by decide +kernel
theorem dX10_copy_94 : decode cX10_copy 94 = .ok (.ifCond .lt 40, 3) := by decide +kernel
theorem dX10_copy_97 : decode cX10_copy 97 = .ok (.iload_n 2, 1) := by decide +kernel
theorem dX10_copy_98 : decode cX10_copy 98 = .ok (.i2l, 1) := by decide +kernel
theorem dX10_copy_99 : decode cX10_copy 99 = .ok (.iload 5, 2) := by decide +kernel
theorem dX10_copy_101 : decode cX10_copy 101 = .ok (.i2l, 1) := by decide +kernel
theorem dX10_copy_102 : decode cX10_copy 102 = .ok (.ladd, 1) := by decide +kernel
theorem dX10_copy_103 : decode cX10_copy 103 = .ok (.aload_n 0, 1) := by decide +kernel
theorem dX10_copy_104 : decode cX10_copy 104 = .ok (.getfield 19, 3) := by decide +kernel
theorem dX10_copy_107 : decode cX10_copy 107 = .ok (.iload 6, 2) := by decide +kernel
theorem dX10_copy_109 : decode cX10_copy 109 = .ok (.iaload, 1) := by decide +kernel
theorem dX10_copy_110 : decode cX10_copy 110 = .ok (.i2l, 1) := by decide +kernel
theorem dX10_copy_111 : decode cX10_copy 111 = .ok (.lcmp, 1) := by decide +kernel
theorem dX10_copy_112 : decode cX10_copy 112 = .ok (.ifCond .gt 22, 3) := by decide +kernel
theorem dX10_copy_115 : decode cX10_copy 115 = .ok (.iload 4, 2) := by decide +kernel
theorem dX10_copy_117 : decode cX10_copy 117 = .ok (.i2l, 1) := by decide +kernel
theorem dX10_copy_118 : decode cX10_copy 118 = .ok (.iload 5, 2) := by decide +kernel
theorem dX10_copy_120 : decode cX10_copy 120 = .ok (.i2l, 1) := by decide +kernel
theorem dX10_copy_121 : decode cX10_copy 121 = .ok (.ladd, 1) := by decide +kernel
theorem dX10_copy_122 : decode cX10_copy 122 = .ok (.aload_n 0, 1) := by decide +kernel
theorem dX10_copy_123 : decode cX10_copy 123 = .ok (.getfield 19, 3) := by decide +kernel
theorem dX10_copy_126 : decode cX10_copy 126 = .ok (.iload 7, 2) := by decide +kernel
theorem dX10_copy_128 : decode cX10_copy 128 = .ok (.iaload, 1) := by decide +kernel
theorem dX10_copy_129 : decode cX10_copy 129 = .ok (.i2l, 1) := by decide +kernel
theorem dX10_copy_130 : decode cX10_copy 130 = .ok (.lcmp, 1) := by decide +kernel
theorem dX10_copy_131 : decode cX10_copy 131 = .ok (.ifCond .le 10, 3) := by decide +kernel
theorem dX10_copy_134 : decode cX10_copy 134 = .ok (.aload_n 0, 1) := by decide +kernel
theorem dX10_copy_135 : decode cX10_copy 135 = .ok (.bipush (-7), 2) := by decide +kernel
theorem dX10_copy_137 : decode cX10_copy 137 = .ok (.invokevirtual 102, 3) := by decide +kernel
theorem dX10_copy_140 : decode cX10_copy 140 = .ok (.ireturn, 1) := by decide +kernel
theorem dX10_copy_141 : decode cX10_copy 141 = .ok (.iconst 0, 1) := by decide +kernel
theorem dX10_copy_142 : decode cX10_copy 142 = .ok (.istore 8, 2) := by decide +kernel
theorem dX10_copy_144 : decode cX10_copy 144 = .ok (.iload 8, 2) := by decide +kernel
theorem dX10_copy_146 : decode cX10_copy 146 = .ok (.iload 5, 2) := by decide +kernel
theorem dX10_copy_148 : decode cX10_copy 148 = .ok (.if_icmp .ge 31, 3) := by decide +kernel
theorem dX10_copy_151 : decode cX10_copy 151 = .ok (.aload_n 0, 1) := by decide +kernel
theorem dX10_copy_152 : decode cX10_copy 152 = .ok (.getfield 58, 3) := by decide +kernel
theorem dX10_copy_155 : decode cX10_copy 155 = .ok (.iload 8, 2) := by decide +kernel
theorem dX10_copy_157 : decode cX10_copy 157 = .ok (.aload_n 0, 1) := by decide +kernel
theorem dX10_copy_158 : decode cX10_copy 158 = .ok (.getfield 22, 3) := by decide +kernel
theorem dX10_copy_161 : decode cX10_copy 161 = .ok (.bipush 40, 2) := by decide +kernel
theorem dX10_copy_163 : decode cX10_copy 163 = .ok (.iload 6, 2) := by decide +kernel
theorem dX10_copy_165 : decode cX10_copy 165 = .ok (.imul, 1) := by decide +kernel
theorem dX10_copy_166 : decode cX10_copy 166 = .ok (.iload_n 2, 1) := by decide +kernel
theorem dX10_copy_167 : decode cX10_copy 167 = .ok (.iadd, 1) := by decide +kernel
theorem dX10_copy_168 : decode cX10_copy 168 = .ok (.iload 8, 2) := by decide +kernel
theorem dX10_copy_170 : decode cX10_copy 170 = .ok (.iadd, 1) := by decide +kernel
theorem dX10_copy_171 : decode cX10_copy 171 = .ok (.laload, 1) := by decide +kernel
theorem dX10_copy_172 : decode cX10_copy 172 = .ok (.lastore, 1) := by decide +kernel
theorem dX10_copy_173 : decode cX10_copy 173 = .ok (.iinc 8 1, 3) := by decide +kernel
theorem dX10_copy_176 : decode cX10_copy 176 = .ok (.goto (-32), 3) := by decide +kernel
theorem dX10_copy_179 : decode cX10_copy 179 = .ok (.iconst 0, 1) := by decide +kernel
theorem dX10_copy_180 : decode cX10_copy 180 = .ok (.istore 8, 2) := by decide +kernel
theorem dX10_copy_182 : decode cX10_copy 182 = .ok (.iload 8, 2) := by decide +kernel
theorem dX10_copy_184 : decode cX10_copy 184 = .ok (.iload 5, 2) := by decide +kernel
theorem dX10_copy_186 : decode cX10_copy 186 = .ok (.if_icmp .ge 32, 3) := by decide +kernel
theorem dX10_copy_189 : decode cX10_copy 189 = .ok (.aload_n 0, 1) := by decide +kernel
theorem dX10_copy_190 : decode cX10_copy 190 = .ok (.getfield 22, 3) := by decide +kernel
theorem dX10_copy_193 : decode cX10_copy 193 = .ok (.bipush 40, 2) := by decide +kernel
theorem dX10_copy_195 : decode cX10_copy 195 = .ok (.iload 7, 2) := by decide +kernel
theorem dX10_copy_197 : decode cX10_copy 197 = .ok (.imul, 1) := by decide +kernel
theorem dX10_copy_198 : decode cX10_copy 198 = .ok (.iload 4, 2) := by decide +kernel
theorem dX10_copy_200 : decode cX10_copy 200 = .ok (.iadd, 1) := by decide +kernel
theorem dX10_copy_201 : decode cX10_copy 201 = .ok (.iload 8, 2) := by decide +kernel
theorem dX10_copy_203 : decode cX10_copy 203 = .ok (.iadd, 1) := by decide +kernel
theorem dX10_copy_204 : decode cX10_copy 204 = .ok (.aload_n 0, 1) := by decide +kernel
theorem dX10_copy_205 : decode cX10_copy 205 = .ok (.getfield 58, 3) := by decide +kernel
theorem dX10_copy_208 : decode cX10_copy 208 = .ok (.iload 8, 2) := by decide +kernel
theorem dX10_copy_210 : decode cX10_copy 210 = .ok (.laload, 1) := by decide +kernel
theorem dX10_copy_211 : decode cX10_copy 211 = .ok (.lastore, 1) := by decide +kernel
theorem dX10_copy_212 : decode cX10_copy 212 = .ok (.iinc 8 1, 3) := by decide +kernel
theorem dX10_copy_215 : decode cX10_copy 215 = .ok (.goto (-33), 3) := by decide +kernel
theorem dX10_copy_218 : decode cX10_copy 218 = .ok (.aload_n 0, 1) := by decide +kernel
theorem dX10_copy_219 : decode cX10_copy 219 = .ok (.iconst 1, 1) := by decide +kernel
theorem dX10_copy_220 : decode cX10_copy 220 = .ok (.invokevirtual 102, 3) := by decide +kernel
theorem dX10_copy_223 : decode cX10_copy 223 = .ok (.ireturn, 1) := by decide +kernel
set_option maxRecDepth 20000 in
theorem ggX10_bind_X10_in : GoodIn wsX10_bind wsX10_in := goodIn_r _ [5] (by decide +kernel) (by decide +kernel)
set_option maxRecDepth 20000 in
theorem gX10_bind_X10_in : GoodIn wsX10_bind (va_wsS RX10 68 yX10_in wsX10_in) := goodIn_app (goodIn_of _ (by decide +kernel)) ggX10_bind_X10_in
theorem dX10_bind_0 : decode cX10_bind 0 = .ok (.iload_n 1, 1) := by decide +kernel
theorem dX10_bind_1 : decode cX10_bind 1 = .ok (.iconst 0, 1) := by decide +kernel
theorem dX10_bind_2 : decode cX10_bind 2 = .ok (.iconst 3, 1) := by decide +kernel
theorem dX10_bind_3 : decode cX10_bind 3 = .ok (.invokestatic 68, 3) := by decide +kernel
theorem dX10_bind_6 : decode cX10_bind 6 = .ok (.ifCond .ne 6, 3) := by decide +kernel
theorem dX10_bind_9 : decode cX10_bind 9 = .ok (.bipush (-2), 2) := by decide +kernel
theorem dX10_bind_11 : decode cX10_bind 11 = .ok (.ireturn, 1) := by decide +kernel
theorem dX10_bind_12 : decode cX10_bind 12 = .ok (.aload_n 0, 1) := by decide +kernel
theorem dX10_bind_13 : decode cX10_bind 13 = .ok (.getfield 61, 3) := by decide +kernel
theorem dX10_bind_16 : decode cX10_bind 16 = .ok (.istore_n 2, 1) := by decide +kernel
theorem dX10_bind_17 : decode cX10_bind 17 = .ok (.aload_n 0, 1) := by decide +kernel
theorem dX10_bind_18 : decode cX10_bind 18 = .ok (.iload_n 1, 1) := by decide +kernel
theorem dX10_bind_19 : decode cX10_bind 19 = .ok (.putfield 61, 3) := by decide +kernel
theorem dX10_bind_22 : decode cX10_bind 22 = .ok (.iload_n 2, 1) := by decide +kernel
theorem dX10_bind_23 : decode cX10_bind 23 = .ok (.ireturn, 1) := by decide +kernel
set_option maxRecDepth 20000 in
theorem ggX10_function_X10_in : GoodIn wsX10_function wsX10_in := goodIn_r _ [7] (by decide +kernel) (by decide +kernel)
set_option maxRecDepth 20000 in
theorem gX10_function_X10_in : GoodIn wsX10_function (va_wsS RX10 68 yX10_in wsX10_in) := goodIn_app (goodIn_of _ (by decide +kernel)) ggX10_function_X10_in
theorem dX10_function_0 : decode cX10_function 0 = .ok (.iload_n 1, 1) := by decide +kernel
theorem dX10_function_1 : decode cX10_function 1 = .ok (.iconst 0, 1) := by decide +kernel
theorem dX10_function_2 : decode cX10_function 2 = .ok (.iconst 5, 1) := by decide +kernel
theorem dX10_function_3 : decode cX10_function 3 = .ok (.invokestatic 68, 3) := by decide +kernel
theorem dX10_function_6 : decode cX10_function 6 = .ok (.ifCond .ne 5, 3) := by decide +kernel
theorem dX10_function_9 : decode cX10_function 9 = .ok (.iconst (-1), 1) := by decide +kernel
theorem dX10_function_10 : decode cX10_function 10 = .ok (.ireturn, 1) := by decide +kernel
theorem dX10_function_11 : decode cX10_function 11 = .ok (.aload_n 0, 1) := by decide +kernel
theorem dX10_function_12 : decode cX10_function 12 = .ok (.getfield 109, 3) := by decide +kernel
theorem dX10_function_15 : decode cX10_function 15 = .ok (.bipush 8, 2) := by decide +kernel
theorem dX10_function_17 : decode cX10_function 17 = .ok (.if_icmp .ne 6, 3) := by decide +kernel
theorem dX10_function_20 : decode cX10_function 20 = .ok (.bipush (-2), 2) := by decide +kernel
theorem dX10_function_22 : decode cX10_function 22 = .ok (.ireturn, 1) := by decide +kernel
theorem dX10_function_23 : decode cX10_function 23 = .ok (.aload_n 0, 1) := by decide +kernel
theorem dX10_function_24 : decode cX10_function 24 = .ok (.getfield 46, 3) := by decide +kernel
theorem dX10_function_27 : decode cX10_function 27 = .ok (.aload_n 0, 1) := by decide +kernel
theorem dX10_function_28 : decode cX10_function 28 = .ok (.getfield 109, 3) := by decide +kernel
theorem dX10_function_31 : decode cX10_function 31 = .ok (.iload_n 1, 1) := by decide +kernel
theorem dX10_function_32 : decode cX10_function 32 = .ok (.iastore, 1) := by decide +kernel
theorem dX10_function_33 : decode cX10_function 33 = .ok (.aload_n 0, 1) := by decide +kernel
theorem dX10_function_34 : decode cX10_function 34 = .ok (.getfield 49, 3) := by decide +kernel
theorem dX10_function_37 : decode cX10_function 37 = .ok (.aload_n 0, 1) := by decide +kernel
theorem dX10_function_38 : decode cX10_function 38 = .ok (.getfield 109, 3) := by decide +kernel
theorem dX10_function_41 : decode cX10_function 41 = .ok (.iload_n 2, 1) := by decide +kernel
theorem dX10_function_42 : decode cX10_function 42 = .ok (.iastore, 1) := by decide +kernel
theorem dX10_function_43 : decode cX10_function 43 = .ok (.aload_n 0, 1) := by decide +kernel
theorem dX10_function_44 : decode cX10_function 44 = .ok (.dup, 1) := by decide +kernel
theorem dX10_function_45 : decode cX10_function 45 = .ok (.getfield 109, 3) := by decide +kernel
theorem dX10_function_48 : decode cX10_function 48 = .ok (.iconst 1, 1) := by decide +kernel
theorem dX10_function_49 : decode cX10_function 49 = .ok (.iadd, 1) := by decide +kernel
theorem dX10_function_50 : decode cX10_function 50 = .ok (.putfield 109, 3) := by decide +kernel
theorem dX10_function_53 : decode cX10_function 53 = .ok (.aload_n 0, 1) := by decide +kernel
theorem dX10_function_54 : decode cX10_function 54 = .ok (.getfield 109, 3) := by decide +kernel
theorem dX10_function_57 : decode cX10_function 57 = .ok (.iconst 1, 1) := by decide +kernel
theorem dX10_function_58 : decode cX10_function 58 = .ok (.isub, 1) := by decide +kernel
theorem dX10_function_59 : decode cX10_function 59 = .ok (.ireturn, 1) := by decide +kernel
theorem dX10_failed_0 : decode cX10_failed 0 = .ok (.aload_n 0, 1) := by decide +kernel
theorem dX10_failed_1 : decode cX10_failed 1 = .ok (.iload_n 1, 1) := by decide +kernel
theorem dX10_failed_2 : decode cX10_failed 2 = .ok (.putfield 112, 3) := by decide +kernel
theorem dX10_failed_5 : decode cX10_failed 5 = .ok (.dconst 0, 1) := by decide +kernel
theorem dX10_failed_6 : decode cX10_failed 6 = .ok (.dreturn, 1) := by decide +kernel
theorem dX10_tone_0 : decode cX10_tone 0 = .ok (.aload_n 0, 1) := by decide +kernel
theorem dX10_tone_1 : decode cX10_tone 1 = .ok (.getfield 35, 3) := by decide +kernel
theorem dX10_tone_4 : decode cX10_tone 4 = .ok (.iload_n 1, 1) := by decide +kernel
theorem dX10_tone_5 : decode cX10_tone 5 = .ok (.baload, 1) := by decide +kernel
theorem dX10_tone_6 : decode cX10_tone 6 = .ok (.ifCond .eq 23, 3) := by decide +kernel
theorem dX10_tone_9 : decode cX10_tone 9 = .ok (.iload_n 2, 1) := by decide +kernel
theorem dX10_tone_10 : decode cX10_tone 10 = .ok (.aload_n 0, 1) := by decide +kernel
theorem dX10_tone_11 : decode cX10_tone 11 = .ok (.getfield 32, 3) := by decide +kernel
theorem dX10_tone_14 : decode cX10_tone 14 = .ok (.iload_n 1, 1) := by decide +kernel
theorem dX10_tone_15 : decode cX10_tone 15 = .ok (.iaload, 1) := by decide +kernel
theorem dX10_tone_16 : decode cX10_tone 16 = .ok (.imul, 1) := by decide +kernel
theorem dX10_tone_17 : decode cX10_tone 17 = .ok (.sipush 256, 3) := by decide +kernel
theorem dX10_tone_20 : decode cX10_tone 20 = .ok (.irem, 1) := by decide +kernel
theorem dX10_tone_21 : decode cX10_tone 21 = .ok (.sipush 128, 3) := by decide +kernel
theorem dX10_tone_24 : decode cX10_tone 24 = .ok (.isub, 1) := by decide +kernel
theorem dX10_tone_25 : decode cX10_tone 25 = .ok (.i2d, 1) := by decide +kernel
theorem dX10_tone_26 : decode cX10_tone 26 = .ok (.goto 4, 3) := by decide +kernel
theorem dX10_tone_29 : decode cX10_tone 29 = .ok (.dconst 0, 1) := by decide +kernel
theorem dX10_tone_30 : decode cX10_tone 30 = .ok (.dreturn, 1) := by decide +kernel
set_option maxRecDepth 20000 in
theorem ggX10_drum_X10_failed : GoodIn wsX10_drum wsX10_failed := goodIn_r _ [8, 9, 10, 11, 12, 13, 14, 15, 16, 17, 18, 19, 20, 21, 22, 23, 24, 25, 26, 27, 28, 29, 30] (by decide +kernel) (by decide +kernel)
set_option maxRecDepth 20000 in
theorem gX10_drum_X10_failed : GoodIn wsX10_drum (wsV RX10 115 RX10 yX10_failed wsX10_failed) := goodIn_app (goodIn_of _ (by decide +kernel)) ggX10_drum_X10_failed
theorem dX10_drum_0 : decode cX10_drum 0 = .ok (.aload_n 0, 1) := by decide +kernel
theorem dX10_drum_1 : decode cX10_drum 1 = .ok (.getfield 29, 3) := by decide +kernel
theorem dX10_drum_4 : decode cX10_drum 4 = .ok (.iconst 4, 1) := by decide +kernel
theorem dX10_drum_5 : decode cX10_drum 5 = .ok (.iload_n 1, 1) := by decide +kernel
theorem dX10_drum_6 : decode cX10_drum 6 = .ok (.imul, 1) := by decide +kernel
theorem dX10_drum_7 : decode cX10_drum 7 = .ok (.iconst 1, 1) := by decide +kernel
theorem dX10_drum_8 : decode cX10_drum 8 = .ok (.iadd, 1) := by decide +kernel
theorem dX10_drum_9 : decode cX10_drum 9 = .ok (.iaload, 1) := by decide +kernel
theorem dX10_drum_10 : decode cX10_drum 10 = .ok (.istore_n 2, 1) := by decide +kernel
theorem dX10_drum_11 : decode cX10_drum 11 = .ok (.iload_n 2, 1) := by decide +kernel
theorem dX10_drum_12 : decode cX10_drum 12 = .ok (.ifCond .ne 10, 3) := by decide +kernel
theorem dX10_drum_15 : decode cX10_drum 15 = .ok (.aload_n 0, 1) := by decide +kernel
theorem dX10_drum_16 : decode cX10_drum 16 = .ok (.bipush (-4), 2) := by decide +kernel
theorem dX10_drum_18 : decode cX10_drum 18 = .ok (.invokevirtual 115, 3) := by decide +kernel
theorem dX10_drum_21 : decode cX10_drum 21 = .ok (.dreturn, 1) := by decide +kernel
theorem dX10_drum_22 : decode cX10_drum 22 = .ok (.aload_n 0, 1) := by decide +kernel
theorem dX10_drum_23 : decode cX10_drum 23 = .ok (.getfield 42, 3) := by decide +kernel
theorem dX10_drum_26 : decode cX10_drum 26 = .ok (.iload_n 1, 1) := by decide +kernel
theorem dX10_drum_27 : decode cX10_drum 27 = .ok (.daload, 1) := by decide +kernel
theorem dX10_drum_28 : decode cX10_drum 28 = .ok (.dstore_n 3, 1) := by decide +kernel
theorem dX10_drum_29 : decode cX10_drum 29 = .ok (.aload_n 0, 1) := by decide +kernel
theorem dX10_drum_30 : decode cX10_drum 30 = .ok (.getfield 42, 3) := by decide +kernel
theorem dX10_drum_33 : decode cX10_drum 33 = .ok (.iload_n 1, 1) := by decide +kernel
theorem dX10_drum_34 : decode cX10_drum 34 = .ok (.dload_n 3, 1) := by decide +kernel
theorem dX10_drum_35 : decode cX10_drum 35 = .ok (.sipush 1000, 3) := by decide +kernel
theorem dX10_drum_38 : decode cX10_drum 38 = .ok (.iload_n 2, 1) := by decide +kernel
theorem dX10_drum_39 : decode cX10_drum 39 = .ok (.idiv, 1) := by decide +kernel
theorem dX10_drum_40 : decode cX10_drum 40 = .ok (.i2d, 1) := by decide +kernel
theorem dX10_drum_41 : decode cX10_drum 41 = .ok (.dmul, 1) := by decide +kernel
theorem dX10_drum_42 : decode cX10_drum 42 = .ok (.ldc2_w 119, 3) := by decide +kernel
theorem dX10_drum_45 : decode cX10_drum 45 = .ok (.ddiv, 1) := by decide +kernel
theorem dX10_drum_46 : decode cX10_drum 46 = .ok (.dastore, 1) := by decide +kernel
theorem dX10_drum_47 : decode cX10_drum 47 = .ok (.dload_n 3, 1) := by decide +kernel
theorem dX10_drum_48 : decode cX10_drum 48 = .ok (.dreturn, 1) := by decide +kernel
set_option maxRecDepth 20000 in
theorem ggX10_reader_X10_failed : GoodIn wsX10_reader wsX10_failed := goodIn_r _ [11, 12, 16, 17, 18, 19, 20, 21, 22, 23, 24, 25, 26, 27, 28, 29, 30, 31, 32, 33, 34, 35, 36] (by decide +kernel) (by decide +kernel)
set_option maxRecDepth 20000 in
theorem gX10_reader_X10_failed : GoodIn wsX10_reader (wsV RX10 115 RX10 yX10_failed wsX10_failed) := goodIn_app (goodIn_of _ (by decide +kernel)) ggX10_reader_X10_failed
set_option maxRecDepth 20000 in
theorem ggX10_reader_X10_in : GoodIn wsX10_reader wsX10_in := goodIn_r _ [15] (by decide +kernel) (by decide +kernel)
set_option maxRecDepth 20000 in
theorem gX10_reader_X10_in : GoodIn wsX10_reader (va_wsS RX10 68 yX10_in wsX10_in) := goodIn_app (goodIn_of _ (by decide +kernel)) ggX10_reader_X10_in
theorem dX10_reader_0 : decode cX10_reader 0 = .ok (.aload_n 0, 1) := by decide +kernel
theorem dX10_reader_1 : decode cX10_reader 1 = .ok (.getfield 35, 3) := by decide +kernel
theorem dX10_reader_4 : decode cX10_reader 4 = .ok (.iload_n 1, 1) := by decide +kernel
theorem dX10_reader_5 : decode cX10_reader 5 = .ok (.baload, 1) := by decide +kernel
theorem dX10_reader_6 : decode cX10_reader 6 = .ok (.ifCond .ne 17, 3) := by decide +kernel
theorem dX10_reader_9 : decode cX10_reader 9 = .ok (.iload_n 2, 1) := by decide +kernel
theorem dX10_reader_10 : decode cX10_reader 10 = .ok (.bipush 8, 2) := by decide +kernel
theorem dX10_reader_12 : decode cX10_reader 12 = .ok (.irem, 1) := by decide +kernel
theorem dX10_reader_13 : decode cX10_reader 13 = .ok (.ifCond .ge 10, 3) := by decide +kernel
theorem dX10_reader_16 : decode cX10_reader 16 = .ok (.aload_n 0, 1) := by decide +kernel
theorem dX10_reader_17 : decode cX10_reader 17 = .ok (.bipush (-8), 2) := by decide +kernel
theorem dX10_reader_19 : decode cX10_reader 19 = .ok (.invokevirtual 115, 3) := by decide +kernel
theorem dX10_reader_22 : decode cX10_reader 22 = .ok (.dreturn, 1) := by decide +kernel
theorem dX10_reader_23 : decode cX10_reader 23 = .ok (.aload_n 0, 1) := by decide +kernel
theorem dX10_reader_24 : decode cX10_reader 24 = .ok (.getfield 13, 3) := by decide +kernel
theorem dX10_reader_27 : decode cX10_reader 27 = .ok (.iload_n 1, 1) := by decide +kernel
theorem dX10_reader_28 : decode cX10_reader 28 = .ok (.iaload, 1) := by decide +kernel
theorem dX10_reader_29 : decode cX10_reader 29 = .ok (.istore_n 3, 1) := by decide +kernel
theorem dX10_reader_30 : decode cX10_reader 30 = .ok (.iload_n 2, 1) := by decide +kernel
theorem dX10_reader_31 : decode cX10_reader 31 = .ok (.aload_n 0, 1) := by decide +kernel
theorem dX10_reader_32 : decode cX10_reader 32 = .ok (.getfield 29, 3) := by decide +kernel
theorem dX10_reader_35 : decode cX10_reader 35 = .ok (.iconst 4, 1) := by decide +kernel
theorem dX10_reader_36 : decode cX10_reader 36 = .ok (.iload_n 1, 1) := by decide +kernel
theorem dX10_reader_37 : decode cX10_reader 37 = .ok (.imul, 1) := by decide +kernel
theorem dX10_reader_38 : decode cX10_reader 38 = .ok (.iaload, 1) := by decide +kernel
theorem dX10_reader_39 : decode cX10_reader 39 = .ok (.iadd, 1) := by decide +kernel
theorem dX10_reader_40 : decode cX10_reader 40 = .ok (.istore 4, 2) := by decide +kernel
theorem dX10_reader_42 : decode cX10_reader 42 = .ok (.iload_n 3, 1) := by decide +kernel
theorem dX10_reader_43 : decode cX10_reader 43 = .ok (.ifCond .ge 10, 3) := by decide +kernel
theorem dX10_reader_46 : decode cX10_reader 46 = .ok (.aload_n 0, 1) := by decide +kernel
theorem dX10_reader_47 : decode cX10_reader 47 = .ok (.bipush (-5), 2) := by decide +kernel
theorem dX10_reader_49 : decode cX10_reader 49 = .ok (.invokevirtual 115, 3) := by decide +kernel
theorem dX10_reader_52 : decode cX10_reader 52 = .ok (.dreturn, 1) := by decide +kernel
theorem dX10_reader_53 : decode cX10_reader 53 = .ok (.aload_n 0, 1) := by decide +kernel
theorem dX10_reader_54 : decode cX10_reader 54 = .ok (.getfield 16, 3) := by decide +kernel
theorem dX10_reader_57 : decode cX10_reader 57 = .ok (.iload_n 3, 1) := by decide +kernel
theorem dX10_reader_58 : decode cX10_reader 58 = .ok (.iaload, 1) := by decide +kernel
theorem dX10_reader_59 : decode cX10_reader 59 = .ok (.iconst 1, 1) := by decide +kernel
theorem dX10_reader_60 : decode cX10_reader 60 = .ok (.if_icmp .eq 10, 3) := by decide +kernel
theorem dX10_reader_63 : decode cX10_reader 63 = .ok (.aload_n 0, 1) := by decide +kernel
theorem dX10_reader_64 : decode cX10_reader 64 = .ok (.bipush (-6), 2) := by decide +kernel
theorem dX10_reader_66 : decode cX10_reader 66 = .ok (.invokevirtual 115, 3) := by decide +kernel
theorem dX10_reader_69 : decode cX10_reader 69 = .ok (.dreturn, 1) := by decide +kernel
theorem dX10_reader_70 : decode cX10_reader 70 = .ok (.iload 4, 2) := by decide +kernel
theorem dX10_reader_72 : decode cX10_reader 72 = .ok (.iconst 0, 1) := by decide +kernel
theorem dX10_reader_73 : decode cX10_reader 73 = .ok (.aload_n 0, 1) := by decide +kernel
theorem dX10_reader_74 : decode cX10_reader 74 = .ok (.getfield 19, 3) := by decide +kernel
theorem dX10_reader_77 : decode cX10_reader 77 = .ok (.iload_n 3, 1) := by decide +kernel
theorem dX10_reader_78 : decode cX10_reader 78 = .ok (.iaload, 1) := by decide +kernel
theorem dX10_reader_79 : decode cX10_reader 79 = .ok (.iconst 1, 1) := by decide +kernel
theorem dX10_reader_80 : decode cX10_reader 80 = .ok (.isub, 1) := by decide +kernel
theorem dX10_reader_81 : decode cX10_reader 81 = .ok (.invokestatic 68, 3) := by decide +kernel
theorem dX10_reader_84 : decode cX10_reader 84 = .ok (.ifCond .ne 10, 3) := by decide +kernel
theorem dX10_reader_87 : decode cX10_reader 87 = .ok (.aload_n 0, 1) := by decide +kernel
theorem dX10_reader_88 : decode cX10_reader 88 = .ok (.bipush (-7), 2) := by decide +kernel
theorem dX10_reader_90 : decode cX10_reader 90 = .ok (.invokevirtual 115, 3) := by decide +kernel
theorem dX10_reader_93 : decode cX10_reader 93 = .ok (.dreturn, 1) := by decide +kernel
theorem dX10_reader_94 : decode cX10_reader 94 = .ok (.aload_n 0, 1) := by decide +kernel
theorem dX10_reader_95 : decode cX10_reader 95 = .ok (.getfield 22, 3) := by decide +kernel
theorem dX10_reader_98 : decode cX10_reader 98 = .ok (.bipush 40, 2) := by decide +kernel
theorem dX10_reader_100 : decode cX10_reader 100 = .ok (.iload_n 3, 1) := by decide +kernel
theorem dX10_reader_101 : decode cX10_reader 101 = .ok (.imul, 1) := by decide +kernel
theorem dX10_reader_102 : decode cX10_reader 102 = .ok (.iload 4, 2) := by decide +kernel
theorem dX10_reader_104 : decode cX10_reader 104 = .ok (.iadd, 1) := by decide +kernel
theorem dX10_reader_105 : decode cX10_reader 105 = .ok (.laload, 1) := by decide +kernel
theorem dX10_reader_106 : decode cX10_reader 106 = .ok (.l2d, 1) := by decide +kernel
theorem dX10_reader_107 : decode cX10_reader 107 = .ok (.dreturn, 1) := by decide +kernel
set_option maxRecDepth 20000 in
theorem ggX10_sample_X10_tone : GoodIn wsX10_sample wsX10_tone := goodIn_r _ [11, 12, 13, 35, 36, 37, 38, 39, 40, 41, 42, 43, 44, 45, 46, 47, 48, 49, 50, 51, 52, 53, 54, 55] (by decide +kernel) (by decide +kernel)
set_option maxRecDepth 20000 in
theorem gX10_sample_X10_tone : GoodIn wsX10_sample (wsV RX10 121 RX10 yX10_tone wsX10_tone) := goodIn_app (goodIn_of _ (by decide +kernel)) ggX10_sample_X10_tone
set_option maxRecDepth 20000 in
theorem ggX10_sample_X10_drum : GoodIn wsX10_sample wsX10_drum := goodIn_r _ [17, 5, 18, 19, 20, 21, 22, 10, 23, 2, 35, 36, 37, 38, 39, 40, 41, 42, 43, 44, 45, 46, 47, 48, 49, 50, 51, 52, 53, 54, 55] (by decide +kernel) (by decide +kernel)
set_option maxRecDepth 20000 in
theorem gX10_sample_X10_drum : GoodIn wsX10_sample (wsV RX10 127 RX10 yX10_drum wsX10_drum) := goodIn_app (goodIn_of _ (by decide +kernel)) ggX10_sample_X10_drum
set_option maxRecDepth 20000 in
theorem ggX10_sample_X10_failed : GoodIn wsX10_sample wsX10_failed := goodIn_r _ [23, 2, 35, 36, 37, 38, 39, 40, 41, 42, 43, 44, 45, 46, 47, 48, 49, 50, 51, 52, 53, 54, 55] (by decide +kernel) (by decide +kernel)
set_option maxRecDepth 20000 in
theorem gX10_sample_X10_failed : GoodIn wsX10_sample (wsV RX10 115 RX10 yX10_failed wsX10_failed) := goodIn_app (goodIn_of _ (by decide +kernel)) ggX10_sample_X10_failed
set_option maxRecDepth 20000 in
theorem ggX10_sample_X10_reader : GoodIn wsX10_sample wsX10_reader := goodIn_r _ [27, 12, 28, 5, 29, 30, 31, 20, 21, 22, 10, 23, 2, 32, 33, 34, 35, 36, 37, 38, 39, 40, 41, 42, 43, 44, 45, 46, 47, 48, 49, 50, 51, 52, 53, 54, 55] (by decide +kernel) (by decide +kernel)
set_option maxRecDepth 20000 in
theorem gX10_sample_X10_reader : GoodIn wsX10_sample (wsV RX10 132 RX10 yX10_reader wsX10_reader) := goodIn_app (goodIn_of _ (by decide +kernel)) ggX10_sample_X10_reader
theorem dX10_sample_0 : decode cX10_sample 0 = .ok (.aload_n 0, 1) := by decide +kernel
theorem dX10_sample_1 : decode cX10_sample 1 = .ok (.getfield 39, 3) := by decide +kernel
theorem dX10_sample_4 : decode cX10_sample 4 = .ok (.iload_n 1, 1) := by decide +kernel
theorem dX10_sample_5 : decode cX10_sample 5 = .ok (.iaload, 1) := by decide +kernel
theorem dX10_sample_6 : decode cX10_sample 6 = .ok (.istore_n 2, 1) := by decide +kernel
theorem dX10_sample_7 : decode cX10_sample 7 = .ok (.aload_n 0, 1) := by decide +kernel
theorem dX10_sample_8 : decode cX10_sample 8 = .ok (.getfield 39, 3) := by decide +kernel
theorem dX10_sample_11 : decode cX10_sample 11 = .ok (.iload_n 1, 1) := by decide +kernel
theorem dX10_sample_12 : decode cX10_sample 12 = .ok (.iload_n 2, 1) := by decide +kernel
theorem dX10_sample_13 : decode cX10_sample 13 = .ok (.iconst 1, 1) := by decide +kernel
theorem dX10_sample_14 : decode cX10_sample 14 = .ok (.iadd, 1) := by decide +kernel
theorem dX10_sample_15 : decode cX10_sample 15 = .ok (.iastore, 1) := by decide +kernel
theorem dX10_sample_16 : decode cX10_sample 16 = .ok (.aload_n 0, 1) := by decide +kernel
theorem dX10_sample_17 : decode cX10_sample 17 = .ok (.iconst 0, 1) := by decide +kernel
theorem dX10_sample_18 : decode cX10_sample 18 = .ok (.putfield 112, 3) := by decide +kernel
theorem dX10_sample_21 : decode cX10_sample 21 = .ok (.aload_n 0, 1) := by decide +kernel
theorem dX10_sample_22 : decode cX10_sample 22 = .ok (.getfield 26, 3) := by decide +kernel
theorem dX10_sample_25 : decode cX10_sample 25 = .ok (.iload_n 1, 1) := by decide +kernel
theorem dX10_sample_26 : decode cX10_sample 26 = .ok (.iaload, 1) := by decide +kernel
theorem dX10_sample_27 : decode cX10_sample 27 = .ok (.istore_n 3, 1) := by decide +kernel
theorem dX10_sample_28 : decode cX10_sample 28 = .ok (.iload_n 3, 1) := by decide +kernel
theorem dX10_sample_29 : decode cX10_sample 29 = .ok (.ifCond .ne 10, 3) := by decide +kernel
theorem dX10_sample_32 : decode cX10_sample 32 = .ok (.aload_n 0, 1) := by decide +kernel
theorem dX10_sample_33 : decode cX10_sample 33 = .ok (.iload_n 1, 1) := by decide +kernel
theorem dX10_sample_34 : decode cX10_sample 34 = .ok (.iload_n 2, 1) := by decide +kernel
theorem dX10_sample_35 : decode cX10_sample 35 = .ok (.invokevirtual 121, 3) := by decide +kernel
theorem dX10_sample_38 : decode cX10_sample 38 = .ok (.dreturn, 1) := by decide +kernel
theorem dX10_sample_39 : decode cX10_sample 39 = .ok (.iload_n 3, 1) := by decide +kernel
theorem dX10_sample_40 : decode cX10_sample 40 = .ok (.iconst 1, 1) := by decide +kernel
theorem dX10_sample_41 : decode cX10_sample 41 = .ok (.if_icmp .ne 24, 3) := by decide +kernel
theorem dX10_sample_44 : decode cX10_sample 44 = .ok (.ldc2_w 125, 3) := by decide +kernel
theorem dX10_sample_47 : decode cX10_sample 47 = .ok (.aload_n 0, 1) := by decide +kernel
theorem dX10_sample_48 : decode cX10_sample 48 = .ok (.iload_n 1, 1) := by decide +kernel
theorem dX10_sample_49 : decode cX10_sample 49 = .ok (.iload_n 2, 1) := by decide +kernel
theorem dX10_sample_50 : decode cX10_sample 50 = .ok (.invokevirtual 121, 3) := by decide +kernel
theorem dX10_sample_53 : decode cX10_sample 53 = .ok (.dmul, 1) := by decide +kernel
theorem dX10_sample_54 : decode cX10_sample 54 = .ok (.aload_n 0, 1) := by decide +kernel
theorem dX10_sample_55 : decode cX10_sample 55 = .ok (.getfield 29, 3) := by decide +kernel
theorem dX10_sample_58 : decode cX10_sample 58 = .ok (.iconst 4, 1) := by decide +kernel
theorem dX10_sample_59 : decode cX10_sample 59 = .ok (.iload_n 1, 1) := by decide +kernel
theorem dX10_sample_60 : decode cX10_sample 60 = .ok (.imul, 1) := by decide +kernel
theorem dX10_sample_61 : decode cX10_sample 61 = .ok (.iaload, 1) := by decide +kernel
theorem dX10_sample_62 : decode cX10_sample 62 = .ok (.i2d, 1) := by decide +kernel
theorem dX10_sample_63 : decode cX10_sample 63 = .ok (.dadd, 1) := by decide +kernel
theorem dX10_sample_64 : decode cX10_sample 64 = .ok (.dreturn, 1) := by decide +kernel
theorem dX10_sample_65 : decode cX10_sample 65 = .ok (.iload_n 3, 1) := by decide +kernel
theorem dX10_sample_66 : decode cX10_sample 66 = .ok (.iconst 2, 1) := by decide +kernel
theorem dX10_sample_67 : decode cX10_sample 67 = .ok (.if_icmp .ne 9, 3) := by decide +kernel
theorem dX10_sample_70 : decode cX10_sample 70 = .ok (.aload_n 0, 1) := by decide +kernel
theorem dX10_sample_71 : decode cX10_sample 71 = .ok (.iload_n 1, 1) := by decide +kernel
theorem dX10_sample_72 : decode cX10_sample 72 = .ok (.invokevirtual 127, 3) := by decide +kernel
theorem dX10_sample_75 : decode cX10_sample 75 = .ok (.dreturn, 1) := by decide +kernel
theorem dX10_sample_76 : decode cX10_sample 76 = .ok (.iload_n 3, 1) := by decide +kernel
theorem dX10_sample_77 : decode cX10_sample 77 = .ok (.iconst 3, 1) := by decide +kernel
theorem dX10_sample_78 : decode cX10_sample 78 = .ok (.if_icmp .ne 49, 3) := by decide +kernel
theorem dX10_sample_81 : decode cX10_sample 81 = .ok (.iload_n 2, 1) := by decide +kernel
theorem dX10_sample_82 : decode cX10_sample 82 = .ok (.aload_n 0, 1) := by decide +kernel
theorem dX10_sample_83 : decode cX10_sample 83 = .ok (.getfield 29, 3) := by decide +kernel
theorem dX10_sample_86 : decode cX10_sample 86 = .ok (.iconst 4, 1) := by decide +kernel
theorem dX10_sample_87 : decode cX10_sample 87 = .ok (.iload_n 1, 1) := by decide +kernel
theorem dX10_sample_88 : decode cX10_sample 88 = .ok (.imul, 1) := by decide +kernel
theorem dX10_sample_89 : decode cX10_sample 89 = .ok (.iconst 2, 1) := by decide +kernel
theorem dX10_sample_90 : decode cX10_sample 90 = .ok (.iadd, 1) := by decide +kernel
theorem dX10_sample_91 : decode cX10_sample 91 = .ok (.iaload, 1) := by decide +kernel
theorem dX10_sample_92 : decode cX10_sample 92 = .ok (.if_icmp .ne 10, 3) := by decide +kernel
theorem dX10_sample_95 : decode cX10_sample 95 = .ok (.aload_n 0, 1) := by decide +kernel
theorem dX10_sample_96 : decode cX10_sample 96 = .ok (.bipush (-3), 2) := by decide +kernel
theorem dX10_sample_98 : decode cX10_sample 98 = .ok (.invokevirtual 115, 3) := by decide +kernel
theorem dX10_sample_101 : decode cX10_sample 101 = .ok (.dreturn, 1) := by decide +kernel
theorem dX10_sample_102 : decode cX10_sample 102 = .ok (.aload_n 0, 1) := by decide +kernel
theorem dX10_sample_103 : decode cX10_sample 103 = .ok (.iload_n 1, 1) := by decide +kernel
theorem dX10_sample_104 : decode cX10_sample 104 = .ok (.invokevirtual 127, 3) := by decide +kernel
theorem dX10_sample_107 : decode cX10_sample 107 = .ok (.dstore 4, 2) := by decide +kernel
theorem dX10_sample_109 : decode cX10_sample 109 = .ok (.iload_n 2, 1) := by decide +kernel
theorem dX10_sample_110 : decode cX10_sample 110 = .ok (.iconst 1, 1) := by decide +kernel
theorem dX10_sample_111 : decode cX10_sample 111 = .ok (.iand, 1) := by decide +kernel
theorem dX10_sample_112 : decode cX10_sample 112 = .ok (.ifCond .eq 12, 3) := by decide +kernel
theorem dX10_sample_115 : decode cX10_sample 115 = .ok (.ldc2_w 130, 3) := by decide +kernel
theorem dX10_sample_118 : decode cX10_sample 118 = .ok (.dload 4, 2) := by decide +kernel
theorem dX10_sample_120 : decode cX10_sample 120 = .ok (.dmul, 1) := by decide +kernel
theorem dX10_sample_121 : decode cX10_sample 121 = .ok (.goto 5, 3) := by decide +kernel
theorem dX10_sample_124 : decode cX10_sample 124 = .ok (.dload 4, 2) := by decide +kernel
theorem dX10_sample_126 : decode cX10_sample 126 = .ok (.dreturn, 1) := by decide +kernel
theorem dX10_sample_127 : decode cX10_sample 127 = .ok (.aload_n 0, 1) := by decide +kernel
theorem dX10_sample_128 : decode cX10_sample 128 = .ok (.iload_n 1, 1) := by decide +kernel
theorem dX10_sample_129 : decode cX10_sample 129 = .ok (.iload_n 2, 1) := by decide +kernel
theorem dX10_sample_130 : decode cX10_sample 130 = .ok (.invokevirtual 132, 3) := by decide +kernel
theorem dX10_sample_133 : decode cX10_sample 133 = .ok (.dreturn, 1) := by decide +kernel
set_option maxRecDepth 20000 in
theorem ggX10_isMinus_Jxe99ae_doubleToLongBits_ccdee : GoodIn wsX10_isMinus wsJxe99ae_doubleToLongBits_ccdee := goodIn_r _ [4, 5, 6, 7, 8, 9, 10, 11, 3, 12] (by decide +kernel) (by decide +kernel)
set_option maxRecDepth 20000 in
theorem gX10_isMinus_Jxe99ae_doubleToLongBits_ccdee : GoodIn wsX10_isMinus (va_wsS RX10 85 yJxe99ae_doubleToLongBits_ccdee wsJxe99ae_doubleToLongBits_ccdee) := goodIn_app (goodIn_of _ (by decide +kernel)) ggX10_isMinus_Jxe99ae_doubleToLongBits_ccdee
theorem dX10_isMinus_0 : decode cX10_isMinus 0 = .ok (.dload_n 0, 1) := by decide +kernel
theorem dX10_isMinus_1 : decode cX10_isMinus 1 = .ok (.invokestatic 85, 3) := by decide +kernel
theorem dX10_isMinus_4 : decode cX10_isMinus 4 = .ok (.lconst 0, 1) := by decide +kernel
theorem dX10_isMinus_5 : decode cX10_isMinus 5 = .ok (.lcmp, 1) := by decide +kernel
theorem dX10_isMinus_6 : decode cX10_isMinus 6 = .ok (.ifCond .ge 7, 3) := by decide +kernel
theorem dX10_isMinus_9 : decode cX10_isMinus 9 = .ok (.iconst 1, 1) := by decide +kernel
theorem dX10_isMinus_10 : decode cX10_isMinus 10 = .ok (.goto 4, 3) := by decide +kernel
theorem dX10_isMinus_13 : decode cX10_isMinus 13 = .ok (.iconst 0, 1) := by decide +kernel
theorem dX10_isMinus_14 : decode cX10_isMinus 14 = .ok (.ireturn, 1) := by decide +kernel
set_option maxRecDepth 20000 in
theorem ggX10_through_X10_isMinus : GoodIn wsX10_through wsX10_isMinus := goodIn_r _ [6, 7, 8, 9, 10, 11, 12, 13, 14, 15, 16, 17, 18] (by decide +kernel) (by decide +kernel)
set_option maxRecDepth 20000 in
theorem gX10_through_X10_isMinus : GoodIn wsX10_through (va_wsS RX10 135 yX10_isMinus wsX10_isMinus) := goodIn_app (goodIn_of _ (by decide +kernel)) ggX10_through_X10_isMinus
set_option maxRecDepth 20000 in
theorem ggX10_through_X10_failed : GoodIn wsX10_through wsX10_failed := goodIn_r _ [22, 23, 24, 25, 26, 27, 28, 29, 30, 31, 32, 33, 34, 35, 36, 37, 38, 39, 40, 41, 42, 43, 44] (by decide +kernel) (by decide +kernel)
set_option maxRecDepth 20000 in
theorem gX10_through_X10_failed : GoodIn wsX10_through (wsV RX10 115 RX10 yX10_failed wsX10_failed) := goodIn_app (goodIn_of _ (by decide +kernel)) ggX10_through_X10_failed
theorem dX10_through_0 : decode cX10_through 0 = .ok (.aload_n 0, 1) := by decide +kernel
theorem dX10_through_1 : decode cX10_through 1 = .ok (.getfield 49, 3) := by decide +kernel
theorem dX10_through_4 : decode cX10_through 4 = .ok (.iload_n 1, 1) := by decide +kernel
theorem dX10_through_5 : decode cX10_through 5 = .ok (.iaload, 1) := by decide +kernel
theorem dX10_through_6 : decode cX10_through 6 = .ok (.i2d, 1) := by decide +kernel
theorem dX10_through_7 : decode cX10_through 7 = .ok (.dstore 4, 2) := by decide +kernel
theorem dX10_through_9 : decode cX10_through 9 = .ok (.aload_n 0, 1) := by decide +kernel
theorem dX10_through_10 : decode cX10_through 10 = .ok (.getfield 46, 3) := by decide +kernel
theorem dX10_through_13 : decode cX10_through 13 = .ok (.iload_n 1, 1) := by decide +kernel
theorem dX10_through_14 : decode cX10_through 14 = .ok (.iaload, 1) := by decide +kernel
theorem dX10_through_15 : decode cX10_through 15 = .ok (.tableswitch 101 0 4 #[33, 38, 43, 71, 99], 33) := by decide +kernel
theorem dX10_through_48 : decode cX10_through 48 = .ok (.dload_n 2, 1) := by decide +kernel
theorem dX10_through_49 : decode cX10_through 49 = .ok (.dload 4, 2) := by decide +kernel
theorem dX10_through_51 : decode cX10_through 51 = .ok (.dadd, 1) := by decide +kernel
theorem dX10_through_52 : decode cX10_through 52 = .ok (.dreturn, 1) := by decide +kernel
theorem dX10_through_53 : decode cX10_through 53 = .ok (.dload_n 2, 1) := by decide +kernel
theorem dX10_through_54 : decode cX10_through 54 = .ok (.dload 4, 2) := by decide +kernel
theorem dX10_through_56 : decode cX10_through 56 = .ok (.dmul, 1) := by decide +kernel
theorem dX10_through_57 : decode cX10_through 57 = .ok (.dreturn, 1) := by decide +kernel
theorem dX10_through_58 : decode cX10_through 58 = .ok (.dload_n 2, 1) := by decide +kernel
theorem dX10_through_59 : decode cX10_through 59 = .ok (.dload 4, 2) := by decide +kernel
theorem dX10_through_61 : decode cX10_through 61 = .ok (.dcmp .g, 1) := by decide +kernel
theorem dX10_through_62 : decode cX10_through 62 = .ok (.ifCond .lt 17, 3) := by decide +kernel
theorem dX10_through_65 : decode cX10_through 65 = .ok (.dload_n 2, 1) := by decide +kernel
theorem dX10_through_66 : decode cX10_through 66 = .ok (.dload 4, 2) := by decide +kernel
theorem dX10_through_68 : decode cX10_through 68 = .ok (.dcmp .l, 1) := by decide +kernel
theorem dX10_through_69 : decode cX10_through 69 = .ok (.ifCond .ne 14, 3) := by decide +kernel
theorem dX10_through_72 : decode cX10_through 72 = .ok (.dload_n 2, 1) := by decide +kernel
theorem dX10_through_73 : decode cX10_through 73 = .ok (.invokestatic 135, 3) := by decide +kernel
theorem dX10_through_76 : decode cX10_through 76 = .ok (.ifCond .eq 7, 3) := by decide +kernel
theorem dX10_through_79 : decode cX10_through 79 = .ok (.dload_n 2, 1) := by decide +kernel
theorem dX10_through_80 : decode cX10_through 80 = .ok (.goto 5, 3) := by decide +kernel
theorem dX10_through_83 : decode cX10_through 83 = .ok (.dload 4, 2) := by decide +kernel
theorem dX10_through_85 : decode cX10_through 85 = .ok (.dreturn, 1) := by decide +kernel
theorem dX10_through_86 : decode cX10_through 86 = .ok (.dload_n 2, 1) := by decide +kernel
theorem dX10_through_87 : decode cX10_through 87 = .ok (.dload 4, 2) := by decide +kernel
theorem dX10_through_89 : decode cX10_through 89 = .ok (.dcmp .l, 1) := by decide +kernel
theorem dX10_through_90 : decode cX10_through 90 = .ok (.ifCond .gt 17, 3) := by decide +kernel
theorem dX10_through_93 : decode cX10_through 93 = .ok (.dload_n 2, 1) := by decide +kernel
theorem dX10_through_94 : decode cX10_through 94 = .ok (.dload 4, 2) := by decide +kernel
theorem dX10_through_96 : decode cX10_through 96 = .ok (.dcmp .l, 1) := by decide +kernel
theorem dX10_through_97 : decode cX10_through 97 = .ok (.ifCond .ne 14, 3) := by decide +kernel
theorem dX10_through_100 : decode cX10_through 100 = .ok (.dload_n 2, 1) := by decide +kernel
theorem dX10_through_101 : decode cX10_through 101 = .ok (.invokestatic 135, 3) := by decide +kernel
theorem dX10_through_104 : decode cX10_through 104 = .ok (.ifCond .ne 7, 3) := by decide +kernel
theorem dX10_through_107 : decode cX10_through 107 = .ok (.dload_n 2, 1) := by decide +kernel
theorem dX10_through_108 : decode cX10_through 108 = .ok (.goto 5, 3) := by decide +kernel
theorem dX10_through_111 : decode cX10_through 111 = .ok (.dload 4, 2) := by decide +kernel
theorem dX10_through_113 : decode cX10_through 113 = .ok (.dreturn, 1) := by decide +kernel
theorem dX10_through_114 : decode cX10_through 114 = .ok (.dload_n 2, 1) := by decide +kernel
theorem dX10_through_115 : decode cX10_through 115 = .ok (.dreturn, 1) := by decide +kernel
theorem dX10_through_116 : decode cX10_through 116 = .ok (.dload_n 2, 1) := by decide +kernel
theorem dX10_through_117 : decode cX10_through 117 = .ok (.dload 4, 2) := by decide +kernel
theorem dX10_through_119 : decode cX10_through 119 = .ok (.dcmp .l, 1) := by decide +kernel
theorem dX10_through_120 : decode cX10_through 120 = .ok (.ifCond .ne 12, 3) := by decide +kernel
theorem dX10_through_123 : decode cX10_through 123 = .ok (.aload_n 0, 1) := by decide +kernel
theorem dX10_through_124 : decode cX10_through 124 = .ok (.bipush (-3), 2) := by decide +kernel
theorem dX10_through_126 : decode cX10_through 126 = .ok (.invokevirtual 115, 3) := by decide +kernel
theorem dX10_through_129 : decode cX10_through 129 = .ok (.goto 4, 3) := by decide +kernel
theorem dX10_through_132 : decode cX10_through 132 = .ok (.dload_n 2, 1) := by decide +kernel
theorem dX10_through_133 : decode cX10_through 133 = .ok (.dreturn, 1) := by decide +kernel
set_option maxRecDepth 20000 in
theorem ggX10_play_X10_isInstrument : GoodIn wsX10_play wsX10_isInstrument := goodIn_r _ [14, 15, 16, 17, 13, 18, 90, 91, 92, 93, 94, 95, 96, 97, 98, 99, 100, 101, 102, 103, 104, 105, 106, 107, 108, 109, 110] (by decide +kernel) (by decide +kernel)
set_option maxRecDepth 20000 in
theorem gX10_play_X10_isInstrument : GoodIn wsX10_play (wsV RX10 91 RX10 yX10_isInstrument wsX10_isInstrument) := goodIn_app (goodIn_of _ (by decide +kernel)) ggX10_play_X10_isInstrument
set_option maxRecDepth 20000 in
theorem ggX10_play_X10_in : GoodIn wsX10_play wsX10_in := goodIn_r _ [18] (by decide +kernel) (by decide +kernel)
set_option maxRecDepth 20000 in
theorem gX10_play_X10_in : GoodIn wsX10_play (va_wsS RX10 68 yX10_in wsX10_in) := goodIn_app (goodIn_of _ (by decide +kernel)) ggX10_play_X10_in
set_option maxRecDepth 20000 in
theorem ggX10_play_X10_says : GoodIn wsX10_play wsX10_says := goodIn_r _ [22, 23, 90, 91, 92, 93, 94, 95, 96, 97, 98, 99, 100, 101, 102, 103, 104, 105, 106, 107, 108, 109, 110] (by decide +kernel) (by decide +kernel)
set_option maxRecDepth 20000 in
theorem gX10_play_X10_says : GoodIn wsX10_play (wsV RX10 102 RX10 yX10_says wsX10_says) := goodIn_app (goodIn_of _ (by decide +kernel)) ggX10_play_X10_says
set_option maxRecDepth 20000 in
theorem ggX10_play_X10_sample : GoodIn wsX10_play wsX10_sample := goodIn_r _ [27, 28, 8, 29, 30, 31, 32, 33, 34, 35, 13, 36, 37, 38, 39, 40, 41, 42, 43, 44, 45, 46, 47, 48, 49, 50, 51, 52, 53, 4, 5, 9, 16, 17, 18, 90, 91, 92, 93, 94, 95, 96, 97, 98, 99, 100, 101, 102, 103, 104, 105, 106, 107, 108, 109, 110] (by decide +kernel) (by decide +kernel)
set_option maxRecDepth 20000 in
theorem gX10_play_X10_sample : GoodIn wsX10_play (wsV RX10 139 RX10 yX10_sample wsX10_sample) := goodIn_app (goodIn_of _ (by decide +kernel)) ggX10_play_X10_sample
set_option maxRecDepth 20000 in
theorem ggX10_play_X10_through : GoodIn wsX10_play wsX10_through := goodIn_r _ [57, 58, 59, 60, 61, 13, 62, 63, 64, 65, 66, 67, 68, 69, 70, 71, 72, 73, 74, 45, 46, 47, 48, 8, 90, 91, 92, 93, 94, 95, 96, 97, 98, 99, 100, 101, 102, 103, 104, 105, 106, 107, 108, 109, 110] (by decide +kernel) (by decide +kernel)
set_option maxRecDepth 20000 in
theorem gX10_play_X10_through : GoodIn wsX10_play (wsV RX10 142 RX10 yX10_through wsX10_through) := goodIn_app (goodIn_of _ (by decide +kernel)) ggX10_play_X10_through
set_option maxRecDepth 20000 in
theorem ggX10_play_X10_cast : GoodIn wsX10_play wsX10_cast := goodIn_r _ [77, 78, 79, 80, 81, 82, 83, 84, 85, 86, 87, 88, 89, 63, 64, 65, 66, 67, 68, 69, 70, 71, 72, 73, 74] (by decide +kernel) (by decide +kernel)
set_option maxRecDepth 20000 in
theorem gX10_play_X10_cast : GoodIn wsX10_play (va_wsS RX10 105 yX10_cast wsX10_cast) := goodIn_app (goodIn_of _ (by decide +kernel)) ggX10_play_X10_cast
theorem dX10_play_0 : decode cX10_play 0 = .ok (.aload_n 0, 1) := by decide +kernel
theorem dX10_play_1 : decode cX10_play 1 = .ok (.iload_n 1, 1) := by decide +kernel
theorem dX10_play_2 : decode cX10_play 2 = .ok (.invokevirtual 91, 3) := by decide +kernel
theorem dX10_play_5 : decode cX10_play 5 = .ok (.ifCond .eq 42, 3) := by decide +kernel
theorem dX10_play_8 : decode cX10_play 8 = .ok (.iload_n 2, 1) := by decide +kernel
theorem dX10_play_9 : decode cX10_play 9 = .ok (.iconst 0, 1) := by decide +kernel
theorem dX10_play_10 : decode cX10_play 10 = .ok (.iconst 2, 1) := by decide +kernel
theorem dX10_play_11 : decode cX10_play 11 = .ok (.invokestatic 68, 3) := by decide +kernel
theorem dX10_play_14 : decode cX10_play 14 = .ok (.ifCond .eq 33, 3) := by decide +kernel
theorem dX10_play_17 : decode cX10_play 17 = .ok (.iload 4, 2) := by decide +kernel
theorem dX10_play_19 : decode cX10_play 19 = .ok (.iconst 0, 1) := by decide +kernel
theorem dX10_play_20 : decode cX10_play 20 = .ok (.bipush 9, 2) := by decide +kernel
theorem dX10_play_22 : decode cX10_play 22 = .ok (.invokestatic 68, 3) := by decide +kernel
theorem dX10_play_25 : decode cX10_play 25 = .ok (.ifCond .eq 22, 3) := by decide +kernel
theorem dX10_play_28 : decode cX10_play 28 = .ok (.iload_n 2, 1) := by decide +kernel
theorem dX10_play_29 : decode cX10_play 29 = .ok (.iconst 2, 1) := by decide +kernel
theorem dX10_play_30 : decode cX10_play 30 = .ok (.if_icmp .ne 23, 3) := by decide +kernel
theorem dX10_play_33 : decode cX10_play 33 = .ok (.iload_n 3, 1) := by decide +kernel
theorem dX10_play_34 : decode cX10_play 34 = .ok (.iconst 0, 1) := by decide +kernel
theorem dX10_play_35 : decode cX10_play 35 = .ok (.aload_n 0, 1) := by decide +kernel
theorem dX10_play_36 : decode cX10_play 36 = .ok (.getfield 109, 3) := by decide +kernel
theorem dX10_play_39 : decode cX10_play 39 = .ok (.iconst 1, 1) := by decide +kernel
theorem dX10_play_40 : decode cX10_play 40 = .ok (.isub, 1) := by decide +kernel
theorem dX10_play_41 : decode cX10_play 41 = .ok (.invokestatic 68, 3) := by decide +kernel
theorem dX10_play_44 : decode cX10_play 44 = .ok (.ifCond .ne 9, 3) := by decide +kernel
theorem dX10_play_47 : decode cX10_play 47 = .ok (.aload_n 0, 1) := by decide +kernel
theorem dX10_play_48 : decode cX10_play 48 = .ok (.iconst (-1), 1) := by decide +kernel
theorem dX10_play_49 : decode cX10_play 49 = .ok (.invokevirtual 102, 3) := by decide +kernel
theorem dX10_play_52 : decode cX10_play 52 = .ok (.ireturn, 1) := by decide +kernel
theorem dX10_play_53 : decode cX10_play 53 = .ok (.aload_n 0, 1) := by decide +kernel
theorem dX10_play_54 : decode cX10_play 54 = .ok (.getfield 7, 3) := by decide +kernel
theorem dX10_play_57 : decode cX10_play 57 = .ok (.iload 4, 2) := by decide +kernel
theorem dX10_play_59 : decode cX10_play 59 = .ok (.iaload, 1) := by decide +kernel
theorem dX10_play_60 : decode cX10_play 60 = .ok (.istore 7, 2) := by decide +kernel
theorem dX10_play_62 : decode cX10_play 62 = .ok (.iload 7, 2) := by decide +kernel
theorem dX10_play_64 : decode cX10_play 64 = .ok (.ifCond .ge 8, 3) := by decide +kernel
theorem dX10_play_67 : decode cX10_play 67 = .ok (.bipush (-5), 2) := by decide +kernel
theorem dX10_play_69 : decode cX10_play 69 = .ok (.goto 67, 3) := by decide +kernel
theorem dX10_play_72 : decode cX10_play 72 = .ok (.iload_n 2, 1) := by decide +kernel
theorem dX10_play_73 : decode cX10_play 73 = .ok (.iconst 1, 1) := by decide +kernel
theorem dX10_play_74 : decode cX10_play 74 = .ok (.if_icmp .ne 22, 3) := by decide +kernel
theorem dX10_play_77 : decode cX10_play 77 = .ok (.aload_n 0, 1) := by decide +kernel
theorem dX10_play_78 : decode cX10_play 78 = .ok (.getfield 61, 3) := by decide +kernel
theorem dX10_play_81 : decode cX10_play 81 = .ok (.aload_n 0, 1) := by decide +kernel
theorem dX10_play_82 : decode cX10_play 82 = .ok (.getfield 16, 3) := by decide +kernel
theorem dX10_play_85 : decode cX10_play 85 = .ok (.iload 7, 2) := by decide +kernel
theorem dX10_play_87 : decode cX10_play 87 = .ok (.iaload, 1) := by decide +kernel
theorem dX10_play_88 : decode cX10_play 88 = .ok (.if_icmp .eq 8, 3) := by decide +kernel
theorem dX10_play_91 : decode cX10_play 91 = .ok (.bipush (-6), 2) := by decide +kernel
theorem dX10_play_93 : decode cX10_play 93 = .ok (.goto 43, 3) := by decide +kernel
theorem dX10_play_96 : decode cX10_play 96 = .ok (.iload 6, 2) := by decide +kernel
theorem dX10_play_98 : decode cX10_play 98 = .ok (.ifCond .ge 8, 3) := by decide +kernel
theorem dX10_play_101 : decode cX10_play 101 = .ok (.bipush (-8), 2) := by decide +kernel
theorem dX10_play_103 : decode cX10_play 103 = .ok (.goto 33, 3) := by decide +kernel
theorem dX10_play_106 : decode cX10_play 106 = .ok (.iload 5, 2) := by decide +kernel
theorem dX10_play_108 : decode cX10_play 108 = .ok (.ifCond .lt 22, 3) := by decide +kernel
theorem dX10_play_111 : decode cX10_play 111 = .ok (.iload 5, 2) := by decide +kernel
theorem dX10_play_113 : decode cX10_play 113 = .ok (.i2l, 1) := by decide +kernel
theorem dX10_play_114 : decode cX10_play 114 = .ok (.iload 6, 2) := by decide +kernel
theorem dX10_play_116 : decode cX10_play 116 = .ok (.i2l, 1) := by decide +kernel
theorem dX10_play_117 : decode cX10_play 117 = .ok (.ladd, 1) := by decide +kernel
theorem dX10_play_118 : decode cX10_play 118 = .ok (.aload_n 0, 1) := by decide +kernel
theorem dX10_play_119 : decode cX10_play 119 = .ok (.getfield 19, 3) := by decide +kernel
theorem dX10_play_122 : decode cX10_play 122 = .ok (.iload 7, 2) := by decide +kernel
theorem dX10_play_124 : decode cX10_play 124 = .ok (.iaload, 1) := by decide +kernel
theorem dX10_play_125 : decode cX10_play 125 = .ok (.i2l, 1) := by decide +kernel
theorem dX10_play_126 : decode cX10_play 126 = .ok (.lcmp, 1) := by decide +kernel
theorem dX10_play_127 : decode cX10_play 127 = .ok (.ifCond .le 8, 3) := by decide +kernel
theorem dX10_play_130 : decode cX10_play 130 = .ok (.bipush (-7), 2) := by decide +kernel
theorem dX10_play_132 : decode cX10_play 132 = .ok (.goto 4, 3) := by decide +kernel
theorem dX10_play_135 : decode cX10_play 135 = .ok (.iconst 0, 1) := by decide +kernel
theorem dX10_play_136 : decode cX10_play 136 = .ok (.istore 8, 2) := by decide +kernel
theorem dX10_play_138 : decode cX10_play 138 = .ok (.iload 8, 2) := by decide +kernel
theorem dX10_play_140 : decode cX10_play 140 = .ok (.ifCond .eq 20, 3) := by decide +kernel
theorem dX10_play_143 : decode cX10_play 143 = .ok (.aload_n 0, 1) := by decide +kernel
theorem dX10_play_144 : decode cX10_play 144 = .ok (.getfield 52, 3) := by decide +kernel
theorem dX10_play_147 : decode cX10_play 147 = .ok (.iconst 1, 1) := by decide +kernel
theorem dX10_play_148 : decode cX10_play 148 = .ok (.dup2, 1) := by decide +kernel
theorem dX10_play_149 : decode cX10_play 149 = .ok (.iaload, 1) := by decide +kernel
theorem dX10_play_150 : decode cX10_play 150 = .ok (.iconst 1, 1) := by decide +kernel
theorem dX10_play_151 : decode cX10_play 151 = .ok (.iadd, 1) := by decide +kernel
theorem dX10_play_152 : decode cX10_play 152 = .ok (.iastore, 1) := by decide +kernel
theorem dX10_play_153 : decode cX10_play 153 = .ok (.aload_n 0, 1) := by decide +kernel
theorem dX10_play_154 : decode cX10_play 154 = .ok (.iload 8, 2) := by decide +kernel
theorem dX10_play_156 : decode cX10_play 156 = .ok (.invokevirtual 102, 3) := by decide +kernel
theorem dX10_play_159 : decode cX10_play 159 = .ok (.ireturn, 1) := by decide +kernel
theorem dX10_play_160 : decode cX10_play 160 = .ok (.iconst 0, 1) := by decide +kernel
theorem dX10_play_161 : decode cX10_play 161 = .ok (.istore 9, 2) := by decide +kernel
theorem dX10_play_163 : decode cX10_play 163 = .ok (.iload 9, 2) := by decide +kernel
theorem dX10_play_165 : decode cX10_play 165 = .ok (.iload 6, 2) := by decide +kernel
theorem dX10_play_167 : decode cX10_play 167 = .ok (.if_icmp .ge 73, 3) := by decide +kernel
theorem dX10_play_170 : decode cX10_play 170 = .ok (.iload 8, 2) := by decide +kernel
theorem dX10_play_172 : decode cX10_play 172 = .ok (.ifCond .ne 68, 3) := by decide +kernel
theorem dX10_play_175 : decode cX10_play 175 = .ok (.aload_n 0, 1) := by decide +kernel
theorem dX10_play_176 : decode cX10_play 176 = .ok (.getfield 52, 3) := by decide +kernel
theorem dX10_play_179 : decode cX10_play 179 = .ok (.iconst 2, 1) := by decide +kernel
theorem dX10_play_180 : decode cX10_play 180 = .ok (.dup2, 1) := by decide +kernel
theorem dX10_play_181 : decode cX10_play 181 = .ok (.iaload, 1) := by decide +kernel
theorem dX10_play_182 : decode cX10_play 182 = .ok (.iconst 1, 1) := by decide +kernel
theorem dX10_play_183 : decode cX10_play 183 = .ok (.iadd, 1) := by decide +kernel
theorem dX10_play_184 : decode cX10_play 184 = .ok (.iastore, 1) := by decide +kernel
theorem dX10_play_185 : decode cX10_play 185 = .ok (.aload_n 0, 1) := by decide +kernel
theorem dX10_play_186 : decode cX10_play 186 = .ok (.getfield 55, 3) := by decide +kernel
theorem dX10_play_189 : decode cX10_play 189 = .ok (.iload 9, 2) := by decide +kernel
theorem dX10_play_191 : decode cX10_play 191 = .ok (.aload_n 0, 1) := by decide +kernel
theorem dX10_play_192 : decode cX10_play 192 = .ok (.iload_n 1, 1) := by decide +kernel
theorem dX10_play_193 : decode cX10_play 193 = .ok (.invokevirtual 139, 3) := by decide +kernel
theorem dX10_play_196 : decode cX10_play 196 = .ok (.dastore, 1) := by decide +kernel
theorem dX10_play_197 : decode cX10_play 197 = .ok (.aload_n 0, 1) := by decide +kernel
theorem dX10_play_198 : decode cX10_play 198 = .ok (.getfield 112, 3) := by decide +kernel
theorem dX10_play_201 : decode cX10_play 201 = .ok (.ifCond .ne 27, 3) := by decide +kernel
theorem dX10_play_204 : decode cX10_play 204 = .ok (.iload_n 2, 1) := by decide +kernel
theorem dX10_play_205 : decode cX10_play 205 = .ok (.iconst 2, 1) := by decide +kernel
theorem dX10_play_206 : decode cX10_play 206 = .ok (.if_icmp .ne 22, 3) := by decide +kernel
theorem dX10_play_209 : decode cX10_play 209 = .ok (.aload_n 0, 1) := by decide +kernel
theorem dX10_play_210 : decode cX10_play 210 = .ok (.getfield 55, 3) := by decide +kernel
theorem dX10_play_213 : decode cX10_play 213 = .ok (.iload 9, 2) := by decide +kernel
theorem dX10_play_215 : decode cX10_play 215 = .ok (.aload_n 0, 1) := by decide +kernel
theorem dX10_play_216 : decode cX10_play 216 = .ok (.iload_n 3, 1) := by decide +kernel
theorem dX10_play_217 : decode cX10_play 217 = .ok (.aload_n 0, 1) := by decide +kernel
theorem dX10_play_218 : decode cX10_play 218 = .ok (.getfield 55, 3) := by decide +kernel
theorem dX10_play_221 : decode cX10_play 221 = .ok (.iload 9, 2) := by decide +kernel
theorem dX10_play_223 : decode cX10_play 223 = .ok (.daload, 1) := by decide +kernel
theorem dX10_play_224 : decode cX10_play 224 = .ok (.invokevirtual 142, 3) := by decide +kernel
theorem dX10_play_227 : decode cX10_play 227 = .ok (.dastore, 1) := by decide +kernel
theorem dX10_play_228 : decode cX10_play 228 = .ok (.aload_n 0, 1) := by decide +kernel
theorem dX10_play_229 : decode cX10_play 229 = .ok (.getfield 112, 3) := by decide +kernel
theorem dX10_play_232 : decode cX10_play 232 = .ok (.istore 8, 2) := by decide +kernel
theorem dX10_play_234 : decode cX10_play 234 = .ok (.iinc 9 1, 3) := by decide +kernel
theorem dX10_play_237 : decode cX10_play 237 = .ok (.goto (-74), 3) := by decide +kernel
theorem dX10_play_240 : decode cX10_play 240 = .ok (.iconst 0, 1) := by decide +kernel
theorem dX10_play_241 : decode cX10_play 241 = .ok (.istore 9, 2) := by decide +kernel
theorem dX10_play_243 : decode cX10_play 243 = .ok (.iload 9, 2) := by decide +kernel
theorem dX10_play_245 : decode cX10_play 245 = .ok (.iload 6, 2) := by decide +kernel
theorem dX10_play_247 : decode cX10_play 247 = .ok (.if_icmp .ge 51, 3) := by decide +kernel
theorem dX10_play_250 : decode cX10_play 250 = .ok (.aload_n 0, 1) := by decide +kernel
theorem dX10_play_251 : decode cX10_play 251 = .ok (.getfield 22, 3) := by decide +kernel
theorem dX10_play_254 : decode cX10_play 254 = .ok (.bipush 40, 2) := by decide +kernel
theorem dX10_play_256 : decode cX10_play 256 = .ok (.iload 7, 2) := by decide +kernel
theorem dX10_play_258 : decode cX10_play 258 = .ok (.imul, 1) := by decide +kernel
theorem dX10_play_259 : decode cX10_play 259 = .ok (.iload 5, 2) := by decide +kernel
theorem dX10_play_261 : decode cX10_play 261 = .ok (.iadd, 1) := by decide +kernel
theorem dX10_play_262 : decode cX10_play 262 = .ok (.iload 9, 2) := by decide +kernel
theorem dX10_play_264 : decode cX10_play 264 = .ok (.iadd, 1) := by decide +kernel
theorem dX10_play_265 : decode cX10_play 265 = .ok (.iload 8, 2) := by decide +kernel
theorem dX10_play_267 : decode cX10_play 267 = .ok (.ifCond .ne 23, 3) := by decide +kernel
theorem dX10_play_270 : decode cX10_play 270 = .ok (.aload_n 0, 1) := by decide +kernel
theorem dX10_play_271 : decode cX10_play 271 = .ok (.getfield 16, 3) := by decide +kernel
theorem dX10_play_274 : decode cX10_play 274 = .ok (.iload 7, 2) := by decide +kernel
theorem dX10_play_276 : decode cX10_play 276 = .ok (.iaload, 1) := by decide +kernel
theorem dX10_play_277 : decode cX10_play 277 = .ok (.aload_n 0, 1) := by decide +kernel
theorem dX10_play_278 : decode cX10_play 278 = .ok (.getfield 55, 3) := by decide +kernel
theorem dX10_play_281 : decode cX10_play 281 = .ok (.iload 9, 2) := by decide +kernel
theorem dX10_play_283 : decode cX10_play 283 = .ok (.daload, 1) := by decide +kernel
theorem dX10_play_284 : decode cX10_play 284 = .ok (.invokestatic 105, 3) := by decide +kernel
theorem dX10_play_287 : decode cX10_play 287 = .ok (.goto 4, 3) := by decide +kernel
theorem dX10_play_290 : decode cX10_play 290 = .ok (.lconst 0, 1) := by decide +kernel
theorem dX10_play_291 : decode cX10_play 291 = .ok (.lastore, 1) := by decide +kernel
theorem dX10_play_292 : decode cX10_play 292 = .ok (.iinc 9 1, 3) := by decide +kernel
theorem dX10_play_295 : decode cX10_play 295 = .ok (.goto (-52), 3) := by decide +kernel
theorem dX10_play_298 : decode cX10_play 298 = .ok (.aload_n 0, 1) := by decide +kernel
theorem dX10_play_299 : decode cX10_play 299 = .ok (.getfield 52, 3) := by decide +kernel
theorem dX10_play_302 : decode cX10_play 302 = .ok (.iload 8, 2) := by decide +kernel
theorem dX10_play_304 : decode cX10_play 304 = .ok (.ifCond .ne 7, 3) := by decide +kernel
theorem dX10_play_307 : decode cX10_play 307 = .ok (.iconst 0, 1) := by decide +kernel
theorem dX10_play_308 : decode cX10_play 308 = .ok (.goto 4, 3) := by decide +kernel
theorem dX10_play_311 : decode cX10_play 311 = .ok (.iconst 1, 1) := by decide +kernel
theorem dX10_play_312 : decode cX10_play 312 = .ok (.dup2, 1) := by decide +kernel
theorem dX10_play_313 : decode cX10_play 313 = .ok (.iaload, 1) := by decide +kernel
theorem dX10_play_314 : decode cX10_play 314 = .ok (.iconst 1, 1) := by decide +kernel
theorem dX10_play_315 : decode cX10_play 315 = .ok (.iadd, 1) := by decide +kernel
theorem dX10_play_316 : decode cX10_play 316 = .ok (.iastore, 1) := by decide +kernel
theorem dX10_play_317 : decode cX10_play 317 = .ok (.aload_n 0, 1) := by decide +kernel
theorem dX10_play_318 : decode cX10_play 318 = .ok (.iload 8, 2) := by decide +kernel
theorem dX10_play_320 : decode cX10_play 320 = .ok (.ifCond .ne 8, 3) := by decide +kernel
theorem dX10_play_323 : decode cX10_play 323 = .ok (.iload 6, 2) := by decide +kernel
theorem dX10_play_325 : decode cX10_play 325 = .ok (.goto 5, 3) := by decide +kernel
theorem dX10_play_328 : decode cX10_play 328 = .ok (.iload 8, 2) := by decide +kernel
theorem dX10_play_330 : decode cX10_play 330 = .ok (.invokevirtual 102, 3) := by decide +kernel
theorem dX10_play_333 : decode cX10_play 333 = .ok (.ireturn, 1) := by decide +kernel
set_option maxRecDepth 20000 in
theorem ggX10_agree_X10_isInstrument : GoodIn wsX10_agree wsX10_isInstrument := goodIn_r _ [9, 10, 11, 12, 8, 13, 66, 67, 68, 69, 70, 71, 72, 73, 74, 75, 76, 77, 78, 79, 80, 81, 82, 83, 84, 85, 86] (by decide +kernel) (by decide +kernel)
set_option maxRecDepth 20000 in
theorem gX10_agree_X10_isInstrument : GoodIn wsX10_agree (wsV RX10 91 RX10 yX10_isInstrument wsX10_isInstrument) := goodIn_app (goodIn_of _ (by decide +kernel)) ggX10_agree_X10_isInstrument
set_option maxRecDepth 20000 in
theorem ggX10_agree_X10_in : GoodIn wsX10_agree wsX10_in := goodIn_r _ [13] (by decide +kernel) (by decide +kernel)
set_option maxRecDepth 20000 in
theorem gX10_agree_X10_in : GoodIn wsX10_agree (va_wsS RX10 68 yX10_in wsX10_in) := goodIn_app (goodIn_of _ (by decide +kernel)) ggX10_agree_X10_in
set_option maxRecDepth 20000 in
theorem ggX10_agree_X10_sample : GoodIn wsX10_agree wsX10_sample := goodIn_r _ [17, 2, 4, 18, 19, 20, 21, 22, 23, 24, 8, 25, 26, 27, 28, 29, 30, 31, 3, 32, 33, 34, 35, 36, 37, 38, 39, 40, 41, 42, 43, 44, 11, 12, 13, 66, 67, 68, 69, 70, 71, 72, 73, 74, 75, 76, 77, 78, 79, 80, 81, 82, 83, 84, 85, 86] (by decide +kernel) (by decide +kernel)
set_option maxRecDepth 20000 in
theorem gX10_agree_X10_sample : GoodIn wsX10_agree (wsV RX10 139 RX10 yX10_sample wsX10_sample) := goodIn_app (goodIn_of _ (by decide +kernel)) ggX10_agree_X10_sample
set_option maxRecDepth 20000 in
theorem ggX10_agree_X10_through : GoodIn wsX10_agree wsX10_through := goodIn_r _ [48, 49, 50, 51, 52, 8, 53, 54, 55, 56, 57, 58, 59, 60, 61, 62, 63, 64, 65, 33, 34, 35, 36, 4, 66, 67, 68, 69, 70, 71, 72, 73, 74, 75, 76, 77, 78, 79, 80, 81, 82, 83, 84, 85, 86] (by decide +kernel) (by decide +kernel)
set_option maxRecDepth 20000 in
theorem gX10_agree_X10_through : GoodIn wsX10_agree (wsV RX10 142 RX10 yX10_through wsX10_through) := goodIn_app (goodIn_of _ (by decide +kernel)) ggX10_agree_X10_through
theorem dX10_agree_0 : decode cX10_agree 0 = .ok (.aload_n 0, 1) := by decide +kernel
theorem dX10_agree_1 : decode cX10_agree 1 = .ok (.iload_n 1, 1) := by decide +kernel
theorem dX10_agree_2 : decode cX10_agree 2 = .ok (.invokevirtual 91, 3) := by decide +kernel
theorem dX10_agree_5 : decode cX10_agree 5 = .ok (.ifCond .eq 27, 3) := by decide +kernel
theorem dX10_agree_8 : decode cX10_agree 8 = .ok (.iload_n 2, 1) := by decide +kernel
theorem dX10_agree_9 : decode cX10_agree 9 = .ok (.iconst 0, 1) := by decide +kernel
theorem dX10_agree_10 : decode cX10_agree 10 = .ok (.aload_n 0, 1) := by decide +kernel
theorem dX10_agree_11 : decode cX10_agree 11 = .ok (.getfield 109, 3) := by decide +kernel
theorem dX10_agree_14 : decode cX10_agree 14 = .ok (.iconst 1, 1) := by decide +kernel
theorem dX10_agree_15 : decode cX10_agree 15 = .ok (.isub, 1) := by decide +kernel
theorem dX10_agree_16 : decode cX10_agree 16 = .ok (.invokestatic 68, 3) := by decide +kernel
theorem dX10_agree_19 : decode cX10_agree 19 = .ok (.ifCond .eq 13, 3) := by decide +kernel
theorem dX10_agree_22 : decode cX10_agree 22 = .ok (.iload_n 3, 1) := by decide +kernel
theorem dX10_agree_23 : decode cX10_agree 23 = .ok (.iconst 0, 1) := by decide +kernel
theorem dX10_agree_24 : decode cX10_agree 24 = .ok (.bipush 40, 2) := by decide +kernel
theorem dX10_agree_26 : decode cX10_agree 26 = .ok (.invokestatic 68, 3) := by decide +kernel
theorem dX10_agree_29 : decode cX10_agree 29 = .ok (.ifCond .ne 5, 3) := by decide +kernel
theorem dX10_agree_32 : decode cX10_agree 32 = .ok (.iconst 0, 1) := by decide +kernel
theorem dX10_agree_33 : decode cX10_agree 33 = .ok (.ireturn, 1) := by decide +kernel
theorem dX10_agree_34 : decode cX10_agree 34 = .ok (.aload_n 0, 1) := by decide +kernel
theorem dX10_agree_35 : decode cX10_agree 35 = .ok (.getfield 39, 3) := by decide +kernel
theorem dX10_agree_38 : decode cX10_agree 38 = .ok (.iload_n 1, 1) := by decide +kernel
theorem dX10_agree_39 : decode cX10_agree 39 = .ok (.iaload, 1) := by decide +kernel
theorem dX10_agree_40 : decode cX10_agree 40 = .ok (.istore 4, 2) := by decide +kernel
theorem dX10_agree_42 : decode cX10_agree 42 = .ok (.aload_n 0, 1) := by decide +kernel
theorem dX10_agree_43 : decode cX10_agree 43 = .ok (.getfield 42, 3) := by decide +kernel
theorem dX10_agree_46 : decode cX10_agree 46 = .ok (.iload_n 1, 1) := by decide +kernel
theorem dX10_agree_47 : decode cX10_agree 47 = .ok (.daload, 1) := by decide +kernel
theorem dX10_agree_48 : decode cX10_agree 48 = .ok (.dstore 5, 2) := by decide +kernel
theorem dX10_agree_50 : decode cX10_agree 50 = .ok (.iconst 1, 1) := by decide +kernel
theorem dX10_agree_51 : decode cX10_agree 51 = .ok (.istore 7, 2) := by decide +kernel
theorem dX10_agree_53 : decode cX10_agree 53 = .ok (.iconst 1, 1) := by decide +kernel
theorem dX10_agree_54 : decode cX10_agree 54 = .ok (.istore 8, 2) := by decide +kernel
theorem dX10_agree_56 : decode cX10_agree 56 = .ok (.iconst 0, 1) := by decide +kernel
theorem dX10_agree_57 : decode cX10_agree 57 = .ok (.istore 9, 2) := by decide +kernel
theorem dX10_agree_59 : decode cX10_agree 59 = .ok (.iload 9, 2) := by decide +kernel
theorem dX10_agree_61 : decode cX10_agree 61 = .ok (.iload_n 3, 1) := by decide +kernel
theorem dX10_agree_62 : decode cX10_agree 62 = .ok (.if_icmp .ge 70, 3) := by decide +kernel
theorem dX10_agree_65 : decode cX10_agree 65 = .ok (.iload 7, 2) := by decide +kernel
theorem dX10_agree_67 : decode cX10_agree 67 = .ok (.ifCond .eq 65, 3) := by decide +kernel
theorem dX10_agree_70 : decode cX10_agree 70 = .ok (.iload 8, 2) := by decide +kernel
theorem dX10_agree_72 : decode cX10_agree 72 = .ok (.ifCond .eq 60, 3) := by decide +kernel
theorem dX10_agree_75 : decode cX10_agree 75 = .ok (.aload_n 0, 1) := by decide +kernel
theorem dX10_agree_76 : decode cX10_agree 76 = .ok (.iload_n 1, 1) := by decide +kernel
theorem dX10_agree_77 : decode cX10_agree 77 = .ok (.invokevirtual 139, 3) := by decide +kernel
theorem dX10_agree_80 : decode cX10_agree 80 = .ok (.dstore 10, 2) := by decide +kernel
theorem dX10_agree_82 : decode cX10_agree 82 = .ok (.aload_n 0, 1) := by decide +kernel
theorem dX10_agree_83 : decode cX10_agree 83 = .ok (.getfield 112, 3) := by decide +kernel
theorem dX10_agree_86 : decode cX10_agree 86 = .ok (.ifCond .eq 9, 3) := by decide +kernel
theorem dX10_agree_89 : decode cX10_agree 89 = .ok (.iconst 0, 1) := by decide +kernel
theorem dX10_agree_90 : decode cX10_agree 90 = .ok (.istore 8, 2) := by decide +kernel
theorem dX10_agree_92 : decode cX10_agree 92 = .ok (.goto 34, 3) := by decide +kernel
theorem dX10_agree_95 : decode cX10_agree 95 = .ok (.aload_n 0, 1) := by decide +kernel
theorem dX10_agree_96 : decode cX10_agree 96 = .ok (.iload_n 2, 1) := by decide +kernel
theorem dX10_agree_97 : decode cX10_agree 97 = .ok (.dload 10, 2) := by decide +kernel
theorem dX10_agree_99 : decode cX10_agree 99 = .ok (.invokevirtual 142, 3) := by decide +kernel
theorem dX10_agree_102 : decode cX10_agree 102 = .ok (.dstore 12, 2) := by decide +kernel
theorem dX10_agree_104 : decode cX10_agree 104 = .ok (.aload_n 0, 1) := by decide +kernel
theorem dX10_agree_105 : decode cX10_agree 105 = .ok (.getfield 112, 3) := by decide +kernel
theorem dX10_agree_108 : decode cX10_agree 108 = .ok (.ifCond .ne 15, 3) := by decide +kernel
theorem dX10_agree_111 : decode cX10_agree 111 = .ok (.dload 10, 2) := by decide +kernel
theorem dX10_agree_113 : decode cX10_agree 113 = .ok (.dload 12, 2) := by decide +kernel
theorem dX10_agree_115 : decode cX10_agree 115 = .ok (.dcmp .l, 1) := by decide +kernel
theorem dX10_agree_116 : decode cX10_agree 116 = .ok (.ifCond .ne 7, 3) := by decide +kernel
theorem dX10_agree_119 : decode cX10_agree 119 = .ok (.iconst 1, 1) := by decide +kernel
theorem dX10_agree_120 : decode cX10_agree 120 = .ok (.goto 4, 3) := by decide +kernel
theorem dX10_agree_123 : decode cX10_agree 123 = .ok (.iconst 0, 1) := by decide +kernel
theorem dX10_agree_124 : decode cX10_agree 124 = .ok (.istore 7, 2) := by decide +kernel
theorem dX10_agree_126 : decode cX10_agree 126 = .ok (.iinc 9 1, 3) := by decide +kernel
theorem dX10_agree_129 : decode cX10_agree 129 = .ok (.goto (-70), 3) := by decide +kernel
theorem dX10_agree_132 : decode cX10_agree 132 = .ok (.aload_n 0, 1) := by decide +kernel
theorem dX10_agree_133 : decode cX10_agree 133 = .ok (.getfield 39, 3) := by decide +kernel
theorem dX10_agree_136 : decode cX10_agree 136 = .ok (.iload_n 1, 1) := by decide +kernel
theorem dX10_agree_137 : decode cX10_agree 137 = .ok (.iload 4, 2) := by decide +kernel
theorem dX10_agree_139 : decode cX10_agree 139 = .ok (.iastore, 1) := by decide +kernel
theorem dX10_agree_140 : decode cX10_agree 140 = .ok (.aload_n 0, 1) := by decide +kernel
theorem dX10_agree_141 : decode cX10_agree 141 = .ok (.getfield 42, 3) := by decide +kernel
theorem dX10_agree_144 : decode cX10_agree 144 = .ok (.iload_n 1, 1) := by decide +kernel
theorem dX10_agree_145 : decode cX10_agree 145 = .ok (.dload 5, 2) := by decide +kernel
theorem dX10_agree_147 : decode cX10_agree 147 = .ok (.dastore, 1) := by decide +kernel
theorem dX10_agree_148 : decode cX10_agree 148 = .ok (.iload 7, 2) := by decide +kernel
theorem dX10_agree_150 : decode cX10_agree 150 = .ok (.ireturn, 1) := by decide +kernel
set_option maxRecDepth 20000 in
theorem ggX10_find_X10_through : GoodIn wsX10_find wsX10_through := goodIn_r _ [7, 8, 9, 10, 11, 6, 12, 13, 14, 15, 16, 17, 18, 19, 20, 21, 22, 23, 24, 25, 26, 27, 28, 2, 29, 30, 31, 32, 33, 34, 35, 36, 37, 38, 39, 40, 41, 42, 43, 44, 45, 46, 47, 48, 49] (by decide +kernel) (by decide +kernel)
set_option maxRecDepth 20000 in
theorem gX10_find_X10_through : GoodIn wsX10_find (wsV RX10 142 RX10 yX10_through wsX10_through) := goodIn_app (goodIn_of _ (by decide +kernel)) ggX10_find_X10_through
theorem dX10_find_0 : decode cX10_find 0 = .ok (.iconst 0, 1) := by decide +kernel
theorem dX10_find_1 : decode cX10_find 1 = .ok (.istore_n 3, 1) := by decide +kernel
theorem dX10_find_2 : decode cX10_find 2 = .ok (.iload_n 3, 1) := by decide +kernel
theorem dX10_find_3 : decode cX10_find 3 = .ok (.aload_n 0, 1) := by decide +kernel
theorem dX10_find_4 : decode cX10_find 4 = .ok (.getfield 109, 3) := by decide +kernel
theorem dX10_find_7 : decode cX10_find 7 = .ok (.if_icmp .ge 40, 3) := by decide +kernel
theorem dX10_find_10 : decode cX10_find 10 = .ok (.aload_n 0, 1) := by decide +kernel
theorem dX10_find_11 : decode cX10_find 11 = .ok (.iconst 0, 1) := by decide +kernel
theorem dX10_find_12 : decode cX10_find 12 = .ok (.putfield 112, 3) := by decide +kernel
theorem dX10_find_15 : decode cX10_find 15 = .ok (.aload_n 0, 1) := by decide +kernel
theorem dX10_find_16 : decode cX10_find 16 = .ok (.iload_n 3, 1) := by decide +kernel
theorem dX10_find_17 : decode cX10_find 17 = .ok (.iload_n 1, 1) := by decide +kernel
theorem dX10_find_18 : decode cX10_find 18 = .ok (.i2d, 1) := by decide +kernel
theorem dX10_find_19 : decode cX10_find 19 = .ok (.invokevirtual 142, 3) := by decide +kernel
theorem dX10_find_22 : decode cX10_find 22 = .ok (.dstore 4, 2) := by decide +kernel
theorem dX10_find_24 : decode cX10_find 24 = .ok (.aload_n 0, 1) := by decide +kernel
theorem dX10_find_25 : decode cX10_find 25 = .ok (.getfield 112, 3) := by decide +kernel
theorem dX10_find_28 : decode cX10_find 28 = .ok (.ifCond .ne 13, 3) := by decide +kernel
theorem dX10_find_31 : decode cX10_find 31 = .ok (.dload 4, 2) := by decide +kernel
theorem dX10_find_33 : decode cX10_find 33 = .ok (.iload_n 2, 1) := by decide +kernel
theorem dX10_find_34 : decode cX10_find 34 = .ok (.i2d, 1) := by decide +kernel
theorem dX10_find_35 : decode cX10_find 35 = .ok (.dcmp .l, 1) := by decide +kernel
theorem dX10_find_36 : decode cX10_find 36 = .ok (.ifCond .ne 5, 3) := by decide +kernel
theorem dX10_find_39 : decode cX10_find 39 = .ok (.iload_n 3, 1) := by decide +kernel
theorem dX10_find_40 : decode cX10_find 40 = .ok (.ireturn, 1) := by decide +kernel
theorem dX10_find_41 : decode cX10_find 41 = .ok (.iinc 3 1, 3) := by decide +kernel
theorem dX10_find_44 : decode cX10_find 44 = .ok (.goto (-42), 3) := by decide +kernel
theorem dX10_find_47 : decode cX10_find 47 = .ok (.iconst (-1), 1) := by decide +kernel
theorem dX10_find_48 : decode cX10_find 48 = .ok (.ireturn, 1) := by decide +kernel
set_option maxRecDepth 20000 in
theorem ggX10_next_X10_isInstrument : GoodIn wsX10_next wsX10_isInstrument := goodIn_r _ [9, 10, 11, 12, 8, 13, 57, 58, 59, 60, 61, 62, 63, 64, 65, 66, 67, 68, 69, 70, 71, 72, 73, 74, 75, 76, 77] (by decide +kernel) (by decide +kernel)
set_option maxRecDepth 20000 in
theorem gX10_next_X10_isInstrument : GoodIn wsX10_next (wsV RX10 91 RX10 yX10_isInstrument wsX10_isInstrument) := goodIn_app (goodIn_of _ (by decide +kernel)) ggX10_next_X10_isInstrument
set_option maxRecDepth 20000 in
theorem ggX10_next_X10_sample : GoodIn wsX10_next wsX10_sample := goodIn_r _ [17, 2, 4, 18, 19, 20, 21, 22, 23, 24, 8, 25, 26, 27, 28, 29, 30, 31, 3, 32, 33, 34, 35, 36, 37, 38, 39, 40, 41, 42, 43, 44, 11, 12, 13, 57, 58, 59, 60, 61, 62, 63, 64, 65, 66, 67, 68, 69, 70, 71, 72, 73, 74, 75, 76, 77] (by decide +kernel) (by decide +kernel)
set_option maxRecDepth 20000 in
theorem gX10_next_X10_sample : GoodIn wsX10_next (wsV RX10 139 RX10 yX10_sample wsX10_sample) := goodIn_app (goodIn_of _ (by decide +kernel)) ggX10_next_X10_sample
set_option maxRecDepth 20000 in
theorem ggX10_next_Jxe99ae_doubleToLongBits_ccdee : GoodIn wsX10_next wsJxe99ae_doubleToLongBits_ccdee := goodIn_r _ [48, 49, 50, 51, 52, 53, 54, 55, 47, 56] (by decide +kernel) (by decide +kernel)
set_option maxRecDepth 20000 in
theorem gX10_next_Jxe99ae_doubleToLongBits_ccdee : GoodIn wsX10_next (va_wsS RX10 85 yJxe99ae_doubleToLongBits_ccdee wsJxe99ae_doubleToLongBits_ccdee) := goodIn_app (goodIn_of _ (by decide +kernel)) ggX10_next_Jxe99ae_doubleToLongBits_ccdee
theorem dX10_next_0 : decode cX10_next 0 = .ok (.aload_n 0, 1) := by decide +kernel
theorem dX10_next_1 : decode cX10_next 1 = .ok (.iload_n 1, 1) := by decide +kernel
theorem dX10_next_2 : decode cX10_next 2 = .ok (.invokevirtual 91, 3) := by decide +kernel
theorem dX10_next_5 : decode cX10_next 5 = .ok (.ifCond .ne 10, 3) := by decide +kernel
theorem dX10_next_8 : decode cX10_next 8 = .ok (.aload_n 0, 1) := by decide +kernel
theorem dX10_next_9 : decode cX10_next 9 = .ok (.iconst (-1), 1) := by decide +kernel
theorem dX10_next_10 : decode cX10_next 10 = .ok (.putfield 72, 3) := by decide +kernel
theorem dX10_next_13 : decode cX10_next 13 = .ok (.lconst 0, 1) := by decide +kernel
theorem dX10_next_14 : decode cX10_next 14 = .ok (.lreturn, 1) := by decide +kernel
theorem dX10_next_15 : decode cX10_next 15 = .ok (.aload_n 0, 1) := by decide +kernel
theorem dX10_next_16 : decode cX10_next 16 = .ok (.getfield 39, 3) := by decide +kernel
theorem dX10_next_19 : decode cX10_next 19 = .ok (.iload_n 1, 1) := by decide +kernel
theorem dX10_next_20 : decode cX10_next 20 = .ok (.iaload, 1) := by decide +kernel
theorem dX10_next_21 : decode cX10_next 21 = .ok (.istore_n 2, 1) := by decide +kernel
theorem dX10_next_22 : decode cX10_next 22 = .ok (.aload_n 0, 1) := by decide +kernel
theorem dX10_next_23 : decode cX10_next 23 = .ok (.getfield 42, 3) := by decide +kernel
theorem dX10_next_26 : decode cX10_next 26 = .ok (.iload_n 1, 1) := by decide +kernel
theorem dX10_next_27 : decode cX10_next 27 = .ok (.daload, 1) := by decide +kernel
theorem dX10_next_28 : decode cX10_next 28 = .ok (.dstore_n 3, 1) := by decide +kernel
theorem dX10_next_29 : decode cX10_next 29 = .ok (.aload_n 0, 1) := by decide +kernel
theorem dX10_next_30 : decode cX10_next 30 = .ok (.iload_n 1, 1) := by decide +kernel
theorem dX10_next_31 : decode cX10_next 31 = .ok (.invokevirtual 139, 3) := by decide +kernel
theorem dX10_next_34 : decode cX10_next 34 = .ok (.dstore 5, 2) := by decide +kernel
theorem dX10_next_36 : decode cX10_next 36 = .ok (.aload_n 0, 1) := by decide +kernel
theorem dX10_next_37 : decode cX10_next 37 = .ok (.getfield 39, 3) := by decide +kernel
theorem dX10_next_40 : decode cX10_next 40 = .ok (.iload_n 1, 1) := by decide +kernel
theorem dX10_next_41 : decode cX10_next 41 = .ok (.iload_n 2, 1) := by decide +kernel
theorem dX10_next_42 : decode cX10_next 42 = .ok (.iastore, 1) := by decide +kernel
theorem dX10_next_43 : decode cX10_next 43 = .ok (.aload_n 0, 1) := by decide +kernel
theorem dX10_next_44 : decode cX10_next 44 = .ok (.getfield 42, 3) := by decide +kernel
theorem dX10_next_47 : decode cX10_next 47 = .ok (.iload_n 1, 1) := by decide +kernel
theorem dX10_next_48 : decode cX10_next 48 = .ok (.dload_n 3, 1) := by decide +kernel
theorem dX10_next_49 : decode cX10_next 49 = .ok (.dastore, 1) := by decide +kernel
theorem dX10_next_50 : decode cX10_next 50 = .ok (.aload_n 0, 1) := by decide +kernel
theorem dX10_next_51 : decode cX10_next 51 = .ok (.aload_n 0, 1) := by decide +kernel
theorem dX10_next_52 : decode cX10_next 52 = .ok (.getfield 112, 3) := by decide +kernel
theorem dX10_next_55 : decode cX10_next 55 = .ok (.putfield 72, 3) := by decide +kernel
theorem dX10_next_58 : decode cX10_next 58 = .ok (.aload_n 0, 1) := by decide +kernel
theorem dX10_next_59 : decode cX10_next 59 = .ok (.getfield 112, 3) := by decide +kernel
theorem dX10_next_62 : decode cX10_next 62 = .ok (.ifCond .ne 11, 3) := by decide +kernel
theorem dX10_next_65 : decode cX10_next 65 = .ok (.dload 5, 2) := by decide +kernel
theorem dX10_next_67 : decode cX10_next 67 = .ok (.invokestatic 85, 3) := by decide +kernel
theorem dX10_next_70 : decode cX10_next 70 = .ok (.goto 4, 3) := by decide +kernel
theorem dX10_next_73 : decode cX10_next 73 = .ok (.lconst 0, 1) := by decide +kernel
theorem dX10_next_74 : decode cX10_next 74 = .ok (.lreturn, 1) := by decide +kernel
theorem dX10_state_0 : decode cX10_state 0 = .ok (.aload_n 0, 1) := by decide +kernel
theorem dX10_state_1 : decode cX10_state 1 = .ok (.getfield 72, 3) := by decide +kernel
theorem dX10_state_4 : decode cX10_state 4 = .ok (.ireturn, 1) := by decide +kernel
set_option maxRecDepth 20000 in
theorem ggX10_count_X10_in : GoodIn wsX10_count wsX10_in := goodIn_r _ [7] (by decide +kernel) (by decide +kernel)
set_option maxRecDepth 20000 in
theorem gX10_count_X10_in : GoodIn wsX10_count (va_wsS RX10 68 yX10_in wsX10_in) := goodIn_app (goodIn_of _ (by decide +kernel)) ggX10_count_X10_in
theorem dX10_count_0 : decode cX10_count 0 = .ok (.iload_n 1, 1) := by decide +kernel
theorem dX10_count_1 : decode cX10_count 1 = .ok (.ifCond .ne 10, 3) := by decide +kernel
theorem dX10_count_4 : decode cX10_count 4 = .ok (.aload_n 0, 1) := by decide +kernel
theorem dX10_count_5 : decode cX10_count 5 = .ok (.getfield 65, 3) := by decide +kernel
theorem dX10_count_8 : decode cX10_count 8 = .ok (.goto 36, 3) := by decide +kernel
theorem dX10_count_11 : decode cX10_count 11 = .ok (.iload_n 1, 1) := by decide +kernel
theorem dX10_count_12 : decode cX10_count 12 = .ok (.iconst 1, 1) := by decide +kernel
theorem dX10_count_13 : decode cX10_count 13 = .ok (.if_icmp .ne 10, 3) := by decide +kernel
theorem dX10_count_16 : decode cX10_count 16 = .ok (.aload_n 0, 1) := by decide +kernel
theorem dX10_count_17 : decode cX10_count 17 = .ok (.getfield 109, 3) := by decide +kernel
theorem dX10_count_20 : decode cX10_count 20 = .ok (.goto 24, 3) := by decide +kernel
theorem dX10_count_23 : decode cX10_count 23 = .ok (.iload_n 1, 1) := by decide +kernel
theorem dX10_count_24 : decode cX10_count 24 = .ok (.iconst 2, 1) := by decide +kernel
theorem dX10_count_25 : decode cX10_count 25 = .ok (.iconst 4, 1) := by decide +kernel
theorem dX10_count_26 : decode cX10_count 26 = .ok (.invokestatic 68, 3) := by decide +kernel
theorem dX10_count_29 : decode cX10_count 29 = .ok (.ifCond .eq 14, 3) := by decide +kernel
theorem dX10_count_32 : decode cX10_count 32 = .ok (.aload_n 0, 1) := by decide +kernel
theorem dX10_count_33 : decode cX10_count 33 = .ok (.getfield 52, 3) := by decide +kernel
theorem dX10_count_36 : decode cX10_count 36 = .ok (.iload_n 1, 1) := by decide +kernel
theorem dX10_count_37 : decode cX10_count 37 = .ok (.iconst 2, 1) := by decide +kernel
theorem dX10_count_38 : decode cX10_count 38 = .ok (.isub, 1) := by decide +kernel
theorem dX10_count_39 : decode cX10_count 39 = .ok (.iaload, 1) := by decide +kernel
theorem dX10_count_40 : decode cX10_count 40 = .ok (.goto 4, 3) := by decide +kernel
theorem dX10_count_43 : decode cX10_count 43 = .ok (.iconst (-1), 1) := by decide +kernel
theorem dX10_count_44 : decode cX10_count 44 = .ok (.ireturn, 1) := by decide +kernel
theorem dJxe99ae_isNaN_b9ae7_0 : decode cJxe99ae_isNaN_b9ae7 0 = .ok (.dload_n 0, 1) := by decide +kernel
theorem dJxe99ae_isNaN_b9ae7_1 : decode cJxe99ae_isNaN_b9ae7 1 = .ok (.dload_n 0, 1) := by decide +kernel
theorem dJxe99ae_isNaN_b9ae7_2 : decode cJxe99ae_isNaN_b9ae7 2 = .ok (.dcmp .l, 1) := by decide +kernel
theorem dJxe99ae_isNaN_b9ae7_3 : decode cJxe99ae_isNaN_b9ae7 3 = .ok (.ifCond .eq 7, 3) := by decide +kernel
theorem dJxe99ae_isNaN_b9ae7_6 : decode cJxe99ae_isNaN_b9ae7 6 = .ok (.iconst 1, 1) := by decide +kernel
theorem dJxe99ae_isNaN_b9ae7_7 : decode cJxe99ae_isNaN_b9ae7 7 = .ok (.goto 4, 3) := by decide +kernel
theorem dJxe99ae_isNaN_b9ae7_10 : decode cJxe99ae_isNaN_b9ae7 10 = .ok (.iconst 0, 1) := by decide +kernel
theorem dJxe99ae_isNaN_b9ae7_11 : decode cJxe99ae_isNaN_b9ae7 11 = .ok (.ireturn, 1) := by decide +kernel
set_option maxRecDepth 20000 in
theorem ggJxe99ae_doubleToLongBits_ccdee_Jxe99ae_isNaN_b9ae7 : GoodIn wsJxe99ae_doubleToLongBits_ccdee wsJxe99ae_isNaN_b9ae7 := goodIn_r _ [9] (by decide +kernel) (by decide +kernel)
set_option maxRecDepth 20000 in
theorem gJxe99ae_doubleToLongBits_ccdee_Jxe99ae_isNaN_b9ae7 : GoodIn wsJxe99ae_doubleToLongBits_ccdee (va_wsS RJxe99ae 122 yJxe99ae_isNaN_b9ae7 wsJxe99ae_isNaN_b9ae7) := goodIn_app (goodIn_of _ (by decide +kernel)) ggJxe99ae_doubleToLongBits_ccdee_Jxe99ae_isNaN_b9ae7
theorem dJxe99ae_doubleToLongBits_ccdee_0 : decode cJxe99ae_doubleToLongBits_ccdee 0 = .ok (.dload_n 0, 1) := by decide +kernel
theorem dJxe99ae_doubleToLongBits_ccdee_1 : decode cJxe99ae_doubleToLongBits_ccdee 1 = .ok (.invokestatic 122, 3) := by decide +kernel
theorem dJxe99ae_doubleToLongBits_ccdee_4 : decode cJxe99ae_doubleToLongBits_ccdee 4 = .ok (.ifCond .ne 8, 3) := by decide +kernel
theorem dJxe99ae_doubleToLongBits_ccdee_7 : decode cJxe99ae_doubleToLongBits_ccdee 7 = .ok (.dload_n 0, 1) := by decide +kernel
theorem dJxe99ae_doubleToLongBits_ccdee_8 : decode cJxe99ae_doubleToLongBits_ccdee 8 = .ok (.invokestatic 134, 3) := by decide +kernel
theorem dJxe99ae_doubleToLongBits_ccdee_11 : decode cJxe99ae_doubleToLongBits_ccdee 11 = .ok (.lreturn, 1) := by decide +kernel
theorem dJxe99ae_doubleToLongBits_ccdee_12 : decode cJxe99ae_doubleToLongBits_ccdee 12 = .ok (.ldc2_w 137, 3) := by decide +kernel
theorem dJxe99ae_doubleToLongBits_ccdee_15 : decode cJxe99ae_doubleToLongBits_ccdee 15 = .ok (.lreturn, 1) := by decide +kernel
theorem dJxf58ca_isNaN_12338_0 : decode cJxf58ca_isNaN_12338 0 = .ok (.fload_n 0, 1) := by decide +kernel
theorem dJxf58ca_isNaN_12338_1 : decode cJxf58ca_isNaN_12338 1 = .ok (.fload_n 0, 1) := by decide +kernel
theorem dJxf58ca_isNaN_12338_2 : decode cJxf58ca_isNaN_12338 2 = .ok (.fcmp .l, 1) := by decide +kernel
theorem dJxf58ca_isNaN_12338_3 : decode cJxf58ca_isNaN_12338 3 = .ok (.ifCond .eq 7, 3) := by decide +kernel
theorem dJxf58ca_isNaN_12338_6 : decode cJxf58ca_isNaN_12338 6 = .ok (.iconst 1, 1) := by decide +kernel
theorem dJxf58ca_isNaN_12338_7 : decode cJxf58ca_isNaN_12338 7 = .ok (.goto 4, 3) := by decide +kernel
theorem dJxf58ca_isNaN_12338_10 : decode cJxf58ca_isNaN_12338 10 = .ok (.iconst 0, 1) := by decide +kernel
theorem dJxf58ca_isNaN_12338_11 : decode cJxf58ca_isNaN_12338 11 = .ok (.ireturn, 1) := by decide +kernel
set_option maxRecDepth 20000 in
theorem ggJxf58ca_floatToIntBits_5c35a_Jxf58ca_isNaN_12338 : GoodIn wsJxf58ca_floatToIntBits_5c35a wsJxf58ca_isNaN_12338 := goodIn_r _ [9] (by decide +kernel) (by decide +kernel)
set_option maxRecDepth 20000 in
theorem gJxf58ca_floatToIntBits_5c35a_Jxf58ca_isNaN_12338 : GoodIn wsJxf58ca_floatToIntBits_5c35a (va_wsS RJxf58ca 59 yJxf58ca_isNaN_12338 wsJxf58ca_isNaN_12338) := goodIn_app (goodIn_of _ (by decide +kernel)) ggJxf58ca_floatToIntBits_5c35a_Jxf58ca_isNaN_12338
theorem dJxf58ca_floatToIntBits_5c35a_0 : decode cJxf58ca_floatToIntBits_5c35a 0 = .ok (.fload_n 0, 1) := by decide +kernel
theorem dJxf58ca_floatToIntBits_5c35a_1 : decode cJxf58ca_floatToIntBits_5c35a 1 = .ok (.invokestatic 59, 3) := by decide +kernel
theorem dJxf58ca_floatToIntBits_5c35a_4 : decode cJxf58ca_floatToIntBits_5c35a 4 = .ok (.ifCond .ne 8, 3) := by decide +kernel
theorem dJxf58ca_floatToIntBits_5c35a_7 : decode cJxf58ca_floatToIntBits_5c35a 7 = .ok (.fload_n 0, 1) := by decide +kernel
theorem dJxf58ca_floatToIntBits_5c35a_8 : decode cJxf58ca_floatToIntBits_5c35a 8 = .ok (.invokestatic 74, 3) := by decide +kernel
theorem dJxf58ca_floatToIntBits_5c35a_11 : decode cJxf58ca_floatToIntBits_5c35a 11 = .ok (.ireturn, 1) := by decide +kernel
theorem dJxf58ca_floatToIntBits_5c35a_12 : decode cJxf58ca_floatToIntBits_5c35a 12 = .ok (.ldc 77, 2) := by decide +kernel
theorem dJxf58ca_floatToIntBits_5c35a_14 : decode cJxf58ca_floatToIntBits_5c35a 14 = .ok (.ireturn, 1) := by decide +kernel
end
section
theorem in_pl {big : List Cond} (ws : List Cond) (ps : List Nat) (hp : ws = ps.filterMap (fun i => big[i]?)) : ∀ w ∈ ws, w ∈ big := by
  intro w hw
  rw [hp] at hw
  obtain ⟨i, -, hi⟩ := List.mem_filterMap.mp hw
  first | exact List.mem_of_getElem? hi | exact List.getElem?_mem hi
set_option maxRecDepth 20000 in
theorem inl_wsL_law_r1 : ∀ w ∈ wsL_law_r1, w ∈ lw_tbl := in_pl _ [34, 35, 20, 479, 480, 21, 36, 37, 38, 39, 40, 41, 42, 48, 44, 49, 46, 50, 82, 51, 54, 481, 482, 483] (by decide +kernel)
set_option maxRecDepth 20000 in
theorem inl_wsL_law_r2 : ∀ w ∈ wsL_law_r2, w ∈ lw_tbl := in_pl _ [484, 153, 485, 486, 487, 488, 549, 489, 491, 492, 493, 550, 494, 495, 496, 498, 499, 503, 504, 505, 500, 83, 84, 85] (by decide +kernel)
set_option maxRecDepth 20000 in
theorem inl_wsL_law_r3 : ∀ w ∈ wsL_law_r3, w ∈ lw_tbl := in_pl _ [86, 52, 87, 88, 89, 90, 91, 24, 154, 155, 25, 168, 169, 26, 182, 183, 27, 196, 197, 23, 93, 94, 96, 97] (by decide +kernel)
set_option maxRecDepth 20000 in
theorem inl_wsL_law_r4 : ∀ w ∈ wsL_law_r4, w ∈ lw_tbl := in_pl _ [99, 22, 100, 101, 102, 157, 158, 171, 172, 185, 186, 551, 552, 553, 554, 490, 555, 556, 557, 207, 208, 209, 210, 120] (by decide +kernel)
set_option maxRecDepth 20000 in
theorem inl_wsL_law_r5 : ∀ w ∈ wsL_law_r5, w ∈ lw_tbl := in_pl _ [211, 213, 0, 214, 215, 217, 216, 218, 219, 220, 129, 130, 221, 167, 216, 226, 114, 119, 222, 223, 224, 225, 558, 559] (by decide +kernel)
set_option maxRecDepth 20000 in
theorem inl_wsL_law_r6 : ∀ w ∈ wsL_law_r6, w ∈ lw_tbl := in_pl _ [560, 561, 562, 564, 8, 565, 227, 228, 229, 230, 55, 111, 566, 567, 568, 569, 501, 231, 232, 233, 234, 128, 570, 571] (by decide +kernel)
set_option maxRecDepth 20000 in
theorem inl_wsL_law_r7 : ∀ w ∈ wsL_law_r7, w ∈ lw_tbl := in_pl _ [572, 573, 235, 236, 237, 238, 135, 239, 240, 241, 242, 244, 1, 245, 246, 247, 248, 249, 250, 251, 28, 252, 253, 254] (by decide +kernel)
set_option maxRecDepth 20000 in
theorem inl_wsL_law_r8 : ∀ w ∈ wsL_law_r8, w ∈ lw_tbl := in_pl _ [266, 269, 255, 256, 257, 258, 259, 261, 262, 263, 264, 265, 574, 575, 576, 577, 578, 580, 9, 581, 582, 584, 10, 585] (by decide +kernel)
set_option maxRecDepth 20000 in
theorem inl_wsL_law_r9 : ∀ w ∈ wsL_law_r9, w ∈ lw_tbl := in_pl _ [277, 278, 279, 280, 281, 282, 283, 284, 586, 587, 588, 589, 285, 286, 287, 288, 590, 591, 592, 593, 289, 290, 291, 292] (by decide +kernel)
set_option maxRecDepth 20000 in
theorem inl_wsL_law_r10 : ∀ w ∈ wsL_law_r10, w ∈ lw_tbl := in_pl _ [594, 595, 596, 597, 293, 294, 295, 296, 268, 271, 598, 599, 600, 601, 297, 298, 299, 300, 301, 303, 2, 304, 305, 306] (by decide +kernel)
set_option maxRecDepth 20000 in
theorem inl_wsL_law_r11 : ∀ w ∈ wsL_law_r11, w ∈ lw_tbl := in_pl _ [307, 308, 309, 310, 311, 312, 313, 314, 29, 315, 319, 316, 317, 318, 320, 321, 322, 323, 324, 325, 326, 327, 328, 602] (by decide +kernel)
set_option maxRecDepth 20000 in
theorem inl_wsL_law_r12 : ∀ w ∈ wsL_law_r12, w ∈ lw_tbl := in_pl _ [603, 604, 605, 606, 608, 11, 609, 610, 612, 12, 613, 329, 330, 331, 332, 333, 334, 335, 336, 337, 339, 3, 340, 614] (by decide +kernel)
set_option maxRecDepth 20000 in
theorem inl_wsL_law_r13 : ∀ w ∈ wsL_law_r13, w ∈ lw_tbl := in_pl _ [615, 616, 617, 618, 619, 620, 621, 622, 30, 623, 627, 629, 628, 30, 630, 624, 625, 626, 631, 632, 31, 633, 637, 639] (by decide +kernel)
set_option maxRecDepth 20000 in
theorem inl_wsL_law_r14 : ∀ w ∈ wsL_law_r14, w ∈ lw_tbl := in_pl _ [638, 31, 640, 634, 635, 636, 341, 342, 343, 344, 349, 351, 350, 32, 345, 346, 347, 348, 641, 642, 643, 644, 352, 353] (by decide +kernel)
set_option maxRecDepth 20000 in
theorem inl_wsL_law_r15 : ∀ w ∈ wsL_law_r15, w ∈ lw_tbl := in_pl _ [354, 355, 645, 646, 647, 648, 356, 357, 358, 359, 53, 360, 33, 361, 362, 363, 364, 365, 366, 649, 650, 651, 652, 497] (by decide +kernel)
set_option maxRecDepth 20000 in
theorem inl_wsL_law_r16 : ∀ w ∈ wsL_law_r16, w ∈ lw_tbl := in_pl _ [372, 373, 374, 375, 57, 56, 376, 378, 4, 379, 380, 382, 5, 383, 384, 386, 6, 387, 58, 137, 388, 390, 391, 389] (by decide +kernel)
set_option maxRecDepth 20000 in
theorem inl_wsL_law_r17 : ∀ w ∈ wsL_law_r17, w ∈ lw_tbl := in_pl _ [396, 136, 127, 397, 399, 400, 401, 402, 121, 122, 103, 104, 417, 403, 404, 406, 407, 408, 409, 707, 181, 410, 411, 109] (by decide +kernel)
set_option maxRecDepth 20000 in
theorem inl_wsL_law_r18 : ∀ w ∈ wsL_law_r18, w ∈ lw_tbl := in_pl _ [110, 416, 412, 413, 414, 415, 418, 419, 420, 421, 422, 105, 106, 423, 708, 152, 424, 425, 115, 116, 123, 124, 112, 113] (by decide +kernel)
set_option maxRecDepth 20000 in
theorem inl_wsL_law_r19 : ∀ w ∈ wsL_law_r19, w ∈ lw_tbl := in_pl _ [426, 427, 428, 117, 118, 125, 126, 133, 134, 267, 107, 108, 270, 429, 430, 431, 432, 433, 392, 393, 394, 395, 434, 435] (by decide +kernel)
set_option maxRecDepth 20000 in
theorem inl_wsL_law_r20 : ∀ w ∈ wsL_law_r20, w ∈ lw_tbl := in_pl _ [436, 437, 438, 439, 440, 441, 442, 444, 7, 445, 653, 654, 655, 656, 502, 657, 659, 13, 660, 665, 675, 661, 663, 14] (by decide +kernel)
set_option maxRecDepth 20000 in
theorem inl_wsL_law_r21 : ∀ w ∈ wsL_law_r21, w ∈ lw_tbl := in_pl _ [664, 666, 668, 15, 669, 674, 670, 672, 16, 673, 676, 678, 17, 679, 680, 682, 18, 683, 684, 685, 686, 446, 447, 448] (by decide +kernel)
set_option maxRecDepth 20000 in
theorem inl_wsL_law_r22 : ∀ w ∈ wsL_law_r22, w ∈ lw_tbl := in_pl _ [449, 132, 450, 451, 452, 453, 455, 456, 454, 461, 131, 457, 458, 459, 460, 687, 688, 689, 690, 462, 463, 464, 465, 691] (by decide +kernel)
set_option maxRecDepth 20000 in
theorem inl_wsL_law_r23 : ∀ w ∈ wsL_law_r23, w ∈ lw_tbl := in_pl _ [692, 693, 694, 466, 467, 468, 469, 470, 695, 696, 697, 698, 471, 472, 473, 474, 699, 700, 701, 702, 475, 476, 477, 478] (by decide +kernel)
set_option maxRecDepth 20000 in
theorem inl_wsL_law_r24 : ∀ w ∈ wsL_law_r24, w ∈ lw_tbl := in_pl _ [703, 704, 705, 706] (by decide +kernel)
set_option maxRecDepth 20000 in
theorem inl_wsX90 : ∀ w ∈ wsX90, w ∈ lw_tbl := in_pl _ [59, 61, 63, 65, 67, 69, 71, 73, 75, 77, 79] (by decide +kernel)
set_option maxRecDepth 20000 in
theorem inl_wsX100 : ∀ w ∈ wsX100, w ∈ lw_tbl := in_pl _ [506, 508, 510, 512, 514, 516, 518, 520, 522, 524, 526, 528, 530, 532, 534, 536, 538, 540, 542, 544, 546] (by decide +kernel)
set_option maxRecDepth 20000 in
theorem inl_wsX40 : ∀ w ∈ wsX40, w ∈ lw_tbl := in_pl _ [138, 140, 142, 144, 146, 148, 150] (by decide +kernel)
set_option maxRecDepth 20000 in
theorem inl_wsX20 : ∀ w ∈ wsX20, w ∈ lw_tbl := in_pl _ [160, 161, 162, 163, 164, 165, 166] (by decide +kernel)
set_option maxRecDepth 20000 in
theorem inl_wsX00 : ∀ w ∈ wsX00, w ∈ lw_tbl := in_pl _ [174, 175, 176, 177, 178, 179, 180] (by decide +kernel)
set_option maxRecDepth 20000 in
theorem inl_wsX60 : ∀ w ∈ wsX60, w ∈ lw_tbl := in_pl _ [188, 189, 190, 191, 192, 193, 194] (by decide +kernel)
set_option maxRecDepth 20000 in
theorem inl_wsX80 : ∀ w ∈ wsX80, w ∈ lw_tbl := in_pl _ [199, 200, 201, 202, 203, 204, 205] (by decide +kernel)
set_option maxRecDepth 20000 in
theorem inl_wsX70 : ∀ w ∈ wsX70, w ∈ lw_tbl := in_pl _ [272, 274] (by decide +kernel)
set_option maxRecDepth 20000 in
theorem inl_wsX30 : ∀ w ∈ wsX30, w ∈ lw_tbl := in_pl _ [367, 369] (by decide +kernel)
theorem in_ap {a b big : List Cond} (ha : ∀ w ∈ a, w ∈ big) (hb : ∀ w ∈ b, w ∈ big) : ∀ w ∈ a ++ b, w ∈ big := fun w h => (List.mem_append.mp h).elim (ha w) (hb w)
theorem wsL_law_in : ∀ w ∈ wsL_law, w ∈ lw_tbl := in_ap (in_ap (in_ap (in_ap (in_ap (in_ap (in_ap (in_ap (in_ap (in_ap (in_ap inl_wsL_law_r1 (in_ap inl_wsL_law_r2 (in_ap inl_wsL_law_r3 (in_ap inl_wsL_law_r4 (in_ap inl_wsL_law_r5 (in_ap inl_wsL_law_r6 (in_ap inl_wsL_law_r7 (in_ap inl_wsL_law_r8 (in_ap inl_wsL_law_r9 (in_ap inl_wsL_law_r10 (in_ap inl_wsL_law_r11 (in_ap inl_wsL_law_r12 (in_ap inl_wsL_law_r13 (in_ap inl_wsL_law_r14 (in_ap inl_wsL_law_r15 (in_ap inl_wsL_law_r16 (in_ap inl_wsL_law_r17 (in_ap inl_wsL_law_r18 (in_ap inl_wsL_law_r19 (in_ap inl_wsL_law_r20 (in_ap inl_wsL_law_r21 (in_ap inl_wsL_law_r22 (in_ap inl_wsL_law_r23 inl_wsL_law_r24))))))))))))))))))))))) inl_wsX90) inl_wsX100) inl_wsX40) inl_wsX20) inl_wsX00) inl_wsX60) inl_wsX80) inl_wsX70) inl_wsX30) (fun _ h => absurd h List.not_mem_nil)
theorem inlX0 : ∀ w ∈ wsX00, w ∈ wsL_law := fun _ h => List.mem_append_left _ (List.mem_append_left _ (List.mem_append_left _ (List.mem_append_left _ (List.mem_append_left _ (List.mem_append_right _ h)))))
theorem inX0 : ∀ w ∈ wsX00, w ∈ lw_tbl := fun w h => wsL_law_in w (inlX0 w h)
theorem inX1 : ∀ w ∈ wsX10, w ∈ lw_tbl := by decide +kernel
theorem inlX2 : ∀ w ∈ wsX20, w ∈ wsL_law := fun _ h => List.mem_append_left _ (List.mem_append_left _ (List.mem_append_left _ (List.mem_append_left _ (List.mem_append_left _ (List.mem_append_left _ (List.mem_append_right _ h))))))
theorem inX2 : ∀ w ∈ wsX20, w ∈ lw_tbl := fun w h => wsL_law_in w (inlX2 w h)
theorem inlX3 : ∀ w ∈ wsX30, w ∈ wsL_law := fun _ h => List.mem_append_left _ (List.mem_append_right _ h)
theorem inX3 : ∀ w ∈ wsX30, w ∈ lw_tbl := fun w h => wsL_law_in w (inlX3 w h)
theorem inlX4 : ∀ w ∈ wsX40, w ∈ wsL_law := fun _ h => List.mem_append_left _ (List.mem_append_left _ (List.mem_append_left _ (List.mem_append_left _ (List.mem_append_left _ (List.mem_append_left _ (List.mem_append_left _ (List.mem_append_right _ h)))))))
theorem inX4 : ∀ w ∈ wsX40, w ∈ lw_tbl := fun w h => wsL_law_in w (inlX4 w h)
theorem inX5 : ∀ w ∈ wsX50, w ∈ lw_tbl := by decide +kernel
theorem inlX6 : ∀ w ∈ wsX60, w ∈ wsL_law := fun _ h => List.mem_append_left _ (List.mem_append_left _ (List.mem_append_left _ (List.mem_append_left _ (List.mem_append_right _ h))))
theorem inX6 : ∀ w ∈ wsX60, w ∈ lw_tbl := fun w h => wsL_law_in w (inlX6 w h)
theorem inlX7 : ∀ w ∈ wsX70, w ∈ wsL_law := fun _ h => List.mem_append_left _ (List.mem_append_left _ (List.mem_append_right _ h))
theorem inX7 : ∀ w ∈ wsX70, w ∈ lw_tbl := fun w h => wsL_law_in w (inlX7 w h)
theorem inlX8 : ∀ w ∈ wsX80, w ∈ wsL_law := fun _ h => List.mem_append_left _ (List.mem_append_left _ (List.mem_append_left _ (List.mem_append_right _ h)))
theorem inX8 : ∀ w ∈ wsX80, w ∈ lw_tbl := fun w h => wsL_law_in w (inlX8 w h)
theorem inlX9 : ∀ w ∈ wsX90, w ∈ wsL_law := fun _ h => List.mem_append_left _ (List.mem_append_left _ (List.mem_append_left _ (List.mem_append_left _ (List.mem_append_left _ (List.mem_append_left _ (List.mem_append_left _ (List.mem_append_left _ (List.mem_append_left _ (List.mem_append_right _ h)))))))))
theorem inX9 : ∀ w ∈ wsX90, w ∈ lw_tbl := fun w h => wsL_law_in w (inlX9 w h)
theorem inlX10 : ∀ w ∈ wsX100, w ∈ wsL_law := fun _ h => List.mem_append_left _ (List.mem_append_left _ (List.mem_append_left _ (List.mem_append_left _ (List.mem_append_left _ (List.mem_append_left _ (List.mem_append_left _ (List.mem_append_left _ (List.mem_append_right _ h))))))))
theorem inX10 : ∀ w ∈ wsX100, w ∈ lw_tbl := fun w h => wsL_law_in w (inlX10 w h)
theorem inJx8e188 : ∀ w ∈ wsJx8e1880, w ∈ lw_tbl := by decide +kernel
theorem inJxe99ae : ∀ w ∈ wsJxe99ae0, w ∈ lw_tbl := by decide +kernel
theorem inJxf58ca : ∀ w ∈ wsJxf58ca0, w ∈ lw_tbl := by decide +kernel
theorem inJ10 : ∀ w ∈ wsJ100, w ∈ lw_tbl := by decide +kernel
set_option maxRecDepth 20000 in
theorem ggL_law_X9_init : GoodIn wsL_law wsX9_init := goodIn_r _ [8, 9, 10, 11, 12, 13, 14, 15, 16, 17, 18, 19, 20, 556, 557, 558, 559, 560, 561, 562, 563, 564, 565, 566] (by decide +kernel) (by decide +kernel)
set_option maxRecDepth 20000 in
theorem gL_law_X9_init : GoodIn wsL_law (wsX9_init) := ggL_law_X9_init
set_option maxRecDepth 20000 in
theorem ggL_law_X10_init : GoodIn wsL_law wsX10_init := goodIn_r _ [23, 24, 10, 11, 25, 26, 27, 28, 29, 30, 31, 32, 33, 34, 35, 36, 37, 18, 38, 39, 40, 41, 42, 43, 44, 567, 568, 569, 570, 571, 572, 573, 574, 575, 576, 577, 578, 579, 580, 581, 582, 583, 584, 585, 586, 587] (by decide +kernel) (by decide +kernel)
set_option maxRecDepth 20000 in
theorem gL_law_X10_init : GoodIn wsL_law (wsX10_init) := ggL_law_X10_init
set_option maxRecDepth 20000 in
theorem ggL_law_X9_instrument : GoodIn wsL_law wsX9_instrument := goodIn_r _ [48, 49, 13, 50, 51, 2, 52, 53, 54, 55, 56, 57, 58, 59, 60, 61, 62, 63, 64, 65, 66, 67, 68, 69, 70, 71, 72, 73, 74, 75, 10, 11, 25, 76, 77, 78, 79, 80, 81, 82, 556, 557, 558, 559, 560, 561, 562, 563, 564, 565, 566, 588, 589, 590, 591, 592, 593, 594, 595, 596, 597, 598, 599, 600, 601, 602, 603, 604, 605, 606, 607, 608, 609, 610, 611, 612, 613, 614, 615, 616, 617, 618, 619, 620, 621, 622] (by decide +kernel) (by decide +kernel)
set_option maxRecDepth 20000 in
theorem gL_law_X9_instrument : GoodIn wsL_law (wsV RL 13 RX9 yX9_instrument wsX9_instrument) := goodIn_app (goodIn_of _ (by decide +kernel)) ggL_law_X9_instrument
set_option maxRecDepth 20000 in
theorem ggL_law_X10_instrument : GoodIn wsL_law wsX10_instrument := goodIn_r _ [86, 87, 32, 88, 89, 5, 90, 567, 568, 569, 570, 571, 572, 573, 574, 575, 576, 577, 578, 579, 580, 581, 582, 583, 584, 585, 586, 587] (by decide +kernel) (by decide +kernel)
set_option maxRecDepth 20000 in
theorem gL_law_X10_instrument : GoodIn wsL_law (wsV RL 17 RX10 yX10_instrument wsX10_instrument) := goodIn_app (goodIn_of _ (by decide +kernel)) ggL_law_X10_instrument
set_option maxRecDepth 20000 in
theorem ggL_law_X9_note : GoodIn wsL_law wsX9_note := goodIn_r _ [94, 95, 96, 97, 98, 2, 99, 49, 13, 100, 101, 102, 103, 104, 58, 105, 106, 107, 108, 109, 110, 73, 111, 112, 113, 114, 115, 116, 117, 602, 603, 604, 605, 606, 607, 608, 595, 596, 597, 598, 599, 600, 601, 588, 589, 590, 591, 592, 593, 594, 609, 610, 611, 612, 613, 614, 615, 616, 617, 618, 619, 620, 621, 622, 556, 557, 558, 559, 560, 561, 562, 563, 564, 565, 566] (by decide +kernel) (by decide +kernel)
set_option maxRecDepth 20000 in
theorem gL_law_X9_note : GoodIn wsL_law (wsV RL 18 RX9 yX9_note wsX9_note) := goodIn_app (goodIn_of _ (by decide +kernel)) ggL_law_X9_note
set_option maxRecDepth 20000 in
theorem ggL_law_X10_note : GoodIn wsL_law wsX10_note := goodIn_r _ [121, 36, 34, 38, 122, 123, 124, 5, 125, 87, 88, 89, 90, 567, 568, 569, 570, 571, 572, 573, 574, 575, 576, 577, 578, 579, 580, 581, 582, 583, 584, 585, 586, 587] (by decide +kernel) (by decide +kernel)
set_option maxRecDepth 20000 in
theorem gL_law_X10_note : GoodIn wsL_law (wsV RL 22 RX10 yX10_note wsX10_note) := goodIn_app (goodIn_of _ (by decide +kernel)) ggL_law_X10_note
set_option maxRecDepth 20000 in
theorem ggL_law_X9_knob : GoodIn wsL_law wsX9_knob := goodIn_r _ [129, 130, 131, 96, 97, 98, 2, 99, 49, 13, 556, 557, 558, 559, 560, 561, 562, 563, 564, 565, 566, 602, 603, 604, 605, 606, 607, 608, 595, 596, 597, 598, 599, 600, 601, 588, 589, 590, 591, 592, 593, 594, 609, 610, 611, 612, 613, 614, 615, 616, 617, 618, 619, 620, 621, 622] (by decide +kernel) (by decide +kernel)
set_option maxRecDepth 20000 in
theorem gL_law_X9_knob : GoodIn wsL_law (wsV RL 23 RX9 yX9_knob wsX9_knob) := goodIn_app (goodIn_of _ (by decide +kernel)) ggL_law_X9_knob
set_option maxRecDepth 20000 in
theorem ggL_law_X10_knob : GoodIn wsL_law wsX10_knob := goodIn_r _ [135, 136, 33, 122, 123, 124, 5, 125, 87, 88, 89, 90, 567, 568, 569, 570, 571, 572, 573, 574, 575, 576, 577, 578, 579, 580, 581, 582, 583, 584, 585, 586, 587] (by decide +kernel) (by decide +kernel)
set_option maxRecDepth 20000 in
theorem gL_law_X10_knob : GoodIn wsL_law (wsV RL 27 RX10 yX10_knob wsX10_knob) := goodIn_app (goodIn_of _ (by decide +kernel)) ggL_law_X10_knob
set_option maxRecDepth 20000 in
theorem ggL_law_X9_phase : GoodIn wsL_law wsX9_phase := goodIn_r _ [140, 130, 141, 96, 97, 98, 2, 99, 49, 13, 556, 557, 558, 559, 560, 561, 562, 563, 564, 565, 566, 602, 603, 604, 605, 606, 607, 608, 595, 596, 597, 598, 599, 600, 601, 588, 589, 590, 591, 592, 593, 594, 609, 610, 611, 612, 613, 614, 615, 616, 617, 618, 619, 620, 621, 622] (by decide +kernel) (by decide +kernel)
set_option maxRecDepth 20000 in
theorem gL_law_X9_phase : GoodIn wsL_law (wsV RL 28 RX9 yX9_phase wsX9_phase) := goodIn_app (goodIn_of _ (by decide +kernel)) ggL_law_X9_phase
set_option maxRecDepth 20000 in
theorem ggL_law_X10_phase : GoodIn wsL_law wsX10_phase := goodIn_r _ [145, 136, 37, 122, 123, 124, 5, 125, 87, 88, 89, 90, 567, 568, 569, 570, 571, 572, 573, 574, 575, 576, 577, 578, 579, 580, 581, 582, 583, 584, 585, 586, 587] (by decide +kernel) (by decide +kernel)
set_option maxRecDepth 20000 in
theorem gL_law_X10_phase : GoodIn wsL_law (wsV RL 32 RX10 yX10_phase wsX10_phase) := goodIn_app (goodIn_of _ (by decide +kernel)) ggL_law_X10_phase
set_option maxRecDepth 20000 in
theorem ggL_law_X9_table : GoodIn wsL_law wsX9_table := goodIn_r _ [149, 150, 96, 97, 98, 2, 99, 49, 13, 151, 152, 153, 154, 155, 156, 157, 15, 158, 159, 160, 161, 162, 163, 164, 165, 166, 167, 168, 169, 170, 171, 172, 173, 174, 175, 176, 177, 178, 179, 10, 11, 602, 603, 604, 605, 606, 607, 608, 595, 596, 597, 598, 599, 600, 601, 588, 589, 590, 591, 592, 593, 594, 609, 610, 611, 612, 613, 614, 615, 616, 617, 618, 619, 620, 621, 622, 556, 557, 558, 559, 560, 561, 562, 563, 564, 565, 566, 623, 624] (by decide +kernel) (by decide +kernel)
set_option maxRecDepth 20000 in
theorem gL_law_X9_table : GoodIn wsL_law (wsV RL 33 RX9 yX9_table wsX9_table) := goodIn_app (goodIn_of _ (by decide +kernel)) ggL_law_X9_table
set_option maxRecDepth 20000 in
theorem ggL_law_X10_table : GoodIn wsL_law wsX10_table := goodIn_r _ [183, 26, 27, 122, 123, 124, 5, 125, 87, 88, 89, 90, 184, 185, 186, 187, 28, 29, 31, 188, 189, 190, 191, 567, 568, 569, 570, 571, 572, 573, 574, 575, 576, 577, 578, 579, 580, 581, 582, 583, 584, 585, 586, 587] (by decide +kernel) (by decide +kernel)
set_option maxRecDepth 20000 in
theorem gL_law_X10_table : GoodIn wsL_law (wsV RL 36 RX10 yX10_table wsX10_table) := goodIn_app (goodIn_of _ (by decide +kernel)) ggL_law_X10_table
set_option maxRecDepth 20000 in
theorem ggL_law_X9_block : GoodIn wsL_law wsX9_block := goodIn_r _ [195, 15, 14, 167, 164, 18, 151, 152, 2, 153, 196, 197, 198, 199, 177, 178, 179, 10, 11, 168, 169, 556, 557, 558, 559, 560, 561, 562, 563, 564, 565, 566, 623, 624] (by decide +kernel) (by decide +kernel)
set_option maxRecDepth 20000 in
theorem gL_law_X9_block : GoodIn wsL_law (wsV RL 37 RX9 yX9_block wsX9_block) := goodIn_app (goodIn_of _ (by decide +kernel)) ggL_law_X9_block
set_option maxRecDepth 20000 in
theorem ggL_law_X10_block : GoodIn wsL_law wsX10_block := goodIn_r _ [203, 26, 88, 89, 5, 90, 188, 189, 190, 191, 27, 28, 29, 31, 567, 568, 569, 570, 571, 572, 573, 574, 575, 576, 577, 578, 579, 580, 581, 582, 583, 584, 585, 586, 587] (by decide +kernel) (by decide +kernel)
set_option maxRecDepth 20000 in
theorem gL_law_X10_block : GoodIn wsL_law (wsV RL 40 RX10 yX10_block wsX10_block) := goodIn_app (goodIn_of _ (by decide +kernel)) ggL_law_X10_block
set_option maxRecDepth 20000 in
theorem ggL_law_X9_lend : GoodIn wsL_law wsX9_lend := goodIn_r _ [207, 15, 151, 152, 2, 153, 154, 155, 156, 157, 158, 159, 160, 161, 162, 163, 164, 165, 166, 167, 168, 169, 170, 171, 172, 173, 174, 175, 176, 177, 178, 179, 10, 11, 556, 557, 558, 559, 560, 561, 562, 563, 564, 565, 566, 623, 624] (by decide +kernel) (by decide +kernel)
set_option maxRecDepth 20000 in
theorem gL_law_X9_lend : GoodIn wsL_law (wsV RL 41 RX9 yX9_lend wsX9_lend) := goodIn_app (goodIn_of _ (by decide +kernel)) ggL_law_X9_lend
set_option maxRecDepth 20000 in
theorem ggL_law_X10_lend : GoodIn wsL_law wsX10_lend := goodIn_r _ [211, 26, 88, 89, 5, 90, 184, 185, 186, 187, 28, 29, 31, 188, 189, 190, 191, 27, 567, 568, 569, 570, 571, 572, 573, 574, 575, 576, 577, 578, 579, 580, 581, 582, 583, 584, 585, 586, 587] (by decide +kernel) (by decide +kernel)
set_option maxRecDepth 20000 in
theorem gL_law_X10_lend : GoodIn wsL_law (wsV RL 44 RX10 yX10_lend wsX10_lend) := goodIn_app (goodIn_of _ (by decide +kernel)) ggL_law_X10_lend
set_option maxRecDepth 20000 in
theorem ggL_law_X9_isLent : GoodIn wsL_law wsX9_isLent := goodIn_r _ [215, 151, 152, 2, 153, 154, 155, 156, 157, 15, 556, 557, 558, 559, 560, 561, 562, 563, 564, 565, 566] (by decide +kernel) (by decide +kernel)
set_option maxRecDepth 20000 in
theorem gL_law_X9_isLent : GoodIn wsL_law (wsV RL 45 RX9 yX9_isLent wsX9_isLent) := goodIn_app (goodIn_of _ (by decide +kernel)) ggL_law_X9_isLent
set_option maxRecDepth 20000 in
theorem ggL_law_X10_isLent : GoodIn wsL_law wsX10_isLent := goodIn_r _ [219, 26, 88, 89, 5, 90, 567, 568, 569, 570, 571, 572, 573, 574, 575, 576, 577, 578, 579, 580, 581, 582, 583, 584, 585, 586, 587] (by decide +kernel) (by decide +kernel)
set_option maxRecDepth 20000 in
theorem gL_law_X10_isLent : GoodIn wsL_law (wsV RL 49 RX10 yX10_isLent wsX10_isLent) := goodIn_app (goodIn_of _ (by decide +kernel)) ggL_law_X10_isLent
set_option maxRecDepth 20000 in
theorem ggL_law_X9_of : GoodIn wsL_law wsX9_of := goodIn_r _ [223, 224, 225, 151, 152, 2, 153, 154, 155, 156, 157, 15, 623, 624, 556, 557, 558, 559, 560, 561, 562, 563, 564, 565, 566] (by decide +kernel) (by decide +kernel)
set_option maxRecDepth 20000 in
theorem gL_law_X9_of : GoodIn wsL_law (wsV RL 50 RX9 yX9_of wsX9_of) := goodIn_app (goodIn_of _ (by decide +kernel)) ggL_law_X9_of
set_option maxRecDepth 20000 in
theorem ggL_law_X10_of : GoodIn wsL_law wsX10_of := goodIn_r _ [229, 26, 28, 29, 88, 89, 5, 90, 567, 568, 569, 570, 571, 572, 573, 574, 575, 576, 577, 578, 579, 580, 581, 582, 583, 584, 585, 586, 587] (by decide +kernel) (by decide +kernel)
set_option maxRecDepth 20000 in
theorem gL_law_X10_of : GoodIn wsL_law (wsV RL 53 RX10 yX10_of wsX10_of) := goodIn_app (goodIn_of _ (by decide +kernel)) ggL_law_X10_of
set_option maxRecDepth 20000 in
theorem ggL_law_X9_at : GoodIn wsL_law wsX9_at := goodIn_r _ [233, 130, 15, 234, 235, 236, 2, 237, 151, 152, 153, 238, 239, 240, 164, 241, 169, 242, 243, 244, 245, 168, 246, 247, 248, 249, 250, 251, 252, 253, 254, 255, 256, 257, 258, 259, 260, 261, 262, 556, 557, 558, 559, 560, 561, 562, 563, 564, 565, 566, 623, 624] (by decide +kernel) (by decide +kernel)
set_option maxRecDepth 20000 in
theorem gL_law_X9_at : GoodIn wsL_law (wsV RL 54 RX9 yX9_at wsX9_at) := goodIn_app (goodIn_of _ (by decide +kernel)) ggL_law_X9_at
set_option maxRecDepth 20000 in
theorem ggL_law_X10_at : GoodIn wsL_law wsX10_at := goodIn_r _ [266, 31, 26, 267, 268, 269, 5, 270, 29, 88, 89, 90, 271, 272, 273, 274, 136, 567, 568, 569, 570, 571, 572, 573, 574, 575, 576, 577, 578, 579, 580, 581, 582, 583, 584, 585, 586, 587] (by decide +kernel) (by decide +kernel)
set_option maxRecDepth 20000 in
theorem gL_law_X10_at : GoodIn wsL_law (wsV RL 58 RX10 yX10_at wsX10_at) := goodIn_app (goodIn_of _ (by decide +kernel)) ggL_law_X10_at
set_option maxRecDepth 20000 in
theorem ggL_law_X9_put : GoodIn wsL_law wsX9_put := goodIn_r _ [278, 130, 15, 234, 235, 236, 2, 237, 151, 152, 153, 238, 239, 240, 164, 241, 169, 279, 280, 281, 282, 283, 284, 285, 286, 168, 556, 557, 558, 559, 560, 561, 562, 563, 564, 565, 566, 623, 624] (by decide +kernel) (by decide +kernel)
set_option maxRecDepth 20000 in
theorem gL_law_X9_put : GoodIn wsL_law (wsV RL 59 RX9 yX9_put wsX9_put) := goodIn_app (goodIn_of _ (by decide +kernel)) ggL_law_X9_put
set_option maxRecDepth 20000 in
theorem ggL_law_X10_put : GoodIn wsL_law wsX10_put := goodIn_r _ [290, 136, 31, 26, 28, 267, 268, 269, 5, 270, 29, 88, 89, 90, 271, 272, 273, 274, 291, 292, 293, 294, 295, 296, 297, 298, 299, 300, 301, 302, 303, 304, 305, 306, 307, 308, 309, 310, 311, 312, 313, 314, 315, 316, 317, 567, 568, 569, 570, 571, 572, 573, 574, 575, 576, 577, 578, 579, 580, 581, 582, 583, 584, 585, 586, 587] (by decide +kernel) (by decide +kernel)
set_option maxRecDepth 20000 in
theorem gL_law_X10_put : GoodIn wsL_law (wsV RL 62 RX10 yX10_put wsX10_put) := goodIn_app (goodIn_of _ (by decide +kernel)) ggL_law_X10_put
set_option maxRecDepth 20000 in
theorem ggL_law_X9_copy : GoodIn wsL_law wsX9_copy := goodIn_r _ [321, 130, 224, 225, 322, 323, 324, 325, 154, 155, 156, 2, 157, 15, 151, 152, 153, 326, 327, 328, 164, 329, 169, 556, 557, 558, 559, 560, 561, 562, 563, 564, 565, 566, 623, 624] (by decide +kernel) (by decide +kernel)
set_option maxRecDepth 20000 in
theorem gL_law_X9_copy : GoodIn wsL_law (wsV RL 63 RX9 yX9_copy wsX9_copy) := goodIn_app (goodIn_of _ (by decide +kernel)) ggL_law_X9_copy
set_option maxRecDepth 20000 in
theorem ggL_law_X10_copy : GoodIn wsL_law wsX10_copy := goodIn_r _ [333, 26, 28, 29, 43, 31, 88, 89, 5, 90, 271, 272, 273, 274, 136, 567, 568, 569, 570, 571, 572, 573, 574, 575, 576, 577, 578, 579, 580, 581, 582, 583, 584, 585, 586, 587] (by decide +kernel) (by decide +kernel)
set_option maxRecDepth 20000 in
theorem gL_law_X10_copy : GoodIn wsL_law (wsV RL 67 RX10 yX10_copy wsX10_copy) := goodIn_app (goodIn_of _ (by decide +kernel)) ggL_law_X10_copy
set_option maxRecDepth 20000 in
theorem ggL_law_X9_bind : GoodIn wsL_law wsX9_bind := goodIn_r _ [337, 20, 196, 197, 2, 198, 556, 557, 558, 559, 560, 561, 562, 563, 564, 565, 566] (by decide +kernel) (by decide +kernel)
set_option maxRecDepth 20000 in
theorem gL_law_X9_bind : GoodIn wsL_law (wsV RL 68 RX9 yX9_bind wsX9_bind) := goodIn_app (goodIn_of _ (by decide +kernel)) ggL_law_X9_bind
set_option maxRecDepth 20000 in
theorem ggL_law_X10_bind : GoodIn wsL_law wsX10_bind := goodIn_r _ [341, 44, 88, 89, 5, 90, 567, 568, 569, 570, 571, 572, 573, 574, 575, 576, 577, 578, 579, 580, 581, 582, 583, 584, 585, 586, 587] (by decide +kernel) (by decide +kernel)
set_option maxRecDepth 20000 in
theorem gL_law_X10_bind : GoodIn wsL_law (wsV RL 71 RX10 yX10_bind wsX10_bind) := goodIn_app (goodIn_of _ (by decide +kernel)) ggL_law_X10_bind
set_option maxRecDepth 20000 in
theorem ggL_law_X9_function : GoodIn wsL_law wsX9_function := goodIn_r _ [345, 346, 17, 16, 347, 348, 349, 350, 351, 352, 10, 11, 353, 354, 556, 557, 558, 559, 560, 561, 562, 563, 564, 565, 566, 625, 626] (by decide +kernel) (by decide +kernel)
set_option maxRecDepth 20000 in
theorem gL_law_X9_function : GoodIn wsL_law (wsV RL 72 RX9 yX9_function wsX9_function) := goodIn_app (goodIn_of _ (by decide +kernel)) ggL_law_X9_function
set_option maxRecDepth 20000 in
theorem ggL_law_X10_function : GoodIn wsL_law wsX10_function := goodIn_r _ [358, 359, 39, 40, 88, 89, 5, 90, 567, 568, 569, 570, 571, 572, 573, 574, 575, 576, 577, 578, 579, 580, 581, 582, 583, 584, 585, 586, 587] (by decide +kernel) (by decide +kernel)
set_option maxRecDepth 20000 in
theorem gL_law_X10_function : GoodIn wsL_law (wsV RL 75 RX10 yX10_function wsX10_function) := goodIn_app (goodIn_of _ (by decide +kernel)) ggL_law_X10_function
set_option maxRecDepth 20000 in
theorem ggL_law_X9_play : GoodIn wsL_law wsX9_play := goodIn_r _ [363, 130, 364, 365, 96, 97, 98, 2, 99, 49, 13, 366, 367, 368, 369, 346, 17, 151, 152, 153, 154, 155, 156, 157, 15, 370, 371, 372, 373, 224, 20, 326, 327, 328, 164, 329, 169, 374, 375, 376, 377, 378, 379, 19, 380, 381, 382, 383, 73, 384, 385, 386, 387, 388, 389, 390, 61, 391, 392, 393, 394, 395, 396, 397, 398, 399, 400, 401, 402, 403, 404, 405, 58, 406, 407, 408, 106, 107, 409, 410, 411, 412, 413, 414, 415, 416, 55, 417, 418, 419, 420, 421, 422, 423, 424, 67, 425, 426, 427, 428, 429, 430, 431, 432, 433, 64, 434, 435, 436, 437, 438, 439, 440, 441, 442, 443, 444, 445, 446, 447, 448, 239, 240, 241, 449, 450, 451, 452, 453, 454, 455, 456, 348, 457, 353, 354, 458, 459, 460, 461, 462, 463, 464, 465, 279, 280, 281, 282, 283, 284, 285, 286, 168, 556, 557, 558, 559, 560, 561, 562, 563, 564, 565, 566, 623, 624, 602, 603, 604, 605, 606, 607, 608, 595, 596, 597, 598, 599, 600, 601, 588, 589, 590, 591, 592, 593, 594, 609, 610, 611, 612, 613, 614, 615, 616, 617, 618, 619, 620, 621, 622, 625, 626] (by decide +kernel) (by decide +kernel)
set_option maxRecDepth 20000 in
theorem gL_law_X9_play : GoodIn wsL_law (wsV RL 76 RX9 yX9_play wsX9_play) := goodIn_app (goodIn_of _ (by decide +kernel)) ggL_law_X9_play
set_option maxRecDepth 20000 in
theorem ggL_law_X10_play : GoodIn wsL_law wsX10_play := goodIn_r _ [469, 359, 26, 44, 28, 29, 41, 42, 470, 31, 122, 123, 124, 5, 125, 87, 88, 89, 90, 271, 272, 273, 274, 136, 471, 472, 473, 474, 37, 32, 475, 33, 476, 477, 478, 479, 480, 36, 34, 481, 482, 483, 484, 38, 485, 486, 487, 488, 489, 490, 491, 492, 493, 27, 494, 495, 496, 497, 40, 39, 498, 499, 500, 306, 307, 308, 309, 310, 311, 312, 313, 314, 315, 316, 317, 291, 292, 293, 294, 295, 296, 297, 298, 299, 300, 301, 302, 303, 304, 305, 567, 568, 569, 570, 571, 572, 573, 574, 575, 576, 577, 578, 579, 580, 581, 582, 583, 584, 585, 586, 587] (by decide +kernel) (by decide +kernel)
set_option maxRecDepth 20000 in
theorem gL_law_X10_play : GoodIn wsL_law (wsV RL 80 RX10 yX10_play wsX10_play) := goodIn_app (goodIn_of _ (by decide +kernel)) ggL_law_X10_play
set_option maxRecDepth 20000 in
theorem ggL_law_X9_agree : GoodIn wsL_law wsX9_agree := goodIn_r _ [504, 141, 505, 96, 97, 98, 2, 99, 49, 13, 366, 367, 368, 369, 346, 17, 506, 507, 508, 379, 380, 381, 382, 383, 73, 384, 385, 386, 387, 388, 389, 390, 61, 391, 392, 393, 394, 395, 396, 397, 398, 399, 400, 401, 402, 403, 404, 405, 58, 406, 407, 408, 106, 107, 409, 410, 411, 412, 413, 414, 415, 416, 55, 417, 418, 419, 420, 421, 422, 423, 424, 67, 425, 426, 427, 428, 429, 430, 431, 432, 433, 64, 434, 435, 436, 437, 438, 439, 440, 441, 442, 443, 444, 445, 446, 447, 448, 239, 240, 164, 241, 169, 449, 450, 451, 452, 453, 454, 455, 456, 348, 457, 353, 354, 458, 459, 460, 461, 509, 510, 511, 512, 513, 514, 515, 516, 517, 518, 602, 603, 604, 605, 606, 607, 608, 595, 596, 597, 598, 599, 600, 601, 588, 589, 590, 591, 592, 593, 594, 609, 610, 611, 612, 613, 614, 615, 616, 617, 618, 619, 620, 621, 622, 556, 557, 558, 559, 560, 561, 562, 563, 564, 565, 566, 623, 624, 625, 626] (by decide +kernel) (by decide +kernel)
set_option maxRecDepth 20000 in
theorem gL_law_X9_agree : GoodIn wsL_law (wsV RL 81 RX9 yX9_agree wsX9_agree) := goodIn_app (goodIn_of _ (by decide +kernel)) ggL_law_X9_agree
set_option maxRecDepth 20000 in
theorem ggL_law_X10_agree : GoodIn wsL_law wsX10_agree := goodIn_r _ [522, 359, 37, 38, 470, 122, 123, 124, 5, 125, 87, 88, 89, 90, 471, 472, 473, 474, 32, 475, 33, 476, 477, 478, 479, 480, 36, 34, 481, 482, 483, 484, 485, 486, 487, 488, 489, 490, 491, 492, 493, 27, 28, 29, 31, 494, 495, 496, 497, 40, 39, 498, 499, 500, 306, 307, 308, 309, 310, 311, 312, 313, 314, 315, 316, 317, 567, 568, 569, 570, 571, 572, 573, 574, 575, 576, 577, 578, 579, 580, 581, 582, 583, 584, 585, 586, 587] (by decide +kernel) (by decide +kernel)
set_option maxRecDepth 20000 in
theorem gL_law_X10_agree : GoodIn wsL_law (wsV RL 85 RX10 yX10_agree wsX10_agree) := goodIn_app (goodIn_of _ (by decide +kernel)) ggL_law_X10_agree
set_option maxRecDepth 20000 in
theorem ggL_law_X9_find : GoodIn wsL_law wsX9_find := goodIn_r _ [526, 346, 17, 454, 455, 456, 348, 457, 353, 354, 458, 459, 460, 461, 556, 557, 558, 559, 560, 561, 562, 563, 564, 565, 566, 625, 626] (by decide +kernel) (by decide +kernel)
set_option maxRecDepth 20000 in
theorem gL_law_X9_find : GoodIn wsL_law (wsV RL 86 RX9 yX9_find wsX9_find) := goodIn_app (goodIn_of _ (by decide +kernel)) ggL_law_X9_find
set_option maxRecDepth 20000 in
theorem ggL_law_X10_find : GoodIn wsL_law wsX10_find := goodIn_r _ [530, 359, 470, 494, 495, 496, 5, 497, 40, 39, 498, 499, 500, 306, 307, 308, 309, 310, 311, 312, 313, 314, 315, 316, 317, 486, 487, 488, 489, 567, 568, 569, 570, 571, 572, 573, 574, 575, 576, 577, 578, 579, 580, 581, 582, 583, 584, 585, 586, 587] (by decide +kernel) (by decide +kernel)
set_option maxRecDepth 20000 in
theorem gL_law_X10_find : GoodIn wsL_law (wsV RL 89 RX10 yX10_find wsX10_find) := goodIn_app (goodIn_of _ (by decide +kernel)) ggL_law_X10_find
set_option maxRecDepth 20000 in
theorem ggL_law_X9_next : GoodIn wsL_law wsX9_next := goodIn_r _ [534, 130, 141, 505, 379, 96, 97, 98, 2, 99, 49, 13, 380, 381, 382, 383, 73, 384, 385, 386, 387, 388, 389, 390, 61, 391, 392, 393, 394, 395, 396, 397, 398, 399, 400, 401, 402, 403, 404, 405, 58, 406, 407, 408, 106, 107, 409, 410, 411, 412, 413, 414, 415, 416, 55, 417, 418, 419, 420, 421, 422, 423, 424, 67, 425, 426, 427, 428, 429, 430, 431, 432, 433, 64, 434, 435, 436, 437, 438, 439, 440, 441, 442, 443, 444, 445, 446, 447, 448, 239, 240, 164, 241, 169, 449, 450, 451, 452, 453, 509, 510, 511, 512, 513, 514, 515, 516, 517, 518, 535, 260, 248, 261, 262, 251, 252, 253, 254, 255, 256, 257, 258, 556, 557, 558, 559, 560, 561, 562, 563, 564, 565, 566, 602, 603, 604, 605, 606, 607, 608, 595, 596, 597, 598, 599, 600, 601, 588, 589, 590, 591, 592, 593, 594, 609, 610, 611, 612, 613, 614, 615, 616, 617, 618, 619, 620, 621, 622, 623, 624] (by decide +kernel) (by decide +kernel)
set_option maxRecDepth 20000 in
theorem gL_law_X9_next : GoodIn wsL_law (wsV RL 90 RX9 yX9_next wsX9_next) := goodIn_app (goodIn_of _ (by decide +kernel)) ggL_law_X9_next
set_option maxRecDepth 20000 in
theorem ggL_law_X10_next : GoodIn wsL_law wsX10_next := goodIn_r _ [539, 136, 37, 38, 470, 122, 123, 124, 5, 125, 87, 88, 89, 90, 471, 472, 473, 474, 32, 475, 33, 476, 477, 478, 479, 480, 36, 34, 481, 482, 483, 484, 485, 486, 487, 488, 489, 490, 491, 492, 493, 27, 28, 29, 31, 306, 307, 308, 309, 310, 311, 312, 313, 314, 315, 316, 317, 567, 568, 569, 570, 571, 572, 573, 574, 575, 576, 577, 578, 579, 580, 581, 582, 583, 584, 585, 586, 587] (by decide +kernel) (by decide +kernel)
set_option maxRecDepth 20000 in
theorem gL_law_X10_next : GoodIn wsL_law (wsV RL 94 RX10 yX10_next wsX10_next) := goodIn_app (goodIn_of _ (by decide +kernel)) ggL_law_X10_next
set_option maxRecDepth 20000 in
theorem ggL_law_X9_state : GoodIn wsL_law wsX9_state := goodIn_r _ [543, 130, 556, 557, 558, 559, 560, 561, 562, 563, 564, 565, 566] (by decide +kernel) (by decide +kernel)
set_option maxRecDepth 20000 in
theorem gL_law_X9_state : GoodIn wsL_law (wsV RL 95 RX9 yX9_state wsX9_state) := goodIn_app (goodIn_of _ (by decide +kernel)) ggL_law_X9_state
set_option maxRecDepth 20000 in
theorem ggL_law_X10_state : GoodIn wsL_law wsX10_state := goodIn_r _ [547, 136, 567, 568, 569, 570, 571, 572, 573, 574, 575, 576, 577, 578, 579, 580, 581, 582, 583, 584, 585, 586, 587] (by decide +kernel) (by decide +kernel)
set_option maxRecDepth 20000 in
theorem gL_law_X10_state : GoodIn wsL_law (wsV RL 99 RX10 yX10_state wsX10_state) := goodIn_app (goodIn_of _ (by decide +kernel)) ggL_law_X10_state
set_option maxRecDepth 20000 in
theorem ggL_law_X9_count : GoodIn wsL_law wsX9_count := goodIn_r _ [551, 49, 346, 365, 364, 378, 556, 557, 558, 559, 560, 561, 562, 563, 564, 565, 566] (by decide +kernel) (by decide +kernel)
set_option maxRecDepth 20000 in
theorem gL_law_X9_count : GoodIn wsL_law (wsV RL 100 RX9 yX9_count wsX9_count) := goodIn_app (goodIn_of _ (by decide +kernel)) ggL_law_X9_count
set_option maxRecDepth 20000 in
theorem ggL_law_X10_count : GoodIn wsL_law wsX10_count := goodIn_r _ [555, 87, 359, 41, 88, 89, 5, 90, 567, 568, 569, 570, 571, 572, 573, 574, 575, 576, 577, 578, 579, 580, 581, 582, 583, 584, 585, 586, 587] (by decide +kernel) (by decide +kernel)
set_option maxRecDepth 20000 in
theorem gL_law_X10_count : GoodIn wsL_law (wsV RL 103 RX10 yX10_count wsX10_count) := goodIn_app (goodIn_of _ (by decide +kernel)) ggL_law_X10_count
theorem dL_law_0 : decode cL_law 0 = .ok (.new 7, 3) := by decide +kernel
theorem dL_law_3 : decode cL_law 3 = .ok (.dup, 1) := by decide +kernel
theorem dL_law_4 : decode cL_law 4 = .ok (.invokespecial 9, 3) := by decide +kernel
theorem dL_law_7 : decode cL_law 7 = .ok (.astore_n 1, 1) := by decide +kernel
theorem dL_law_8 : decode cL_law 8 = .ok (.new 10, 3) := by decide +kernel
theorem dL_law_11 : decode cL_law 11 = .ok (.dup, 1) := by decide +kernel
theorem dL_law_12 : decode cL_law 12 = .ok (.invokespecial 12, 3) := by decide +kernel
theorem dL_law_15 : decode cL_law 15 = .ok (.astore_n 2, 1) := by decide +kernel
theorem dL_law_16 : decode cL_law 16 = .ok (.iconst 0, 1) := by decide +kernel
theorem dL_law_17 : decode cL_law 17 = .ok (.istore_n 3, 1) := by decide +kernel
theorem dL_law_18 : decode cL_law 18 = .ok (.iload_n 3, 1) := by decide +kernel
theorem dL_law_19 : decode cL_law 19 = .ok (.aload_n 0, 1) := by decide +kernel
theorem dL_law_20 : decode cL_law 20 = .ok (.arraylength, 1) := by decide +kernel
theorem dL_law_21 : decode cL_law 21 = .ok (.bipush 7, 2) := by decide +kernel
theorem dL_law_23 : decode cL_law 23 = .ok (.isub, 1) := by decide +kernel
theorem dL_law_24 : decode cL_law 24 = .ok (.if_icmp .gt 902, 3) := by decide +kernel
theorem dL_law_27 : decode cL_law 27 = .ok (.aload_n 0, 1) := by decide +kernel
theorem dL_law_28 : decode cL_law 28 = .ok (.iload_n 3, 1) := by decide +kernel
theorem dL_law_29 : decode cL_law 29 = .ok (.iaload, 1) := by decide +kernel
theorem dL_law_30 : decode cL_law 30 = .ok (.bipush 31, 2) := by decide +kernel
theorem dL_law_32 : decode cL_law 32 = .ok (.iand, 1) := by decide +kernel
theorem dL_law_33 : decode cL_law 33 = .ok (.tableswitch 887 0 19 #[95, 118, 177, 220, 253, 312, 355, 414, 447, 480, 514, 557, 620, 643, 676, 751, 794, 827, 851, 864], 95) := by decide +kernel
theorem dL_law_128 : decode cL_law 128 = .ok (.aload_n 1, 1) := by decide +kernel
theorem dL_law_129 : decode cL_law 129 = .ok (.aload_n 0, 1) := by decide +kernel
theorem dL_law_130 : decode cL_law 130 = .ok (.iload_n 3, 1) := by decide +kernel
theorem dL_law_131 : decode cL_law 131 = .ok (.iconst 1, 1) := by decide +kernel
theorem dL_law_132 : decode cL_law 132 = .ok (.iadd, 1) := by decide +kernel
theorem dL_law_133 : decode cL_law 133 = .ok (.iaload, 1) := by decide +kernel
theorem dL_law_134 : decode cL_law 134 = .ok (.invokevirtual 13, 3) := by decide +kernel
theorem dL_law_137 : decode cL_law 137 = .ok (.aload_n 2, 1) := by decide +kernel
theorem dL_law_138 : decode cL_law 138 = .ok (.aload_n 0, 1) := by decide +kernel
theorem dL_law_139 : decode cL_law 139 = .ok (.iload_n 3, 1) := by decide +kernel
theorem dL_law_140 : decode cL_law 140 = .ok (.iconst 1, 1) := by decide +kernel
theorem dL_law_141 : decode cL_law 141 = .ok (.iadd, 1) := by decide +kernel
theorem dL_law_142 : decode cL_law 142 = .ok (.iaload, 1) := by decide +kernel
theorem dL_law_143 : decode cL_law 143 = .ok (.invokevirtual 17, 3) := by decide +kernel
theorem dL_law_146 : decode cL_law 146 = .ok (.if_icmp .eq 774, 3) := by decide +kernel
theorem dL_law_149 : decode cL_law 149 = .ok (.iconst 0, 1) := by decide +kernel
theorem dL_law_150 : decode cL_law 150 = .ok (.ireturn, 1) := by decide +kernel
theorem dL_law_151 : decode cL_law 151 = .ok (.aload_n 1, 1) := by decide +kernel
theorem dL_law_152 : decode cL_law 152 = .ok (.aload_n 0, 1) := by decide +kernel
theorem dL_law_153 : decode cL_law 153 = .ok (.iload_n 3, 1) := by decide +kernel
theorem dL_law_154 : decode cL_law 154 = .ok (.iconst 1, 1) := by decide +kernel
theorem dL_law_155 : decode cL_law 155 = .ok (.iadd, 1) := by decide +kernel
theorem dL_law_156 : decode cL_law 156 = .ok (.iaload, 1) := by decide +kernel
theorem dL_law_157 : decode cL_law 157 = .ok (.aload_n 0, 1) := by decide +kernel
theorem dL_law_158 : decode cL_law 158 = .ok (.iload_n 3, 1) := by decide +kernel
theorem dL_law_159 : decode cL_law 159 = .ok (.iconst 2, 1) := by decide +kernel
theorem dL_law_160 : decode cL_law 160 = .ok (.iadd, 1) := by decide +kernel
theorem dL_law_161 : decode cL_law 161 = .ok (.iaload, 1) := by decide +kernel
theorem dL_law_162 : decode cL_law 162 = .ok (.aload_n 0, 1) := by decide +kernel
theorem dL_law_163 : decode cL_law 163 = .ok (.iload_n 3, 1) := by decide +kernel
theorem dL_law_164 : decode cL_law 164 = .ok (.iconst 3, 1) := by decide +kernel
theorem dL_law_165 : decode cL_law 165 = .ok (.iadd, 1) := by decide +kernel
theorem dL_law_166 : decode cL_law 166 = .ok (.iaload, 1) := by decide +kernel
theorem dL_law_167 : decode cL_law 167 = .ok (.ifCond .eq 7, 3) := by decide +kernel
theorem dL_law_170 : decode cL_law 170 = .ok (.iconst 1, 1) := by decide +kernel
theorem dL_law_171 : decode cL_law 171 = .ok (.goto 4, 3) := by decide +kernel
theorem dL_law_174 : decode cL_law 174 = .ok (.iconst 0, 1) := by decide +kernel
theorem dL_law_175 : decode cL_law 175 = .ok (.invokevirtual 18, 3) := by decide +kernel
theorem dL_law_178 : decode cL_law 178 = .ok (.aload_n 2, 1) := by decide +kernel
theorem dL_law_179 : decode cL_law 179 = .ok (.aload_n 0, 1) := by decide +kernel
theorem dL_law_180 : decode cL_law 180 = .ok (.iload_n 3, 1) := by decide +kernel
theorem dL_law_181 : decode cL_law 181 = .ok (.iconst 1, 1) := by decide +kernel
theorem dL_law_182 : decode cL_law 182 = .ok (.iadd, 1) := by decide +kernel
theorem dL_law_183 : decode cL_law 183 = .ok (.iaload, 1) := by decide +kernel
theorem dL_law_184 : decode cL_law 184 = .ok (.aload_n 0, 1) := by decide +kernel
theorem dL_law_185 : decode cL_law 185 = .ok (.iload_n 3, 1) := by decide +kernel
theorem dL_law_186 : decode cL_law 186 = .ok (.iconst 2, 1) := by decide +kernel
theorem dL_law_187 : decode cL_law 187 = .ok (.iadd, 1) := by decide +kernel
theorem dL_law_188 : decode cL_law 188 = .ok (.iaload, 1) := by decide +kernel
theorem dL_law_189 : decode cL_law 189 = .ok (.aload_n 0, 1) := by decide +kernel
theorem dL_law_190 : decode cL_law 190 = .ok (.iload_n 3, 1) := by decide +kernel
theorem dL_law_191 : decode cL_law 191 = .ok (.iconst 3, 1) := by decide +kernel
theorem dL_law_192 : decode cL_law 192 = .ok (.iadd, 1) := by decide +kernel
theorem dL_law_193 : decode cL_law 193 = .ok (.iaload, 1) := by decide +kernel
theorem dL_law_194 : decode cL_law 194 = .ok (.ifCond .eq 7, 3) := by decide +kernel
theorem dL_law_197 : decode cL_law 197 = .ok (.iconst 1, 1) := by decide +kernel
theorem dL_law_198 : decode cL_law 198 = .ok (.goto 4, 3) := by decide +kernel
theorem dL_law_201 : decode cL_law 201 = .ok (.iconst 0, 1) := by decide +kernel
theorem dL_law_202 : decode cL_law 202 = .ok (.invokevirtual 22, 3) := by decide +kernel
theorem dL_law_205 : decode cL_law 205 = .ok (.if_icmp .eq 715, 3) := by decide +kernel
theorem dL_law_208 : decode cL_law 208 = .ok (.iconst 0, 1) := by decide +kernel
theorem dL_law_209 : decode cL_law 209 = .ok (.ireturn, 1) := by decide +kernel
theorem dL_law_210 : decode cL_law 210 = .ok (.aload_n 1, 1) := by decide +kernel
theorem dL_law_211 : decode cL_law 211 = .ok (.aload_n 0, 1) := by decide +kernel
theorem dL_law_212 : decode cL_law 212 = .ok (.iload_n 3, 1) := by decide +kernel
theorem dL_law_213 : decode cL_law 213 = .ok (.iconst 1, 1) := by decide +kernel
theorem dL_law_214 : decode cL_law 214 = .ok (.iadd, 1) := by decide +kernel
theorem dL_law_215 : decode cL_law 215 = .ok (.iaload, 1) := by decide +kernel
theorem dL_law_216 : decode cL_law 216 = .ok (.aload_n 0, 1) := by decide +kernel
theorem dL_law_217 : decode cL_law 217 = .ok (.iload_n 3, 1) := by decide +kernel
theorem dL_law_218 : decode cL_law 218 = .ok (.iconst 2, 1) := by decide +kernel
theorem dL_law_219 : decode cL_law 219 = .ok (.iadd, 1) := by decide +kernel
theorem dL_law_220 : decode cL_law 220 = .ok (.iaload, 1) := by decide +kernel
theorem dL_law_221 : decode cL_law 221 = .ok (.aload_n 0, 1) := by decide +kernel
theorem dL_law_222 : decode cL_law 222 = .ok (.iload_n 3, 1) := by decide +kernel
theorem dL_law_223 : decode cL_law 223 = .ok (.iconst 3, 1) := by decide +kernel
theorem dL_law_224 : decode cL_law 224 = .ok (.iadd, 1) := by decide +kernel
theorem dL_law_225 : decode cL_law 225 = .ok (.iaload, 1) := by decide +kernel
theorem dL_law_226 : decode cL_law 226 = .ok (.invokevirtual 23, 3) := by decide +kernel
theorem dL_law_229 : decode cL_law 229 = .ok (.aload_n 2, 1) := by decide +kernel
theorem dL_law_230 : decode cL_law 230 = .ok (.aload_n 0, 1) := by decide +kernel
theorem dL_law_231 : decode cL_law 231 = .ok (.iload_n 3, 1) := by decide +kernel
theorem dL_law_232 : decode cL_law 232 = .ok (.iconst 1, 1) := by decide +kernel
theorem dL_law_233 : decode cL_law 233 = .ok (.iadd, 1) := by decide +kernel
theorem dL_law_234 : decode cL_law 234 = .ok (.iaload, 1) := by decide +kernel
theorem dL_law_235 : decode cL_law 235 = .ok (.aload_n 0, 1) := by decide +kernel
theorem dL_law_236 : decode cL_law 236 = .ok (.iload_n 3, 1) := by decide +kernel
theorem dL_law_237 : decode cL_law 237 = .ok (.iconst 2, 1) := by decide +kernel
theorem dL_law_238 : decode cL_law 238 = .ok (.iadd, 1) := by decide +kernel
theorem dL_law_239 : decode cL_law 239 = .ok (.iaload, 1) := by decide +kernel
theorem dL_law_240 : decode cL_law 240 = .ok (.aload_n 0, 1) := by decide +kernel
theorem dL_law_241 : decode cL_law 241 = .ok (.iload_n 3, 1) := by decide +kernel
theorem dL_law_242 : decode cL_law 242 = .ok (.iconst 3, 1) := by decide +kernel
theorem dL_law_243 : decode cL_law 243 = .ok (.iadd, 1) := by decide +kernel
theorem dL_law_244 : decode cL_law 244 = .ok (.iaload, 1) := by decide +kernel
theorem dL_law_245 : decode cL_law 245 = .ok (.invokevirtual 27, 3) := by decide +kernel
theorem dL_law_248 : decode cL_law 248 = .ok (.if_icmp .eq 672, 3) := by decide +kernel
theorem dL_law_251 : decode cL_law 251 = .ok (.iconst 0, 1) := by decide +kernel
theorem dL_law_252 : decode cL_law 252 = .ok (.ireturn, 1) := by decide +kernel
theorem dL_law_253 : decode cL_law 253 = .ok (.aload_n 1, 1) := by decide +kernel
theorem dL_law_254 : decode cL_law 254 = .ok (.aload_n 0, 1) := by decide +kernel
theorem dL_law_255 : decode cL_law 255 = .ok (.iload_n 3, 1) := by decide +kernel
theorem dL_law_256 : decode cL_law 256 = .ok (.iconst 1, 1) := by decide +kernel
theorem dL_law_257 : decode cL_law 257 = .ok (.iadd, 1) := by decide +kernel
theorem dL_law_258 : decode cL_law 258 = .ok (.iaload, 1) := by decide +kernel
theorem dL_law_259 : decode cL_law 259 = .ok (.aload_n 0, 1) := by decide +kernel
theorem dL_law_260 : decode cL_law 260 = .ok (.iload_n 3, 1) := by decide +kernel
theorem dL_law_261 : decode cL_law 261 = .ok (.iconst 2, 1) := by decide +kernel
theorem dL_law_262 : decode cL_law 262 = .ok (.iadd, 1) := by decide +kernel
theorem dL_law_263 : decode cL_law 263 = .ok (.iaload, 1) := by decide +kernel
theorem dL_law_264 : decode cL_law 264 = .ok (.invokevirtual 28, 3) := by decide +kernel
theorem dL_law_267 : decode cL_law 267 = .ok (.aload_n 2, 1) := by decide +kernel
theorem dL_law_268 : decode cL_law 268 = .ok (.aload_n 0, 1) := by decide +kernel
theorem dL_law_269 : decode cL_law 269 = .ok (.iload_n 3, 1) := by decide +kernel
theorem dL_law_270 : decode cL_law 270 = .ok (.iconst 1, 1) := by decide +kernel
theorem dL_law_271 : decode cL_law 271 = .ok (.iadd, 1) := by decide +kernel
theorem dL_law_272 : decode cL_law 272 = .ok (.iaload, 1) := by decide +kernel
theorem dL_law_273 : decode cL_law 273 = .ok (.aload_n 0, 1) := by decide +kernel
theorem dL_law_274 : decode cL_law 274 = .ok (.iload_n 3, 1) := by decide +kernel
theorem dL_law_275 : decode cL_law 275 = .ok (.iconst 2, 1) := by decide +kernel
theorem dL_law_276 : decode cL_law 276 = .ok (.iadd, 1) := by decide +kernel
theorem dL_law_277 : decode cL_law 277 = .ok (.iaload, 1) := by decide +kernel
theorem dL_law_278 : decode cL_law 278 = .ok (.invokevirtual 32, 3) := by decide +kernel
theorem dL_law_281 : decode cL_law 281 = .ok (.if_icmp .eq 639, 3) := by decide +kernel
theorem dL_law_284 : decode cL_law 284 = .ok (.iconst 0, 1) := by decide +kernel
theorem dL_law_285 : decode cL_law 285 = .ok (.ireturn, 1) := by decide +kernel
theorem dL_law_286 : decode cL_law 286 = .ok (.aload_n 1, 1) := by decide +kernel
theorem dL_law_287 : decode cL_law 287 = .ok (.aload_n 0, 1) := by decide +kernel
theorem dL_law_288 : decode cL_law 288 = .ok (.iload_n 3, 1) := by decide +kernel
theorem dL_law_289 : decode cL_law 289 = .ok (.iconst 1, 1) := by decide +kernel
theorem dL_law_290 : decode cL_law 290 = .ok (.iadd, 1) := by decide +kernel
theorem dL_law_291 : decode cL_law 291 = .ok (.iaload, 1) := by decide +kernel
theorem dL_law_292 : decode cL_law 292 = .ok (.aload_n 0, 1) := by decide +kernel
theorem dL_law_293 : decode cL_law 293 = .ok (.iload_n 3, 1) := by decide +kernel
theorem dL_law_294 : decode cL_law 294 = .ok (.iconst 2, 1) := by decide +kernel
theorem dL_law_295 : decode cL_law 295 = .ok (.iadd, 1) := by decide +kernel
theorem dL_law_296 : decode cL_law 296 = .ok (.iaload, 1) := by decide +kernel
theorem dL_law_297 : decode cL_law 297 = .ok (.aload_n 0, 1) := by decide +kernel
theorem dL_law_298 : decode cL_law 298 = .ok (.iload_n 3, 1) := by decide +kernel
theorem dL_law_299 : decode cL_law 299 = .ok (.iconst 3, 1) := by decide +kernel
theorem dL_law_300 : decode cL_law 300 = .ok (.iadd, 1) := by decide +kernel
theorem dL_law_301 : decode cL_law 301 = .ok (.iaload, 1) := by decide +kernel
theorem dL_law_302 : decode cL_law 302 = .ok (.ifCond .eq 7, 3) := by decide +kernel
theorem dL_law_305 : decode cL_law 305 = .ok (.iconst 1, 1) := by decide +kernel
theorem dL_law_306 : decode cL_law 306 = .ok (.goto 4, 3) := by decide +kernel
theorem dL_law_309 : decode cL_law 309 = .ok (.iconst 0, 1) := by decide +kernel
theorem dL_law_310 : decode cL_law 310 = .ok (.invokevirtual 33, 3) := by decide +kernel
theorem dL_law_313 : decode cL_law 313 = .ok (.aload_n 2, 1) := by decide +kernel
theorem dL_law_314 : decode cL_law 314 = .ok (.aload_n 0, 1) := by decide +kernel
theorem dL_law_315 : decode cL_law 315 = .ok (.iload_n 3, 1) := by decide +kernel
theorem dL_law_316 : decode cL_law 316 = .ok (.iconst 1, 1) := by decide +kernel
theorem dL_law_317 : decode cL_law 317 = .ok (.iadd, 1) := by decide +kernel
theorem dL_law_318 : decode cL_law 318 = .ok (.iaload, 1) := by decide +kernel
theorem dL_law_319 : decode cL_law 319 = .ok (.aload_n 0, 1) := by decide +kernel
theorem dL_law_320 : decode cL_law 320 = .ok (.iload_n 3, 1) := by decide +kernel
theorem dL_law_321 : decode cL_law 321 = .ok (.iconst 2, 1) := by decide +kernel
theorem dL_law_322 : decode cL_law 322 = .ok (.iadd, 1) := by decide +kernel
theorem dL_law_323 : decode cL_law 323 = .ok (.iaload, 1) := by decide +kernel
theorem dL_law_324 : decode cL_law 324 = .ok (.aload_n 0, 1) := by decide +kernel
theorem dL_law_325 : decode cL_law 325 = .ok (.iload_n 3, 1) := by decide +kernel
theorem dL_law_326 : decode cL_law 326 = .ok (.iconst 3, 1) := by decide +kernel
theorem dL_law_327 : decode cL_law 327 = .ok (.iadd, 1) := by decide +kernel
theorem dL_law_328 : decode cL_law 328 = .ok (.iaload, 1) := by decide +kernel
theorem dL_law_329 : decode cL_law 329 = .ok (.ifCond .eq 7, 3) := by decide +kernel
theorem dL_law_332 : decode cL_law 332 = .ok (.iconst 1, 1) := by decide +kernel
theorem dL_law_333 : decode cL_law 333 = .ok (.goto 4, 3) := by decide +kernel
theorem dL_law_336 : decode cL_law 336 = .ok (.iconst 0, 1) := by decide +kernel
theorem dL_law_337 : decode cL_law 337 = .ok (.invokevirtual 36, 3) := by decide +kernel
theorem dL_law_340 : decode cL_law 340 = .ok (.if_icmp .eq 580, 3) := by decide +kernel
theorem dL_law_343 : decode cL_law 343 = .ok (.iconst 0, 1) := by decide +kernel
theorem dL_law_344 : decode cL_law 344 = .ok (.ireturn, 1) := by decide +kernel
theorem dL_law_345 : decode cL_law 345 = .ok (.aload_n 1, 1) := by decide +kernel
theorem dL_law_346 : decode cL_law 346 = .ok (.aload_n 0, 1) := by decide +kernel
theorem dL_law_347 : decode cL_law 347 = .ok (.iload_n 3, 1) := by decide +kernel
theorem dL_law_348 : decode cL_law 348 = .ok (.iconst 1, 1) := by decide +kernel
theorem dL_law_349 : decode cL_law 349 = .ok (.iadd, 1) := by decide +kernel
theorem dL_law_350 : decode cL_law 350 = .ok (.iaload, 1) := by decide +kernel
theorem dL_law_351 : decode cL_law 351 = .ok (.aload_n 0, 1) := by decide +kernel
theorem dL_law_352 : decode cL_law 352 = .ok (.iload_n 3, 1) := by decide +kernel
theorem dL_law_353 : decode cL_law 353 = .ok (.iconst 2, 1) := by decide +kernel
theorem dL_law_354 : decode cL_law 354 = .ok (.iadd, 1) := by decide +kernel
theorem dL_law_355 : decode cL_law 355 = .ok (.iaload, 1) := by decide +kernel
theorem dL_law_356 : decode cL_law 356 = .ok (.aload_n 0, 1) := by decide +kernel
theorem dL_law_357 : decode cL_law 357 = .ok (.iload_n 3, 1) := by decide +kernel
theorem dL_law_358 : decode cL_law 358 = .ok (.iconst 3, 1) := by decide +kernel
theorem dL_law_359 : decode cL_law 359 = .ok (.iadd, 1) := by decide +kernel
theorem dL_law_360 : decode cL_law 360 = .ok (.iaload, 1) := by decide +kernel
theorem dL_law_361 : decode cL_law 361 = .ok (.invokevirtual 37, 3) := by decide +kernel
theorem dL_law_364 : decode cL_law 364 = .ok (.aload_n 2, 1) := by decide +kernel
theorem dL_law_365 : decode cL_law 365 = .ok (.aload_n 0, 1) := by decide +kernel
theorem dL_law_366 : decode cL_law 366 = .ok (.iload_n 3, 1) := by decide +kernel
theorem dL_law_367 : decode cL_law 367 = .ok (.iconst 1, 1) := by decide +kernel
theorem dL_law_368 : decode cL_law 368 = .ok (.iadd, 1) := by decide +kernel
theorem dL_law_369 : decode cL_law 369 = .ok (.iaload, 1) := by decide +kernel
theorem dL_law_370 : decode cL_law 370 = .ok (.aload_n 0, 1) := by decide +kernel
theorem dL_law_371 : decode cL_law 371 = .ok (.iload_n 3, 1) := by decide +kernel
theorem dL_law_372 : decode cL_law 372 = .ok (.iconst 2, 1) := by decide +kernel
theorem dL_law_373 : decode cL_law 373 = .ok (.iadd, 1) := by decide +kernel
theorem dL_law_374 : decode cL_law 374 = .ok (.iaload, 1) := by decide +kernel
theorem dL_law_375 : decode cL_law 375 = .ok (.aload_n 0, 1) := by decide +kernel
theorem dL_law_376 : decode cL_law 376 = .ok (.iload_n 3, 1) := by decide +kernel
theorem dL_law_377 : decode cL_law 377 = .ok (.iconst 3, 1) := by decide +kernel
theorem dL_law_378 : decode cL_law 378 = .ok (.iadd, 1) := by decide +kernel
theorem dL_law_379 : decode cL_law 379 = .ok (.iaload, 1) := by decide +kernel
theorem dL_law_380 : decode cL_law 380 = .ok (.invokevirtual 40, 3) := by decide +kernel
theorem dL_law_383 : decode cL_law 383 = .ok (.if_icmp .eq 537, 3) := by decide +kernel
theorem dL_law_386 : decode cL_law 386 = .ok (.iconst 0, 1) := by decide +kernel
theorem dL_law_387 : decode cL_law 387 = .ok (.ireturn, 1) := by decide +kernel
theorem dL_law_388 : decode cL_law 388 = .ok (.aload_n 1, 1) := by decide +kernel
theorem dL_law_389 : decode cL_law 389 = .ok (.aload_n 0, 1) := by decide +kernel
theorem dL_law_390 : decode cL_law 390 = .ok (.iload_n 3, 1) := by decide +kernel
theorem dL_law_391 : decode cL_law 391 = .ok (.iconst 1, 1) := by decide +kernel
theorem dL_law_392 : decode cL_law 392 = .ok (.iadd, 1) := by decide +kernel
theorem dL_law_393 : decode cL_law 393 = .ok (.iaload, 1) := by decide +kernel
theorem dL_law_394 : decode cL_law 394 = .ok (.aload_n 0, 1) := by decide +kernel
theorem dL_law_395 : decode cL_law 395 = .ok (.iload_n 3, 1) := by decide +kernel
theorem dL_law_396 : decode cL_law 396 = .ok (.iconst 2, 1) := by decide +kernel
theorem dL_law_397 : decode cL_law 397 = .ok (.iadd, 1) := by decide +kernel
theorem dL_law_398 : decode cL_law 398 = .ok (.iaload, 1) := by decide +kernel
theorem dL_law_399 : decode cL_law 399 = .ok (.aload_n 0, 1) := by decide +kernel
theorem dL_law_400 : decode cL_law 400 = .ok (.iload_n 3, 1) := by decide +kernel
theorem dL_law_401 : decode cL_law 401 = .ok (.iconst 3, 1) := by decide +kernel
theorem dL_law_402 : decode cL_law 402 = .ok (.iadd, 1) := by decide +kernel
theorem dL_law_403 : decode cL_law 403 = .ok (.iaload, 1) := by decide +kernel
theorem dL_law_404 : decode cL_law 404 = .ok (.ifCond .eq 7, 3) := by decide +kernel
theorem dL_law_407 : decode cL_law 407 = .ok (.iconst 1, 1) := by decide +kernel
theorem dL_law_408 : decode cL_law 408 = .ok (.goto 4, 3) := by decide +kernel
theorem dL_law_411 : decode cL_law 411 = .ok (.iconst 0, 1) := by decide +kernel
theorem dL_law_412 : decode cL_law 412 = .ok (.invokevirtual 41, 3) := by decide +kernel
theorem dL_law_415 : decode cL_law 415 = .ok (.aload_n 2, 1) := by decide +kernel
theorem dL_law_416 : decode cL_law 416 = .ok (.aload_n 0, 1) := by decide +kernel
theorem dL_law_417 : decode cL_law 417 = .ok (.iload_n 3, 1) := by decide +kernel
theorem dL_law_418 : decode cL_law 418 = .ok (.iconst 1, 1) := by decide +kernel
theorem dL_law_419 : decode cL_law 419 = .ok (.iadd, 1) := by decide +kernel
theorem dL_law_420 : decode cL_law 420 = .ok (.iaload, 1) := by decide +kernel
theorem dL_law_421 : decode cL_law 421 = .ok (.aload_n 0, 1) := by decide +kernel
theorem dL_law_422 : decode cL_law 422 = .ok (.iload_n 3, 1) := by decide +kernel
theorem dL_law_423 : decode cL_law 423 = .ok (.iconst 2, 1) := by decide +kernel
theorem dL_law_424 : decode cL_law 424 = .ok (.iadd, 1) := by decide +kernel
theorem dL_law_425 : decode cL_law 425 = .ok (.iaload, 1) := by decide +kernel
theorem dL_law_426 : decode cL_law 426 = .ok (.aload_n 0, 1) := by decide +kernel
theorem dL_law_427 : decode cL_law 427 = .ok (.iload_n 3, 1) := by decide +kernel
theorem dL_law_428 : decode cL_law 428 = .ok (.iconst 3, 1) := by decide +kernel
theorem dL_law_429 : decode cL_law 429 = .ok (.iadd, 1) := by decide +kernel
theorem dL_law_430 : decode cL_law 430 = .ok (.iaload, 1) := by decide +kernel
theorem dL_law_431 : decode cL_law 431 = .ok (.ifCond .eq 7, 3) := by decide +kernel
theorem dL_law_434 : decode cL_law 434 = .ok (.iconst 1, 1) := by decide +kernel
theorem dL_law_435 : decode cL_law 435 = .ok (.goto 4, 3) := by decide +kernel
theorem dL_law_438 : decode cL_law 438 = .ok (.iconst 0, 1) := by decide +kernel
theorem dL_law_439 : decode cL_law 439 = .ok (.invokevirtual 44, 3) := by decide +kernel
theorem dL_law_442 : decode cL_law 442 = .ok (.if_icmp .eq 478, 3) := by decide +kernel
theorem dL_law_445 : decode cL_law 445 = .ok (.iconst 0, 1) := by decide +kernel
theorem dL_law_446 : decode cL_law 446 = .ok (.ireturn, 1) := by decide +kernel
theorem dL_law_447 : decode cL_law 447 = .ok (.aload_n 1, 1) := by decide +kernel
theorem dL_law_448 : decode cL_law 448 = .ok (.aload_n 0, 1) := by decide +kernel
theorem dL_law_449 : decode cL_law 449 = .ok (.iload_n 3, 1) := by decide +kernel
theorem dL_law_450 : decode cL_law 450 = .ok (.iconst 1, 1) := by decide +kernel
theorem dL_law_451 : decode cL_law 451 = .ok (.iadd, 1) := by decide +kernel
theorem dL_law_452 : decode cL_law 452 = .ok (.iaload, 1) := by decide +kernel
theorem dL_law_453 : decode cL_law 453 = .ok (.aload_n 0, 1) := by decide +kernel
theorem dL_law_454 : decode cL_law 454 = .ok (.iload_n 3, 1) := by decide +kernel
theorem dL_law_455 : decode cL_law 455 = .ok (.iconst 2, 1) := by decide +kernel
theorem dL_law_456 : decode cL_law 456 = .ok (.iadd, 1) := by decide +kernel
theorem dL_law_457 : decode cL_law 457 = .ok (.iaload, 1) := by decide +kernel
theorem dL_law_458 : decode cL_law 458 = .ok (.invokevirtual 45, 3) := by decide +kernel
theorem dL_law_461 : decode cL_law 461 = .ok (.aload_n 2, 1) := by decide +kernel
theorem dL_law_462 : decode cL_law 462 = .ok (.aload_n 0, 1) := by decide +kernel
theorem dL_law_463 : decode cL_law 463 = .ok (.iload_n 3, 1) := by decide +kernel
theorem dL_law_464 : decode cL_law 464 = .ok (.iconst 1, 1) := by decide +kernel
theorem dL_law_465 : decode cL_law 465 = .ok (.iadd, 1) := by decide +kernel
theorem dL_law_466 : decode cL_law 466 = .ok (.iaload, 1) := by decide +kernel
theorem dL_law_467 : decode cL_law 467 = .ok (.aload_n 0, 1) := by decide +kernel
theorem dL_law_468 : decode cL_law 468 = .ok (.iload_n 3, 1) := by decide +kernel
theorem dL_law_469 : decode cL_law 469 = .ok (.iconst 2, 1) := by decide +kernel
theorem dL_law_470 : decode cL_law 470 = .ok (.iadd, 1) := by decide +kernel
theorem dL_law_471 : decode cL_law 471 = .ok (.iaload, 1) := by decide +kernel
theorem dL_law_472 : decode cL_law 472 = .ok (.invokevirtual 49, 3) := by decide +kernel
theorem dL_law_475 : decode cL_law 475 = .ok (.if_icmp .eq 445, 3) := by decide +kernel
theorem dL_law_478 : decode cL_law 478 = .ok (.iconst 0, 1) := by decide +kernel
theorem dL_law_479 : decode cL_law 479 = .ok (.ireturn, 1) := by decide +kernel
theorem dL_law_480 : decode cL_law 480 = .ok (.aload_n 1, 1) := by decide +kernel
theorem dL_law_481 : decode cL_law 481 = .ok (.aload_n 0, 1) := by decide +kernel
theorem dL_law_482 : decode cL_law 482 = .ok (.iload_n 3, 1) := by decide +kernel
theorem dL_law_483 : decode cL_law 483 = .ok (.iconst 1, 1) := by decide +kernel
theorem dL_law_484 : decode cL_law 484 = .ok (.iadd, 1) := by decide +kernel
theorem dL_law_485 : decode cL_law 485 = .ok (.iaload, 1) := by decide +kernel
theorem dL_law_486 : decode cL_law 486 = .ok (.aload_n 0, 1) := by decide +kernel
theorem dL_law_487 : decode cL_law 487 = .ok (.iload_n 3, 1) := by decide +kernel
theorem dL_law_488 : decode cL_law 488 = .ok (.iconst 2, 1) := by decide +kernel
theorem dL_law_489 : decode cL_law 489 = .ok (.iadd, 1) := by decide +kernel
theorem dL_law_490 : decode cL_law 490 = .ok (.iaload, 1) := by decide +kernel
theorem dL_law_491 : decode cL_law 491 = .ok (.invokevirtual 50, 3) := by decide +kernel
theorem dL_law_494 : decode cL_law 494 = .ok (.aload_n 2, 1) := by decide +kernel
theorem dL_law_495 : decode cL_law 495 = .ok (.aload_n 0, 1) := by decide +kernel
theorem dL_law_496 : decode cL_law 496 = .ok (.iload_n 3, 1) := by decide +kernel
theorem dL_law_497 : decode cL_law 497 = .ok (.iconst 1, 1) := by decide +kernel
theorem dL_law_498 : decode cL_law 498 = .ok (.iadd, 1) := by decide +kernel
theorem dL_law_499 : decode cL_law 499 = .ok (.iaload, 1) := by decide +kernel
theorem dL_law_500 : decode cL_law 500 = .ok (.aload_n 0, 1) := by decide +kernel
theorem dL_law_501 : decode cL_law 501 = .ok (.iload_n 3, 1) := by decide +kernel
theorem dL_law_502 : decode cL_law 502 = .ok (.iconst 2, 1) := by decide +kernel
theorem dL_law_503 : decode cL_law 503 = .ok (.iadd, 1) := by decide +kernel
theorem dL_law_504 : decode cL_law 504 = .ok (.iaload, 1) := by decide +kernel
theorem dL_law_505 : decode cL_law 505 = .ok (.invokevirtual 53, 3) := by decide +kernel
theorem dL_law_508 : decode cL_law 508 = .ok (.if_icmp .eq 412, 3) := by decide +kernel
theorem dL_law_511 : decode cL_law 511 = .ok (.iconst 0, 1) := by decide +kernel
theorem dL_law_512 : decode cL_law 512 = .ok (.ireturn, 1) := by decide +kernel
theorem dL_law_513 : decode cL_law 513 = .ok (.aload_n 1, 1) := by decide +kernel
theorem dL_law_514 : decode cL_law 514 = .ok (.aload_n 0, 1) := by decide +kernel
theorem dL_law_515 : decode cL_law 515 = .ok (.iload_n 3, 1) := by decide +kernel
theorem dL_law_516 : decode cL_law 516 = .ok (.iconst 1, 1) := by decide +kernel
theorem dL_law_517 : decode cL_law 517 = .ok (.iadd, 1) := by decide +kernel
theorem dL_law_518 : decode cL_law 518 = .ok (.iaload, 1) := by decide +kernel
theorem dL_law_519 : decode cL_law 519 = .ok (.aload_n 0, 1) := by decide +kernel
theorem dL_law_520 : decode cL_law 520 = .ok (.iload_n 3, 1) := by decide +kernel
theorem dL_law_521 : decode cL_law 521 = .ok (.iconst 2, 1) := by decide +kernel
theorem dL_law_522 : decode cL_law 522 = .ok (.iadd, 1) := by decide +kernel
theorem dL_law_523 : decode cL_law 523 = .ok (.iaload, 1) := by decide +kernel
theorem dL_law_524 : decode cL_law 524 = .ok (.invokevirtual 54, 3) := by decide +kernel
theorem dL_law_527 : decode cL_law 527 = .ok (.aload_n 2, 1) := by decide +kernel
theorem dL_law_528 : decode cL_law 528 = .ok (.aload_n 0, 1) := by decide +kernel
theorem dL_law_529 : decode cL_law 529 = .ok (.iload_n 3, 1) := by decide +kernel
theorem dL_law_530 : decode cL_law 530 = .ok (.iconst 1, 1) := by decide +kernel
theorem dL_law_531 : decode cL_law 531 = .ok (.iadd, 1) := by decide +kernel
theorem dL_law_532 : decode cL_law 532 = .ok (.iaload, 1) := by decide +kernel
theorem dL_law_533 : decode cL_law 533 = .ok (.aload_n 0, 1) := by decide +kernel
theorem dL_law_534 : decode cL_law 534 = .ok (.iload_n 3, 1) := by decide +kernel
theorem dL_law_535 : decode cL_law 535 = .ok (.iconst 2, 1) := by decide +kernel
theorem dL_law_536 : decode cL_law 536 = .ok (.iadd, 1) := by decide +kernel
theorem dL_law_537 : decode cL_law 537 = .ok (.iaload, 1) := by decide +kernel
theorem dL_law_538 : decode cL_law 538 = .ok (.invokevirtual 58, 3) := by decide +kernel
theorem dL_law_541 : decode cL_law 541 = .ok (.lcmp, 1) := by decide +kernel
theorem dL_law_542 : decode cL_law 542 = .ok (.ifCond .eq 378, 3) := by decide +kernel
theorem dL_law_545 : decode cL_law 545 = .ok (.iconst 0, 1) := by decide +kernel
theorem dL_law_546 : decode cL_law 546 = .ok (.ireturn, 1) := by decide +kernel
theorem dL_law_547 : decode cL_law 547 = .ok (.aload_n 1, 1) := by decide +kernel
theorem dL_law_548 : decode cL_law 548 = .ok (.aload_n 0, 1) := by decide +kernel
theorem dL_law_549 : decode cL_law 549 = .ok (.iload_n 3, 1) := by decide +kernel
theorem dL_law_550 : decode cL_law 550 = .ok (.iconst 1, 1) := by decide +kernel
theorem dL_law_551 : decode cL_law 551 = .ok (.iadd, 1) := by decide +kernel
theorem dL_law_552 : decode cL_law 552 = .ok (.iaload, 1) := by decide +kernel
theorem dL_law_553 : decode cL_law 553 = .ok (.aload_n 0, 1) := by decide +kernel
theorem dL_law_554 : decode cL_law 554 = .ok (.iload_n 3, 1) := by decide +kernel
theorem dL_law_555 : decode cL_law 555 = .ok (.iconst 2, 1) := by decide +kernel
theorem dL_law_556 : decode cL_law 556 = .ok (.iadd, 1) := by decide +kernel
theorem dL_law_557 : decode cL_law 557 = .ok (.iaload, 1) := by decide +kernel
theorem dL_law_558 : decode cL_law 558 = .ok (.aload_n 0, 1) := by decide +kernel
theorem dL_law_559 : decode cL_law 559 = .ok (.iload_n 3, 1) := by decide +kernel
theorem dL_law_560 : decode cL_law 560 = .ok (.iconst 3, 1) := by decide +kernel
theorem dL_law_561 : decode cL_law 561 = .ok (.iadd, 1) := by decide +kernel
theorem dL_law_562 : decode cL_law 562 = .ok (.iaload, 1) := by decide +kernel
theorem dL_law_563 : decode cL_law 563 = .ok (.invokevirtual 59, 3) := by decide +kernel
theorem dL_law_566 : decode cL_law 566 = .ok (.aload_n 2, 1) := by decide +kernel
theorem dL_law_567 : decode cL_law 567 = .ok (.aload_n 0, 1) := by decide +kernel
theorem dL_law_568 : decode cL_law 568 = .ok (.iload_n 3, 1) := by decide +kernel
theorem dL_law_569 : decode cL_law 569 = .ok (.iconst 1, 1) := by decide +kernel
theorem dL_law_570 : decode cL_law 570 = .ok (.iadd, 1) := by decide +kernel
theorem dL_law_571 : decode cL_law 571 = .ok (.iaload, 1) := by decide +kernel
theorem dL_law_572 : decode cL_law 572 = .ok (.aload_n 0, 1) := by decide +kernel
theorem dL_law_573 : decode cL_law 573 = .ok (.iload_n 3, 1) := by decide +kernel
theorem dL_law_574 : decode cL_law 574 = .ok (.iconst 2, 1) := by decide +kernel
theorem dL_law_575 : decode cL_law 575 = .ok (.iadd, 1) := by decide +kernel
theorem dL_law_576 : decode cL_law 576 = .ok (.iaload, 1) := by decide +kernel
theorem dL_law_577 : decode cL_law 577 = .ok (.aload_n 0, 1) := by decide +kernel
theorem dL_law_578 : decode cL_law 578 = .ok (.iload_n 3, 1) := by decide +kernel
theorem dL_law_579 : decode cL_law 579 = .ok (.iconst 3, 1) := by decide +kernel
theorem dL_law_580 : decode cL_law 580 = .ok (.iadd, 1) := by decide +kernel
theorem dL_law_581 : decode cL_law 581 = .ok (.iaload, 1) := by decide +kernel
theorem dL_law_582 : decode cL_law 582 = .ok (.invokevirtual 62, 3) := by decide +kernel
theorem dL_law_585 : decode cL_law 585 = .ok (.if_icmp .eq 335, 3) := by decide +kernel
theorem dL_law_588 : decode cL_law 588 = .ok (.iconst 0, 1) := by decide +kernel
theorem dL_law_589 : decode cL_law 589 = .ok (.ireturn, 1) := by decide +kernel
theorem dL_law_590 : decode cL_law 590 = .ok (.aload_n 1, 1) := by decide +kernel
theorem dL_law_591 : decode cL_law 591 = .ok (.aload_n 0, 1) := by decide +kernel
theorem dL_law_592 : decode cL_law 592 = .ok (.iload_n 3, 1) := by decide +kernel
theorem dL_law_593 : decode cL_law 593 = .ok (.iconst 1, 1) := by decide +kernel
theorem dL_law_594 : decode cL_law 594 = .ok (.iadd, 1) := by decide +kernel
theorem dL_law_595 : decode cL_law 595 = .ok (.iaload, 1) := by decide +kernel
theorem dL_law_596 : decode cL_law 596 = .ok (.aload_n 0, 1) := by decide +kernel
theorem dL_law_597 : decode cL_law 597 = .ok (.iload_n 3, 1) := by decide +kernel
theorem dL_law_598 : decode cL_law 598 = .ok (.iconst 2, 1) := by decide +kernel
theorem dL_law_599 : decode cL_law 599 = .ok (.iadd, 1) := by decide +kernel
theorem dL_law_600 : decode cL_law 600 = .ok (.iaload, 1) := by decide +kernel
theorem dL_law_601 : decode cL_law 601 = .ok (.aload_n 0, 1) := by decide +kernel
theorem dL_law_602 : decode cL_law 602 = .ok (.iload_n 3, 1) := by decide +kernel
theorem dL_law_603 : decode cL_law 603 = .ok (.iconst 3, 1) := by decide +kernel
theorem dL_law_604 : decode cL_law 604 = .ok (.iadd, 1) := by decide +kernel
theorem dL_law_605 : decode cL_law 605 = .ok (.iaload, 1) := by decide +kernel
theorem dL_law_606 : decode cL_law 606 = .ok (.aload_n 0, 1) := by decide +kernel
theorem dL_law_607 : decode cL_law 607 = .ok (.iload_n 3, 1) := by decide +kernel
theorem dL_law_608 : decode cL_law 608 = .ok (.iconst 4, 1) := by decide +kernel
theorem dL_law_609 : decode cL_law 609 = .ok (.iadd, 1) := by decide +kernel
theorem dL_law_610 : decode cL_law 610 = .ok (.iaload, 1) := by decide +kernel
theorem dL_law_611 : decode cL_law 611 = .ok (.aload_n 0, 1) := by decide +kernel
theorem dL_law_612 : decode cL_law 612 = .ok (.iload_n 3, 1) := by decide +kernel
theorem dL_law_613 : decode cL_law 613 = .ok (.iconst 5, 1) := by decide +kernel
theorem dL_law_614 : decode cL_law 614 = .ok (.iadd, 1) := by decide +kernel
theorem dL_law_615 : decode cL_law 615 = .ok (.iaload, 1) := by decide +kernel
theorem dL_law_616 : decode cL_law 616 = .ok (.invokevirtual 63, 3) := by decide +kernel
theorem dL_law_619 : decode cL_law 619 = .ok (.aload_n 2, 1) := by decide +kernel
theorem dL_law_620 : decode cL_law 620 = .ok (.aload_n 0, 1) := by decide +kernel
theorem dL_law_621 : decode cL_law 621 = .ok (.iload_n 3, 1) := by decide +kernel
theorem dL_law_622 : decode cL_law 622 = .ok (.iconst 1, 1) := by decide +kernel
theorem dL_law_623 : decode cL_law 623 = .ok (.iadd, 1) := by decide +kernel
theorem dL_law_624 : decode cL_law 624 = .ok (.iaload, 1) := by decide +kernel
theorem dL_law_625 : decode cL_law 625 = .ok (.aload_n 0, 1) := by decide +kernel
theorem dL_law_626 : decode cL_law 626 = .ok (.iload_n 3, 1) := by decide +kernel
theorem dL_law_627 : decode cL_law 627 = .ok (.iconst 2, 1) := by decide +kernel
theorem dL_law_628 : decode cL_law 628 = .ok (.iadd, 1) := by decide +kernel
theorem dL_law_629 : decode cL_law 629 = .ok (.iaload, 1) := by decide +kernel
theorem dL_law_630 : decode cL_law 630 = .ok (.aload_n 0, 1) := by decide +kernel
theorem dL_law_631 : decode cL_law 631 = .ok (.iload_n 3, 1) := by decide +kernel
theorem dL_law_632 : decode cL_law 632 = .ok (.iconst 3, 1) := by decide +kernel
theorem dL_law_633 : decode cL_law 633 = .ok (.iadd, 1) := by decide +kernel
theorem dL_law_634 : decode cL_law 634 = .ok (.iaload, 1) := by decide +kernel
theorem dL_law_635 : decode cL_law 635 = .ok (.aload_n 0, 1) := by decide +kernel
theorem dL_law_636 : decode cL_law 636 = .ok (.iload_n 3, 1) := by decide +kernel
theorem dL_law_637 : decode cL_law 637 = .ok (.iconst 4, 1) := by decide +kernel
theorem dL_law_638 : decode cL_law 638 = .ok (.iadd, 1) := by decide +kernel
theorem dL_law_639 : decode cL_law 639 = .ok (.iaload, 1) := by decide +kernel
theorem dL_law_640 : decode cL_law 640 = .ok (.aload_n 0, 1) := by decide +kernel
theorem dL_law_641 : decode cL_law 641 = .ok (.iload_n 3, 1) := by decide +kernel
theorem dL_law_642 : decode cL_law 642 = .ok (.iconst 5, 1) := by decide +kernel
theorem dL_law_643 : decode cL_law 643 = .ok (.iadd, 1) := by decide +kernel
theorem dL_law_644 : decode cL_law 644 = .ok (.iaload, 1) := by decide +kernel
theorem dL_law_645 : decode cL_law 645 = .ok (.invokevirtual 67, 3) := by decide +kernel
theorem dL_law_648 : decode cL_law 648 = .ok (.if_icmp .eq 272, 3) := by decide +kernel
theorem dL_law_651 : decode cL_law 651 = .ok (.iconst 0, 1) := by decide +kernel
theorem dL_law_652 : decode cL_law 652 = .ok (.ireturn, 1) := by decide +kernel
theorem dL_law_653 : decode cL_law 653 = .ok (.aload_n 1, 1) := by decide +kernel
theorem dL_law_654 : decode cL_law 654 = .ok (.aload_n 0, 1) := by decide +kernel
theorem dL_law_655 : decode cL_law 655 = .ok (.iload_n 3, 1) := by decide +kernel
theorem dL_law_656 : decode cL_law 656 = .ok (.iconst 1, 1) := by decide +kernel
theorem dL_law_657 : decode cL_law 657 = .ok (.iadd, 1) := by decide +kernel
theorem dL_law_658 : decode cL_law 658 = .ok (.iaload, 1) := by decide +kernel
theorem dL_law_659 : decode cL_law 659 = .ok (.invokevirtual 68, 3) := by decide +kernel
theorem dL_law_662 : decode cL_law 662 = .ok (.aload_n 2, 1) := by decide +kernel
theorem dL_law_663 : decode cL_law 663 = .ok (.aload_n 0, 1) := by decide +kernel
theorem dL_law_664 : decode cL_law 664 = .ok (.iload_n 3, 1) := by decide +kernel
theorem dL_law_665 : decode cL_law 665 = .ok (.iconst 1, 1) := by decide +kernel
theorem dL_law_666 : decode cL_law 666 = .ok (.iadd, 1) := by decide +kernel
theorem dL_law_667 : decode cL_law 667 = .ok (.iaload, 1) := by decide +kernel
theorem dL_law_668 : decode cL_law 668 = .ok (.invokevirtual 71, 3) := by decide +kernel
theorem dL_law_671 : decode cL_law 671 = .ok (.if_icmp .eq 249, 3) := by decide +kernel
theorem dL_law_674 : decode cL_law 674 = .ok (.iconst 0, 1) := by decide +kernel
theorem dL_law_675 : decode cL_law 675 = .ok (.ireturn, 1) := by decide +kernel
theorem dL_law_676 : decode cL_law 676 = .ok (.aload_n 1, 1) := by decide +kernel
theorem dL_law_677 : decode cL_law 677 = .ok (.aload_n 0, 1) := by decide +kernel
theorem dL_law_678 : decode cL_law 678 = .ok (.iload_n 3, 1) := by decide +kernel
theorem dL_law_679 : decode cL_law 679 = .ok (.iconst 1, 1) := by decide +kernel
theorem dL_law_680 : decode cL_law 680 = .ok (.iadd, 1) := by decide +kernel
theorem dL_law_681 : decode cL_law 681 = .ok (.iaload, 1) := by decide +kernel
theorem dL_law_682 : decode cL_law 682 = .ok (.aload_n 0, 1) := by decide +kernel
theorem dL_law_683 : decode cL_law 683 = .ok (.iload_n 3, 1) := by decide +kernel
theorem dL_law_684 : decode cL_law 684 = .ok (.iconst 2, 1) := by decide +kernel
theorem dL_law_685 : decode cL_law 685 = .ok (.iadd, 1) := by decide +kernel
theorem dL_law_686 : decode cL_law 686 = .ok (.iaload, 1) := by decide +kernel
theorem dL_law_687 : decode cL_law 687 = .ok (.invokevirtual 72, 3) := by decide +kernel
theorem dL_law_690 : decode cL_law 690 = .ok (.aload_n 2, 1) := by decide +kernel
theorem dL_law_691 : decode cL_law 691 = .ok (.aload_n 0, 1) := by decide +kernel
theorem dL_law_692 : decode cL_law 692 = .ok (.iload_n 3, 1) := by decide +kernel
theorem dL_law_693 : decode cL_law 693 = .ok (.iconst 1, 1) := by decide +kernel
theorem dL_law_694 : decode cL_law 694 = .ok (.iadd, 1) := by decide +kernel
theorem dL_law_695 : decode cL_law 695 = .ok (.iaload, 1) := by decide +kernel
theorem dL_law_696 : decode cL_law 696 = .ok (.aload_n 0, 1) := by decide +kernel
theorem dL_law_697 : decode cL_law 697 = .ok (.iload_n 3, 1) := by decide +kernel
theorem dL_law_698 : decode cL_law 698 = .ok (.iconst 2, 1) := by decide +kernel
theorem dL_law_699 : decode cL_law 699 = .ok (.iadd, 1) := by decide +kernel
theorem dL_law_700 : decode cL_law 700 = .ok (.iaload, 1) := by decide +kernel
theorem dL_law_701 : decode cL_law 701 = .ok (.invokevirtual 75, 3) := by decide +kernel
theorem dL_law_704 : decode cL_law 704 = .ok (.if_icmp .eq 216, 3) := by decide +kernel
theorem dL_law_707 : decode cL_law 707 = .ok (.iconst 0, 1) := by decide +kernel
theorem dL_law_708 : decode cL_law 708 = .ok (.ireturn, 1) := by decide +kernel
theorem dL_law_709 : decode cL_law 709 = .ok (.aload_n 1, 1) := by decide +kernel
theorem dL_law_710 : decode cL_law 710 = .ok (.aload_n 0, 1) := by decide +kernel
theorem dL_law_711 : decode cL_law 711 = .ok (.iload_n 3, 1) := by decide +kernel
theorem dL_law_712 : decode cL_law 712 = .ok (.iconst 1, 1) := by decide +kernel
theorem dL_law_713 : decode cL_law 713 = .ok (.iadd, 1) := by decide +kernel
theorem dL_law_714 : decode cL_law 714 = .ok (.iaload, 1) := by decide +kernel
theorem dL_law_715 : decode cL_law 715 = .ok (.aload_n 0, 1) := by decide +kernel
theorem dL_law_716 : decode cL_law 716 = .ok (.iload_n 3, 1) := by decide +kernel
theorem dL_law_717 : decode cL_law 717 = .ok (.iconst 2, 1) := by decide +kernel
theorem dL_law_718 : decode cL_law 718 = .ok (.iadd, 1) := by decide +kernel
theorem dL_law_719 : decode cL_law 719 = .ok (.iaload, 1) := by decide +kernel
theorem dL_law_720 : decode cL_law 720 = .ok (.aload_n 0, 1) := by decide +kernel
theorem dL_law_721 : decode cL_law 721 = .ok (.iload_n 3, 1) := by decide +kernel
theorem dL_law_722 : decode cL_law 722 = .ok (.iconst 3, 1) := by decide +kernel
theorem dL_law_723 : decode cL_law 723 = .ok (.iadd, 1) := by decide +kernel
theorem dL_law_724 : decode cL_law 724 = .ok (.iaload, 1) := by decide +kernel
theorem dL_law_725 : decode cL_law 725 = .ok (.aload_n 0, 1) := by decide +kernel
theorem dL_law_726 : decode cL_law 726 = .ok (.iload_n 3, 1) := by decide +kernel
theorem dL_law_727 : decode cL_law 727 = .ok (.iconst 4, 1) := by decide +kernel
theorem dL_law_728 : decode cL_law 728 = .ok (.iadd, 1) := by decide +kernel
theorem dL_law_729 : decode cL_law 729 = .ok (.iaload, 1) := by decide +kernel
theorem dL_law_730 : decode cL_law 730 = .ok (.aload_n 0, 1) := by decide +kernel
theorem dL_law_731 : decode cL_law 731 = .ok (.iload_n 3, 1) := by decide +kernel
theorem dL_law_732 : decode cL_law 732 = .ok (.iconst 5, 1) := by decide +kernel
theorem dL_law_733 : decode cL_law 733 = .ok (.iadd, 1) := by decide +kernel
theorem dL_law_734 : decode cL_law 734 = .ok (.iaload, 1) := by decide +kernel
theorem dL_law_735 : decode cL_law 735 = .ok (.aload_n 0, 1) := by decide +kernel
theorem dL_law_736 : decode cL_law 736 = .ok (.iload_n 3, 1) := by decide +kernel
theorem dL_law_737 : decode cL_law 737 = .ok (.bipush 6, 2) := by decide +kernel
theorem dL_law_739 : decode cL_law 739 = .ok (.iadd, 1) := by decide +kernel
theorem dL_law_740 : decode cL_law 740 = .ok (.iaload, 1) := by decide +kernel
theorem dL_law_741 : decode cL_law 741 = .ok (.invokevirtual 76, 3) := by decide +kernel
theorem dL_law_744 : decode cL_law 744 = .ok (.aload_n 2, 1) := by decide +kernel
theorem dL_law_745 : decode cL_law 745 = .ok (.aload_n 0, 1) := by decide +kernel
theorem dL_law_746 : decode cL_law 746 = .ok (.iload_n 3, 1) := by decide +kernel
theorem dL_law_747 : decode cL_law 747 = .ok (.iconst 1, 1) := by decide +kernel
theorem dL_law_748 : decode cL_law 748 = .ok (.iadd, 1) := by decide +kernel
theorem dL_law_749 : decode cL_law 749 = .ok (.iaload, 1) := by decide +kernel
theorem dL_law_750 : decode cL_law 750 = .ok (.aload_n 0, 1) := by decide +kernel
theorem dL_law_751 : decode cL_law 751 = .ok (.iload_n 3, 1) := by decide +kernel
theorem dL_law_752 : decode cL_law 752 = .ok (.iconst 2, 1) := by decide +kernel
theorem dL_law_753 : decode cL_law 753 = .ok (.iadd, 1) := by decide +kernel
theorem dL_law_754 : decode cL_law 754 = .ok (.iaload, 1) := by decide +kernel
theorem dL_law_755 : decode cL_law 755 = .ok (.aload_n 0, 1) := by decide +kernel
theorem dL_law_756 : decode cL_law 756 = .ok (.iload_n 3, 1) := by decide +kernel
theorem dL_law_757 : decode cL_law 757 = .ok (.iconst 3, 1) := by decide +kernel
theorem dL_law_758 : decode cL_law 758 = .ok (.iadd, 1) := by decide +kernel
theorem dL_law_759 : decode cL_law 759 = .ok (.iaload, 1) := by decide +kernel
theorem dL_law_760 : decode cL_law 760 = .ok (.aload_n 0, 1) := by decide +kernel
theorem dL_law_761 : decode cL_law 761 = .ok (.iload_n 3, 1) := by decide +kernel
theorem dL_law_762 : decode cL_law 762 = .ok (.iconst 4, 1) := by decide +kernel
theorem dL_law_763 : decode cL_law 763 = .ok (.iadd, 1) := by decide +kernel
theorem dL_law_764 : decode cL_law 764 = .ok (.iaload, 1) := by decide +kernel
theorem dL_law_765 : decode cL_law 765 = .ok (.aload_n 0, 1) := by decide +kernel
theorem dL_law_766 : decode cL_law 766 = .ok (.iload_n 3, 1) := by decide +kernel
theorem dL_law_767 : decode cL_law 767 = .ok (.iconst 5, 1) := by decide +kernel
theorem dL_law_768 : decode cL_law 768 = .ok (.iadd, 1) := by decide +kernel
theorem dL_law_769 : decode cL_law 769 = .ok (.iaload, 1) := by decide +kernel
theorem dL_law_770 : decode cL_law 770 = .ok (.aload_n 0, 1) := by decide +kernel
theorem dL_law_771 : decode cL_law 771 = .ok (.iload_n 3, 1) := by decide +kernel
theorem dL_law_772 : decode cL_law 772 = .ok (.bipush 6, 2) := by decide +kernel
theorem dL_law_774 : decode cL_law 774 = .ok (.iadd, 1) := by decide +kernel
theorem dL_law_775 : decode cL_law 775 = .ok (.iaload, 1) := by decide +kernel
theorem dL_law_776 : decode cL_law 776 = .ok (.invokevirtual 80, 3) := by decide +kernel
theorem dL_law_779 : decode cL_law 779 = .ok (.if_icmp .eq 141, 3) := by decide +kernel
theorem dL_law_782 : decode cL_law 782 = .ok (.iconst 0, 1) := by decide +kernel
theorem dL_law_783 : decode cL_law 783 = .ok (.ireturn, 1) := by decide +kernel
theorem dL_law_784 : decode cL_law 784 = .ok (.aload_n 1, 1) := by decide +kernel
theorem dL_law_785 : decode cL_law 785 = .ok (.aload_n 0, 1) := by decide +kernel
theorem dL_law_786 : decode cL_law 786 = .ok (.iload_n 3, 1) := by decide +kernel
theorem dL_law_787 : decode cL_law 787 = .ok (.iconst 1, 1) := by decide +kernel
theorem dL_law_788 : decode cL_law 788 = .ok (.iadd, 1) := by decide +kernel
theorem dL_law_789 : decode cL_law 789 = .ok (.iaload, 1) := by decide +kernel
theorem dL_law_790 : decode cL_law 790 = .ok (.aload_n 0, 1) := by decide +kernel
theorem dL_law_791 : decode cL_law 791 = .ok (.iload_n 3, 1) := by decide +kernel
theorem dL_law_792 : decode cL_law 792 = .ok (.iconst 2, 1) := by decide +kernel
theorem dL_law_793 : decode cL_law 793 = .ok (.iadd, 1) := by decide +kernel
theorem dL_law_794 : decode cL_law 794 = .ok (.iaload, 1) := by decide +kernel
theorem dL_law_795 : decode cL_law 795 = .ok (.aload_n 0, 1) := by decide +kernel
theorem dL_law_796 : decode cL_law 796 = .ok (.iload_n 3, 1) := by decide +kernel
theorem dL_law_797 : decode cL_law 797 = .ok (.iconst 3, 1) := by decide +kernel
theorem dL_law_798 : decode cL_law 798 = .ok (.iadd, 1) := by decide +kernel
theorem dL_law_799 : decode cL_law 799 = .ok (.iaload, 1) := by decide +kernel
theorem dL_law_800 : decode cL_law 800 = .ok (.invokevirtual 81, 3) := by decide +kernel
theorem dL_law_803 : decode cL_law 803 = .ok (.aload_n 2, 1) := by decide +kernel
theorem dL_law_804 : decode cL_law 804 = .ok (.aload_n 0, 1) := by decide +kernel
theorem dL_law_805 : decode cL_law 805 = .ok (.iload_n 3, 1) := by decide +kernel
theorem dL_law_806 : decode cL_law 806 = .ok (.iconst 1, 1) := by decide +kernel
theorem dL_law_807 : decode cL_law 807 = .ok (.iadd, 1) := by decide +kernel
theorem dL_law_808 : decode cL_law 808 = .ok (.iaload, 1) := by decide +kernel
theorem dL_law_809 : decode cL_law 809 = .ok (.aload_n 0, 1) := by decide +kernel
theorem dL_law_810 : decode cL_law 810 = .ok (.iload_n 3, 1) := by decide +kernel
theorem dL_law_811 : decode cL_law 811 = .ok (.iconst 2, 1) := by decide +kernel
theorem dL_law_812 : decode cL_law 812 = .ok (.iadd, 1) := by decide +kernel
theorem dL_law_813 : decode cL_law 813 = .ok (.iaload, 1) := by decide +kernel
theorem dL_law_814 : decode cL_law 814 = .ok (.aload_n 0, 1) := by decide +kernel
theorem dL_law_815 : decode cL_law 815 = .ok (.iload_n 3, 1) := by decide +kernel
theorem dL_law_816 : decode cL_law 816 = .ok (.iconst 3, 1) := by decide +kernel
theorem dL_law_817 : decode cL_law 817 = .ok (.iadd, 1) := by decide +kernel
theorem dL_law_818 : decode cL_law 818 = .ok (.iaload, 1) := by decide +kernel
theorem dL_law_819 : decode cL_law 819 = .ok (.invokevirtual 85, 3) := by decide +kernel
theorem dL_law_822 : decode cL_law 822 = .ok (.if_icmp .eq 98, 3) := by decide +kernel
theorem dL_law_825 : decode cL_law 825 = .ok (.iconst 0, 1) := by decide +kernel
theorem dL_law_826 : decode cL_law 826 = .ok (.ireturn, 1) := by decide +kernel
theorem dL_law_827 : decode cL_law 827 = .ok (.aload_n 1, 1) := by decide +kernel
theorem dL_law_828 : decode cL_law 828 = .ok (.aload_n 0, 1) := by decide +kernel
theorem dL_law_829 : decode cL_law 829 = .ok (.iload_n 3, 1) := by decide +kernel
theorem dL_law_830 : decode cL_law 830 = .ok (.iconst 1, 1) := by decide +kernel
theorem dL_law_831 : decode cL_law 831 = .ok (.iadd, 1) := by decide +kernel
theorem dL_law_832 : decode cL_law 832 = .ok (.iaload, 1) := by decide +kernel
theorem dL_law_833 : decode cL_law 833 = .ok (.aload_n 0, 1) := by decide +kernel
theorem dL_law_834 : decode cL_law 834 = .ok (.iload_n 3, 1) := by decide +kernel
theorem dL_law_835 : decode cL_law 835 = .ok (.iconst 2, 1) := by decide +kernel
theorem dL_law_836 : decode cL_law 836 = .ok (.iadd, 1) := by decide +kernel
theorem dL_law_837 : decode cL_law 837 = .ok (.iaload, 1) := by decide +kernel
theorem dL_law_838 : decode cL_law 838 = .ok (.invokevirtual 86, 3) := by decide +kernel
theorem dL_law_841 : decode cL_law 841 = .ok (.aload_n 2, 1) := by decide +kernel
theorem dL_law_842 : decode cL_law 842 = .ok (.aload_n 0, 1) := by decide +kernel
theorem dL_law_843 : decode cL_law 843 = .ok (.iload_n 3, 1) := by decide +kernel
theorem dL_law_844 : decode cL_law 844 = .ok (.iconst 1, 1) := by decide +kernel
theorem dL_law_845 : decode cL_law 845 = .ok (.iadd, 1) := by decide +kernel
theorem dL_law_846 : decode cL_law 846 = .ok (.iaload, 1) := by decide +kernel
theorem dL_law_847 : decode cL_law 847 = .ok (.aload_n 0, 1) := by decide +kernel
theorem dL_law_848 : decode cL_law 848 = .ok (.iload_n 3, 1) := by decide +kernel
theorem dL_law_849 : decode cL_law 849 = .ok (.iconst 2, 1) := by decide +kernel
theorem dL_law_850 : decode cL_law 850 = .ok (.iadd, 1) := by decide +kernel
theorem dL_law_851 : decode cL_law 851 = .ok (.iaload, 1) := by decide +kernel
theorem dL_law_852 : decode cL_law 852 = .ok (.invokevirtual 89, 3) := by decide +kernel
theorem dL_law_855 : decode cL_law 855 = .ok (.if_icmp .eq 65, 3) := by decide +kernel
theorem dL_law_858 : decode cL_law 858 = .ok (.iconst 0, 1) := by decide +kernel
theorem dL_law_859 : decode cL_law 859 = .ok (.ireturn, 1) := by decide +kernel
theorem dL_law_860 : decode cL_law 860 = .ok (.aload_n 1, 1) := by decide +kernel
theorem dL_law_861 : decode cL_law 861 = .ok (.aload_n 0, 1) := by decide +kernel
theorem dL_law_862 : decode cL_law 862 = .ok (.iload_n 3, 1) := by decide +kernel
theorem dL_law_863 : decode cL_law 863 = .ok (.iconst 1, 1) := by decide +kernel
theorem dL_law_864 : decode cL_law 864 = .ok (.iadd, 1) := by decide +kernel
theorem dL_law_865 : decode cL_law 865 = .ok (.iaload, 1) := by decide +kernel
theorem dL_law_866 : decode cL_law 866 = .ok (.invokevirtual 90, 3) := by decide +kernel
theorem dL_law_869 : decode cL_law 869 = .ok (.aload_n 2, 1) := by decide +kernel
theorem dL_law_870 : decode cL_law 870 = .ok (.aload_n 0, 1) := by decide +kernel
theorem dL_law_871 : decode cL_law 871 = .ok (.iload_n 3, 1) := by decide +kernel
theorem dL_law_872 : decode cL_law 872 = .ok (.iconst 1, 1) := by decide +kernel
theorem dL_law_873 : decode cL_law 873 = .ok (.iadd, 1) := by decide +kernel
theorem dL_law_874 : decode cL_law 874 = .ok (.iaload, 1) := by decide +kernel
theorem dL_law_875 : decode cL_law 875 = .ok (.invokevirtual 94, 3) := by decide +kernel
theorem dL_law_878 : decode cL_law 878 = .ok (.lcmp, 1) := by decide +kernel
theorem dL_law_879 : decode cL_law 879 = .ok (.ifCond .eq 41, 3) := by decide +kernel
theorem dL_law_882 : decode cL_law 882 = .ok (.iconst 0, 1) := by decide +kernel
theorem dL_law_883 : decode cL_law 883 = .ok (.ireturn, 1) := by decide +kernel
theorem dL_law_884 : decode cL_law 884 = .ok (.aload_n 1, 1) := by decide +kernel
theorem dL_law_885 : decode cL_law 885 = .ok (.invokevirtual 95, 3) := by decide +kernel
theorem dL_law_888 : decode cL_law 888 = .ok (.aload_n 2, 1) := by decide +kernel
theorem dL_law_889 : decode cL_law 889 = .ok (.invokevirtual 99, 3) := by decide +kernel
theorem dL_law_892 : decode cL_law 892 = .ok (.if_icmp .eq 28, 3) := by decide +kernel
theorem dL_law_895 : decode cL_law 895 = .ok (.iconst 0, 1) := by decide +kernel
theorem dL_law_896 : decode cL_law 896 = .ok (.ireturn, 1) := by decide +kernel
theorem dL_law_897 : decode cL_law 897 = .ok (.aload_n 1, 1) := by decide +kernel
theorem dL_law_898 : decode cL_law 898 = .ok (.aload_n 0, 1) := by decide +kernel
theorem dL_law_899 : decode cL_law 899 = .ok (.iload_n 3, 1) := by decide +kernel
theorem dL_law_900 : decode cL_law 900 = .ok (.iconst 1, 1) := by decide +kernel
theorem dL_law_901 : decode cL_law 901 = .ok (.iadd, 1) := by decide +kernel
theorem dL_law_902 : decode cL_law 902 = .ok (.iaload, 1) := by decide +kernel
theorem dL_law_903 : decode cL_law 903 = .ok (.invokevirtual 100, 3) := by decide +kernel
theorem dL_law_906 : decode cL_law 906 = .ok (.aload_n 2, 1) := by decide +kernel
theorem dL_law_907 : decode cL_law 907 = .ok (.aload_n 0, 1) := by decide +kernel
theorem dL_law_908 : decode cL_law 908 = .ok (.iload_n 3, 1) := by decide +kernel
theorem dL_law_909 : decode cL_law 909 = .ok (.iconst 1, 1) := by decide +kernel
theorem dL_law_910 : decode cL_law 910 = .ok (.iadd, 1) := by decide +kernel
theorem dL_law_911 : decode cL_law 911 = .ok (.iaload, 1) := by decide +kernel
theorem dL_law_912 : decode cL_law 912 = .ok (.invokevirtual 103, 3) := by decide +kernel
theorem dL_law_915 : decode cL_law 915 = .ok (.if_icmp .eq 5, 3) := by decide +kernel
theorem dL_law_918 : decode cL_law 918 = .ok (.iconst 0, 1) := by decide +kernel
theorem dL_law_919 : decode cL_law 919 = .ok (.ireturn, 1) := by decide +kernel
theorem dL_law_920 : decode cL_law 920 = .ok (.iinc 3 7, 3) := by decide +kernel
theorem dL_law_923 : decode cL_law 923 = .ok (.goto (-905), 3) := by decide +kernel
theorem dL_law_926 : decode cL_law 926 = .ok (.iconst 1, 1) := by decide +kernel
theorem dL_law_927 : decode cL_law 927 = .ok (.ireturn, 1) := by decide +kernel
end
section
/-! THE MEMORY AS A FUNCTION: which cell lies at which address; rows of the kit said over it. A contract takes the whole memory of its caller and gives the new one back. -/
abbrev mMem : Type := Nat → Option va_E
def mUp (M : mMem) (a : Nat) (e : va_E) : mMem := fun q => if q = a then some e else M q
theorem mUp_self (M : mMem) (a : Nat) (e : va_E) : mUp M a e a = some e := if_pos rfl
theorem mUp_ne {M : mMem} {a q : Nat} {e : va_E} (h : q ≠ a) : mUp M a e q = M q := if_neg h
theorem mUp_at {M : mMem} {a q : Nat} {e e' : va_E} (h : q ≠ a) (hq : M q = some e') : mUp M a e q = some e' := (mUp_ne h).trans hq
theorem mUp_up (M : mMem) (a : Nat) (e e' : va_E) : mUp (mUp M a e) a e' = mUp M a e' := by
  funext q
  by_cases h : q = a
  · simp [mUp, h]
  · simp [mUp, h]
theorem mUp_id {M : mMem} {a : Nat} {e : va_E} (h : M a = some e) : mUp M a e = M := by
  funext q
  by_cases hq : q = a
  · rw [hq, mUp_self, h]
  · exact mUp_ne hq
theorem m_ne {M : mMem} {a b : Nat} {e e' : va_E} (ha : M a = some e) (hb : M b = some e') (h : e ≠ e') : a ≠ b := fun q => by
  subst q
  exact h (Option.some.inj (ha.symm.trans hb))
theorem m_neN {M : mMem} {a b : Nat} {e : va_E} (ha : M a = some e) (hb : M b = none) : a ≠ b := fun q => by
  subst q
  rw [hb] at ha
  cases ha
/-- the environment: the classes' numbers and slots, the array classes' numbers -/
abbrev mEnv : Type := va_G × (Nat → ClassId)
abbrev mI (E : mEnv) (n : Nat) (f : Nat → Int32) : va_E := .inl (E.2 0, n, .inl f)
abbrev mJ (E : mEnv) (n : Nat) (f : Nat → Int64) : va_E := .inl (E.2 1, n, .inr (.inl f))
abbrev mDb (E : mEnv) (n : Nat) (f : Nat → UInt64) : va_E := .inl (E.2 2, n, .inr (.inr (.inr (.inl f))))
abbrev mZ (E : mEnv) (n : Nat) (f : Nat → Int32) : va_E := .inl (E.2 3, n, .inl f)
abbrev mQ (E : mEnv) (k n : Nat) (f : Nat → Option Nat) : va_E := .inl (E.2 k, n, .inr (.inr (.inr (.inr f))))
abbrev mO (ci : Nat) (fs : List Value) : va_E := .inr (ci, fs)
def mTys (E : mEnv) : List (ClassId × FieldType) := [(E.2 0, .int), (E.2 1, .long), (E.2 2, .double), (E.2 3, .boolean), (E.2 4, .object "CallWays2$Instrument"), (E.2 5, .object "CallWays2$Samples"), (E.2 6, .object "CallWays2$Function")]
def mNwC : List (String × String) := [("[D", "java/lang/Cloneable"), (RX0, "CallWays2$Instrument"), (RX2, "CallWays2$Instrument"), (RX4, "CallWays2$Instrument"), (RX6, "CallWays2$Instrument"), (RX8, "CallWays2$Instrument")]
def mNwM : List (String × Nat × MethodName × String) := [(RX9, 178, yX4_init, RX9), (RX4, 1, yX8_init, RX9), (RX8, 1, yX5_init, RX9), (RX9, 181, yX2_init, RX9), (RX2, 3, yX5_init, RX9), (RX9, 184, yX0_init, RX9), (RX0, 3, yX2_init, RX9), (RX9, 187, yX6_init, RX9), (RX6, 3, yX5_init, RX9), (RX9, 190, yX8_init, RX9)]
def mNwD : List MethodName := [⟨"CallWays2$Instrument", "give", "()D"⟩, ⟨"CallWays2$Instrument", "fail", "(I)D"⟩]
def mNwA : List String := ["CallWays2$Instrument", "CallWays2$Samples", "CallWays2$Function"]
/-- what the tables say, beside the words: classes, array classes, casts, nest mates, abstract members, arrays of objects -/
def mE (E : mEnv) (U : State) : Prop := va_K E.1 vwCl (mTys E) U ∧ (∀ q ∈ mNwC, va_Nw (.castable q.1 q.2) U) ∧ (∀ q ∈ mNwM, va_Nw (.methodLinkNest q.1 q.2.1 q.2.2.1 q.2.2.2) U) ∧ (∀ q ∈ mNwD, va_Nw (.declares q) U) ∧ (∀ q ∈ mNwA, va_AO q U)
theorem mE.moved {E : mEnv} {s U : State} (hW : s.WarmedH U.vm) (h : mE E s) : mE E U := ⟨va_K.moved hW.alike h.1, fun q hq => (h.2.1 q hq).warmC hW, fun q hq => (h.2.2.1 q hq).warmM hW, fun q hq => (h.2.2.2.1 q hq).warmD hW, fun q hq => (h.2.2.2.2 q hq).moved hW.alike⟩
theorem mE.same {E : mEnv} {s U : State} (hv : s.vm = U.vm) (h : mE E s) : mE E U := ⟨va_K.moved (by rw [hv]; exact Vm.Alike.refl U.vm) h.1, fun q hq => (h.2.1 q hq).same rfl hv, fun q hq => (h.2.2.1 q hq).same rfl hv, fun q hq => (h.2.2.2.1 q hq).same rfl hv, fun q hq => (h.2.2.2.2 q hq).moved (by rw [hv]; exact Vm.Alike.refl U.vm)⟩
/-- the heap holds the memory, and its cells are of a kind -/
def mOK (D : va_G) (A : Nat → Prop) (M : mMem) (H : Heap) : Prop := ∃ (L : List Nat) (f : Nat → va_E), (∀ (a : Nat) (e : va_E), M a = some e ↔ a ∈ L ∧ f a = e) ∧ va_P D vwCl (va_pl L f) H ∧ va_D A (va_pl L f)
def mA (M : mMem) (sz : Nat) : Nat → Prop := fun q => M q ≠ none ∨ sz ≤ q
theorem m_pl_get {L : List Nat} {f : Nat → va_E} {a : Nat} (h : a ∈ L) : ∃ k : Nat, (va_pl L f)[k]? = some (a, f a) := by
  obtain ⟨k, hk⟩ := va_pl_get (X := []) (f := f) h
  exact ⟨k, by simpa using hk⟩
theorem mOK.at {D : va_G} {A : Nat → Prop} {M : mMem} {H : Heap} (h : mOK D A M H) {a : Nat} {e : va_E} (ha : M a = some e) : ∃ (ws : va_W) (k : Nat), va_P D vwCl ws H ∧ ws[k]? = some (a, e) := by
  obtain ⟨L, f, h1, hP, hD⟩ := h
  obtain ⟨hL, hf⟩ := (h1 a e).mp ha
  obtain ⟨k, hk⟩ := m_pl_get (f := f) hL
  exact ⟨_, k, hP, by rw [hk, hf]⟩
theorem mOK.lt {D : va_G} {A : Nat → Prop} {M : mMem} {H : Heap} (h : mOK D A M H) {a : Nat} {e : va_E} (ha : M a = some e) : a < H.size := by
  obtain ⟨ws, k, hP, hk⟩ := h.at ha
  exact (hP k _ hk).lt
theorem mOK.in {D : va_G} {A : Nat → Prop} {M : mMem} {H : Heap} (h : mOK D A M H) {a : Nat} (ha : M a ≠ none) : A a := by
  obtain ⟨L, f, h1, hP, hD⟩ := h
  cases he : M a with
  | none => exact absurd he ha
  | some e =>
    obtain ⟨hL, hf⟩ := (h1 a e).mp he
    obtain ⟨k, hk⟩ := m_pl_get (f := f) hL
    exact hD.2 k _ hk
theorem mOK.to {D : va_G} {A B : Nat → Prop} {M : mMem} {H : Heap} (h : mOK D A M H) (hB : ∀ q, M q ≠ none → A q → B q) : mOK D B M H := by
  obtain ⟨L, f, h1, hP, hD⟩ := h
  refine ⟨L, f, h1, hP, hD.weaken (fun k q hk hA => hB q.1 ?_ hA)⟩
  have hm : q ∈ va_pl L f := List.mem_of_getElem? hk
  obtain ⟨a, ha, hq⟩ := List.mem_map.mp hm
  subst hq
  show M a ≠ none
  rw [(h1 a (f a)).mpr ⟨ha, rfl⟩]
  exact fun z => by cases z
theorem mOK.free {D : va_G} {A : Nat → Prop} {M : mMem} {H H0 : Heap} {locs : List Loc} (h : mOK D A M H) (hS : va_S A H0 H locs) (hA : ∀ q : Nat, H0.size ≤ q → A q) : ∀ q, mA M H.size q → A q := fun q hq => by
  rcases hq with h1 | h1
  · exact h.in h1
  · exact hA q (Nat.le_trans hS.1 h1)
theorem mOK.self {D : va_G} {A : Nat → Prop} {M : mMem} {H : Heap} (h : mOK D A M H) (sz : Nat) : mOK D (mA M sz) M H := h.to (fun _ hq _ => Or.inl hq)
theorem mOK_set {D : va_G} {A : Nat → Prop} {M : mMem} {H1 : Heap} {L : List Nat} {f : Nat → va_E} {a k : Nat} {e0 e : va_E} (h1 : ∀ (a : Nat) (e : va_E), M a = some e ↔ a ∈ L ∧ f a = e) (ha : M a = some e0) (hD : va_D A (va_pl L f)) (hk : (va_pl L f)[k]? = some (a, e0)) (hP1 : va_P D vwCl ((va_pl L f).set k (a, e)) H1) (hD1 : va_D A ((va_pl L f).set k (a, e))) : mOK D A (mUp M a e) H1 := by
  obtain ⟨hL, hf⟩ := (h1 a e0).mp ha
  have hs : (va_pl L f).set k (a, e) = va_pl L (va_up f a e) := by
    have := va_pl_set (X := []) (A := A) (e := e) (k := k) (f := f) (by simpa using hD) hL (by rw [List.nil_append, hf]; exact hk)
    simpa using this
  rw [hs] at hP1 hD1
  refine ⟨L, va_up f a e, fun q x => ?_, hP1, hD1⟩
  by_cases hq : q = a
  · subst hq
    simp [mUp, va_up, hL]
  · simp [mUp, va_up, hq, h1]
theorem mOK_push {D : va_G} {A : Nat → Prop} {M : mMem} {H1 : Heap} {L : List Nat} {f : Nat → va_E} {q : Nat} {e : va_E} (h1 : ∀ (a : Nat) (e : va_E), M a = some e ↔ a ∈ L ∧ f a = e) (hP1 : va_P D vwCl (va_pl L f ++ [(q, e)]) H1) (hD1 : va_D A (va_pl L f ++ [(q, e)])) : mOK D A (mUp M q e) H1 ∧ M q = none := by
  have hq : q ∉ L := by
    intro h
    obtain ⟨k, hk⟩ := m_pl_get (f := f) h
    have hlt : k < (va_pl L f).length := (List.getElem?_eq_some_iff.mp hk).1
    have hz := hD1.1 k (va_pl L f).length (q, f q) (q, e) (by rw [List.getElem?_append_left hlt]; exact hk) (by simp) rfl
    omega
  rw [va_pl_push hq] at hP1 hD1
  refine ⟨⟨L ++ [q], va_up f q e, fun a x => ?_, hP1, hD1⟩, ?_⟩
  · by_cases ha : a = q
    · subst ha
      simp [mUp, va_up]
    · simp [mUp, va_up, ha, h1]
  · cases h : M q with
    | none => rfl
    | some x => exact absurd ((h1 q x).mp h).1 hq
/-- a contract's start and its ends -/
def mPre (E : mEnv) (M : mMem) (sz : Nat) (av : List Value) : Array Value → State → Prop := va_Pc av (fun U => U.heap.size = sz ∧ mOK E.1 (fun _ => True) M U.heap ∧ mE E U)
def mQi (E : mEnv) (M : mMem) (sz : Nat) (post : Int32 → mMem → Prop) : Array Value → State → Outcome → State → Prop := va_Qi post (fun (u : mMem) (t : State) => mOK E.1 (mA M sz) u t.heap) (mA M sz)
def mQl (E : mEnv) (M : mMem) (sz : Nat) (post : Int64 → mMem → Prop) : Array Value → State → Outcome → State → Prop := va_Ql post (fun (u : mMem) (t : State) => mOK E.1 (mA M sz) u t.heap) (mA M sz)
def mQd (E : mEnv) (M : mMem) (sz : Nat) (post : UInt64 → mMem → Prop) : Array Value → State → Outcome → State → Prop := va_Qd post (fun (u : mMem) (t : State) => mOK E.1 (mA M sz) u t.heap) (mA M sz)
def mQv (E : mEnv) (M : mMem) (sz : Nat) (post : mMem → Prop) : Array Value → State → Outcome → State → Prop := va_Qv post (fun (u : mMem) (t : State) => mOK E.1 (mA M sz) u t.heap) (mA M sz)
def mQq (E : mEnv) (M : mMem) (sz : Nat) (post : Option Nat → mMem → Prop) : Array Value → State → Outcome → State → Prop := va_Qq post (fun (u : mMem) (t : State) => mOK E.1 (mA M sz) u t.heap) (mA M sz)
theorem mPre_blind {E : mEnv} {M : mMem} {sz : Nat} {av : List Value} : FrameBlind (mPre E M sz av) := fun a U g mk q => ⟨q.1, q.2.1, q.2.2.1, q.2.2.2.same (U := U.calling g mk a) rfl⟩
theorem m_preS {E : mEnv} {M : mMem} {s : State} {H : Heap} {A : Nat → Prop} {As : List Value} (hE : mE E s) (hM : mOK E.1 A M H) : PreS s H (mPre E M H.size As) As := ⟨mPre_blind, fun U hU hW => ⟨rfl, by rw [hU], by rw [hU]; exact hM.to (fun _ _ _ => trivial), hE.moved hW⟩⟩
theorem m_preV {E : mEnv} {M : mMem} {s : State} {H : Heap} {A : Nat → Prop} {As : List Value} {b ci : Nat} {fs : List Value} {r : vw_C} (hE : mE E s) (hM : mOK E.1 A M H) (hb : M b = some (.inr (ci, fs))) (hc : vwCl[ci]? = some r) : PreV s H r.1 b (mPre E M H.size (.ref b :: As)) As := by
  obtain ⟨ws, k, hP, hk⟩ := hM.at hb
  exact ⟨mPre_blind, va_recv hE.1 hP hc hk, fun U hU hW => ⟨rfl, by rw [hU], by rw [hU]; exact hM.to (fun _ _ _ => trivial), hE.moved hW⟩⟩
theorem m_met {l : Launch} {y : MethodName} {ws ws' : List Cond} {rm : Room} {Qc : Array Value → State → Outcome → State → Prop} {mc ms : Nat} {cc : ByteArray} {maxL : Nat} {ret : Option FieldType} {E : mEnv} {M : mMem} {sz : Nat} (av : List Value) (hy : plainName y.cls = true) (hw : ws = Cond.code y cc maxL ret :: ws') (hn : (lg_sl av).length ≤ maxL)
    (body : ∀ (p : Program) (e : Env) (s : State) (m : MethodId) (below : List Frame) (meth : Method) (c : Code) (ls : Array Slot) (H : Heap), H = s.heap → p.tables.exec = Jvm.exec → c.code = cc → meth.sig.returnType = ret → (∀ w ∈ ws, w.before av.toArray s = true) → s.vm.findClass y.cls = some m.cls → meth.locks = false → meth.name = y.name → c.maxLocals = maxL → s.heap.size = sz → mE E s → mOK E.1 (mA M sz) M H → va_S (mA M sz) s.heap H [] → (∀ q : Nat, s.heap.size ≤ q → mA M sz q) → lv_has ls maxL (lv_args 0 av) → W p l e rm s m av.toArray below meth c H [] 0 0 (MQ below Qc av.toArray s mc ms (mA M sz)) (F0 m 0 ls [])) :
    Met l y ws rm (mPre E M sz av) Qc mc ms (mA M sz) := by
  refine Met.ofW (cc := cc) (maxL := maxL) (ret := ret) hy hw ?_
  intro p e s m args below meth c s₁ B hml hv
  obtain ⟨rfl, hsz, hM, hE⟩ := hv
  rw [lg_entry_eq]
  exact body p e s m below meth c _ s.heap rfl B.exec B.bytes B.returns (atoms_spec (ws := ws) B.pre) (findClass_of_methodNamed B.named) B.notSynchronized (name_of_methodNamed B.named B.method).1 hml hsz hE (hM.self sz) va_S.rf (fun q h => Or.inr (by omega)) (lv_entry av hn)
section MM
variable {p : Program} {l : Launch} {e : Env} {R : Room} {s : State} {m : MethodId} {args : Array Value} {below : List Frame} {meth : Method} {c : Code} {H : Heap} {locs : List Loc} {cells slots : Nat} {Q : State → Prop}
variable {cc : ByteArray} {pc : Nat} {ls : Array Slot} {rest st0 : List Value} {E : mEnv} {A : Nat → Prop} {a : Nat} {H0 : Heap} {M : mMem} {mc ms : Nat} {a0 : Array Value}
theorem m_get (hx : p.tables.exec = Jvm.exec) (hb : c.code = cc) {own ref C : String} {T : u_T} {N ci index : Nat} {Ts : List Cond} (hts : ∀ w ∈ Ts, w.before args s = true) (hin : ∀ w ∈ u_ws C T N, w ∈ Ts) (hown : s.vm.findClass own = some m.cls) (hE : mE E s) (hM : mOK E.1 A M H) {fs : List Value} (ha : M a = some (.inr (ci, fs))) (hc : vwCl[ci]? = some (C, T, N)) (k : Nat) (hk : k < N) (hlink : (Cond.fieldLink own index ref (T k).2.1 (T k).2.2.1).before args s = true) (hsame : ∀ x, s.fieldFound? (T k).1 (T k).2.1 (T k).2.2.1 = some x → s.fieldFound? ref (T k).2.1 (T k).2.2.1 = some x) {v : Value} (hv : fs[k]? = some v) (hdg : decode cc pc = .ok (.getfield index, 3))
    (kk : W p l e R s m args below meth c H locs cells slots Q (F0 m (pc + 3) ls (v :: rest))) : W p l e R s m args below meth c H locs cells slots Q (F0 m pc ls (.ref a :: rest)) := by
  obtain ⟨ws, q0, hP, hq⟩ := hM.at ha
  exact va_get hx hb hts hin hown hE.1 hP q0 hq hc k hk hlink hsame hv hdg kk
theorem m_put (hx : p.tables.exec = Jvm.exec) (hb : c.code = cc) {own ref C : String} {T : u_T} {N ci index : Nat} {Ts : List Cond} (hts : ∀ w ∈ Ts, w.before args s = true) (hin : ∀ w ∈ u_ws C T N, w ∈ Ts) (ty0 : Nat → FieldType) (hty : ∀ k, k < N → parseFieldDescriptor (T k).2.2.1 = some (ty0 k)) (hnm : ∀ a, a < N → ∀ b, b < N → a ≠ b → (T a).2.1 ≠ (T b).2.1) (hown : s.vm.findClass own = some m.cls) (hE : mE E s) (hM : mOK E.1 A M H) (hS : va_S A H0 H locs) {fs : List Value} (ha : M a = some (.inr (ci, fs))) (hc : vwCl[ci]? = some (C, T, N)) (k : Nat) (hk : k < N) (hlink : (Cond.fieldLink own index ref (T k).2.1 (T k).2.2.1).before args s = true) (hsame : ∀ x, s.fieldFound? (T k).1 (T k).2.1 (T k).2.2.1 = some x → s.fieldFound? ref (T k).2.1 (T k).2.2.1 = some x) (hfin : (T k).2.2.2 = false) {ty : FieldType} {v : Value} (hd : parseFieldDescriptor (T k).2.2.1 = some ty) (hn : narrow ty v = v) (hfit : fits ty v = true) (hl : k < fs.length)
    (hdg : decode cc pc = .ok (.putfield index, 3)) (kk : ∀ (H1 : Heap) (locs1 : List Loc), mOK E.1 A (mUp M a (.inr (ci, fs.set k v))) H1 → va_S A H0 H1 locs1 → W p l e R s m args below meth c H1 locs1 cells slots Q (F0 m (pc + 3) ls rest)) : W p l e R s m args below meth c H locs cells slots Q (F0 m pc ls (v :: .ref a :: rest)) := by
  obtain ⟨L, f, h1, hP, hD⟩ := hM
  obtain ⟨q0, hq⟩ := m_pl_get (f := f) ((h1 a _).mp ha).1
  rw [((h1 a _).mp ha).2] at hq
  exact va_put hx hb hts hin ty0 hty hnm hown hE.1 hP hD hS q0 hq hc k hk hlink hsame hfin hd hn hfit hl hdg (fun H1 locs1 hP1 hD1 hS1 => kk H1 locs1 (mOK_set h1 ha hD hq hP1 hD1) hS1)
theorem m_putF (hx : p.tables.exec = Jvm.exec) (hb : c.code = cc) {own ref C : String} {T : u_T} {N ci index : Nat} {Ts : List Cond} (hts : ∀ w ∈ Ts, w.before args s = true) (hin : ∀ w ∈ u_ws C T N, w ∈ Ts) (ty0 : Nat → FieldType) (hty : ∀ k, k < N → parseFieldDescriptor (T k).2.2.1 = some (ty0 k)) (hnm : ∀ a, a < N → ∀ b, b < N → a ≠ b → (T a).2.1 ≠ (T b).2.1) (hown : s.vm.findClass own = some m.cls) (hE : mE E s) (hM : mOK E.1 A M H) (hS : va_S A H0 H locs) {fs : List Value} (ha : M a = some (.inr (ci, fs))) (hc : vwCl[ci]? = some (C, T, N)) (k : Nat) (hk : k < N) (hlink : (Cond.fieldLink own index ref (T k).2.1 (T k).2.2.1).before args s = true) (hsame : ∀ x, s.fieldFound? (T k).1 (T k).2.1 (T k).2.2.1 = some x → s.fieldFound? ref (T k).2.1 (T k).2.2.1 = some x) (hfin : (T k).2.2.2 = true) (hin2 : meth.name = "<init>") (hdecl : (T k).1 = own) {ty : FieldType} {v : Value} (hd : parseFieldDescriptor (T k).2.2.1 = some ty) (hn : narrow ty v = v) (hfit : fits ty v = true) (hl : k < fs.length)
    (hdg : decode cc pc = .ok (.putfield index, 3)) (kk : ∀ (H1 : Heap) (locs1 : List Loc), mOK E.1 A (mUp M a (.inr (ci, fs.set k v))) H1 → va_S A H0 H1 locs1 → W p l e R s m args below meth c H1 locs1 cells slots Q (F0 m (pc + 3) ls rest)) : W p l e R s m args below meth c H locs cells slots Q (F0 m pc ls (v :: .ref a :: rest)) := by
  obtain ⟨L, f, h1, hP, hD⟩ := hM
  obtain ⟨q0, hq⟩ := m_pl_get (f := f) ((h1 a _).mp ha).1
  rw [((h1 a _).mp ha).2] at hq
  exact va_putF hx hb hts hin ty0 hty hnm hown hE.1 hP hD hS q0 hq hc k hk hlink hsame hfin hin2 hdecl hd hn hfit hl hdg (fun H1 locs1 hP1 hD1 hS1 => kk H1 locs1 (mOK_set h1 ha hD hq hP1 hD1) hS1)
theorem m_iald (hx : p.tables.exec = Jvm.exec) (hb : c.code = cc) (hE : mE E s) (hM : mOK E.1 A M H) {n : Nat} {f : Nat → Int32} (ha : M a = some (mI E n f)) {i : Int32} (hin : vp_in i n) (hdg : decode cc pc = .ok (.iaload, 1))
    (kk : W p l e R s m args below meth c H locs cells slots Q (F0 m (pc + 1) ls (.int (f i.toNatClampNeg) :: rest))) : W p l e R s m args below meth c H locs cells slots Q (F0 m pc ls (.int i :: .ref a :: rest)) := by
  obtain ⟨ws, q0, hP, hq⟩ := hM.at ha
  exact va_iald hx hb hE.1 hP q0 0 hq rfl hin hdg kk
theorem m_zald (hx : p.tables.exec = Jvm.exec) (hb : c.code = cc) (hE : mE E s) (hM : mOK E.1 A M H) {n : Nat} {f : Nat → Int32} (ha : M a = some (mZ E n f)) {i : Int32} (hin : vp_in i n) (hdg : decode cc pc = .ok (.baload, 1))
    (kk : W p l e R s m args below meth c H locs cells slots Q (F0 m (pc + 1) ls (.int (f i.toNatClampNeg) :: rest))) : W p l e R s m args below meth c H locs cells slots Q (F0 m pc ls (.int i :: .ref a :: rest)) := by
  obtain ⟨ws, q0, hP, hq⟩ := hM.at ha
  exact va_zald hx hb hE.1 hP q0 3 hq rfl hin hdg kk
theorem m_lald (hx : p.tables.exec = Jvm.exec) (hb : c.code = cc) (hE : mE E s) (hM : mOK E.1 A M H) {n : Nat} {f : Nat → Int64} (ha : M a = some (mJ E n f)) {i : Int32} (hin : vp_in i n) (hdg : decode cc pc = .ok (.laload, 1))
    (kk : W p l e R s m args below meth c H locs cells slots Q (F0 m (pc + 1) ls (.long (f i.toNatClampNeg) :: rest))) : W p l e R s m args below meth c H locs cells slots Q (F0 m pc ls (.int i :: .ref a :: rest)) := by
  obtain ⟨ws, q0, hP, hq⟩ := hM.at ha
  exact va_lald hx hb hE.1 hP q0 1 hq rfl hin hdg kk
theorem m_dald (hx : p.tables.exec = Jvm.exec) (hb : c.code = cc) (hE : mE E s) (hM : mOK E.1 A M H) {n : Nat} {f : Nat → UInt64} (ha : M a = some (mDb E n f)) {i : Int32} (hin : vp_in i n) (hdg : decode cc pc = .ok (.daload, 1))
    (kk : W p l e R s m args below meth c H locs cells slots Q (F0 m (pc + 1) ls (.double (f i.toNatClampNeg) :: rest))) : W p l e R s m args below meth c H locs cells slots Q (F0 m pc ls (.int i :: .ref a :: rest)) := by
  obtain ⟨ws, q0, hP, hq⟩ := hM.at ha
  exact va_dald hx hb hE.1 hP q0 2 hq rfl hin hdg kk
/-- of an array of references; t: its place among the array classes -/
theorem m_qald (hx : p.tables.exec = Jvm.exec) (hb : c.code = cc) (hE : mE E s) (hM : mOK E.1 A M H) (t : Nat) {C : String} {n : Nat} {f : Nat → Option Nat} (ha : M a = some (mQ E t n f)) (ht : (mTys E)[t]? = some (E.2 t, .object C)) {i : Int32} (hin : vp_in i n) {r : Option Nat} (hr : f i.toNatClampNeg = r) (hdg : decode cc pc = .ok (.aaload, 1))
    (kk : W p l e R s m args below meth c H locs cells slots Q (F0 m (pc + 1) ls (va_rf r :: rest))) : W p l e R s m args below meth c H locs cells slots Q (F0 m pc ls (.int i :: .ref a :: rest)) := by
  obtain ⟨ws, q0, hP, hq⟩ := hM.at ha
  subst hr
  exact va_aldq hx hb hE.1 hP q0 t hq ht hin hdg kk
theorem m_alenD (hx : p.tables.exec = Jvm.exec) (hb : c.code = cc) (hE : mE E s) (hM : mOK E.1 A M H) {n : Nat} {f : Nat → UInt64} (ha : M a = some (mDb E n f)) (hdg : decode cc pc = .ok (.arraylength, 1))
    (kk : W p l e R s m args below meth c H locs cells slots Q (F0 m (pc + 1) ls (.int (nI n) :: rest))) : W p l e R s m args below meth c H locs cells slots Q (F0 m pc ls (.ref a :: rest)) := by
  obtain ⟨ws, q0, hP, hq⟩ := hM.at ha
  exact va_alen hx hb hE.1 hP q0 2 hq rfl rfl hdg kk
theorem m_iast (hx : p.tables.exec = Jvm.exec) (hb : c.code = cc) (hE : mE E s) (hM : mOK E.1 A M H) (hS : va_S A H0 H locs) {n : Nat} {f : Nat → Int32} (ha : M a = some (mI E n f)) {i x : Int32} (hin : vp_in i n) (hdg : decode cc pc = .ok (.iastore, 1))
    (kk : ∀ (H1 : Heap) (locs1 : List Loc), mOK E.1 A (mUp M a (mI E n (upd f i.toNatClampNeg x))) H1 → va_S A H0 H1 locs1 → W p l e R s m args below meth c H1 locs1 cells slots Q (F0 m (pc + 1) ls rest)) : W p l e R s m args below meth c H locs cells slots Q (F0 m pc ls (.int x :: .int i :: .ref a :: rest)) := by
  obtain ⟨L, f', h1, hP, hD⟩ := hM
  obtain ⟨q0, hq⟩ := m_pl_get (f := f') ((h1 a _).mp ha).1
  rw [((h1 a _).mp ha).2] at hq
  exact va_iast hx hb hE.1 hP hD hS q0 0 hq rfl hin hdg (fun H1 locs1 hP1 hD1 hS1 => kk H1 locs1 (mOK_set h1 ha hD hq hP1 hD1) hS1)
theorem m_zast (hx : p.tables.exec = Jvm.exec) (hb : c.code = cc) (hE : mE E s) (hM : mOK E.1 A M H) (hS : va_S A H0 H locs) {n : Nat} {f : Nat → Int32} (ha : M a = some (mZ E n f)) {i x : Int32} (hin : vp_in i n) (hdg : decode cc pc = .ok (.bastore, 1))
    (kk : ∀ (H1 : Heap) (locs1 : List Loc), mOK E.1 A (mUp M a (mZ E n (upd f i.toNatClampNeg (vp_nar .boolean x)))) H1 → va_S A H0 H1 locs1 → W p l e R s m args below meth c H1 locs1 cells slots Q (F0 m (pc + 1) ls rest)) : W p l e R s m args below meth c H locs cells slots Q (F0 m pc ls (.int x :: .int i :: .ref a :: rest)) := by
  obtain ⟨L, f', h1, hP, hD⟩ := hM
  obtain ⟨q0, hq⟩ := m_pl_get (f := f') ((h1 a _).mp ha).1
  rw [((h1 a _).mp ha).2] at hq
  exact va_zast hx hb hE.1 hP hD hS q0 3 hq rfl hin hdg (fun H1 locs1 hP1 hD1 hS1 => kk H1 locs1 (mOK_set h1 ha hD hq hP1 hD1) hS1)
theorem m_last (hx : p.tables.exec = Jvm.exec) (hb : c.code = cc) (hE : mE E s) (hM : mOK E.1 A M H) (hS : va_S A H0 H locs) {n : Nat} {f : Nat → Int64} (ha : M a = some (mJ E n f)) {i : Int32} {x : Int64} (hin : vp_in i n) (hdg : decode cc pc = .ok (.lastore, 1))
    (kk : ∀ (H1 : Heap) (locs1 : List Loc), mOK E.1 A (mUp M a (mJ E n (vp_updL f i.toNatClampNeg x))) H1 → va_S A H0 H1 locs1 → W p l e R s m args below meth c H1 locs1 cells slots Q (F0 m (pc + 1) ls rest)) : W p l e R s m args below meth c H locs cells slots Q (F0 m pc ls (.long x :: .int i :: .ref a :: rest)) := by
  obtain ⟨L, f', h1, hP, hD⟩ := hM
  obtain ⟨q0, hq⟩ := m_pl_get (f := f') ((h1 a _).mp ha).1
  rw [((h1 a _).mp ha).2] at hq
  exact va_last hx hb hE.1 hP hD hS q0 1 hq rfl hin hdg (fun H1 locs1 hP1 hD1 hS1 => kk H1 locs1 (mOK_set h1 ha hD hq hP1 hD1) hS1)
end MM
end
section
theorem m_K1 {E : mEnv} {s : State} {ty : FieldType} {cA : ClassId} {t : Nat} {cB : ClassId} (hK : va_K E.1 vwCl (mTys E ++ [(cA, ty)]) s) (ht : (mTys E)[t]? = some (cB, ty)) (hlt : t < (mTys E).length) : cA = cB := by
  have h1 := (hK.2 t (cB, ty) (by rw [List.getElem?_append_left hlt]; exact ht)).2
  have h2 := (hK.2 (mTys E).length (cA, ty) (by simp)).2
  cases ty with
  | object C =>
    obtain ⟨_, _, _, _, _, g1⟩ := h1
    obtain ⟨_, _, _, _, _, g2⟩ := h2
    exact Option.some.inj (g2.symm.trans g1)
  | _ => exact Option.some.inj (Eq.trans (Eq.symm h2) h1)
section MN
variable {p : Program} {l : Launch} {e : Env} {R : Room} {s : State} {m : MethodId} {args : Array Value} {below : List Frame} {meth : Method} {c : Code} {H : Heap} {locs : List Loc} {cells slots : Nat} {Q : State → Prop}
variable {cc : ByteArray} {pc : Nat} {ls : Array Slot} {rest st0 : List Value} {E : mEnv} {A : Nat → Prop} {a : Nat} {H0 : Heap} {M : mMem} {mc ms : Nat} {a0 : Array Value}
theorem m_dast (hx : p.tables.exec = Jvm.exec) (hb : c.code = cc) (hE : mE E s) (hM : mOK E.1 A M H) (hS : va_S A H0 H locs) {n : Nat} {f : Nat → UInt64} (ha : M a = some (mDb E n f)) {i : Int32} {x : UInt64} (hin : vp_in i n) (hdg : decode cc pc = .ok (.dastore, 1))
    (kk : ∀ (H1 : Heap) (locs1 : List Loc), mOK E.1 A (mUp M a (mDb E n (vf_upd f i.toNatClampNeg x))) H1 → va_S A H0 H1 locs1 → W p l e R s m args below meth c H1 locs1 cells slots Q (F0 m (pc + 1) ls rest)) : W p l e R s m args below meth c H locs cells slots Q (F0 m pc ls (.double x :: .int i :: .ref a :: rest)) := by
  obtain ⟨L, f', h1, hP, hD⟩ := hM
  obtain ⟨q0, hq⟩ := m_pl_get (f := f') ((h1 a _).mp ha).1
  rw [((h1 a _).mp ha).2] at hq
  exact va_dast hx hb hE.1 hP hD hS q0 2 hq rfl hin hdg (fun H1 locs1 hP1 hD1 hS1 => kk H1 locs1 (mOK_set h1 ha hD hq hP1 hD1) hS1)
/-- a reference stored into an array of its own class -/
theorem m_qast (hx : p.tables.exec = Jvm.exec) (hb : c.code = cc) (hE : mE E s) (hM : mOK E.1 A M H) (hS : va_S A H0 H locs) (t : Nat) {ci n v : Nat} {r : vw_C} {vs : List Value} {f : Nat → Option Nat} (ha : M a = some (mQ E t n f)) (ht : (mTys E)[t]? = some (E.2 t, .object r.1)) (hv : M v = some (.inr (ci, vs))) (hc : vwCl[ci]? = some r) {i : Int32} (hin : vp_in i n) (hdg : decode cc pc = .ok (.aastore, 1))
    (kk : ∀ (H1 : Heap) (locs1 : List Loc), mOK E.1 A (mUp M a (mQ E t n (va_up f i.toNatClampNeg (some v)))) H1 → va_S A H0 H1 locs1 → W p l e R s m args below meth c H1 locs1 cells slots Q (F0 m (pc + 1) ls rest)) : W p l e R s m args below meth c H locs cells slots Q (F0 m pc ls (.ref v :: .int i :: .ref a :: rest)) := by
  obtain ⟨L, f', h1, hP, hD⟩ := hM
  obtain ⟨q0, hq⟩ := m_pl_get (f := f') ((h1 a _).mp ha).1
  rw [((h1 a _).mp ha).2] at hq
  obtain ⟨q1, hq1⟩ := m_pl_get (f := f') ((h1 v _).mp hv).1
  rw [((h1 v _).mp hv).2] at hq1
  exact va_astq hx hb hE.1 hP hD hS q0 t q1 ci hq ht hq1 hc hin hdg (fun H1 locs1 hP1 hD1 hS1 => kk H1 locs1 (mOK_set h1 ha hD hq hP1 hD1) hS1)
/-- a reference stored into an array of a class that its own can be cast to -/
theorem m_qastO (hx : p.tables.exec = Jvm.exec) (hb : c.code = cc) (hE : mE E s) (hM : mOK E.1 A M H) (hS : va_S A H0 H locs) (t : Nat) {B : String} {ci n v : Nat} {r : vw_C} {vs : List Value} {f : Nat → Option Nat} (ha : M a = some (mQ E t n f)) (ht : (mTys E)[t]? = some (E.2 t, .object B)) (hca : va_Nw (.castable r.1 B) s) (hv : M v = some (.inr (ci, vs))) (hc : vwCl[ci]? = some r) {i : Int32} (hin : vp_in i n) (hdg : decode cc pc = .ok (.aastore, 1))
    (kk : ∀ (H1 : Heap) (locs1 : List Loc), mOK E.1 A (mUp M a (mQ E t n (va_up f i.toNatClampNeg (some v)))) H1 → va_S A H0 H1 locs1 → W p l e R s m args below meth c H1 locs1 cells slots Q (F0 m (pc + 1) ls rest)) : W p l e R s m args below meth c H locs cells slots Q (F0 m pc ls (.ref v :: .int i :: .ref a :: rest)) := by
  obtain ⟨L, f', h1, hP, hD⟩ := hM
  obtain ⟨q0, hq⟩ := m_pl_get (f := f') ((h1 a _).mp ha).1
  rw [((h1 a _).mp ha).2] at hq
  obtain ⟨q1, hq1⟩ := m_pl_get (f := f') ((h1 v _).mp hv).1
  rw [((h1 v _).mp hv).2] at hq1
  exact va_astqO hx hb hE.1 hP hD hS q0 t q1 ci hq ht hca hq1 hc hin hdg (fun H1 locs1 hP1 hD1 hS1 => kk H1 locs1 (mOK_set h1 ha hD hq hP1 hD1) hS1)
theorem m_qastN (hx : p.tables.exec = Jvm.exec) (hb : c.code = cc) (hE : mE E s) (hM : mOK E.1 A M H) (hS : va_S A H0 H locs) (t : Nat) {B : String} {n : Nat} {f : Nat → Option Nat} (ha : M a = some (mQ E t n f)) (ht : (mTys E)[t]? = some (E.2 t, .object B)) {i : Int32} (hin : vp_in i n) (hdg : decode cc pc = .ok (.aastore, 1))
    (kk : ∀ (H1 : Heap) (locs1 : List Loc), mOK E.1 A (mUp M a (mQ E t n (va_up f i.toNatClampNeg none))) H1 → va_S A H0 H1 locs1 → W p l e R s m args below meth c H1 locs1 cells slots Q (F0 m (pc + 1) ls rest)) : W p l e R s m args below meth c H locs cells slots Q (F0 m pc ls (.null :: .int i :: .ref a :: rest)) := by
  obtain ⟨L, f', h1, hP, hD⟩ := hM
  obtain ⟨q0, hq⟩ := m_pl_get (f := f') ((h1 a _).mp ha).1
  rw [((h1 a _).mp ha).2] at hq
  exact va_astqN hx hb hE.1 hP hD hS q0 t hq ht hin hdg (fun H1 locs1 hP1 hD1 hS1 => kk H1 locs1 (mOK_set h1 ha hD hq hP1 hD1) hS1)
theorem m_new (hx : p.tables.exec = Jvm.exec) (hb : c.code = cc) {own C : String} {T : u_T} {N ci index : Nat} {Ts : List Cond} (hts : ∀ w ∈ Ts, w.before args s = true) (hin : ∀ w ∈ u_ws C T N, w ∈ Ts) (ty : Nat → FieldType) (hty : ∀ k, k < N → parseFieldDescriptor (T k).2.2.1 = some (ty k)) (hown : s.vm.findClass own = some m.cls) (hcl : (Cond.classLink own index C).before args s = true) (hinst : (Cond.instantiable C N).before args s = true) (hini : (Cond.initialized C).before args s = true)
    (hE : mE E s) (hM : mOK E.1 A M H) (hS : va_S A H0 H locs) (hA : ∀ q : Nat, H0.size ≤ q → A q) (hc : vwCl[ci]? = some (C, T, N)) {fs : List Value} (hfs : ∀ j, j < N → defaultValue (ty j) = vp_V fs j) (hcells : cells + 1 ≤ R.cells) (hslots : slots + N ≤ R.slots) (hdg : decode cc pc = .ok (.new index, 3))
    (kk : ∀ (q : Nat) (H1 : Heap), M q = none → mOK E.1 A (mUp M q (.inr (ci, fs))) H1 → va_S A H0 H1 locs → W p l e R s m args below meth c H1 locs (cells + 1) (slots + N) Q (F0 m (pc + 3) ls (.ref q :: rest))) : W p l e R s m args below meth c H locs cells slots Q (F0 m pc ls rest) := by
  obtain ⟨L, f', h1, hP, hD⟩ := hM
  exact va_new hx hb hts hin ty hty hown hcl hinst hini hE.1 hP hD hS hA hc hfs hcells hslots hdg (fun q H1 hP1 hD1 hS1 => kk q H1 (mOK_push h1 hP1 hD1).2 (mOK_push h1 hP1 hD1).1 hS1)
/-- a new array of numbers; t: its place among the array classes -/
theorem m_newa (hx : p.tables.exec = Jvm.exec) (hb : c.code = cc) {atype : ArrayType} (harr : (Cond.arrayClass (newarray.typeOf atype)).before args s = true) {ty : FieldType} (hty : newarray.typeOf atype = ty) (hE : mE E s) (hM : mOK E.1 A M H) (hS : va_S A H0 H locs) (hA : ∀ q : Nat, H0.size ≤ q → A q) (t : Nat) (htl : t < (mTys E).length) (ht : (mTys E)[t]? = some (E.2 t, ty))
    {n : Int32} {N' : Nat} {x0 : vp_A} (ha : ∀ cA : ClassId, vp_cell cA x0 = arrV cA N' (fun _ => defaultValue ty)) (hn : ¬ n < 0) (hN : n.toNatClampNeg = N') (hbytes : N' * componentBytes ty ≤ 536870912) (hcells : cells + 1 ≤ R.cells) (hslots : slots + N' ≤ R.slots) (hdg : decode cc pc = .ok (.newarray atype, 2))
    (kk : ∀ (q : Nat) (H1 : Heap), M q = none → mOK E.1 A (mUp M q (.inl (E.2 t, x0))) H1 → va_S A H0 H1 locs → W p l e R s m args below meth c H1 locs (cells + 1) (slots + N') Q (F0 m (pc + 2) ls (.ref q :: rest))) : W p l e R s m args below meth c H locs cells slots Q (F0 m pc ls (.int n :: rest)) := by
  obtain ⟨L, f', h1, hP, hD⟩ := hM
  refine va_newa hx hb harr hty hE.1 hP hD hS hA ha hn hN hbytes hcells hslots hdg (fun q cA H1 hK1 hP1 hD1 hS1 => ?_)
  have hc := m_K1 hK1 ht htl
  subst hc
  exact kk q H1 (mOK_push h1 hP1 hD1).2 (mOK_push h1 hP1 hD1).1 hS1
theorem m_newq (hx : p.tables.exec = Jvm.exec) (hb : c.code = cc) {own C : String} {index : Nat} (hown : s.vm.findClass own = some m.cls) (hclink : (Cond.classLink own index C).before args s = true) (hE : mE E s) (hC : C ∈ mNwA) (hM : mOK E.1 A M H) (hS : va_S A H0 H locs) (hA : ∀ q : Nat, H0.size ≤ q → A q) (t : Nat) (htl : t < (mTys E).length) (ht : (mTys E)[t]? = some (E.2 t, .object C))
    {n : Int32} {N' : Nat} (hn : ¬ n < 0) (hN : n.toNatClampNeg = N') (hbytes : N' * 4 ≤ 536870912) (hcells : cells + 1 ≤ R.cells) (hslots : slots + N' ≤ R.slots) (hdg : decode cc pc = .ok (.anewarray index, 3))
    (kk : ∀ (q : Nat) (H1 : Heap), M q = none → mOK E.1 A (mUp M q (mQ E t N' (fun _ => none))) H1 → va_S A H0 H1 locs → W p l e R s m args below meth c H1 locs (cells + 1) (slots + N') Q (F0 m (pc + 3) ls (.ref q :: rest))) : W p l e R s m args below meth c H locs cells slots Q (F0 m pc ls (.int n :: rest)) := by
  obtain ⟨L, f', h1, hP, hD⟩ := hM
  refine va_newq hx hb hown hclink (hE.2.2.2.2 C hC) hE.1 hP hD hS hA hn hN hbytes hcells hslots hdg (fun q cA H1 hK1 hP1 hD1 hS1 => ?_)
  have hc := m_K1 hK1 ht htl
  subst hc
  exact kk q H1 (mOK_push h1 hP1 hD1).2 (mOK_push h1 hP1 hD1).1 hS1
theorem m_cloneD (hx : p.tables.exec = Jvm.exec) (hb : c.code = cc) (hml : c.maxLocals = ls.size) {own : String} {index : Nat} (hown : s.vm.findClass own = some m.cls)
    (hlink : (Cond.methodLink own index ⟨"[D", "clone", "()Ljava/lang/Object;"⟩).before args s = true) (hsame : (Cond.sameMethod "[D" "java/lang/Object" "clone" "()Ljava/lang/Object;").before args s = true)
    (hnat : (Cond.native ⟨"java/lang/Object", "clone", "()Ljava/lang/Object;"⟩).before args s = true) (hinst : (Cond.instanceMethod ⟨"java/lang/Object", "clone", "()Ljava/lang/Object;"⟩).before args s = true)
    (hsel : (Cond.selects "[D" ⟨"[D", "clone", "()Ljava/lang/Object;"⟩ ⟨"java/lang/Object", "clone", "()Ljava/lang/Object;"⟩).before args s = true)
    (hE : mE E s) (hM : mOK E.1 A M H) (hS : va_S A H0 H locs) (hA : ∀ q : Nat, H0.size ≤ q → A q) {n : Nat} {f : Nat → UInt64} (ha : M a = some (mDb E n f))
    (hframes : 1 ≤ R.frames) (hlocals : (rest.map fun v => v.category).sum + 14 ≤ R.locals) (hcells : cells + 1 ≤ R.cells) (hslots : slots + n ≤ R.slots) (hdg : decode cc pc = .ok (.invokevirtual index, 3))
    (kk : ∀ (q : Nat) (H1 : Heap), M q = none → mOK E.1 A (mUp M q (mDb E n f)) H1 → va_S A H0 H1 locs → W p l e R s m args below meth c H1 locs (cells + 1) (slots + n) Q (F0 m (pc + 3) ls (.ref q :: rest))) : W p l e R s m args below meth c H locs cells slots Q (F0 m pc ls (.ref a :: rest)) := by
  obtain ⟨L, f', h1, hP, hD⟩ := hM
  obtain ⟨q0, hq⟩ := m_pl_get (f := f') ((h1 a _).mp ha).1
  rw [((h1 a _).mp ha).2] at hq
  refine va_clone (ad := "[D") hx hb hml hown hlink hsame hnat hinst hsel (hE.2.1 ("[D", "java/lang/Cloneable") (by decide)) hE.1 hP hD hS hA q0 2 hq rfl (va_nm_double (hE.1.2 2 (E.2 2, .double) rfl).2) (fun i v h => va_fit (ty := .double) (F := fun j => .double (f j)) (fun _ _ => rfl) i v h) hframes hlocals hcells hslots hdg (fun q H1 hK1 hP1 hD1 hS1 => kk q H1 (mOK_push h1 hP1 hD1).2 (mOK_push h1 hP1 hD1).1 hS1)
theorem m_castD (hx : p.tables.exec = Jvm.exec) (hb : c.code = cc) {own : String} {index : Nat} (hown : s.vm.findClass own = some m.cls) (hlink : (Cond.classLink own index "[D").before args s = true) (hE : mE E s) (hM : mOK E.1 A M H) {n : Nat} {f : Nat → UInt64} (ha : M a = some (mDb E n f)) (hdg : decode cc pc = .ok (.checkcast index, 3))
    (kk : W p l e R s m args below meth c H locs cells slots Q (F0 m (pc + 3) ls (.ref a :: rest))) : W p l e R s m args below meth c H locs cells slots Q (F0 m pc ls (.ref a :: rest)) := by
  obtain ⟨ws, q0, hP, hq⟩ := hM.at ha
  exact va_castA hx hb hown hlink hP q0 hq (va_nm_double (hE.1.2 2 (E.2 2, .double) rfl).2) hdg kk
theorem m_copyD (hx : p.tables.exec = Jvm.exec) (hb : c.code = cc) (hml : c.maxLocals = ls.size) {own : String} {index : Nat} (hown : s.vm.findClass own = some m.cls) (hlink : (Cond.methodLink own index arraycopyName).before args s = true) (hnat : (Cond.native arraycopyName).before args s = true) (hstat : (Cond.static arraycopyName).before args s = true) (hini : (Cond.initialized "java/lang/System").before args s = true)
    (hE : mE E s) (hM : mOK E.1 A M H) (hS : va_S A H0 H locs) {b n0 n1 : Nat} {f g : Nat → UInt64} (hb0 : M b = some (mDb E n0 f)) (ha : M a = some (mDb E n1 g))
    {sp dp n : Int32} (h1 : ¬ sp < 0) (h2 : ¬ dp < 0) (h3 : ¬ n < 0) (h4 : sp.toNatClampNeg + n.toNatClampNeg ≤ n0) (h5 : dp.toNatClampNeg + n.toNatClampNeg ≤ n1)
    (hframes : 1 ≤ R.frames) (hlocals : (rest.map fun v => v.category).sum + (nativeFrameWords "java/lang/System" "arraycopy" 5 + 11) ≤ R.locals) (hdg : decode cc pc = .ok (.invokestatic index, 3))
    (kk : ∀ (H1 : Heap) (locs1 : List Loc), mOK E.1 A (mUp M a (mDb E n1 (va_cpy f g sp.toNatClampNeg dp.toNatClampNeg n.toNatClampNeg))) H1 → va_S A H0 H1 locs1 → W p l e R s m args below meth c H1 locs1 cells slots Q (F0 m (pc + 3) ls rest)) : W p l e R s m args below meth c H locs cells slots Q (F0 m pc ls (.int n :: .int dp :: .ref a :: .int sp :: .ref b :: rest)) := by
  obtain ⟨L, f', k1, hP, hD⟩ := hM
  obtain ⟨q0, hq⟩ := m_pl_get (f := f') ((k1 b _).mp hb0).1
  rw [((k1 b _).mp hb0).2] at hq
  obtain ⟨q1, hq1⟩ := m_pl_get (f := f') ((k1 a _).mp ha).1
  rw [((k1 a _).mp ha).2] at hq1
  exact va_copyd hx hb hml hown hlink hnat hstat hini hE.1 hP hD hS q0 q1 2 2 hq hq1 rfl rfl rfl h1 h2 h3 h4 h5 (fun _ _ => rfl) hframes hlocals hdg (fun H1 locs1 hP1 hD1 hS1 => kk H1 locs1 (mOK_set k1 ha hD hq1 hP1 hD1) hS1)
/-- behind a call -/
theorem m_calli {post : Int32 → mMem → Prop} (hr : va_Run p l e R s m args below meth c H locs cells slots mc ms (F0 m pc ls st0) rest (mQi E M H.size post a0) (mA M H.size)) (hM : mOK E.1 A M H) (hS : va_S A H0 H locs) (hA : ∀ q : Nat, H0.size ≤ q → A q)
    (kk : ∀ (r : Int32) (u : mMem) (H1 : Heap) (locs1 : List Loc), post r u → mOK E.1 A u H1 → va_S A H0 H1 locs1 → W p l e R s m args below meth c H1 locs1 (cells + mc) (slots + ms) Q (F0 m (pc + 3) ls (.int r :: rest))) : W p l e R s m args below meth c H locs cells slots Q (F0 m pc ls st0) :=
  va_calli hr hS (fun q _ h => hM.free hS hA q h) (hM.free hS hA) (fun r u t H1 locs1 ht _ hw hB _ _ hS1 => kk r u H1 locs1 hw (by rw [← ht]; exact hB.to (fun q _ h => hM.free hS hA q h)) hS1)
theorem m_calll {post : Int64 → mMem → Prop} (hr : va_Run p l e R s m args below meth c H locs cells slots mc ms (F0 m pc ls st0) rest (mQl E M H.size post a0) (mA M H.size)) (hM : mOK E.1 A M H) (hS : va_S A H0 H locs) (hA : ∀ q : Nat, H0.size ≤ q → A q)
    (kk : ∀ (r : Int64) (u : mMem) (H1 : Heap) (locs1 : List Loc), post r u → mOK E.1 A u H1 → va_S A H0 H1 locs1 → W p l e R s m args below meth c H1 locs1 (cells + mc) (slots + ms) Q (F0 m (pc + 3) ls (.long r :: rest))) : W p l e R s m args below meth c H locs cells slots Q (F0 m pc ls st0) :=
  va_calll hr hS (fun q _ h => hM.free hS hA q h) (hM.free hS hA) (fun r u t H1 locs1 ht _ hw hB _ _ hS1 => kk r u H1 locs1 hw (by rw [← ht]; exact hB.to (fun q _ h => hM.free hS hA q h)) hS1)
theorem m_calld {post : UInt64 → mMem → Prop} (hr : va_Run p l e R s m args below meth c H locs cells slots mc ms (F0 m pc ls st0) rest (mQd E M H.size post a0) (mA M H.size)) (hM : mOK E.1 A M H) (hS : va_S A H0 H locs) (hA : ∀ q : Nat, H0.size ≤ q → A q)
    (kk : ∀ (r : UInt64) (u : mMem) (H1 : Heap) (locs1 : List Loc), post r u → mOK E.1 A u H1 → va_S A H0 H1 locs1 → W p l e R s m args below meth c H1 locs1 (cells + mc) (slots + ms) Q (F0 m (pc + 3) ls (.double r :: rest))) : W p l e R s m args below meth c H locs cells slots Q (F0 m pc ls st0) :=
  va_calld hr hS (fun q _ h => hM.free hS hA q h) (hM.free hS hA) (fun r u t H1 locs1 ht _ hw hB _ _ hS1 => kk r u H1 locs1 hw (by rw [← ht]; exact hB.to (fun q _ h => hM.free hS hA q h)) hS1)
theorem m_callv {post : mMem → Prop} (hr : va_Run p l e R s m args below meth c H locs cells slots mc ms (F0 m pc ls st0) rest (mQv E M H.size post a0) (mA M H.size)) (hM : mOK E.1 A M H) (hS : va_S A H0 H locs) (hA : ∀ q : Nat, H0.size ≤ q → A q)
    (kk : ∀ (u : mMem) (H1 : Heap) (locs1 : List Loc), post u → mOK E.1 A u H1 → va_S A H0 H1 locs1 → W p l e R s m args below meth c H1 locs1 (cells + mc) (slots + ms) Q (F0 m (pc + 3) ls rest)) : W p l e R s m args below meth c H locs cells slots Q (F0 m pc ls st0) :=
  va_callv hr hS (fun q _ h => hM.free hS hA q h) (hM.free hS hA) (fun u t H1 locs1 ht _ hw hB _ _ hS1 => kk u H1 locs1 hw (by rw [← ht]; exact hB.to (fun q _ h => hM.free hS hA q h)) hS1)
theorem m_callq {post : Option Nat → mMem → Prop} (hr : va_Run p l e R s m args below meth c H locs cells slots mc ms (F0 m pc ls st0) rest (mQq E M H.size post a0) (mA M H.size)) (hM : mOK E.1 A M H) (hS : va_S A H0 H locs) (hA : ∀ q : Nat, H0.size ≤ q → A q)
    (kk : ∀ (r : Option Nat) (u : mMem) (H1 : Heap) (locs1 : List Loc), post r u → mOK E.1 A u H1 → va_S A H0 H1 locs1 → W p l e R s m args below meth c H1 locs1 (cells + mc) (slots + ms) Q (F0 m (pc + 3) ls (va_rf r :: rest))) : W p l e R s m args below meth c H locs cells slots Q (F0 m pc ls st0) :=
  va_callq hr hS (fun q _ h => hM.free hS hA q h) (hM.free hS hA) (fun r u t H1 locs1 ht _ hw hB _ _ hS1 => kk r u H1 locs1 hw (by rw [← ht]; exact hB.to (fun q _ h => hM.free hS hA q h)) hS1)
/-- the ends -/
theorem m_iret {M0 : mMem} {sz : Nat} {post : Int32 → mMem → Prop} {v : Int32} (hx : p.tables.exec = Jvm.exec) (hb : c.code = cc) (hr : meth.sig.returnType = some .int) (hlocks : meth.locks = false) (hM : mOK E.1 (mA M0 sz) M H) (hS : va_S (mA M0 sz) s.heap H locs) (h1 : cells ≤ mc) (h2 : slots ≤ ms) (hdg : decode cc pc = .ok (.ireturn, 1)) (hp : post v M) :
    W p l e R s m args below meth c H locs cells slots (MQ below (mQi E M0 sz post) args s mc ms (mA M0 sz)) (F0 m pc ls [.int v]) :=
  W.widen h1 h2 (W.iret hx hb hr (fun t ht _ => ⟨⟨v, M, rfl, hp, by show mOK _ _ _ t.heap; rw [ht]; exact hM⟩, hS.F ht⟩) hS.2.2 hdg hlocks)
theorem m_zret {M0 : mMem} {sz : Nat} {post : Int32 → mMem → Prop} {v : Int32} (hx : p.tables.exec = Jvm.exec) (hb : c.code = cc) (hr : meth.sig.returnType = some .boolean) (hlocks : meth.locks = false) (hM : mOK E.1 (mA M0 sz) M H) (hS : va_S (mA M0 sz) s.heap H locs) (h1 : cells ≤ mc) (h2 : slots ≤ ms) (hdg : decode cc pc = .ok (.ireturn, 1)) (hv : v = 0 ∨ v = 1) (hp : post v M) :
    W p l e R s m args below meth c H locs cells slots (MQ below (mQi E M0 sz post) args s mc ms (mA M0 sz)) (F0 m pc ls [.int v]) :=
  W.widen h1 h2 (W.zret hx hb hr (by rcases hv with rfl | rfl <;> decide) (fun t ht _ => ⟨⟨v, M, rfl, hp, by show mOK _ _ _ t.heap; rw [ht]; exact hM⟩, hS.F ht⟩) hS.2.2 hdg hlocks)
theorem m_lret {M0 : mMem} {sz : Nat} {post : Int64 → mMem → Prop} {v : Int64} (hx : p.tables.exec = Jvm.exec) (hb : c.code = cc) (hr : meth.sig.returnType = some .long) (hlocks : meth.locks = false) (hM : mOK E.1 (mA M0 sz) M H) (hS : va_S (mA M0 sz) s.heap H locs) (h1 : cells ≤ mc) (h2 : slots ≤ ms) (hdg : decode cc pc = .ok (.lreturn, 1)) (hp : post v M) :
    W p l e R s m args below meth c H locs cells slots (MQ below (mQl E M0 sz post) args s mc ms (mA M0 sz)) (F0 m pc ls [.long v]) :=
  W.widen h1 h2 (W.lret hx hb hr (fun t ht _ => ⟨⟨v, M, rfl, hp, by show mOK _ _ _ t.heap; rw [ht]; exact hM⟩, hS.F ht⟩) hS.2.2 hdg hlocks)
theorem m_dret {M0 : mMem} {sz : Nat} {post : UInt64 → mMem → Prop} {v : UInt64} (hx : p.tables.exec = Jvm.exec) (hb : c.code = cc) (hr : meth.sig.returnType = some .double) (hlocks : meth.locks = false) (hM : mOK E.1 (mA M0 sz) M H) (hS : va_S (mA M0 sz) s.heap H locs) (h1 : cells ≤ mc) (h2 : slots ≤ ms) (hdg : decode cc pc = .ok (.dreturn, 1)) (hp : post v M) :
    W p l e R s m args below meth c H locs cells slots (MQ below (mQd E M0 sz post) args s mc ms (mA M0 sz)) (F0 m pc ls [.double v]) :=
  W.widen h1 h2 (W.dret hx hb hr (fun t ht _ => ⟨⟨v, M, rfl, hp, by show mOK _ _ _ t.heap; rw [ht]; exact hM⟩, hS.F ht⟩) hS.2.2 hdg hlocks)
theorem m_vret {M0 : mMem} {sz : Nat} {post : mMem → Prop} (hx : p.tables.exec = Jvm.exec) (hb : c.code = cc) (hr : meth.sig.returnType = none) (hlocks : meth.locks = false) (hM : mOK E.1 (mA M0 sz) M H) (hS : va_S (mA M0 sz) s.heap H locs) (h1 : cells ≤ mc) (h2 : slots ≤ ms) (hdg : decode cc pc = .ok (.return_, 1)) (hp : post M) :
    W p l e R s m args below meth c H locs cells slots (MQ below (mQv E M0 sz post) args s mc ms (mA M0 sz)) (F0 m pc ls []) :=
  W.widen h1 h2 (W.vret hx hb hr (fun t ht _ => ⟨⟨M, rfl, hp, by show mOK _ _ _ t.heap; rw [ht]; exact hM⟩, hS.F ht⟩) hS.2.2 hdg hlocks)
theorem m_qret {M0 : mMem} {sz : Nat} {post : Option Nat → mMem → Prop} {C : String} (v : Option Nat) (hx : p.tables.exec = Jvm.exec) (hb : c.code = cc) (hr : meth.sig.returnType = some (.object C)) (hlocks : meth.locks = false) (hM : mOK E.1 (mA M0 sz) M H) (hS : va_S (mA M0 sz) s.heap H locs) (h1 : cells ≤ mc) (h2 : slots ≤ ms) (hdg : decode cc pc = .ok (.areturn, 1)) (hp : post v M) :
    W p l e R s m args below meth c H locs cells slots (MQ below (mQq E M0 sz post) args s mc ms (mA M0 sz)) (F0 m pc ls [va_rf v]) :=
  W.widen h1 h2 (W.aret hx hb hr (Or.inl ⟨C, rfl⟩) (by cases v <;> simp [va_rf]) (fun t ht _ => ⟨⟨v, M, rfl, hp, by show mOK _ _ _ t.heap; rw [ht]; exact hM⟩, hS.F ht⟩) hS.2.2 hdg hlocks)
end MN
end
section
/-! FLOATS: what is no NaN, and how great it may be -/
theorem n64_of {r : UInt64} (h : FP.dIsNaN r = false) : vf_n64 r := by
  have h1 : ¬ (FP.Core.dIsNaN r = true) := by rw [show FP.Core.dIsNaN r = false from h]; decide
  rw [FP.Core.isNaN_bits] at h1
  show r &&& 0x7fffffffffffffff ≤ 0x7ff0000000000000
  rw [UInt64.le_iff_toNat_le, FP.Core.mask_toNat]
  have : (0x7ff0000000000000 : UInt64).toNat = 9218868437227405312 := by decide
  omega
theorem n32_of {r : UInt32} (h : FP.fIsNaN r = false) : vf_n32 r := by
  have h1 : ¬ (FP.Core.fIsNaN r = true) := by rw [show FP.Core.fIsNaN r = false from h]; decide
  rw [FP.Core.isNaN_bits32] at h1
  show r &&& 0x7fffffff ≤ 0x7f800000
  rw [UInt32.le_iff_toNat_le, FP.Core.mask_toNat32]
  have : (0x7f800000 : UInt32).toNat = 2139095040 := by decide
  omega
/-- a double below 2 to the (K - 1023)rd -/
def dB (K : Nat) (x : UInt64) : Prop := x.toNat % 2 ^ 63 < K * 2 ^ 52
theorem dB.fin {K : Nat} {x : UInt64} (h : dB K x) (hK : K ≤ 2047) : FP.Core.DFin x := FP.Core.fin_of_lt h hK
theorem dB.le {K L : Nat} {x : UInt64} (h : dB K x) (hK : K ≤ L) : dB L x := Nat.lt_of_lt_of_le h (Nat.mul_le_mul_right _ hK)
theorem dB_i2d (v : Int32) : dB 1056 (FP.i2d v) := FP.Core.i2d_mag v
theorem dB_mul {a b : UInt64} {K L : Nat} (ha : dB K a) (hb : dB L b) (hK : K ≤ 2047) (hL : L ≤ 2047) : dB (K + L - 1025 + 3) (FP.dmul a b) := FP.Core.dmul_mag ha hb hK hL
theorem dB_add {a b : UInt64} {K : Nat} (ha : dB K a) (hb : dB K b) (hK : K ≤ 2047) : dB (K + 2) (FP.dadd a b) := FP.Core.dadd_mag ha hb hK
theorem nn_mul {a b : UInt64} (ha : FP.Core.DFin a) (hb : FP.Core.DFin b) : vf_n64 (FP.dmul a b) := n64_of (FP.Core.dmul_out ha hb)
theorem nn_add {a b : UInt64} (ha : FP.Core.DFin a) (hb : FP.Core.DFin b) : vf_n64 (FP.dadd a b) := n64_of (FP.Core.dadd_out ha.notNaN hb)
theorem nn_div {a b : UInt64} (ha : FP.Core.DFin a) (hb : FP.Core.DFin b) (hz : ¬ FP.Core.DZero b) : vf_n64 (FP.ddiv a b) := n64_of (FP.Core.ddiv_out ha.notNaN hb hz)
theorem fin_i2d (v : Int32) : FP.Core.DFin (FP.i2d v) := FP.Core.i2d_fin v
theorem fin_0 : FP.Core.DFin 0 := FP.Core.fin_of_lt (K := 1) (by decide) (by decide)
theorem fin_2 : FP.Core.DFin 4611686018427387904 := FP.Core.fin_of_lt (K := 1025) (by decide) (by decide)
theorem fin_m1 : FP.Core.DFin 13830554455654793216 := FP.Core.fin_of_lt (K := 1024) (by decide) (by decide)
theorem fin_1000 : FP.Core.DFin 4652007308841189376 := FP.Core.fin_of_lt (K := 1033) (by decide) (by decide)
theorem nz_1000 : ¬ FP.Core.DZero 4652007308841189376 := by rw [FP.Core.zero_bits2]; decide
/-- a level: at most 127 -/
def dL (x : UInt64) : Prop := x.toNat % 2 ^ 63 ≤ 4638637247447433216
theorem dL.b {x : UInt64} (h : dL x) : dB 1030 x := by unfold dL at h; unfold dB; omega
theorem dL_0 : dL 0 := by unfold dL; decide
set_option maxRecDepth 100000 in
theorem dL_all : ∀ k : Fin 128, (FP.i2d (nI k.val)).toNat % 2 ^ 63 ≤ 4638637247447433216 := by decide +kernel
theorem dL_pitch {p : Int32} (h0 : ¬ p < 0) (h1 : p ≤ 127) : dL (FP.i2d p) := by
  obtain ⟨j, hj, rfl⟩ := nI_of2 (M := 127) (n := 127) (by decide) h0 h1
  exact dL_all ⟨j, by omega⟩
theorem unitsOf_127 : FP.Core.unitsOf FP.Core.b64 4638637247447433216 = 127 * 2 ^ 1074 := by decide +kernel
theorem unitsOf_127000 : FP.Core.unitsOf FP.Core.b64 4683463786756046848 = 127000 * 2 ^ 1074 := by decide +kernel
theorem val_1000 : FP.Core.val64 4652007308841189376 = .fin false 8796093022208000 (-43) := by decide +kernel
theorem zmag_i2d (v : Int32) : FP.Core.zmag FP.Core.b64 (FP.Core.val64 (FP.i2d v)) = v.toInt.natAbs * 2 ^ 1074 := by
  have h := FP.Core.DInt_zval (FP.Core.i2d_int v)
  have h2 : FP.Core.zval FP.Core.b64 (FP.Core.val64 (FP.i2d v)) = FP.Core.signed (FP.Core.sgn (FP.Core.val64 (FP.i2d v))) (FP.Core.zmag FP.Core.b64 (FP.Core.val64 (FP.i2d v))) := rfl
  have h3 := congrArg Int.natAbs (h2.symm.trans h)
  rw [FP.Core.natAbs_signed, Int.natAbs_mul, Int.natAbs_natCast] at h3
  exact h3
/-- the level's step: it stays a level -/
theorem dL_mul {x : UInt64} {k : Int32} (hx : dL x) (hk : k.toInt.natAbs ≤ 1000) : (FP.dmul x (FP.i2d k)).toNat % 2 ^ 63 ≤ 4683463786756046848 := by
  obtain ⟨s, c, q, x1, x2, x3⟩ := FP.Core.fin_of_mag FP.Core.good_b64 (n := x.toNat) (by rw [FP.Core.mag_toNat64, FP.Core.infBits_b64]; unfold dL at hx; omega)
  obtain ⟨t, d, r, y1⟩ := FP.Core.i2d_fin k
  have y2 : FP.Core.fits FP.Core.b64 (.fin t d r) := y1 ▸ FP.Core.val64_fits (FP.i2d k)
  have y3 : FP.Core.zmag FP.Core.b64 (.fin t d r) = k.toInt.natAbs * 2 ^ 1074 := by rw [← y1]; exact zmag_i2d k
  obtain ⟨p1, p2, p3⟩ := FP.Core.product_units x2 y2
  have hd : FP.Core.decode FP.Core.b64 (FP.dmul x (FP.i2d k)).toNat = FP.Core.roundRatio FP.Core.b64 (s != t) (c * d) 1 (q + r) := by
    have h1 := FP.Core.val64_dmul x (FP.i2d k)
    rw [show FP.Core.val64 x = .fin s c q from x1, show FP.Core.val64 (FP.i2d k) = .fin t d r from y1, p1] at h1
    exact h1
  have := FP.Core.mag_le FP.Core.good_b64 (m := 4683463786756046848) hd (by decide) (e0 := 2 * FP.Core.b64.qmin) (by decide) p2 ?_
  · rw [FP.Core.mag_toNat64] at this
    exact this
  · rw [p3, x3, y3, unitsOf_127000, FP.Core.mag_toNat64, Nat.mul_one]
    have hu : FP.Core.unitsOf FP.Core.b64 (x.toNat % 2 ^ 63) ≤ 127 * 2 ^ 1074 := by
      rw [← unitsOf_127]
      exact FP.Core.unitsOf_le_iff.mpr hx
    have e1 : (FP.Core.b64.qmin - 2 * FP.Core.b64.qmin).toNat = 1074 := by decide
    rw [e1]
    calc FP.Core.unitsOf FP.Core.b64 (x.toNat % 2 ^ 63) * (k.toInt.natAbs * 2 ^ 1074) ≤ (127 * 2 ^ 1074) * (1000 * 2 ^ 1074) := Nat.mul_le_mul hu (Nat.mul_le_mul_right _ hk)
      _ = 127000 * 2 ^ 1074 * 2 ^ 1074 := by decide +kernel
theorem dL_div {y : UInt64} (hy : y.toNat % 2 ^ 63 ≤ 4683463786756046848) : dL (FP.ddiv y 4652007308841189376) := by
  obtain ⟨s, c, q, x1, x2, x3⟩ := FP.Core.fin_of_mag FP.Core.good_b64 (n := y.toNat) (by rw [FP.Core.mag_toNat64, FP.Core.infBits_b64]; omega)
  have hd : FP.Core.decode FP.Core.b64 (FP.ddiv y 4652007308841189376).toNat = FP.Core.roundRatio FP.Core.b64 (s != false) c 8796093022208000 (q - (-43)) := by
    have h1 := FP.Core.val64_ddiv y 4652007308841189376
    rw [show FP.Core.val64 y = .fin s c q from x1, val_1000] at h1
    exact h1
  have hq := x2.2.1
  have := FP.Core.mag_le FP.Core.good_b64 (m := 4638637247447433216) hd (by decide) (e0 := FP.Core.b64.qmin) (Int.le_refl _) (by have := FP.Core.qmin_b64; omega) ?_
  · rw [FP.Core.mag_toNat64] at this
    exact this
  · have hu : FP.Core.unitsOf FP.Core.b64 (y.toNat % 2 ^ 63) ≤ 127000 * 2 ^ 1074 := by
      rw [← unitsOf_127000]
      exact FP.Core.unitsOf_le_iff.mpr hy
    rw [unitsOf_127]
    rw [FP.Core.mag_toNat64] at x3
    rw [← x3] at hu
    have e2 : FP.Core.inUnits c (q - (-43)) FP.Core.b64.qmin = FP.Core.zmag FP.Core.b64 (.fin s c q) * 2 ^ 43 := by
      show c * 2 ^ (q - (-43) - FP.Core.b64.qmin).toNat = c * 2 ^ (q - FP.Core.b64.qmin).toNat * 2 ^ 43
      rw [show (q - (-43) - FP.Core.b64.qmin).toNat = (q - FP.Core.b64.qmin).toNat + 43 by omega, Nat.pow_add, Nat.mul_assoc]
    rw [e2, Int.sub_self]
    calc FP.Core.zmag FP.Core.b64 (.fin s c q) * 2 ^ 43 ≤ 127000 * 2 ^ 1074 * 2 ^ 43 := Nat.mul_le_mul_right _ hu
      _ = 127 * 2 ^ 1074 * 2 ^ (0 : Int).toNat * 8796093022208000 := by decide +kernel
theorem dL_step {x : UInt64} {k : Int32} (hx : dL x) (hk : k.toInt.natAbs ≤ 1000) : dL (FP.ddiv (FP.dmul x (FP.i2d k)) 4652007308841189376) := dL_div (dL_mul hx hk)
theorem div1000 {k : Int32} (hk : ¬ k = 0) : ((1000 : Int32) / k).toInt.natAbs ≤ 1000 := by
  rw [Int32.toInt_div]
  have h : ((1000 : Int32).toInt.tdiv k.toInt).natAbs ≤ 1000 := by
    rw [Int.natAbs_tdiv]
    exact Nat.div_le_self _ _
  generalize (1000 : Int32).toInt.tdiv k.toInt = z at h ⊢
  have h1 : -1000 ≤ z ∧ z ≤ 1000 := by omega
  rw [Int.bmod_eq_of_le (by omega) (by omega)]
  exact h
end
section
/-! DOUBLES BY THEIR UNITS: m is u times 2 to the -1074th, and not negative -/
def dU (m : UInt64) (u : Nat) : Prop := ∃ (c : Nat) (q : Int), FP.Core.val64 m = .fin false c q ∧ FP.Core.inUnits c q FP.Core.b64.qmin = u
theorem pow_cross {c t a k x y : Nat} (h : c * 2 ^ a = t * 2 ^ k) (hxy : x + k = y + a) : c * 2 ^ x = t * 2 ^ y := by
  have h1 : c * 2 ^ x * 2 ^ a = t * 2 ^ y * 2 ^ a := by
    calc c * 2 ^ x * 2 ^ a = c * 2 ^ a * 2 ^ x := Nat.mul_right_comm _ _ _
      _ = t * 2 ^ k * 2 ^ x := by rw [h]
      _ = t * 2 ^ (x + k) := by rw [Nat.mul_assoc, ← Nat.pow_add, Nat.add_comm k x]
      _ = t * 2 ^ y * 2 ^ a := by rw [hxy, Nat.pow_add, Nat.mul_assoc]
  exact Nat.eq_of_mul_eq_mul_right (Nat.two_pow_pos a) h1
theorem dU_mk {m : UInt64} {t k : Nat} (ht : t < 2 ^ 53) (hk : k ≤ 2045) (h : FP.Core.val64 m = FP.Core.roundRatio FP.Core.b64 false t 1 ((k : Int) - 1074)) : dU m (t * 2 ^ k) := by
  have hmx : FP.Core.b64.qmax = 971 := by decide
  obtain ⟨c, q, h1, h2⟩ := FP.Core.round_exact FP.Core.good_b64 false (c := t) (q := (k : Int) - 1074) ht (by rw [FP.Core.qmin_b64]; omega) (by omega)
  refine ⟨c, q, h.trans h1, ?_⟩
  rw [h2]
  show t * 2 ^ ((k : Int) - 1074 - FP.Core.b64.qmin).toNat = _
  rw [FP.Core.qmin_b64, show ((k : Int) - 1074 - (-1074)).toNat = k by omega]
theorem dU_at {m : UInt64} {t k c : Nat} {q : Int} (h1 : FP.Core.val64 m = .fin false c q) (h2 : FP.Core.inUnits c q FP.Core.b64.qmin = t * 2 ^ k) : ∃ a : Nat, q = (a : Int) - 1074 ∧ c * 2 ^ a = t * 2 ^ k := by
  have hf := FP.Core.val64_fits m
  rw [h1] at hf
  have hq := hf.2.1
  rw [FP.Core.qmin_b64] at hq
  refine ⟨(q + 1074).toNat, by omega, ?_⟩
  rw [← h2]
  show _ = c * 2 ^ (q - FP.Core.b64.qmin).toNat
  rw [FP.Core.qmin_b64, show (q - (-1074)).toNat = (q + 1074).toNat by omega]
theorem dU_mul {m b : UInt64} {t k n : Nat} (hb : FP.Core.val64 b = .fin false (2 ^ 52) ((n : Int) - 52)) (ht : t < 2 ^ 53) (hk : k + n ≤ 2045) (h : dU m (t * 2 ^ k)) : dU (FP.dmul m b) (t * 2 ^ (k + n)) := by
  obtain ⟨c, q, h1, h2⟩ := h
  obtain ⟨a, hq, ha⟩ := dU_at h1 h2
  refine dU_mk ht hk ?_
  rw [FP.Core.val64_dmul, h1, hb]
  show FP.Core.roundRatio FP.Core.b64 false (c * 2 ^ 52) 1 (q + ((n : Int) - 52)) = _
  refine FP.Core.roundRatio_congr (by decide) (by decide) ?_
  rw [Nat.mul_one, Nat.mul_one, Nat.mul_assoc, ← Nat.pow_add]
  exact pow_cross ha (by omega)
theorem quot_fin (f : FP.Core.Fmt) (s t : Bool) (c d : Nat) (q r : Int) (hd : ¬ d = 0) : FP.Core.quotient f (.fin s c q) (.fin t d r) = FP.Core.roundRatio f (s != t) c d (q - r) := by
  show (if d = 0 then (if c = 0 then FP.Core.Datum.nan else FP.Core.Datum.inf (s != t)) else FP.Core.roundRatio f (s != t) c d (q - r)) = _
  exact if_neg hd
theorem dU_half {m : UInt64} {t k : Nat} (ht : t < 2 ^ 53) (hk : k + 1 ≤ 2045) (h : dU m (t * 2 ^ (k + 1))) : dU (FP.ddiv m 4611686018427387904) (t * 2 ^ k) := by
  obtain ⟨c, q, h1, h2⟩ := h
  obtain ⟨a, hq, ha⟩ := dU_at h1 h2
  refine dU_mk ht (by omega) ?_
  rw [FP.Core.val64_ddiv, h1, show FP.Core.val64 4611686018427387904 = .fin false (2 ^ 52) (-51) by decide +kernel]
  have hqd : FP.Core.quotient FP.Core.b64 (.fin false c q) (.fin false (2 ^ 52) (-51)) = FP.Core.roundRatio FP.Core.b64 false c (2 ^ 52) (q - (-51)) := quot_fin _ _ _ _ _ _ _ (by decide)
  rw [hqd]
  refine FP.Core.roundRatio_congr (by decide) (by decide) ?_
  rw [Nat.mul_one, Nat.mul_assoc, ← Nat.pow_add]
  exact pow_cross ha (by omega)
theorem dU.fin {m : UInt64} {u : Nat} (h : dU m u) : FP.Core.DFin m := by
  obtain ⟨c, q, h1, _⟩ := h
  exact ⟨false, c, q, h1⟩
theorem dU.zval {m : UInt64} {u : Nat} (h : dU m u) : FP.Core.zval FP.Core.b64 (FP.Core.val64 m) = (u : Int) := by
  obtain ⟨c, q, h1, h2⟩ := h
  rw [h1]
  show FP.Core.signed false (FP.Core.inUnits c q FP.Core.b64.qmin) = _
  rw [h2]
  rfl
theorem dU_lit2 : dU 4611686018427387904 (2 ^ 1075) := ⟨2 ^ 52, -51, by decide +kernel, by decide +kernel⟩
theorem dU_lit1 : dU FP.dconst1 (2 ^ 1074) := ⟨2 ^ 52, -52, by decide +kernel, by decide +kernel⟩
theorem dU_lit0 : dU FP.dconst0 0 := ⟨0, -1074, by decide +kernel, by decide +kernel⟩
theorem dU_cmp {a b : UInt64} {u v : Nat} (ha : dU a u) (hb : dU b v) : FP.dcmp a b = some (compare (u : Int) (v : Int)) := by
  have h := FP.Core.dcmp_zval ha.fin.ne_nan hb.fin.ne_nan
  rw [ha.zval, hb.zval] at h
  exact h
theorem dU_ge {a b : UInt64} {u v : Nat} (ha : dU a u) (hb : dU b v) : Op.cmpValue (FP.dcmp a b) CmpOp.l < 0 ↔ u < v := by
  rw [dU_cmp ha hb]
  rcases Nat.lt_trichotomy u v with h | h | h
  · rw [show compare (u : Int) (v : Int) = .lt from (FP.Core.compare_lt_iff _ _).mpr (by omega)]
    simp [h, Op.cmpValue, FP.cmpInt]
  · rw [show compare (u : Int) (v : Int) = .eq from (FP.Core.compare_eq_iff _ _).mpr (by omega)]
    simp [h, Op.cmpValue, FP.cmpInt]
  · rw [show compare (u : Int) (v : Int) = .gt from (FP.Core.compare_gt_iff _ _).mpr (by omega)]
    simp [Op.cmpValue, FP.cmpInt]
    omega
theorem dU_lt {a b : UInt64} {u v : Nat} (ha : dU a u) (hb : dU b v) : 0 ≤ Op.cmpValue (FP.dcmp a b) CmpOp.g ↔ v ≤ u := by
  rw [dU_cmp ha hb]
  rcases Nat.lt_trichotomy u v with h | h | h
  · rw [show compare (u : Int) (v : Int) = .lt from (FP.Core.compare_lt_iff _ _).mpr (by omega)]
    simp [Op.cmpValue, FP.cmpInt]
    omega
  · rw [show compare (u : Int) (v : Int) = .eq from (FP.Core.compare_eq_iff _ _).mpr (by omega)]
    simp [h, Op.cmpValue, FP.cmpInt]
  · rw [show compare (u : Int) (v : Int) = .gt from (FP.Core.compare_gt_iff _ _).mpr (by omega)]
    simp [Op.cmpValue, FP.cmpInt]
    omega
theorem dU_d2l {m : UInt64} {t : Nat} (ht : t < 2 ^ 62) (h : dU m (t * 2 ^ 1074)) : FP.d2l m = lN t := by
  have h1 := FP.Core.d2l_val h.fin.ne_nan
  obtain ⟨c, q, h2, h3⟩ := h
  rw [h2] at h1
  have h4 : FP.Core.zmag FP.Core.b64 (.fin false c q) / FP.Core.one64 = t := by
    show FP.Core.inUnits c q FP.Core.b64.qmin / _ = t
    rw [h3, show FP.Core.one64 = 2 ^ 1074 from rfl]
    exact Nat.mul_div_cancel t (Nat.two_pow_pos _)
  rw [h4] at h1
  refine Int64.toInt.inj ?_
  rw [show (FP.d2l m).toInt = _ from h1, pk_lT (by omega)]
  show max (-2 ^ 63) (min (2 ^ 63 - 1) (t : Int)) = (t : Int)
  omega
/-- the units of a finite double with a clear sign -/
theorem dU_bits {x : UInt64} (hx : x.toNat < 9218868437227405312) : dU x (FP.Core.unitsOf FP.Core.b64 x.toNat) := by
  have hm : FP.Core.mag FP.Core.b64 x.toNat = x.toNat := by rw [FP.Core.mag_toNat64]; omega
  obtain ⟨c, q, h1, h2⟩ := FP.Core.decode_fin (f := FP.Core.b64) (n := x.toNat) (by rw [hm, FP.Core.infBits_b64]; exact hx)
  rw [hm] at h2
  refine ⟨c, q, ?_, h2⟩
  have hs : FP.Core.fieldS FP.Core.b64 x.toNat = false := by
    rw [FP.Core.fieldS_mag FP.Core.b64 (FP.Core.lt_full64 x), FP.Core.half_b64]
    exact decide_eq_false (by omega)
  rw [hs] at h1
  exact h1
end
section
/-! INSTRUMENTS OF ANY KIND: their five classes lay out the same fields -/
def insK (ci : Nat) : Prop := ci = 0 ∨ ci = 1 ∨ ci = 3 ∨ ci = 4 ∨ ci = 6
theorem TXe2 : ∀ k, k < 7 → TX2 k = TX0 k := by decide +kernel
theorem TXe4 : ∀ k, k < 7 → TX4 k = TX0 k := by decide +kernel
theorem TXe6 : ∀ k, k < 7 → TX6 k = TX0 k := by decide +kernel
theorem TXe8 : ∀ k, k < 7 → TX8 k = TX0 k := by decide +kernel
section MI
variable {p : Program} {l : Launch} {e : Env} {R : Room} {s : State} {m : MethodId} {args : Array Value} {below : List Frame} {meth : Method} {c : Code} {H : Heap} {locs : List Loc} {cells slots : Nat} {Q : State → Prop}
variable {cc : ByteArray} {pc : Nat} {ls : Array Slot} {rest : List Value} {E : mEnv} {A : Nat → Prop} {a : Nat} {H0 : Heap} {M : mMem} {Ts : List Cond}
abbrev wsI : List Cond := wsX00 ++ wsX20 ++ wsX40 ++ wsX60 ++ wsX80
theorem wsI_0 (h : ∀ w ∈ wsI, w ∈ Ts) : ∀ w ∈ wsX00, w ∈ Ts := fun w q => h w (List.mem_append_left _ (List.mem_append_left _ (List.mem_append_left _ (List.mem_append_left _ q))))
theorem wsI_2 (h : ∀ w ∈ wsI, w ∈ Ts) : ∀ w ∈ wsX20, w ∈ Ts := fun w q => h w (List.mem_append_left _ (List.mem_append_left _ (List.mem_append_left _ (List.mem_append_right _ q))))
theorem wsI_4 (h : ∀ w ∈ wsI, w ∈ Ts) : ∀ w ∈ wsX40, w ∈ Ts := fun w q => h w (List.mem_append_left _ (List.mem_append_left _ (List.mem_append_right _ q)))
theorem wsI_6 (h : ∀ w ∈ wsI, w ∈ Ts) : ∀ w ∈ wsX60, w ∈ Ts := fun w q => h w (List.mem_append_left _ (List.mem_append_right _ q))
theorem wsI_8 (h : ∀ w ∈ wsI, w ∈ Ts) : ∀ w ∈ wsX80, w ∈ Ts := fun w q => h w (List.mem_append_right _ q)
theorem m_getI (hx : p.tables.exec = Jvm.exec) (hb : c.code = cc) {own ref : String} {ci index : Nat} (hts : ∀ w ∈ Ts, w.before args s = true) (hin : ∀ w ∈ wsI, w ∈ Ts) (hown : s.vm.findClass own = some m.cls) (hE : mE E s) (hM : mOK E.1 A M H) {fs : List Value} (ha : M a = some (.inr (ci, fs))) (hci : insK ci) (k : Nat) (hk : k < 7) (hlink : (Cond.fieldLink own index ref (TX0 k).2.1 (TX0 k).2.2.1).before args s = true) (hsame : ∀ x, s.fieldFound? (TX0 k).1 (TX0 k).2.1 (TX0 k).2.2.1 = some x → s.fieldFound? ref (TX0 k).2.1 (TX0 k).2.2.1 = some x) {v : Value} (hv : fs[k]? = some v) (hdg : decode cc pc = .ok (.getfield index, 3))
    (kk : W p l e R s m args below meth c H locs cells slots Q (F0 m (pc + 3) ls (v :: rest))) : W p l e R s m args below meth c H locs cells slots Q (F0 m pc ls (.ref a :: rest)) := by
  rcases hci with rfl | rfl | rfl | rfl | rfl
  · exact m_get (C := RX0) (T := TX0) (N := 7) hx hb hts (wsI_0 hin) hown hE hM ha rfl k hk hlink hsame hv hdg kk
  · rw [← TXe2 k hk] at hlink hsame
    exact m_get (C := RX2) (T := TX2) (N := 7) hx hb hts (wsI_2 hin) hown hE hM ha rfl k hk hlink hsame hv hdg kk
  · rw [← TXe4 k hk] at hlink hsame
    exact m_get (C := RX4) (T := TX4) (N := 7) hx hb hts (wsI_4 hin) hown hE hM ha rfl k hk hlink hsame hv hdg kk
  · rw [← TXe6 k hk] at hlink hsame
    exact m_get (C := RX6) (T := TX6) (N := 7) hx hb hts (wsI_6 hin) hown hE hM ha rfl k hk hlink hsame hv hdg kk
  · rw [← TXe8 k hk] at hlink hsame
    exact m_get (C := RX8) (T := TX8) (N := 7) hx hb hts (wsI_8 hin) hown hE hM ha rfl k hk hlink hsame hv hdg kk
theorem m_putI (hx : p.tables.exec = Jvm.exec) (hb : c.code = cc) {own ref : String} {ci index : Nat} (hts : ∀ w ∈ Ts, w.before args s = true) (hin : ∀ w ∈ wsI, w ∈ Ts) (hown : s.vm.findClass own = some m.cls) (hE : mE E s) (hM : mOK E.1 A M H) (hS : va_S A H0 H locs) {fs : List Value} (ha : M a = some (.inr (ci, fs))) (hci : insK ci) (k : Nat) (hk : k < 7) (hlink : (Cond.fieldLink own index ref (TX0 k).2.1 (TX0 k).2.2.1).before args s = true) (hsame : ∀ x, s.fieldFound? (TX0 k).1 (TX0 k).2.1 (TX0 k).2.2.1 = some x → s.fieldFound? ref (TX0 k).2.1 (TX0 k).2.2.1 = some x) (hfin : (TX0 k).2.2.2 = false) {ty : FieldType} {v : Value} (hd : parseFieldDescriptor (TX0 k).2.2.1 = some ty) (hn : narrow ty v = v) (hfit : fits ty v = true) (hl : k < fs.length)
    (hdg : decode cc pc = .ok (.putfield index, 3)) (kk : ∀ (H1 : Heap) (locs1 : List Loc), mOK E.1 A (mUp M a (.inr (ci, fs.set k v))) H1 → va_S A H0 H1 locs1 → W p l e R s m args below meth c H1 locs1 cells slots Q (F0 m (pc + 3) ls rest)) : W p l e R s m args below meth c H locs cells slots Q (F0 m pc ls (v :: .ref a :: rest)) := by
  rcases hci with rfl | rfl | rfl | rfl | rfl
  · exact m_put (C := RX0) (T := TX0) (N := 7) hx hb hts (wsI_0 hin) tyX0 tyX0_ok nmX0 hown hE hM hS ha rfl k hk hlink hsame hfin hd hn hfit hl hdg kk
  · rw [← TXe2 k hk] at hlink hsame hfin hd
    exact m_put (C := RX2) (T := TX2) (N := 7) hx hb hts (wsI_2 hin) tyX2 tyX2_ok nmX2 hown hE hM hS ha rfl k hk hlink hsame hfin hd hn hfit hl hdg kk
  · rw [← TXe4 k hk] at hlink hsame hfin hd
    exact m_put (C := RX4) (T := TX4) (N := 7) hx hb hts (wsI_4 hin) tyX4 tyX4_ok nmX4 hown hE hM hS ha rfl k hk hlink hsame hfin hd hn hfit hl hdg kk
  · rw [← TXe6 k hk] at hlink hsame hfin hd
    exact m_put (C := RX6) (T := TX6) (N := 7) hx hb hts (wsI_6 hin) tyX6 tyX6_ok nmX6 hown hE hM hS ha rfl k hk hlink hsame hfin hd hn hfit hl hdg kk
  · rw [← TXe8 k hk] at hlink hsame hfin hd
    exact m_put (C := RX8) (T := TX8) (N := 7) hx hb hts (wsI_8 hin) tyX8 tyX8_ok nmX8 hown hE hM hS ha rfl k hk hlink hsame hfin hd hn hfit hl hdg kk
theorem m_putFI (hx : p.tables.exec = Jvm.exec) (hb : c.code = cc) {own ref : String} {ci index : Nat} (hts : ∀ w ∈ Ts, w.before args s = true) (hin : ∀ w ∈ wsI, w ∈ Ts) (hown : s.vm.findClass own = some m.cls) (hE : mE E s) (hM : mOK E.1 A M H) (hS : va_S A H0 H locs) {fs : List Value} (ha : M a = some (.inr (ci, fs))) (hci : insK ci) (k : Nat) (hk : k < 7) (hlink : (Cond.fieldLink own index ref (TX0 k).2.1 (TX0 k).2.2.1).before args s = true) (hsame : ∀ x, s.fieldFound? (TX0 k).1 (TX0 k).2.1 (TX0 k).2.2.1 = some x → s.fieldFound? ref (TX0 k).2.1 (TX0 k).2.2.1 = some x) (hfin : (TX0 k).2.2.2 = true) (hin2 : meth.name = "<init>") (hdecl : (TX0 k).1 = own) {ty : FieldType} {v : Value} (hd : parseFieldDescriptor (TX0 k).2.2.1 = some ty) (hn : narrow ty v = v) (hfit : fits ty v = true) (hl : k < fs.length)
    (hdg : decode cc pc = .ok (.putfield index, 3)) (kk : ∀ (H1 : Heap) (locs1 : List Loc), mOK E.1 A (mUp M a (.inr (ci, fs.set k v))) H1 → va_S A H0 H1 locs1 → W p l e R s m args below meth c H1 locs1 cells slots Q (F0 m (pc + 3) ls rest)) : W p l e R s m args below meth c H locs cells slots Q (F0 m pc ls (v :: .ref a :: rest)) := by
  rcases hci with rfl | rfl | rfl | rfl | rfl
  · exact m_putF (C := RX0) (T := TX0) (N := 7) hx hb hts (wsI_0 hin) tyX0 tyX0_ok nmX0 hown hE hM hS ha rfl k hk hlink hsame hfin hin2 hdecl hd hn hfit hl hdg kk
  · rw [← TXe2 k hk] at hlink hsame hfin hd hdecl
    exact m_putF (C := RX2) (T := TX2) (N := 7) hx hb hts (wsI_2 hin) tyX2 tyX2_ok nmX2 hown hE hM hS ha rfl k hk hlink hsame hfin hin2 hdecl hd hn hfit hl hdg kk
  · rw [← TXe4 k hk] at hlink hsame hfin hd hdecl
    exact m_putF (C := RX4) (T := TX4) (N := 7) hx hb hts (wsI_4 hin) tyX4 tyX4_ok nmX4 hown hE hM hS ha rfl k hk hlink hsame hfin hin2 hdecl hd hn hfit hl hdg kk
  · rw [← TXe6 k hk] at hlink hsame hfin hd hdecl
    exact m_putF (C := RX6) (T := TX6) (N := 7) hx hb hts (wsI_6 hin) tyX6 tyX6_ok nmX6 hown hE hM hS ha rfl k hk hlink hsame hfin hin2 hdecl hd hn hfit hl hdg kk
  · rw [← TXe8 k hk] at hlink hsame hfin hd hdecl
    exact m_putF (C := RX8) (T := TX8) (N := 7) hx hb hts (wsI_8 hin) tyX8 tyX8_ok nmX8 hown hE hM hS ha rfl k hk hlink hsame hfin hin2 hdecl hd hn hfit hl hdg kk
end MI
theorem m_preI {E : mEnv} {M : mMem} {s : State} {H : Heap} {A : Nat → Prop} {As : List Value} {b : Nat} (hE : mE E s) (hM : mOK E.1 A M H) : PreS s H (mPre E M H.size (.ref b :: As)) (.ref b :: As) := m_preS hE hM
/-! WHAT AN INSTRUMENT GIVES: its failure (0: none), the sample, the level behind it -/
def sTone (pi on ph : Int32) : UInt64 := if on = 0 then FP.dconst0 else FP.i2d (ph * pi - ph * pi / 256 * 256 - 128)
def sDrum (k1 : Int32) (le : UInt64) : Int32 × UInt64 × UInt64 := if k1 = 0 then (-4, FP.dconst0, le) else (0, le, FP.ddiv (FP.dmul le (FP.i2d (1000 / k1))) 4652007308841189376)
abbrev tbT : Type := Option (Int32 × Nat × (Nat → UInt64))
def sRead (k0 on ph : Int32) (tb : tbT) : Int32 × UInt64 :=
  if on = 0 ∧ ¬ 0 ≤ ph - ph / 8 * 8 then (-8, FP.dconst0) else match tb with
  | none => (-5, FP.dconst0)
  | some t => if t.1 = 1 then (if ¬ ph + k0 < 0 ∧ ¬ nI t.2.1 ≤ ph + k0 then (0, t.2.2 (ph + k0).toNatClampNeg) else (-7, FP.dconst0)) else (-6, FP.dconst0)
def sBell (k1 k2 ph : Int32) (le : UInt64) : Int32 × UInt64 × UInt64 := if ph = k2 then (-3, FP.dconst0, le) else ((sDrum k1 le).1, (if ph &&& 1 = 0 then (sDrum k1 le).2.1 else FP.dmul 13830554455654793216 (sDrum k1 le).2.1), (sDrum k1 le).2.2)
def sGive (ci : Nat) (kf : Nat → Int32) (pi on ph : Int32) (le : UInt64) (tb : tbT) : Int32 × UInt64 × UInt64 :=
  if ci = 6 then (0, sTone pi on ph, le) else if ci = 3 then (0, FP.dadd (FP.dmul 4611686018427387904 (sTone pi on ph)) (FP.i2d (kf 0)), le)
  else if ci = 1 then sDrum (kf 1) le else if ci = 0 then sBell (kf 1) (kf 2) ph le else ((sRead (kf 0) on ph tb).1, (sRead (kf 0) on ph tb).2, le)
/-- a table's address, and what lies there -/
def tbAt (E : mEnv) (M : mMem) (tab : Option Nat) (tb : tbT) : Prop := match tab, tb with
  | none, none => True
  | some t, some d => ∃ v : Nat, M t = some (mO 5 [.int d.1, .ref v]) ∧ M v = some (mDb E d.2.1 d.2.2)
  | _, _ => False
theorem dB_tone (pi on ph : Int32) : dB 1056 (sTone pi on ph) := by
  unfold sTone
  split
  · unfold dB; decide
  · exact dB_i2d _
theorem dL_drum {k1 : Int32} {le : UInt64} (h : dL le) : dL (sDrum k1 le).2.1 ∧ dL (sDrum k1 le).2.2 := by
  unfold sDrum
  split
  · exact ⟨dL_0, h⟩
  · rename_i hk
    exact ⟨h, dL_step h (div1000 hk)⟩
end
section
section MW
variable {p : Program} {l : Launch} {e : Env} {R : Room} {s : State} {m : MethodId} {args : Array Value} {below : List Frame} {meth : Method} {c : Code} {H : Heap} {locs : List Loc} {cells slots : Nat} {Q : State → Prop}
variable {cc : ByteArray} {pc : Nat} {ls : Array Slot} {rest : List Value} {E : mEnv} {A : Nat → Prop} {H0 : Heap} {M : mMem}
theorem m_newI (hx : p.tables.exec = Jvm.exec) (hb : c.code = cc) (harr : (Cond.arrayClass .int).before args s = true) (hE : mE E s) (hM : mOK E.1 A M H) (hS : va_S A H0 H locs) (hA : ∀ q : Nat, H0.size ≤ q → A q)
    {n : Int32} {N' : Nat} (hn : ¬ n < 0) (hN : n.toNatClampNeg = N') (hle : N' ≤ 1000) (hcells : cells + 1 ≤ R.cells) (hslots : slots + N' ≤ R.slots) (hdg : decode cc pc = .ok (.newarray .int, 2))
    (kk : ∀ (q : Nat) (H1 : Heap), M q = none → mOK E.1 A (mUp M q (mI E N' (fun _ => 0))) H1 → va_S A H0 H1 locs → W p l e R s m args below meth c H1 locs (cells + 1) (slots + N') Q (F0 m (pc + 2) ls (.ref q :: rest))) : W p l e R s m args below meth c H locs cells slots Q (F0 m pc ls (.int n :: rest)) := by
  have hty : newarray.typeOf ArrayType.int = FieldType.int := rfl
  have h7 : 0 < (mTys E).length := by show 0 < 7; decide
  have ht : (mTys E)[0]? = some (E.2 0, FieldType.int) := rfl
  have hc : ∀ cA : ClassId, vp_cell cA (N', .inl (fun _ => 0)) = arrV cA N' (fun _ => defaultValue .int) := fun _ => rfl
  have hby : N' * componentBytes FieldType.int ≤ 536870912 := by show N' * 4 ≤ 536870912; omega
  exact m_newa (atype := .int) hx hb harr hty hE hM hS hA 0 h7 ht hc hn hN hby hcells hslots hdg kk
theorem m_newJ (hx : p.tables.exec = Jvm.exec) (hb : c.code = cc) (harr : (Cond.arrayClass .long).before args s = true) (hE : mE E s) (hM : mOK E.1 A M H) (hS : va_S A H0 H locs) (hA : ∀ q : Nat, H0.size ≤ q → A q)
    {n : Int32} {N' : Nat} (hn : ¬ n < 0) (hN : n.toNatClampNeg = N') (hle : N' ≤ 1000) (hcells : cells + 1 ≤ R.cells) (hslots : slots + N' ≤ R.slots) (hdg : decode cc pc = .ok (.newarray .long, 2))
    (kk : ∀ (q : Nat) (H1 : Heap), M q = none → mOK E.1 A (mUp M q (mJ E N' (fun _ => 0))) H1 → va_S A H0 H1 locs → W p l e R s m args below meth c H1 locs (cells + 1) (slots + N') Q (F0 m (pc + 2) ls (.ref q :: rest))) : W p l e R s m args below meth c H locs cells slots Q (F0 m pc ls (.int n :: rest)) := by
  have hty : newarray.typeOf ArrayType.long = FieldType.long := rfl
  have h7 : 1 < (mTys E).length := by show 1 < 7; decide
  have ht : (mTys E)[1]? = some (E.2 1, FieldType.long) := rfl
  have hc : ∀ cA : ClassId, vp_cell cA (N', .inr (.inl (fun _ => 0))) = arrV cA N' (fun _ => defaultValue .long) := fun _ => rfl
  have hby : N' * componentBytes FieldType.long ≤ 536870912 := by show N' * 8 ≤ 536870912; omega
  exact m_newa (atype := .long) hx hb harr hty hE hM hS hA 1 h7 ht hc hn hN hby hcells hslots hdg kk
theorem m_newD (hx : p.tables.exec = Jvm.exec) (hb : c.code = cc) (harr : (Cond.arrayClass .double).before args s = true) (hE : mE E s) (hM : mOK E.1 A M H) (hS : va_S A H0 H locs) (hA : ∀ q : Nat, H0.size ≤ q → A q)
    {n : Int32} {N' : Nat} (hn : ¬ n < 0) (hN : n.toNatClampNeg = N') (hle : N' ≤ 1000) (hcells : cells + 1 ≤ R.cells) (hslots : slots + N' ≤ R.slots) (hdg : decode cc pc = .ok (.newarray .double, 2))
    (kk : ∀ (q : Nat) (H1 : Heap), M q = none → mOK E.1 A (mUp M q (mDb E N' (fun _ => 0))) H1 → va_S A H0 H1 locs → W p l e R s m args below meth c H1 locs (cells + 1) (slots + N') Q (F0 m (pc + 2) ls (.ref q :: rest))) : W p l e R s m args below meth c H locs cells slots Q (F0 m pc ls (.int n :: rest)) := by
  have hty : newarray.typeOf ArrayType.double = FieldType.double := rfl
  have h7 : 2 < (mTys E).length := by show 2 < 7; decide
  have ht : (mTys E)[2]? = some (E.2 2, FieldType.double) := rfl
  have hc : ∀ cA : ClassId, vp_cell cA (N', .inr (.inr (.inr (.inl (fun _ => 0))))) = arrV cA N' (fun _ => defaultValue .double) := fun _ => rfl
  have hby : N' * componentBytes FieldType.double ≤ 536870912 := by show N' * 8 ≤ 536870912; omega
  exact m_newa (atype := .double) hx hb harr hty hE hM hS hA 2 h7 ht hc hn hN hby hcells hslots hdg kk
theorem m_newZ (hx : p.tables.exec = Jvm.exec) (hb : c.code = cc) (harr : (Cond.arrayClass .boolean).before args s = true) (hE : mE E s) (hM : mOK E.1 A M H) (hS : va_S A H0 H locs) (hA : ∀ q : Nat, H0.size ≤ q → A q)
    {n : Int32} {N' : Nat} (hn : ¬ n < 0) (hN : n.toNatClampNeg = N') (hle : N' ≤ 1000) (hcells : cells + 1 ≤ R.cells) (hslots : slots + N' ≤ R.slots) (hdg : decode cc pc = .ok (.newarray .boolean, 2))
    (kk : ∀ (q : Nat) (H1 : Heap), M q = none → mOK E.1 A (mUp M q (mZ E N' (fun _ => 0))) H1 → va_S A H0 H1 locs → W p l e R s m args below meth c H1 locs (cells + 1) (slots + N') Q (F0 m (pc + 2) ls (.ref q :: rest))) : W p l e R s m args below meth c H locs cells slots Q (F0 m pc ls (.int n :: rest)) := by
  have hty : newarray.typeOf ArrayType.boolean = FieldType.boolean := rfl
  have h7 : 3 < (mTys E).length := by show 3 < 7; decide
  have ht : (mTys E)[3]? = some (E.2 3, FieldType.boolean) := rfl
  have hc : ∀ cA : ClassId, vp_cell cA (N', .inl (fun _ => 0)) = arrV cA N' (fun _ => defaultValue .boolean) := fun _ => rfl
  have hby : N' * componentBytes FieldType.boolean ≤ 536870912 := by show N' * 1 ≤ 536870912; omega
  exact m_newa (atype := .boolean) hx hb harr hty hE hM hS hA 3 h7 ht hc hn hN hby hcells hslots hdg kk
end MW
end
section
/-- an int of a truth -/
def bI (P : Prop) [Decidable P] : Int32 := if P then 1 else 0
theorem bI_t {P : Prop} [Decidable P] (h : P) : bI P = 1 := if_pos h
theorem bI_f {P : Prop} [Decidable P] (h : ¬ P) : bI P = 0 := if_neg h
theorem bI_ne {P : Prop} [Decidable P] : ¬ bI P = 0 ↔ P := by
  by_cases h : P
  · simp [bI, h]
  · simp [bI, h]
theorem bI_eq {P : Prop} [Decidable P] : bI P = 0 ↔ ¬ P := by
  by_cases h : P
  · simp [bI, h]
  · simp [bI, h]
theorem bI_01 {P : Prop} [Decidable P] : bI P = 0 ∨ bI P = 1 := by
  by_cases h : P
  · simp [bI, h]
  · simp [bI, h]
theorem tab_out {x : Int32} {n : Nat} (hn : n < 2 ^ 31) (h : ∀ j, j ≤ n → ¬ x = nI j) : x.toInt < 0 ∨ (n : Int) < x.toInt := by
  by_cases h0 : x < 0
  · exact Or.inl (by simpa using Int32.lt_iff_toInt_lt.mp h0)
  · obtain ⟨j, hj, rfl⟩ := nI_of h0
    refine Or.inr ?_
    rw [nI_toInt hj]
    have : ¬ j ≤ n := fun q => h j q rfl
    omega
theorem cmpv_eq (o : Option Ordering) (op : CmpOp) : Op.cmpValue o op = 0 ↔ o = some .eq := by
  cases o with
  | none => cases op <;> simp [Op.cmpValue, FP.cmpInt]
  | some o => cases o <;> cases op <;> simp [Op.cmpValue, FP.cmpInt]
theorem nn_d2f {x : UInt64} (h : FP.Core.DFin x) : vf_n32 (FP.d2f x) := n32_of (by rw [FP.d2f_nan]; exact h.notNaN)
theorem nn_f2d {x : UInt64} (h : FP.Core.DFin x) : vf_n64 (FP.f2d (FP.d2f x)) := n64_of (by rw [FP.f2d_nan, FP.d2f_nan]; exact h.notNaN)
theorem vp_in_h {i : Int32} {n : Nat} (h : ¬ i < 0 ∧ ¬ nI n ≤ i) (hn : n < 2 ^ 31 := by omega) : vp_in i n := by
  obtain ⟨j, hj, rfl⟩ := nI_of h.1
  exact vp_in_nI (by have := h.2; rw [nI_leI hn hj] at this; omega) hn
/-- a function's answer, where it refuses nothing -/
def sPass (kind : Int32) (a x : UInt64) : UInt64 := if kind = 0 then FP.dadd x a else if kind = 1 then FP.dmul x a else if kind = 2 then (if 0 < Op.cmpValue (FP.dcmp x a) CmpOp.g then a else x) else if kind = 3 then (if Op.cmpValue (FP.dcmp x a) CmpOp.l ≤ 0 then a else x) else x
def sTurn (lane : Int32) (x : UInt64) : UInt64 := if lane = 0 then FP.i2d (FP.d2i x).toInt16.toInt32 else if lane = 1 then FP.i2d (FP.d2i x) else if lane = 2 then FP.f2d (FP.d2f x) else x
set_option maxHeartbeats 4000000 in
set_option maxRecDepth 100000 in
theorem c_X9_isBlock (l : Launch) (E : mEnv) (M : mMem) (sz : Nat) (b : Int32)   : Met l yX9_isBlock wsX9_isBlock ({ frames := 0, cells := 0, slots := 0, locals := 0 }) (mPre E M sz [.int b]) (mQi E M sz (fun r u => r = bI (¬ b < 0 ∧ ¬ 10 ≤ b) ∧ u = M)) (0) (0) (mA M sz) := by
  refine m_met [.int b] (by decide) rfl (Nat.le_of_ble_eq_true rfl) ?_
  intro p e s m below meth c ls H eH hx hb hr hts hown hlocks hnm hml hsz hE hM hS hA hl
  have hl : lv_has ls 1 [(0, .int b)] := hl
  refine lv_iload_n hx hb dX9_isBlock_0 rfl (lv_at hl 0 rfl) ?_
  refine lv_if_lt (tgt := 14) hx hb dX9_isBlock_1 (by decide) (fun c_1 => ?_) (fun c_1 => ?_)
  · skip
    refine lv_iconst (v := 0) hx hb dX9_isBlock_14 (by decide) ?_
    exact m_zret hx hb hr hlocks hM hS (Nat.le_refl _) (Nat.le_refl _) dX9_isBlock_15 (by first | exact Or.inl rfl | exact Or.inr rfl) (by first | exact ⟨(bI_t (by first | assumption | exact ⟨by assumption, by assumption⟩ | exact ⟨by assumption, by assumption, by assumption⟩ | exact ⟨by assumption, by assumption, by assumption, by assumption⟩)).symm, rfl⟩ | exact ⟨(bI_f (fun h => by first | contradiction | (obtain ⟨h1, h2⟩ := h; first | contradiction | (obtain ⟨h2, h3⟩ := h2; first | contradiction | (obtain ⟨h3, h4⟩ := h3; contradiction))))).symm, rfl⟩ | exact ⟨(bI_f (by simp_all)).symm, rfl⟩)
  · skip
    refine lv_iload_n hx hb dX9_isBlock_4 rfl (lv_at hl 0 rfl) ?_
    refine lv_bipush (v := 10) hx hb dX9_isBlock_5 (by decide) ?_
    refine lv_icmp_ge (tgt := 14) hx hb dX9_isBlock_7 (by decide) (fun c_7 => ?_) (fun c_7 => ?_)
    · skip
      refine lv_iconst (v := 0) hx hb dX9_isBlock_14 (by decide) ?_
      exact m_zret hx hb hr hlocks hM hS (Nat.le_refl _) (Nat.le_refl _) dX9_isBlock_15 (by first | exact Or.inl rfl | exact Or.inr rfl) (by first | exact ⟨(bI_t (by first | assumption | exact ⟨by assumption, by assumption⟩ | exact ⟨by assumption, by assumption, by assumption⟩ | exact ⟨by assumption, by assumption, by assumption, by assumption⟩)).symm, rfl⟩ | exact ⟨(bI_f (fun h => by first | contradiction | (obtain ⟨h1, h2⟩ := h; first | contradiction | (obtain ⟨h2, h3⟩ := h2; first | contradiction | (obtain ⟨h3, h4⟩ := h3; contradiction))))).symm, rfl⟩ | exact ⟨(bI_f (by simp_all)).symm, rfl⟩)
    · skip
      refine lv_iconst (v := 1) hx hb dX9_isBlock_10 (by decide) ?_
      refine lv_goto (tgt := 15) hx hb dX9_isBlock_11 (by decide) ?_
      exact m_zret hx hb hr hlocks hM hS (Nat.le_refl _) (Nat.le_refl _) dX9_isBlock_15 (by first | exact Or.inl rfl | exact Or.inr rfl) (by first | exact ⟨(bI_t (by first | assumption | exact ⟨by assumption, by assumption⟩ | exact ⟨by assumption, by assumption, by assumption⟩ | exact ⟨by assumption, by assumption, by assumption, by assumption⟩)).symm, rfl⟩ | exact ⟨(bI_f (fun h => by first | contradiction | (obtain ⟨h1, h2⟩ := h; first | contradiction | (obtain ⟨h2, h3⟩ := h2; first | contradiction | (obtain ⟨h3, h4⟩ := h3; contradiction))))).symm, rfl⟩ | exact ⟨(bI_f (by simp_all)).symm, rfl⟩)
set_option maxHeartbeats 4000000 in
set_option maxRecDepth 100000 in
theorem c_X9_isLane (l : Launch) (E : mEnv) (M : mMem) (sz : Nat) (b : Int32)   : Met l yX9_isLane wsX9_isLane ({ frames := 0, cells := 0, slots := 0, locals := 0 }) (mPre E M sz [.int b]) (mQi E M sz (fun r u => r = bI (¬ b < 0 ∧ ¬ 3 < b) ∧ u = M)) (0) (0) (mA M sz) := by
  refine m_met [.int b] (by decide) rfl (Nat.le_of_ble_eq_true rfl) ?_
  intro p e s m below meth c ls H eH hx hb hr hts hown hlocks hnm hml hsz hE hM hS hA hl
  have hl : lv_has ls 1 [(0, .int b)] := hl
  refine lv_iload_n hx hb dX9_isLane_0 rfl (lv_at hl 0 rfl) ?_
  refine lv_if_lt (tgt := 13) hx hb dX9_isLane_1 (by decide) (fun c_1 => ?_) (fun c_1 => ?_)
  · skip
    refine lv_iconst (v := 0) hx hb dX9_isLane_13 (by decide) ?_
    exact m_zret hx hb hr hlocks hM hS (Nat.le_refl _) (Nat.le_refl _) dX9_isLane_14 (by first | exact Or.inl rfl | exact Or.inr rfl) (by first | exact ⟨(bI_t (by first | assumption | exact ⟨by assumption, by assumption⟩ | exact ⟨by assumption, by assumption, by assumption⟩ | exact ⟨by assumption, by assumption, by assumption, by assumption⟩)).symm, rfl⟩ | exact ⟨(bI_f (fun h => by first | contradiction | (obtain ⟨h1, h2⟩ := h; first | contradiction | (obtain ⟨h2, h3⟩ := h2; first | contradiction | (obtain ⟨h3, h4⟩ := h3; contradiction))))).symm, rfl⟩ | exact ⟨(bI_f (by simp_all)).symm, rfl⟩)
  · skip
    refine lv_iload_n hx hb dX9_isLane_4 rfl (lv_at hl 0 rfl) ?_
    refine lv_iconst (v := 3) hx hb dX9_isLane_5 (by decide) ?_
    refine lv_icmp_gt (tgt := 13) hx hb dX9_isLane_6 (by decide) (fun c_6 => ?_) (fun c_6 => ?_)
    · skip
      refine lv_iconst (v := 0) hx hb dX9_isLane_13 (by decide) ?_
      exact m_zret hx hb hr hlocks hM hS (Nat.le_refl _) (Nat.le_refl _) dX9_isLane_14 (by first | exact Or.inl rfl | exact Or.inr rfl) (by first | exact ⟨(bI_t (by first | assumption | exact ⟨by assumption, by assumption⟩ | exact ⟨by assumption, by assumption, by assumption⟩ | exact ⟨by assumption, by assumption, by assumption, by assumption⟩)).symm, rfl⟩ | exact ⟨(bI_f (fun h => by first | contradiction | (obtain ⟨h1, h2⟩ := h; first | contradiction | (obtain ⟨h2, h3⟩ := h2; first | contradiction | (obtain ⟨h3, h4⟩ := h3; contradiction))))).symm, rfl⟩ | exact ⟨(bI_f (by simp_all)).symm, rfl⟩)
    · skip
      refine lv_iconst (v := 1) hx hb dX9_isLane_9 (by decide) ?_
      refine lv_goto (tgt := 14) hx hb dX9_isLane_10 (by decide) ?_
      exact m_zret hx hb hr hlocks hM hS (Nat.le_refl _) (Nat.le_refl _) dX9_isLane_14 (by first | exact Or.inl rfl | exact Or.inr rfl) (by first | exact ⟨(bI_t (by first | assumption | exact ⟨by assumption, by assumption⟩ | exact ⟨by assumption, by assumption, by assumption⟩ | exact ⟨by assumption, by assumption, by assumption, by assumption⟩)).symm, rfl⟩ | exact ⟨(bI_f (fun h => by first | contradiction | (obtain ⟨h1, h2⟩ := h; first | contradiction | (obtain ⟨h2, h3⟩ := h2; first | contradiction | (obtain ⟨h3, h4⟩ := h3; contradiction))))).symm, rfl⟩ | exact ⟨(bI_f (by simp_all)).symm, rfl⟩)
set_option maxHeartbeats 4000000 in
set_option maxRecDepth 100000 in
theorem c_X10_in (l : Launch) (E : mEnv) (M : mMem) (sz : Nat) (x a b : Int32)   : Met l yX10_in wsX10_in ({ frames := 0, cells := 0, slots := 0, locals := 0 }) (mPre E M sz [.int x, .int a, .int b]) (mQi E M sz (fun r u => r = bI (¬ x < a ∧ ¬ b < x) ∧ u = M)) (0) (0) (mA M sz) := by
  refine m_met [.int x, .int a, .int b] (by decide) rfl (Nat.le_of_ble_eq_true rfl) ?_
  intro p e s m below meth c ls H eH hx hb hr hts hown hlocks hnm hml hsz hE hM hS hA hl
  have hl : lv_has ls 3 [(0, .int x), (1, .int a), (2, .int b)] := hl
  refine lv_iload_n hx hb dX10_in_0 rfl (lv_at hl 0 rfl) ?_
  refine lv_iload_n hx hb dX10_in_1 rfl (lv_at hl 1 rfl) ?_
  refine lv_icmp_lt (tgt := 14) hx hb dX10_in_2 (by decide) (fun c_2 => ?_) (fun c_2 => ?_)
  · skip
    refine lv_iconst (v := 0) hx hb dX10_in_14 (by decide) ?_
    exact m_zret hx hb hr hlocks hM hS (Nat.le_refl _) (Nat.le_refl _) dX10_in_15 (by first | exact Or.inl rfl | exact Or.inr rfl) (by first | exact ⟨(bI_t (by first | assumption | exact ⟨by assumption, by assumption⟩ | exact ⟨by assumption, by assumption, by assumption⟩ | exact ⟨by assumption, by assumption, by assumption, by assumption⟩)).symm, rfl⟩ | exact ⟨(bI_f (fun h => by first | contradiction | (obtain ⟨h1, h2⟩ := h; first | contradiction | (obtain ⟨h2, h3⟩ := h2; first | contradiction | (obtain ⟨h3, h4⟩ := h3; contradiction))))).symm, rfl⟩ | exact ⟨(bI_f (by simp_all)).symm, rfl⟩)
  · skip
    refine lv_iload_n hx hb dX10_in_5 rfl (lv_at hl 0 rfl) ?_
    refine lv_iload_n hx hb dX10_in_6 rfl (lv_at hl 2 rfl) ?_
    refine lv_icmp_gt (tgt := 14) hx hb dX10_in_7 (by decide) (fun c_7 => ?_) (fun c_7 => ?_)
    · skip
      refine lv_iconst (v := 0) hx hb dX10_in_14 (by decide) ?_
      exact m_zret hx hb hr hlocks hM hS (Nat.le_refl _) (Nat.le_refl _) dX10_in_15 (by first | exact Or.inl rfl | exact Or.inr rfl) (by first | exact ⟨(bI_t (by first | assumption | exact ⟨by assumption, by assumption⟩ | exact ⟨by assumption, by assumption, by assumption⟩ | exact ⟨by assumption, by assumption, by assumption, by assumption⟩)).symm, rfl⟩ | exact ⟨(bI_f (fun h => by first | contradiction | (obtain ⟨h1, h2⟩ := h; first | contradiction | (obtain ⟨h2, h3⟩ := h2; first | contradiction | (obtain ⟨h3, h4⟩ := h3; contradiction))))).symm, rfl⟩ | exact ⟨(bI_f (by simp_all)).symm, rfl⟩)
    · skip
      refine lv_iconst (v := 1) hx hb dX10_in_10 (by decide) ?_
      refine lv_goto (tgt := 15) hx hb dX10_in_11 (by decide) ?_
      exact m_zret hx hb hr hlocks hM hS (Nat.le_refl _) (Nat.le_refl _) dX10_in_15 (by first | exact Or.inl rfl | exact Or.inr rfl) (by first | exact ⟨(bI_t (by first | assumption | exact ⟨by assumption, by assumption⟩ | exact ⟨by assumption, by assumption, by assumption⟩ | exact ⟨by assumption, by assumption, by assumption, by assumption⟩)).symm, rfl⟩ | exact ⟨(bI_f (fun h => by first | contradiction | (obtain ⟨h1, h2⟩ := h; first | contradiction | (obtain ⟨h2, h3⟩ := h2; first | contradiction | (obtain ⟨h3, h4⟩ := h3; contradiction))))).symm, rfl⟩ | exact ⟨(bI_f (by simp_all)).symm, rfl⟩)
theorem in_X7_has_X7 : ∀ w ∈ wsX70, w ∈ wsX7_has := by decide +kernel
set_option maxHeartbeats 4000000 in
set_option maxRecDepth 100000 in
theorem c_X7_has (l : Launch) (E : mEnv) (M : mMem) (sz : Nat) (h0 v n : Nat) (lane : Int32) (f : Nat → UInt64) (i : Int32) (g_h0 : M h0 = some (mO 5 [.int lane, .ref v])) (g_v : M v = some (mDb E n f))  : Met l yX7_has wsX7_has ({ frames := 0, cells := 0, slots := 0, locals := 0 }) (mPre E M sz [.ref h0, .int i]) (mQi E M sz (fun r u => r = bI (¬ i < 0 ∧ ¬ nI n ≤ i) ∧ u = M)) (0) (0) (mA M sz) := by
  refine m_met [.ref h0, .int i] (by decide) rfl (Nat.le_of_ble_eq_true rfl) ?_
  intro p e s m below meth c ls H eH hx hb hr hts hown hlocks hnm hml hsz hE hM hS hA hl
  have hl : lv_has ls 2 [(0, .ref h0), (1, .int i)] := hl
  refine lv_iload_n hx hb dX7_has_0 rfl (lv_at hl 1 rfl) ?_
  refine lv_if_lt (tgt := 17) hx hb dX7_has_1 (by decide) (fun c_1 => ?_) (fun c_1 => ?_)
  · skip
    refine lv_iconst (v := 0) hx hb dX7_has_17 (by decide) ?_
    exact m_zret hx hb hr hlocks hM hS (Nat.le_refl _) (Nat.le_refl _) dX7_has_18 (by first | exact Or.inl rfl | exact Or.inr rfl) (by first | exact ⟨(bI_t (by first | assumption | exact ⟨by assumption, by assumption⟩ | exact ⟨by assumption, by assumption, by assumption⟩ | exact ⟨by assumption, by assumption, by assumption, by assumption⟩)).symm, rfl⟩ | exact ⟨(bI_f (fun h => by first | contradiction | (obtain ⟨h1, h2⟩ := h; first | contradiction | (obtain ⟨h2, h3⟩ := h2; first | contradiction | (obtain ⟨h3, h4⟩ := h3; contradiction))))).symm, rfl⟩ | exact ⟨(bI_f (by simp_all)).symm, rfl⟩)
  · skip
    refine lv_iload_n hx hb dX7_has_4 rfl (lv_at hl 1 rfl) ?_
    refine lv_aload_n hx hb dX7_has_5 rfl (lv_at hl 0 rfl) ?_
    refine m_get (ci := 5) (v := .ref v) (C := RX7) (T := TX7) (N := 2) hx hb hts in_X7_has_X7 hown hE hM g_h0 rfl 1 (by decide) (hts (.fieldLink RX7 15 "CallWays2$Samples" "values" "[D") (by decide +kernel)) (fun _ h9 => h9) rfl dX7_has_6 ?_
    refine m_alenD hx hb hE hM g_v dX7_has_9 ?_
    refine lv_icmp_ge (tgt := 17) hx hb dX7_has_10 (by decide) (fun c_10 => ?_) (fun c_10 => ?_)
    · skip
      refine lv_iconst (v := 0) hx hb dX7_has_17 (by decide) ?_
      exact m_zret hx hb hr hlocks hM hS (Nat.le_refl _) (Nat.le_refl _) dX7_has_18 (by first | exact Or.inl rfl | exact Or.inr rfl) (by first | exact ⟨(bI_t (by first | assumption | exact ⟨by assumption, by assumption⟩ | exact ⟨by assumption, by assumption, by assumption⟩ | exact ⟨by assumption, by assumption, by assumption, by assumption⟩)).symm, rfl⟩ | exact ⟨(bI_f (fun h => by first | contradiction | (obtain ⟨h1, h2⟩ := h; first | contradiction | (obtain ⟨h2, h3⟩ := h2; first | contradiction | (obtain ⟨h3, h4⟩ := h3; contradiction))))).symm, rfl⟩ | exact ⟨(bI_f (by simp_all)).symm, rfl⟩)
    · skip
      refine lv_iconst (v := 1) hx hb dX7_has_13 (by decide) ?_
      refine lv_goto (tgt := 18) hx hb dX7_has_14 (by decide) ?_
      exact m_zret hx hb hr hlocks hM hS (Nat.le_refl _) (Nat.le_refl _) dX7_has_18 (by first | exact Or.inl rfl | exact Or.inr rfl) (by first | exact ⟨(bI_t (by first | assumption | exact ⟨by assumption, by assumption⟩ | exact ⟨by assumption, by assumption, by assumption⟩ | exact ⟨by assumption, by assumption, by assumption, by assumption⟩)).symm, rfl⟩ | exact ⟨(bI_f (fun h => by first | contradiction | (obtain ⟨h1, h2⟩ := h; first | contradiction | (obtain ⟨h2, h3⟩ := h2; first | contradiction | (obtain ⟨h3, h4⟩ := h3; contradiction))))).symm, rfl⟩ | exact ⟨(bI_f (by simp_all)).symm, rfl⟩)
theorem in_X7_spans_X7 : ∀ w ∈ wsX70, w ∈ wsX7_spans := by decide +kernel
set_option maxHeartbeats 4000000 in
set_option maxRecDepth 100000 in
theorem c_X7_spans (l : Launch) (E : mEnv) (M : mMem) (sz : Nat) (h0 v n : Nat) (lane : Int32) (f : Nat → UInt64) (i k : Int32) (g_h0 : M h0 = some (mO 5 [.int lane, .ref v])) (g_v : M v = some (mDb E n f))  : Met l yX7_spans wsX7_spans ({ frames := 0, cells := 0, slots := 0, locals := 0 }) (mPre E M sz [.ref h0, .int i, .int k]) (mQi E M sz (fun r u => r = bI (¬ i < 0 ∧ ¬ k < 0 ∧ ¬ nI n < k ∧ ¬ nI n - k < i) ∧ u = M)) (0) (0) (mA M sz) := by
  refine m_met [.ref h0, .int i, .int k] (by decide) rfl (Nat.le_of_ble_eq_true rfl) ?_
  intro p e s m below meth c ls H eH hx hb hr hts hown hlocks hnm hml hsz hE hM hS hA hl
  have hl : lv_has ls 3 [(0, .ref h0), (1, .int i), (2, .int k)] := hl
  refine lv_iload_n hx hb dX7_spans_0 rfl (lv_at hl 1 rfl) ?_
  refine lv_if_lt (tgt := 32) hx hb dX7_spans_1 (by decide) (fun c_1 => ?_) (fun c_1 => ?_)
  · skip
    refine lv_iconst (v := 0) hx hb dX7_spans_32 (by decide) ?_
    exact m_zret hx hb hr hlocks hM hS (Nat.le_refl _) (Nat.le_refl _) dX7_spans_33 (by first | exact Or.inl rfl | exact Or.inr rfl) (by first | exact ⟨(bI_t (by first | assumption | exact ⟨by assumption, by assumption⟩ | exact ⟨by assumption, by assumption, by assumption⟩ | exact ⟨by assumption, by assumption, by assumption, by assumption⟩)).symm, rfl⟩ | exact ⟨(bI_f (fun h => by first | contradiction | (obtain ⟨h1, h2⟩ := h; first | contradiction | (obtain ⟨h2, h3⟩ := h2; first | contradiction | (obtain ⟨h3, h4⟩ := h3; contradiction))))).symm, rfl⟩ | exact ⟨(bI_f (by simp_all)).symm, rfl⟩)
  · skip
    refine lv_iload_n hx hb dX7_spans_4 rfl (lv_at hl 2 rfl) ?_
    refine lv_if_lt (tgt := 32) hx hb dX7_spans_5 (by decide) (fun c_5 => ?_) (fun c_5 => ?_)
    · skip
      refine lv_iconst (v := 0) hx hb dX7_spans_32 (by decide) ?_
      exact m_zret hx hb hr hlocks hM hS (Nat.le_refl _) (Nat.le_refl _) dX7_spans_33 (by first | exact Or.inl rfl | exact Or.inr rfl) (by first | exact ⟨(bI_t (by first | assumption | exact ⟨by assumption, by assumption⟩ | exact ⟨by assumption, by assumption, by assumption⟩ | exact ⟨by assumption, by assumption, by assumption, by assumption⟩)).symm, rfl⟩ | exact ⟨(bI_f (fun h => by first | contradiction | (obtain ⟨h1, h2⟩ := h; first | contradiction | (obtain ⟨h2, h3⟩ := h2; first | contradiction | (obtain ⟨h3, h4⟩ := h3; contradiction))))).symm, rfl⟩ | exact ⟨(bI_f (by simp_all)).symm, rfl⟩)
    · skip
      refine lv_iload_n hx hb dX7_spans_8 rfl (lv_at hl 2 rfl) ?_
      refine lv_aload_n hx hb dX7_spans_9 rfl (lv_at hl 0 rfl) ?_
      refine m_get (ci := 5) (v := .ref v) (C := RX7) (T := TX7) (N := 2) hx hb hts in_X7_spans_X7 hown hE hM g_h0 rfl 1 (by decide) (hts (.fieldLink RX7 15 "CallWays2$Samples" "values" "[D") (by decide +kernel)) (fun _ h9 => h9) rfl dX7_spans_10 ?_
      refine m_alenD hx hb hE hM g_v dX7_spans_13 ?_
      refine lv_icmp_gt (tgt := 32) hx hb dX7_spans_14 (by decide) (fun c_14 => ?_) (fun c_14 => ?_)
      · skip
        refine lv_iconst (v := 0) hx hb dX7_spans_32 (by decide) ?_
        exact m_zret hx hb hr hlocks hM hS (Nat.le_refl _) (Nat.le_refl _) dX7_spans_33 (by first | exact Or.inl rfl | exact Or.inr rfl) (by first | exact ⟨(bI_t (by first | assumption | exact ⟨by assumption, by assumption⟩ | exact ⟨by assumption, by assumption, by assumption⟩ | exact ⟨by assumption, by assumption, by assumption, by assumption⟩)).symm, rfl⟩ | exact ⟨(bI_f (fun h => by first | contradiction | (obtain ⟨h1, h2⟩ := h; first | contradiction | (obtain ⟨h2, h3⟩ := h2; first | contradiction | (obtain ⟨h3, h4⟩ := h3; contradiction))))).symm, rfl⟩ | exact ⟨(bI_f (by simp_all)).symm, rfl⟩)
      · skip
        refine lv_iload_n hx hb dX7_spans_17 rfl (lv_at hl 1 rfl) ?_
        refine lv_aload_n hx hb dX7_spans_18 rfl (lv_at hl 0 rfl) ?_
        refine m_get (ci := 5) (v := .ref v) (C := RX7) (T := TX7) (N := 2) hx hb hts in_X7_spans_X7 hown hE hM g_h0 rfl 1 (by decide) (hts (.fieldLink RX7 15 "CallWays2$Samples" "values" "[D") (by decide +kernel)) (fun _ h9 => h9) rfl dX7_spans_19 ?_
        refine m_alenD hx hb hE hM g_v dX7_spans_22 ?_
        refine lv_iload_n hx hb dX7_spans_23 rfl (lv_at hl 2 rfl) ?_
        refine lv_isub hx hb dX7_spans_24 ?_
        refine lv_icmp_gt (tgt := 32) hx hb dX7_spans_25 (by decide) (fun c_25 => ?_) (fun c_25 => ?_)
        · skip
          refine lv_iconst (v := 0) hx hb dX7_spans_32 (by decide) ?_
          exact m_zret hx hb hr hlocks hM hS (Nat.le_refl _) (Nat.le_refl _) dX7_spans_33 (by first | exact Or.inl rfl | exact Or.inr rfl) (by first | exact ⟨(bI_t (by first | assumption | exact ⟨by assumption, by assumption⟩ | exact ⟨by assumption, by assumption, by assumption⟩ | exact ⟨by assumption, by assumption, by assumption, by assumption⟩)).symm, rfl⟩ | exact ⟨(bI_f (fun h => by first | contradiction | (obtain ⟨h1, h2⟩ := h; first | contradiction | (obtain ⟨h2, h3⟩ := h2; first | contradiction | (obtain ⟨h3, h4⟩ := h3; contradiction))))).symm, rfl⟩ | exact ⟨(bI_f (by simp_all)).symm, rfl⟩)
        · skip
          refine lv_iconst (v := 1) hx hb dX7_spans_28 (by decide) ?_
          refine lv_goto (tgt := 33) hx hb dX7_spans_29 (by decide) ?_
          exact m_zret hx hb hr hlocks hM hS (Nat.le_refl _) (Nat.le_refl _) dX7_spans_33 (by first | exact Or.inl rfl | exact Or.inr rfl) (by first | exact ⟨(bI_t (by first | assumption | exact ⟨by assumption, by assumption⟩ | exact ⟨by assumption, by assumption, by assumption⟩ | exact ⟨by assumption, by assumption, by assumption, by assumption⟩)).symm, rfl⟩ | exact ⟨(bI_f (fun h => by first | contradiction | (obtain ⟨h1, h2⟩ := h; first | contradiction | (obtain ⟨h2, h3⟩ := h2; first | contradiction | (obtain ⟨h3, h4⟩ := h3; contradiction))))).symm, rfl⟩ | exact ⟨(bI_f (by simp_all)).symm, rfl⟩)
theorem in_X7_init_X7 : ∀ w ∈ wsX70, w ∈ wsX7_init := by decide +kernel
set_option maxHeartbeats 4000000 in
set_option maxRecDepth 100000 in
theorem c_X7_init (l : Launch) (E : mEnv) (M : mMem) (sz : Nat) (h0 v : Nat) (lane : Int32) (g_h0 : M h0 = some (mO 5 [.int 0, .null]))  : Met l yX7_init wsX7_init ({ frames := 1, cells := 0, slots := 0, locals := 12 }) (mPre E M sz [.ref h0, .int lane, .ref v]) (mQv E M sz (fun u => u = mUp M h0 (mO 5 [.int lane, .ref v]))) (0) (0) (mA M sz) := by
  refine m_met [.ref h0, .int lane, .ref v] (by decide) rfl (Nat.le_of_ble_eq_true rfl) ?_
  intro p e s m below meth c ls H eH hx hb hr hts hown hlocks hnm hml hsz hE hM hS hA hl
  have hl : lv_has ls 3 [(0, .ref h0), (1, .int lane), (2, .ref v)] := hl
  refine lv_aload_n hx hb dX7_init_0 rfl (lv_at hl 0 rfl) ?_
  refine W.objInit hx hb hown (hts (.methodLink RX7 3 objectInit) (by decide +kernel)) (hts (.instanceMethod objectInit) (by decide +kernel)) (hts (.code objectInit ⟨#[0xb1]⟩ 1 none) (by decide +kernel)) rfl (by rw [hml]; exact hl.1) rfl dX7_init_1 (Nat.le_of_ble_eq_true rfl) (Nat.le_of_ble_eq_true rfl) ?_
  refine W.eq (g2 := F0 m 4 ls []) rfl ?_
  refine lv_aload_n hx hb dX7_init_4 rfl (lv_at hl 0 rfl) ?_
  refine lv_iload_n hx hb dX7_init_5 rfl (lv_at hl 1 rfl) ?_
  refine m_putF (ci := 5) (v := .int lane) (ty := .int) (C := RX7) (T := TX7) (N := 2) hx hb hts in_X7_init_X7 tyX7 tyX7_ok nmX7 hown hE hM hS g_h0 rfl 0 (by decide) (hts (.fieldLink RX7 9 "CallWays2$Samples" "lane" "I") (by decide +kernel)) (fun _ h9 => h9) rfl hnm rfl (by decide +kernel) rfl rfl (Nat.le_of_ble_eq_true rfl) dX7_init_6 (fun H locs hM hS => ?_)
  have hM : mOK E.1 (mA M sz) (mUp M h0 (mO 5 [.int lane, .null])) H := hM
  obtain ⟨M1, eM1⟩ : ∃ z, z = mUp M h0 (mO 5 [.int lane, .null]) := ⟨_, rfl⟩
  rw [← eM1] at hM
  have g_h0 : M1 h0 = some (mO 5 [.int lane, .null]) := by rw [eM1]; exact mUp_self _ _ _
  refine lv_aload_n hx hb dX7_init_9 rfl (lv_at hl 0 rfl) ?_
  refine lv_aload_n hx hb dX7_init_10 rfl (lv_at hl 2 rfl) ?_
  refine m_putF (ci := 5) (v := .ref v) (ty := .array .double) (C := RX7) (T := TX7) (N := 2) hx hb hts in_X7_init_X7 tyX7 tyX7_ok nmX7 hown hE hM hS g_h0 rfl 1 (by decide) (hts (.fieldLink RX7 15 "CallWays2$Samples" "values" "[D") (by decide +kernel)) (fun _ h9 => h9) rfl hnm rfl (by decide +kernel) rfl rfl (Nat.le_of_ble_eq_true rfl) dX7_init_11 (fun H locs hM hS => ?_)
  have hM : mOK E.1 (mA M sz) (mUp M1 h0 (mO 5 [.int lane, .ref v])) H := hM
  obtain ⟨M2, eM2⟩ : ∃ z, z = mUp M1 h0 (mO 5 [.int lane, .ref v]) := ⟨_, rfl⟩
  rw [← eM2] at hM
  have g_h0 : M2 h0 = some (mO 5 [.int lane, .ref v]) := by rw [eM2]; exact mUp_self _ _ _
  exact m_vret hx hb hr hlocks hM hS (Nat.le_refl _) (Nat.le_refl _) dX7_init_14 (by show _ = _; rw [eM2, eM1]; simp only [mUp_up])
theorem in_X3_init_X3 : ∀ w ∈ wsX30, w ∈ wsX3_init := by decide +kernel
set_option maxHeartbeats 4000000 in
set_option maxRecDepth 100000 in
theorem c_X3_init (l : Launch) (E : mEnv) (M : mMem) (sz : Nat) (h0 : Nat) (kind a : Int32) (g_h0 : M h0 = some (mO 2 [.int 0, .double 0]))  : Met l yX3_init wsX3_init ({ frames := 1, cells := 0, slots := 0, locals := 12 }) (mPre E M sz [.ref h0, .int kind, .int a]) (mQv E M sz (fun u => u = mUp M h0 (mO 2 [.int kind, .double (FP.i2d a)]))) (0) (0) (mA M sz) := by
  refine m_met [.ref h0, .int kind, .int a] (by decide) rfl (Nat.le_of_ble_eq_true rfl) ?_
  intro p e s m below meth c ls H eH hx hb hr hts hown hlocks hnm hml hsz hE hM hS hA hl
  have hl : lv_has ls 3 [(0, .ref h0), (1, .int kind), (2, .int a)] := hl
  refine lv_aload_n hx hb dX3_init_0 rfl (lv_at hl 0 rfl) ?_
  refine W.objInit hx hb hown (hts (.methodLink RX3 3 objectInit) (by decide +kernel)) (hts (.instanceMethod objectInit) (by decide +kernel)) (hts (.code objectInit ⟨#[0xb1]⟩ 1 none) (by decide +kernel)) rfl (by rw [hml]; exact hl.1) rfl dX3_init_1 (Nat.le_of_ble_eq_true rfl) (Nat.le_of_ble_eq_true rfl) ?_
  refine W.eq (g2 := F0 m 4 ls []) rfl ?_
  refine lv_aload_n hx hb dX3_init_4 rfl (lv_at hl 0 rfl) ?_
  refine lv_iload_n hx hb dX3_init_5 rfl (lv_at hl 1 rfl) ?_
  refine m_putF (ci := 2) (v := .int kind) (ty := .int) (C := RX3) (T := TX3) (N := 2) hx hb hts in_X3_init_X3 tyX3 tyX3_ok nmX3 hown hE hM hS g_h0 rfl 0 (by decide) (hts (.fieldLink RX3 9 "CallWays2$Function" "kind" "I") (by decide +kernel)) (fun _ h9 => h9) rfl hnm rfl (by decide +kernel) rfl rfl (Nat.le_of_ble_eq_true rfl) dX3_init_6 (fun H locs hM hS => ?_)
  have hM : mOK E.1 (mA M sz) (mUp M h0 (mO 2 [.int kind, .double 0])) H := hM
  obtain ⟨M1, eM1⟩ : ∃ z, z = mUp M h0 (mO 2 [.int kind, .double 0]) := ⟨_, rfl⟩
  rw [← eM1] at hM
  have g_h0 : M1 h0 = some (mO 2 [.int kind, .double 0]) := by rw [eM1]; exact mUp_self _ _ _
  refine lv_aload_n hx hb dX3_init_9 rfl (lv_at hl 0 rfl) ?_
  refine lv_iload_n hx hb dX3_init_10 rfl (lv_at hl 2 rfl) ?_
  refine lv_i2d hx hb dX3_init_11 ?_
  refine m_putF (ci := 2) (v := .double (FP.i2d a)) (ty := .double) (C := RX3) (T := TX3) (N := 2) hx hb hts in_X3_init_X3 tyX3 tyX3_ok nmX3 hown hE hM hS g_h0 rfl 1 (by decide) (hts (.fieldLink RX3 15 "CallWays2$Function" "a" "D") (by decide +kernel)) (fun _ h9 => h9) rfl hnm rfl (by decide +kernel) rfl rfl (Nat.le_of_ble_eq_true rfl) dX3_init_12 (fun H locs hM hS => ?_)
  have hM : mOK E.1 (mA M sz) (mUp M1 h0 (mO 2 [.int kind, .double (FP.i2d a)])) H := hM
  obtain ⟨M2, eM2⟩ : ∃ z, z = mUp M1 h0 (mO 2 [.int kind, .double (FP.i2d a)]) := ⟨_, rfl⟩
  rw [← eM2] at hM
  have g_h0 : M2 h0 = some (mO 2 [.int kind, .double (FP.i2d a)]) := by rw [eM2]; exact mUp_self _ _ _
  exact m_vret hx hb hr hlocks hM hS (Nat.le_refl _) (Nat.le_refl _) dX3_init_15 (by show _ = _; rw [eM2, eM1]; simp only [mUp_up])
theorem in_X3_refuses_X3 : ∀ w ∈ wsX30, w ∈ wsX3_refuses := by decide +kernel
set_option maxHeartbeats 4000000 in
set_option maxRecDepth 100000 in
theorem c_X3_refuses (l : Launch) (E : mEnv) (M : mMem) (sz : Nat) (h0 : Nat) (kind : Int32) (a x : UInt64) (g_h0 : M h0 = some (mO 2 [.int kind, .double a]))  : Met l yX3_refuses wsX3_refuses ({ frames := 0, cells := 0, slots := 0, locals := 0 }) (mPre E M sz [.ref h0, .double x]) (mQi E M sz (fun r u => r = bI (kind = 5 ∧ FP.dcmp x a = some .eq) ∧ u = M)) (0) (0) (mA M sz) := by
  refine m_met [.ref h0, .double x] (by decide) rfl (Nat.le_of_ble_eq_true rfl) ?_
  intro p e s m below meth c ls H eH hx hb hr hts hown hlocks hnm hml hsz hE hM hS hA hl
  have hl : lv_has ls 3 [(0, .ref h0), (1, .double x)] := hl
  refine lv_aload_n hx hb dX3_refuses_0 rfl (lv_at hl 0 rfl) ?_
  refine m_get (ci := 2) (v := .int kind) (C := RX3) (T := TX3) (N := 2) hx hb hts in_X3_refuses_X3 hown hE hM g_h0 rfl 0 (by decide) (hts (.fieldLink RX3 9 "CallWays2$Function" "kind" "I") (by decide +kernel)) (fun _ h9 => h9) rfl dX3_refuses_1 ?_
  refine lv_iconst (v := 5) hx hb dX3_refuses_4 (by decide) ?_
  refine lv_icmp_ne (tgt := 21) hx hb dX3_refuses_5 (by decide) (fun c_5 => ?_) (fun c_5 => ?_)
  · skip
    refine lv_iconst (v := 0) hx hb dX3_refuses_21 (by decide) ?_
    exact m_zret hx hb hr hlocks hM hS (Nat.le_refl _) (Nat.le_refl _) dX3_refuses_22 (by first | exact Or.inl rfl | exact Or.inr rfl) (by first | exact ⟨(bI_t (by first | assumption | exact ⟨by assumption, by assumption⟩ | exact ⟨by assumption, by assumption, by assumption⟩ | exact ⟨by assumption, by assumption, by assumption, by assumption⟩)).symm, rfl⟩ | exact ⟨(bI_f (fun h => by first | contradiction | (obtain ⟨h1, h2⟩ := h; first | contradiction | (obtain ⟨h2, h3⟩ := h2; first | contradiction | (obtain ⟨h3, h4⟩ := h3; contradiction))))).symm, rfl⟩ | exact ⟨(bI_f (by simp_all)).symm, rfl⟩)
  · skip
    refine lv_dload_n hx hb dX3_refuses_8 rfl (lv_at hl 1 rfl) ?_
    refine lv_aload_n hx hb dX3_refuses_9 rfl (lv_at hl 0 rfl) ?_
    refine m_get (ci := 2) (v := .double a) (C := RX3) (T := TX3) (N := 2) hx hb hts in_X3_refuses_X3 hown hE hM g_h0 rfl 1 (by decide) (hts (.fieldLink RX3 15 "CallWays2$Function" "a" "D") (by decide +kernel)) (fun _ h9 => h9) rfl dX3_refuses_10 ?_
    refine lv_dcmp hx hb dX3_refuses_13 ?_
    refine lv_if_ne (tgt := 21) hx hb dX3_refuses_14 (by decide) (fun c_14 => ?_) (fun c_14 => ?_)
    · skip
      rw [cmpv_eq] at c_14
      refine lv_iconst (v := 0) hx hb dX3_refuses_21 (by decide) ?_
      exact m_zret hx hb hr hlocks hM hS (Nat.le_refl _) (Nat.le_refl _) dX3_refuses_22 (by first | exact Or.inl rfl | exact Or.inr rfl) (by first | exact ⟨(bI_t (by first | assumption | exact ⟨by assumption, by assumption⟩ | exact ⟨by assumption, by assumption, by assumption⟩ | exact ⟨by assumption, by assumption, by assumption, by assumption⟩)).symm, rfl⟩ | exact ⟨(bI_f (fun h => by first | contradiction | (obtain ⟨h1, h2⟩ := h; first | contradiction | (obtain ⟨h2, h3⟩ := h2; first | contradiction | (obtain ⟨h3, h4⟩ := h3; contradiction))))).symm, rfl⟩ | exact ⟨(bI_f (by simp_all)).symm, rfl⟩)
    · skip
      rw [cmpv_eq] at c_14
      refine lv_iconst (v := 1) hx hb dX3_refuses_17 (by decide) ?_
      refine lv_goto (tgt := 22) hx hb dX3_refuses_18 (by decide) ?_
      exact m_zret hx hb hr hlocks hM hS (Nat.le_refl _) (Nat.le_refl _) dX3_refuses_22 (by first | exact Or.inl rfl | exact Or.inr rfl) (by first | exact ⟨(bI_t (by first | assumption | exact ⟨by assumption, by assumption⟩ | exact ⟨by assumption, by assumption, by assumption⟩ | exact ⟨by assumption, by assumption, by assumption, by assumption⟩)).symm, rfl⟩ | exact ⟨(bI_f (fun h => by first | contradiction | (obtain ⟨h1, h2⟩ := h; first | contradiction | (obtain ⟨h2, h3⟩ := h2; first | contradiction | (obtain ⟨h3, h4⟩ := h3; contradiction))))).symm, rfl⟩ | exact ⟨(bI_f (by simp_all)).symm, rfl⟩)
theorem in_X3_pass_X3 : ∀ w ∈ wsX30, w ∈ wsX3_pass := by decide +kernel
set_option maxHeartbeats 4000000 in
set_option maxRecDepth 100000 in
theorem c_X3_pass (l : Launch) (E : mEnv) (M : mMem) (sz : Nat) (h0 : Nat) (kind : Int32) (a x : UInt64) (hx0 : FP.Core.DFin x) (ha0 : FP.Core.DFin a) (g_h0 : M h0 = some (mO 2 [.int kind, .double a]))  : Met l yX3_pass wsX3_pass ({ frames := 0, cells := 0, slots := 0, locals := 0 }) (mPre E M sz [.ref h0, .double x]) (mQd E M sz (fun r u => r = sPass kind a x ∧ u = M)) (0) (0) (mA M sz) := by
  refine m_met [.ref h0, .double x] (by decide) rfl (Nat.le_of_ble_eq_true rfl) ?_
  intro p e s m below meth c ls H eH hx hb hr hts hown hlocks hnm hml hsz hE hM hS hA hl
  have hl : lv_has ls 3 [(0, .ref h0), (1, .double x)] := hl
  refine lv_aload_n hx hb dX3_pass_0 rfl (lv_at hl 0 rfl) ?_
  refine m_get (ci := 2) (v := .int kind) (C := RX3) (T := TX3) (N := 2) hx hb hts in_X3_pass_X3 hown hE hM g_h0 rfl 0 (by decide) (hts (.fieldLink RX3 9 "CallWays2$Function" "kind" "I") (by decide +kernel)) (fun _ h9 => h9) rfl dX3_pass_1 ?_
  by_cases s_4_0 : kind = 0
  · refine lv_tableIn (off := 32) (tgt := 36) hx hb dX3_pass_4 (by rw [s_4_0]; decide) (by rw [s_4_0]; decide) (by rw [s_4_0]; rfl) (by decide) ?_
    refine lv_dload_n hx hb dX3_pass_36 rfl (lv_at hl 1 rfl) ?_
    refine lv_aload_n hx hb dX3_pass_37 rfl (lv_at hl 0 rfl) ?_
    refine m_get (ci := 2) (v := .double a) (C := RX3) (T := TX3) (N := 2) hx hb hts in_X3_pass_X3 hown hE hM g_h0 rfl 1 (by decide) (hts (.fieldLink RX3 15 "CallWays2$Function" "a" "D") (by decide +kernel)) (fun _ h9 => h9) rfl dX3_pass_38 ?_
    refine lv_dadd hx hb dX3_pass_41 (nn_add hx0 ha0) ?_
    exact m_dret hx hb hr hlocks hM hS (Nat.le_refl _) (Nat.le_refl _) dX3_pass_42 (by refine ⟨?_, rfl⟩; unfold sPass; simp_all)
  by_cases s_4_1 : kind = 1
  · refine lv_tableIn (off := 39) (tgt := 43) hx hb dX3_pass_4 (by rw [s_4_1]; decide) (by rw [s_4_1]; decide) (by rw [s_4_1]; rfl) (by decide) ?_
    refine lv_dload_n hx hb dX3_pass_43 rfl (lv_at hl 1 rfl) ?_
    refine lv_aload_n hx hb dX3_pass_44 rfl (lv_at hl 0 rfl) ?_
    refine m_get (ci := 2) (v := .double a) (C := RX3) (T := TX3) (N := 2) hx hb hts in_X3_pass_X3 hown hE hM g_h0 rfl 1 (by decide) (hts (.fieldLink RX3 15 "CallWays2$Function" "a" "D") (by decide +kernel)) (fun _ h9 => h9) rfl dX3_pass_45 ?_
    refine lv_dmul hx hb dX3_pass_48 (nn_mul hx0 ha0) ?_
    exact m_dret hx hb hr hlocks hM hS (Nat.le_refl _) (Nat.le_refl _) dX3_pass_49 (by refine ⟨?_, rfl⟩; unfold sPass; simp_all)
  by_cases s_4_2 : kind = 2
  · refine lv_tableIn (off := 46) (tgt := 50) hx hb dX3_pass_4 (by rw [s_4_2]; decide) (by rw [s_4_2]; decide) (by rw [s_4_2]; rfl) (by decide) ?_
    refine lv_dload_n hx hb dX3_pass_50 rfl (lv_at hl 1 rfl) ?_
    refine lv_aload_n hx hb dX3_pass_51 rfl (lv_at hl 0 rfl) ?_
    refine m_get (ci := 2) (v := .double a) (C := RX3) (T := TX3) (N := 2) hx hb hts in_X3_pass_X3 hown hE hM g_h0 rfl 1 (by decide) (hts (.fieldLink RX3 15 "CallWays2$Function" "a" "D") (by decide +kernel)) (fun _ h9 => h9) rfl dX3_pass_52 ?_
    refine lv_dcmp hx hb dX3_pass_55 ?_
    refine lv_if_gt (tgt := 63) hx hb dX3_pass_56 (by decide) (fun c_56 => ?_) (fun c_56 => ?_)
    · skip
      refine lv_aload_n hx hb dX3_pass_63 rfl (lv_at hl 0 rfl) ?_
      refine m_get (ci := 2) (v := .double a) (C := RX3) (T := TX3) (N := 2) hx hb hts in_X3_pass_X3 hown hE hM g_h0 rfl 1 (by decide) (hts (.fieldLink RX3 15 "CallWays2$Function" "a" "D") (by decide +kernel)) (fun _ h9 => h9) rfl dX3_pass_64 ?_
      exact m_dret hx hb hr hlocks hM hS (Nat.le_refl _) (Nat.le_refl _) dX3_pass_67 (by refine ⟨?_, rfl⟩; subst s_4_2; first | exact (if_pos c_56).symm | exact (if_neg c_56).symm)
    · skip
      refine lv_dload_n hx hb dX3_pass_59 rfl (lv_at hl 1 rfl) ?_
      refine lv_goto (tgt := 67) hx hb dX3_pass_60 (by decide) ?_
      exact m_dret hx hb hr hlocks hM hS (Nat.le_refl _) (Nat.le_refl _) dX3_pass_67 (by refine ⟨?_, rfl⟩; subst s_4_2; first | exact (if_pos c_56).symm | exact (if_neg c_56).symm)
  by_cases s_4_3 : kind = 3
  · refine lv_tableIn (off := 64) (tgt := 68) hx hb dX3_pass_4 (by rw [s_4_3]; decide) (by rw [s_4_3]; decide) (by rw [s_4_3]; rfl) (by decide) ?_
    refine lv_dload_n hx hb dX3_pass_68 rfl (lv_at hl 1 rfl) ?_
    refine lv_aload_n hx hb dX3_pass_69 rfl (lv_at hl 0 rfl) ?_
    refine m_get (ci := 2) (v := .double a) (C := RX3) (T := TX3) (N := 2) hx hb hts in_X3_pass_X3 hown hE hM g_h0 rfl 1 (by decide) (hts (.fieldLink RX3 15 "CallWays2$Function" "a" "D") (by decide +kernel)) (fun _ h9 => h9) rfl dX3_pass_70 ?_
    refine lv_dcmp hx hb dX3_pass_73 ?_
    refine lv_if_le (tgt := 81) hx hb dX3_pass_74 (by decide) (fun c_74 => ?_) (fun c_74 => ?_)
    · skip
      refine lv_aload_n hx hb dX3_pass_81 rfl (lv_at hl 0 rfl) ?_
      refine m_get (ci := 2) (v := .double a) (C := RX3) (T := TX3) (N := 2) hx hb hts in_X3_pass_X3 hown hE hM g_h0 rfl 1 (by decide) (hts (.fieldLink RX3 15 "CallWays2$Function" "a" "D") (by decide +kernel)) (fun _ h9 => h9) rfl dX3_pass_82 ?_
      exact m_dret hx hb hr hlocks hM hS (Nat.le_refl _) (Nat.le_refl _) dX3_pass_85 (by refine ⟨?_, rfl⟩; subst s_4_3; first | exact (if_pos c_74).symm | exact (if_neg c_74).symm)
    · skip
      refine lv_dload_n hx hb dX3_pass_77 rfl (lv_at hl 1 rfl) ?_
      refine lv_goto (tgt := 85) hx hb dX3_pass_78 (by decide) ?_
      exact m_dret hx hb hr hlocks hM hS (Nat.le_refl _) (Nat.le_refl _) dX3_pass_85 (by refine ⟨?_, rfl⟩; subst s_4_3; first | exact (if_pos c_74).symm | exact (if_neg c_74).symm)
  refine lv_tableOut (tgt := 86) hx hb dX3_pass_4 (tab_out (x := kind) (n := 3) (by decide) (fun j hj => match j, hj with | 0, _ => s_4_0 | 1, _ => s_4_1 | 2, _ => s_4_2 | 3, _ => s_4_3 | j + 4, h => absurd h (by omega))) (by decide) ?_
  refine lv_dload_n hx hb dX3_pass_86 rfl (lv_at hl 1 rfl) ?_
  exact m_dret hx hb hr hlocks hM hS (Nat.le_refl _) (Nat.le_refl _) dX3_pass_87 (by refine ⟨?_, rfl⟩; unfold sPass; simp_all)
theorem in_X7_turned_X7 : ∀ w ∈ wsX70, w ∈ wsX7_turned := by decide +kernel
set_option maxHeartbeats 4000000 in
set_option maxRecDepth 100000 in
theorem c_X7_turned (l : Launch) (E : mEnv) (M : mMem) (sz : Nat) (h0 v : Nat) (lane : Int32) (x : UInt64) (hx0 : FP.Core.DFin x) (g_h0 : M h0 = some (mO 5 [.int lane, .ref v]))  : Met l yX7_turned wsX7_turned ({ frames := 0, cells := 0, slots := 0, locals := 0 }) (mPre E M sz [.ref h0, .double x]) (mQd E M sz (fun r u => r = sTurn lane x ∧ u = M)) (0) (0) (mA M sz) := by
  refine m_met [.ref h0, .double x] (by decide) rfl (Nat.le_of_ble_eq_true rfl) ?_
  intro p e s m below meth c ls H eH hx hb hr hts hown hlocks hnm hml hsz hE hM hS hA hl
  have hl : lv_has ls 3 [(0, .ref h0), (1, .double x)] := hl
  refine lv_aload_n hx hb dX7_turned_0 rfl (lv_at hl 0 rfl) ?_
  refine m_get (ci := 5) (v := .int lane) (C := RX7) (T := TX7) (N := 2) hx hb hts in_X7_turned_X7 hown hE hM g_h0 rfl 0 (by decide) (hts (.fieldLink RX7 9 "CallWays2$Samples" "lane" "I") (by decide +kernel)) (fun _ h9 => h9) rfl dX7_turned_1 ?_
  by_cases s_4_0 : lane = 0
  · refine lv_tableIn (off := 28) (tgt := 32) hx hb dX7_turned_4 (by rw [s_4_0]; decide) (by rw [s_4_0]; decide) (by rw [s_4_0]; rfl) (by decide) ?_
    refine lv_dload_n hx hb dX7_turned_32 rfl (lv_at hl 1 rfl) ?_
    refine lv_d2i hx hb dX7_turned_33 ?_
    refine lv_i2s hx hb dX7_turned_34 rfl ?_
    refine lv_i2d hx hb dX7_turned_35 ?_
    exact m_dret hx hb hr hlocks hM hS (Nat.le_refl _) (Nat.le_refl _) dX7_turned_36 (by refine ⟨?_, rfl⟩; unfold sTurn; simp_all)
  by_cases s_4_1 : lane = 1
  · refine lv_tableIn (off := 33) (tgt := 37) hx hb dX7_turned_4 (by rw [s_4_1]; decide) (by rw [s_4_1]; decide) (by rw [s_4_1]; rfl) (by decide) ?_
    refine lv_dload_n hx hb dX7_turned_37 rfl (lv_at hl 1 rfl) ?_
    refine lv_d2i hx hb dX7_turned_38 ?_
    refine lv_i2d hx hb dX7_turned_39 ?_
    exact m_dret hx hb hr hlocks hM hS (Nat.le_refl _) (Nat.le_refl _) dX7_turned_40 (by refine ⟨?_, rfl⟩; unfold sTurn; simp_all)
  by_cases s_4_2 : lane = 2
  · refine lv_tableIn (off := 37) (tgt := 41) hx hb dX7_turned_4 (by rw [s_4_2]; decide) (by rw [s_4_2]; decide) (by rw [s_4_2]; rfl) (by decide) ?_
    refine lv_dload_n hx hb dX7_turned_41 rfl (lv_at hl 1 rfl) ?_
    refine lv_d2f hx hb dX7_turned_42 (nn_d2f hx0) ?_
    refine lv_f2d hx hb dX7_turned_43 (nn_f2d hx0) ?_
    exact m_dret hx hb hr hlocks hM hS (Nat.le_refl _) (Nat.le_refl _) dX7_turned_44 (by refine ⟨?_, rfl⟩; unfold sTurn; simp_all)
  refine lv_tableOut (tgt := 45) hx hb dX7_turned_4 (tab_out (x := lane) (n := 2) (by decide) (fun j hj => match j, hj with | 0, _ => s_4_0 | 1, _ => s_4_1 | 2, _ => s_4_2 | j + 3, h => absurd h (by omega))) (by decide) ?_
  refine lv_dload_n hx hb dX7_turned_45 rfl (lv_at hl 1 rfl) ?_
  exact m_dret hx hb hr hlocks hM hS (Nat.le_refl _) (Nat.le_refl _) dX7_turned_46 (by refine ⟨?_, rfl⟩; unfold sTurn; simp_all)
theorem in_X7_set_X7 : ∀ w ∈ wsX70, w ∈ wsX7_set := by decide +kernel
set_option maxHeartbeats 4000000 in
set_option maxRecDepth 100000 in
theorem c_X7_set (l : Launch) (E : mEnv) (M : mMem) (sz : Nat) (h0 v n : Nat) (lane : Int32) (f : Nat → UInt64) (i : Int32) (x : UInt64) (hx0 : FP.Core.DFin x) (hin : vp_in i n) (g_h0 : M h0 = some (mO 5 [.int lane, .ref v])) (g_v : M v = some (mDb E n f))  : Met l yX7_set wsX7_set ({ frames := 1, cells := 0, slots := 0, locals := 22 }) (mPre E M sz [.ref h0, .int i, .double x]) (mQv E M sz (fun u => u = mUp M v (mDb E n (vf_upd f i.toNatClampNeg (sTurn lane x))))) (0) (0) (mA M sz) := by
  refine m_met [.ref h0, .int i, .double x] (by decide) rfl (Nat.le_of_ble_eq_true rfl) ?_
  intro p e s m below meth c ls H eH hx hb hr hts hown hlocks hnm hml hsz hE hM hS hA hl
  have hl : lv_has ls 4 [(0, .ref h0), (1, .int i), (2, .double x)] := hl
  refine lv_aload_n hx hb dX7_set_0 rfl (lv_at hl 0 rfl) ?_
  refine m_get (ci := 5) (v := .ref v) (C := RX7) (T := TX7) (N := 2) hx hb hts in_X7_set_X7 hown hE hM g_h0 rfl 1 (by decide) (hts (.fieldLink RX7 15 "CallWays2$Samples" "values" "[D") (by decide +kernel)) (fun _ h9 => h9) rfl dX7_set_1 ?_
  refine lv_iload_n hx hb dX7_set_4 rfl (lv_at hl 1 rfl) ?_
  refine lv_aload_n hx hb dX7_set_5 rfl (lv_at hl 0 rfl) ?_
  refine lv_dload_n hx hb dX7_set_6 rfl (lv_at hl 2 rfl) ?_
  refine m_calld (va_runV (As := [.double x]) (rest := [.int i, .ref v]) ⟨hx, hb, hml, hown, hts⟩ (c_X7_turned l E M H.size h0 v lane x hx0 g_h0) (cwV 1 hts gX7_set_X7_turned rfl rfl rfl (by decide +kernel) ⟨Nat.le_of_ble_eq_true rfl, Nat.le_of_ble_eq_true rfl⟩) (m_preV hE hM g_h0 rfl) rfl rfl hl.1 rfl (lv_room (Nat.le_of_ble_eq_true rfl)) dX7_set_7 ⟨Nat.le_of_ble_eq_true rfl, Nat.le_of_ble_eq_true rfl⟩) hM hS hA (fun r1 u H locs hw hM hS => ?_)
  obtain ⟨e_r1, eu⟩ := hw
  rw [eu] at hM
  subst e_r1
  refine m_dast hx hb hE hM hS g_v (by assumption) dX7_set_10 (fun H locs hM hS => ?_)
  have hM : mOK E.1 (mA M sz) (mUp M v (mDb E n (vf_upd f i.toNatClampNeg (sTurn lane x)))) H := hM
  obtain ⟨M1, eM1⟩ : ∃ z, z = mUp M v (mDb E n (vf_upd f i.toNatClampNeg (sTurn lane x))) := ⟨_, rfl⟩
  rw [← eM1] at hM
  have g_h0_ : M1 h0 = some (mO 5 [.int lane, .ref v]) := by rw [eM1]; exact mUp_at (m_ne g_h0 g_v (by simp)) g_h0
  have g_h0 := g_h0_
  have g_v : M1 v = some (mDb E n (vf_upd f i.toNatClampNeg (sTurn lane x))) := by rw [eM1]; exact mUp_self _ _ _
  exact m_vret hx hb hr hlocks hM hS (Nat.le_refl _) (Nat.le_refl _) dX7_set_11 (by show _ = _; rw [eM1])
theorem in_X5_fail_I : ∀ w ∈ wsX00 ++ wsX20 ++ wsX40 ++ wsX60 ++ wsX80, w ∈ wsX5_fail := by decide +kernel
set_option maxHeartbeats 4000000 in
set_option maxRecDepth 100000 in
theorem c_X5_fail (l : Launch) (E : mEnv) (M : mMem) (sz : Nat) (ci : Nat) (hci : insK ci) (h0 kn : Nat) (pi on ph fl : Int32) (le : UInt64) (tab : Option Nat) (w : Int32) (g_h0 : M h0 = some (mO ci [.ref kn, .int pi, .int on, .int ph, .double le, va_rf (tab), .int fl]))  : Met l yX5_fail wsX5_fail ({ frames := 0, cells := 0, slots := 0, locals := 0 }) (mPre E M sz [.ref h0, .int w]) (mQd E M sz (fun r u => r = FP.dconst0 ∧ u = mUp M h0 (mO ci [.ref kn, .int pi, .int on, .int ph, .double le, va_rf (tab), .int w]))) (0) (0) (mA M sz) := by
  refine m_met [.ref h0, .int w] (by decide) rfl (Nat.le_of_ble_eq_true rfl) ?_
  intro p e s m below meth c ls H eH hx hb hr hts hown hlocks hnm hml hsz hE hM hS hA hl
  have hl : lv_has ls 2 [(0, .ref h0), (1, .int w)] := hl
  refine lv_aload_n hx hb dX5_fail_0 rfl (lv_at hl 0 rfl) ?_
  refine lv_iload_n hx hb dX5_fail_1 rfl (lv_at hl 1 rfl) ?_
  refine m_putI (v := .int w) (ty := .int) hx hb hts in_X5_fail_I hown hE hM hS g_h0 hci 6 (by decide) (hts (.fieldLink RX5 23 "CallWays2$Instrument" "failure" "I") (by decide +kernel)) (fun _ h9 => h9) rfl (by decide +kernel) rfl rfl (Nat.le_of_ble_eq_true rfl) dX5_fail_2 (fun H locs hM hS => ?_)
  have hM : mOK E.1 (mA M sz) (mUp M h0 (mO ci [.ref kn, .int pi, .int on, .int ph, .double le, va_rf (tab), .int w])) H := hM
  obtain ⟨M1, eM1⟩ : ∃ z, z = mUp M h0 (mO ci [.ref kn, .int pi, .int on, .int ph, .double le, va_rf (tab), .int w]) := ⟨_, rfl⟩
  rw [← eM1] at hM
  have g_h0 : M1 h0 = some (mO ci [.ref kn, .int pi, .int on, .int ph, .double le, va_rf (tab), .int w]) := by rw [eM1]; exact mUp_self _ _ _
  refine lv_dconst0 hx hb dX5_fail_5 ?_
  exact m_dret hx hb hr hlocks hM hS (Nat.le_refl _) (Nat.le_refl _) dX5_fail_6 (by exact ⟨rfl, by rw [eM1]⟩)
theorem in_X5_goBack_I : ∀ w ∈ wsX00 ++ wsX20 ++ wsX40 ++ wsX60 ++ wsX80, w ∈ wsX5_goBack := by decide +kernel
set_option maxHeartbeats 4000000 in
set_option maxRecDepth 100000 in
theorem c_X5_goBack (l : Launch) (E : mEnv) (M : mMem) (sz : Nat) (ci : Nat) (hci : insK ci) (h0 kn : Nat) (pi on ph fl : Int32) (le : UInt64) (tab : Option Nat) (w : Int32) (x : UInt64) (g_h0 : M h0 = some (mO ci [.ref kn, .int pi, .int on, .int ph, .double le, va_rf (tab), .int fl]))  : Met l yX5_goBack wsX5_goBack ({ frames := 0, cells := 0, slots := 0, locals := 0 }) (mPre E M sz [.ref h0, .int w, .double x]) (mQv E M sz (fun u => u = mUp M h0 (mO ci [.ref kn, .int pi, .int on, .int w, .double x, va_rf (tab), .int fl]))) (0) (0) (mA M sz) := by
  refine m_met [.ref h0, .int w, .double x] (by decide) rfl (Nat.le_of_ble_eq_true rfl) ?_
  intro p e s m below meth c ls H eH hx hb hr hts hown hlocks hnm hml hsz hE hM hS hA hl
  have hl : lv_has ls 4 [(0, .ref h0), (1, .int w), (2, .double x)] := hl
  refine lv_aload_n hx hb dX5_goBack_0 rfl (lv_at hl 0 rfl) ?_
  refine lv_iload_n hx hb dX5_goBack_1 rfl (lv_at hl 1 rfl) ?_
  refine m_putI (v := .int w) (ty := .int) hx hb hts in_X5_goBack_I hown hE hM hS g_h0 hci 3 (by decide) (hts (.fieldLink RX5 30 "CallWays2$Instrument" "phase" "I") (by decide +kernel)) (fun _ h9 => h9) rfl (by decide +kernel) rfl rfl (Nat.le_of_ble_eq_true rfl) dX5_goBack_2 (fun H locs hM hS => ?_)
  have hM : mOK E.1 (mA M sz) (mUp M h0 (mO ci [.ref kn, .int pi, .int on, .int w, .double le, va_rf (tab), .int fl])) H := hM
  obtain ⟨M1, eM1⟩ : ∃ z, z = mUp M h0 (mO ci [.ref kn, .int pi, .int on, .int w, .double le, va_rf (tab), .int fl]) := ⟨_, rfl⟩
  rw [← eM1] at hM
  have g_h0 : M1 h0 = some (mO ci [.ref kn, .int pi, .int on, .int w, .double le, va_rf (tab), .int fl]) := by rw [eM1]; exact mUp_self _ _ _
  refine lv_aload_n hx hb dX5_goBack_5 rfl (lv_at hl 0 rfl) ?_
  refine lv_dload_n hx hb dX5_goBack_6 rfl (lv_at hl 2 rfl) ?_
  refine m_putI (v := .double x) (ty := .double) hx hb hts in_X5_goBack_I hown hE hM hS g_h0 hci 4 (by decide) (hts (.fieldLink RX5 33 "CallWays2$Instrument" "level" "D") (by decide +kernel)) (fun _ h9 => h9) rfl (by decide +kernel) rfl rfl (Nat.le_of_ble_eq_true rfl) dX5_goBack_7 (fun H locs hM hS => ?_)
  have hM : mOK E.1 (mA M sz) (mUp M1 h0 (mO ci [.ref kn, .int pi, .int on, .int w, .double x, va_rf (tab), .int fl])) H := hM
  obtain ⟨M2, eM2⟩ : ∃ z, z = mUp M1 h0 (mO ci [.ref kn, .int pi, .int on, .int w, .double x, va_rf (tab), .int fl]) := ⟨_, rfl⟩
  rw [← eM2] at hM
  have g_h0 : M2 h0 = some (mO ci [.ref kn, .int pi, .int on, .int w, .double x, va_rf (tab), .int fl]) := by rw [eM2]; exact mUp_self _ _ _
  exact m_vret hx hb hr hlocks hM hS (Nat.le_refl _) (Nat.le_refl _) dX5_goBack_10 (by show _ = _; rw [eM2, eM1]; simp only [mUp_up])
theorem in_X5_strike_I : ∀ w ∈ wsX00 ++ wsX20 ++ wsX40 ++ wsX60 ++ wsX80, w ∈ wsX5_strike := by decide +kernel
set_option maxHeartbeats 4000000 in
set_option maxRecDepth 100000 in
theorem c_X5_strike (l : Launch) (E : mEnv) (M : mMem) (sz : Nat) (ci : Nat) (hci : insK ci) (h0 kn : Nat) (pi on ph fl : Int32) (le : UInt64) (tab : Option Nat) (w o : Int32) (hon : o = 0 ∨ o = 1) (g_h0 : M h0 = some (mO ci [.ref kn, .int pi, .int on, .int ph, .double le, va_rf (tab), .int fl]))  : Met l yX5_strike wsX5_strike ({ frames := 0, cells := 0, slots := 0, locals := 0 }) (mPre E M sz [.ref h0, .int w, .int o]) (mQv E M sz (fun u => u = mUp M h0 (mO ci [.ref kn, .int w, .int o, .int ph, .double le, va_rf (tab), .int fl]))) (0) (0) (mA M sz) := by
  refine m_met [.ref h0, .int w, .int o] (by decide) rfl (Nat.le_of_ble_eq_true rfl) ?_
  intro p e s m below meth c ls H eH hx hb hr hts hown hlocks hnm hml hsz hE hM hS hA hl
  have hl : lv_has ls 3 [(0, .ref h0), (1, .int w), (2, .int o)] := hl
  refine lv_aload_n hx hb dX5_strike_0 rfl (lv_at hl 0 rfl) ?_
  refine lv_iload_n hx hb dX5_strike_1 rfl (lv_at hl 1 rfl) ?_
  refine m_putI (v := .int w) (ty := .int) hx hb hts in_X5_strike_I hown hE hM hS g_h0 hci 1 (by decide) (hts (.fieldLink RX5 15 "CallWays2$Instrument" "pitch" "I") (by decide +kernel)) (fun _ h9 => h9) rfl (by decide +kernel) rfl rfl (Nat.le_of_ble_eq_true rfl) dX5_strike_2 (fun H locs hM hS => ?_)
  have hM : mOK E.1 (mA M sz) (mUp M h0 (mO ci [.ref kn, .int w, .int on, .int ph, .double le, va_rf (tab), .int fl])) H := hM
  obtain ⟨M1, eM1⟩ : ∃ z, z = mUp M h0 (mO ci [.ref kn, .int w, .int on, .int ph, .double le, va_rf (tab), .int fl]) := ⟨_, rfl⟩
  rw [← eM1] at hM
  have g_h0 : M1 h0 = some (mO ci [.ref kn, .int w, .int on, .int ph, .double le, va_rf (tab), .int fl]) := by rw [eM1]; exact mUp_self _ _ _
  refine lv_aload_n hx hb dX5_strike_5 rfl (lv_at hl 0 rfl) ?_
  refine lv_iload_n hx hb dX5_strike_6 rfl (lv_at hl 2 rfl) ?_
  refine m_putI (v := .int o) (ty := .boolean) hx hb hts in_X5_strike_I hown hE hM hS g_h0 hci 2 (by decide) (hts (.fieldLink RX5 19 "CallWays2$Instrument" "on" "Z") (by decide +kernel)) (fun _ h9 => h9) rfl (by decide +kernel) (by rcases hon with rfl | rfl <;> rfl) (by rcases hon with rfl | rfl <;> rfl) (Nat.le_of_ble_eq_true rfl) dX5_strike_7 (fun H locs hM hS => ?_)
  have hM : mOK E.1 (mA M sz) (mUp M1 h0 (mO ci [.ref kn, .int w, .int o, .int ph, .double le, va_rf (tab), .int fl])) H := hM
  obtain ⟨M2, eM2⟩ : ∃ z, z = mUp M1 h0 (mO ci [.ref kn, .int w, .int o, .int ph, .double le, va_rf (tab), .int fl]) := ⟨_, rfl⟩
  rw [← eM2] at hM
  have g_h0 : M2 h0 = some (mO ci [.ref kn, .int w, .int o, .int ph, .double le, va_rf (tab), .int fl]) := by rw [eM2]; exact mUp_self _ _ _
  exact m_vret hx hb hr hlocks hM hS (Nat.le_refl _) (Nat.le_refl _) dX5_strike_10 (by show _ = _; rw [eM2, eM1]; simp only [mUp_up])
theorem in_X8_give_X8 : ∀ w ∈ wsX80, w ∈ wsX8_give := by decide +kernel
set_option maxHeartbeats 4000000 in
set_option maxRecDepth 100000 in
theorem c_X8_give_6 (l : Launch) (E : mEnv) (M : mMem) (sz : Nat) (h0 kn : Nat) (pi on ph : Int32) (le : UInt64) (tab : Option Nat) (kf : Nat → Int32) (tb : tbT)  (g_h0 : M h0 = some (mO 6 [.ref kn, .int pi, .int on, .int ph, .double le, va_rf (tab), .int 0])) (g_kn : M kn = some (mI E 4 kf))  : Met l yX8_give wsX8_give ({ frames := 0, cells := 0, slots := 0, locals := 0 }) (mPre E M sz [.ref h0]) (mQd E M sz (fun r u => r = sTone pi on ph ∧ u = M)) (0) (0) (mA M sz) := by
  refine m_met [.ref h0] (by decide) rfl (Nat.le_of_ble_eq_true rfl) ?_
  intro p e s m below meth c ls H eH hx hb hr hts hown hlocks hnm hml hsz hE hM hS hA hl
  have hl : lv_has ls 1 [(0, .ref h0)] := hl
  refine lv_aload_n hx hb dX8_give_0 rfl (lv_at hl 0 rfl) ?_
  refine m_get (ci := 6) (v := .int on) (C := RX8) (T := TX8) (N := 7) hx hb hts in_X8_give_X8 hown hE hM g_h0 rfl 2 (by decide) (hts (.fieldLink RX8 7 "CallWays2$Tone" "on" "Z") (by decide +kernel)) (u_same (hts (.sameField "CallWays2$Tone" "CallWays2$Instrument" "on" "Z") (by decide +kernel))) rfl dX8_give_1 ?_
  refine lv_if_eq (tgt := 28) hx hb dX8_give_4 (by decide) (fun c_4 => ?_) (fun c_4 => ?_)
  · skip
    refine lv_dconst0 hx hb dX8_give_28 ?_
    exact m_dret hx hb hr hlocks hM hS (Nat.le_refl _) (Nat.le_refl _) dX8_give_29 (by refine ⟨?_, rfl⟩; unfold sTone; simp_all)
  · skip
    refine lv_aload_n hx hb dX8_give_7 rfl (lv_at hl 0 rfl) ?_
    refine m_get (ci := 6) (v := .int ph) (C := RX8) (T := TX8) (N := 7) hx hb hts in_X8_give_X8 hown hE hM g_h0 rfl 3 (by decide) (hts (.fieldLink RX8 13 "CallWays2$Tone" "phase" "I") (by decide +kernel)) (u_same (hts (.sameField "CallWays2$Tone" "CallWays2$Instrument" "phase" "I") (by decide +kernel))) rfl dX8_give_8 ?_
    refine lv_aload_n hx hb dX8_give_11 rfl (lv_at hl 0 rfl) ?_
    refine m_get (ci := 6) (v := .int pi) (C := RX8) (T := TX8) (N := 7) hx hb hts in_X8_give_X8 hown hE hM g_h0 rfl 1 (by decide) (hts (.fieldLink RX8 17 "CallWays2$Tone" "pitch" "I") (by decide +kernel)) (u_same (hts (.sameField "CallWays2$Tone" "CallWays2$Instrument" "pitch" "I") (by decide +kernel))) rfl dX8_give_12 ?_
    refine lv_imul hx hb dX8_give_15 ?_
    refine lv_sipush (v := 256) hx hb dX8_give_16 (by decide) ?_
    refine lv_irem hx hb dX8_give_19 (by decide) ?_
    refine lv_sipush (v := 128) hx hb dX8_give_20 (by decide) ?_
    refine lv_isub hx hb dX8_give_23 ?_
    refine lv_i2d hx hb dX8_give_24 ?_
    refine lv_goto (tgt := 29) hx hb dX8_give_25 (by decide) ?_
    exact m_dret hx hb hr hlocks hM hS (Nat.le_refl _) (Nat.le_refl _) dX8_give_29 (by refine ⟨?_, rfl⟩; unfold sTone; simp_all)
theorem in_X8_give_X4 : ∀ w ∈ wsX40, w ∈ wsX8_give := by decide +kernel
set_option maxHeartbeats 4000000 in
set_option maxRecDepth 100000 in
theorem c_X8_give_3 (l : Launch) (E : mEnv) (M : mMem) (sz : Nat) (h0 kn : Nat) (pi on ph : Int32) (le : UInt64) (tab : Option Nat) (kf : Nat → Int32) (tb : tbT)  (g_h0 : M h0 = some (mO 3 [.ref kn, .int pi, .int on, .int ph, .double le, va_rf (tab), .int 0])) (g_kn : M kn = some (mI E 4 kf))  : Met l yX8_give wsX8_give ({ frames := 0, cells := 0, slots := 0, locals := 0 }) (mPre E M sz [.ref h0]) (mQd E M sz (fun r u => r = sTone pi on ph ∧ u = M)) (0) (0) (mA M sz) := by
  refine m_met [.ref h0] (by decide) rfl (Nat.le_of_ble_eq_true rfl) ?_
  intro p e s m below meth c ls H eH hx hb hr hts hown hlocks hnm hml hsz hE hM hS hA hl
  have hl : lv_has ls 1 [(0, .ref h0)] := hl
  refine lv_aload_n hx hb dX8_give_0 rfl (lv_at hl 0 rfl) ?_
  refine m_get (ci := 3) (v := .int on) (C := RX4) (T := TX4) (N := 7) hx hb hts in_X8_give_X4 hown hE hM g_h0 rfl 2 (by decide) (hts (.fieldLink RX8 7 "CallWays2$Tone" "on" "Z") (by decide +kernel)) (u_same (hts (.sameField "CallWays2$Tone" "CallWays2$Instrument" "on" "Z") (by decide +kernel))) rfl dX8_give_1 ?_
  refine lv_if_eq (tgt := 28) hx hb dX8_give_4 (by decide) (fun c_4 => ?_) (fun c_4 => ?_)
  · skip
    refine lv_dconst0 hx hb dX8_give_28 ?_
    exact m_dret hx hb hr hlocks hM hS (Nat.le_refl _) (Nat.le_refl _) dX8_give_29 (by refine ⟨?_, rfl⟩; unfold sTone; simp_all)
  · skip
    refine lv_aload_n hx hb dX8_give_7 rfl (lv_at hl 0 rfl) ?_
    refine m_get (ci := 3) (v := .int ph) (C := RX4) (T := TX4) (N := 7) hx hb hts in_X8_give_X4 hown hE hM g_h0 rfl 3 (by decide) (hts (.fieldLink RX8 13 "CallWays2$Tone" "phase" "I") (by decide +kernel)) (u_same (hts (.sameField "CallWays2$Tone" "CallWays2$Instrument" "phase" "I") (by decide +kernel))) rfl dX8_give_8 ?_
    refine lv_aload_n hx hb dX8_give_11 rfl (lv_at hl 0 rfl) ?_
    refine m_get (ci := 3) (v := .int pi) (C := RX4) (T := TX4) (N := 7) hx hb hts in_X8_give_X4 hown hE hM g_h0 rfl 1 (by decide) (hts (.fieldLink RX8 17 "CallWays2$Tone" "pitch" "I") (by decide +kernel)) (u_same (hts (.sameField "CallWays2$Tone" "CallWays2$Instrument" "pitch" "I") (by decide +kernel))) rfl dX8_give_12 ?_
    refine lv_imul hx hb dX8_give_15 ?_
    refine lv_sipush (v := 256) hx hb dX8_give_16 (by decide) ?_
    refine lv_irem hx hb dX8_give_19 (by decide) ?_
    refine lv_sipush (v := 128) hx hb dX8_give_20 (by decide) ?_
    refine lv_isub hx hb dX8_give_23 ?_
    refine lv_i2d hx hb dX8_give_24 ?_
    refine lv_goto (tgt := 29) hx hb dX8_give_25 (by decide) ?_
    exact m_dret hx hb hr hlocks hM hS (Nat.le_refl _) (Nat.le_refl _) dX8_give_29 (by refine ⟨?_, rfl⟩; unfold sTone; simp_all)
theorem in_X4_give_X4 : ∀ w ∈ wsX40, w ∈ wsX4_give := by decide +kernel
set_option maxHeartbeats 4000000 in
set_option maxRecDepth 100000 in
theorem c_X4_give (l : Launch) (E : mEnv) (M : mMem) (sz : Nat) (h0 kn : Nat) (pi on ph : Int32) (le : UInt64) (tab : Option Nat) (kf : Nat → Int32) (tb : tbT)  (g_h0 : M h0 = some (mO 3 [.ref kn, .int pi, .int on, .int ph, .double le, va_rf (tab), .int 0])) (g_kn : M kn = some (mI E 4 kf))  : Met l yX4_give wsX4_give ({ frames := 1, cells := 0, slots := 0, locals := 20 }) (mPre E M sz [.ref h0]) (mQd E M sz (fun r u => r = (sGive 3 kf pi on ph le tb).2.1 ∧ u = mUp M h0 (mO 3 [.ref kn, .int pi, .int on, .int ph, .double (sGive 3 kf pi on ph le tb).2.2, va_rf (tab), .int (sGive 3 kf pi on ph le tb).1]))) (0) (0) (mA M sz) := by
  refine m_met [.ref h0] (by decide) rfl (Nat.le_of_ble_eq_true rfl) ?_
  intro p e s m below meth c ls H eH hx hb hr hts hown hlocks hnm hml hsz hE hM hS hA hl
  have hl : lv_has ls 1 [(0, .ref h0)] := hl
  refine lv_ldc2d hx hb hown (hts (.constantDouble RX4 7 (4611686018427387904)) (by decide +kernel)) dX4_give_0 ?_
  refine lv_aload_n hx hb dX4_give_3 rfl (lv_at hl 0 rfl) ?_
  refine m_calld (va_runSU (hE.1.1 3 _ rfl).2 (As := []) (rest := [.double 4611686018427387904]) ⟨hx, hb, hml, hown, hts⟩ (c_X8_give_3 l E M H.size h0 kn pi on ph le tab kf tb g_h0 g_kn) (va_cwSU 0 hts gX4_give_X8_give_s9 rfl rfl rfl (by decide +kernel) ⟨Nat.le_of_ble_eq_true rfl, Nat.le_of_ble_eq_true rfl⟩) (m_preV hE hM g_h0 rfl) rfl rfl hl.1 rfl (lv_room (Nat.le_of_ble_eq_true rfl)) dX4_give_4 ⟨Nat.le_of_ble_eq_true rfl, Nat.le_of_ble_eq_true rfl⟩) hM hS hA (fun r1 u H locs hw hM hS => ?_)
  obtain ⟨e_r1, eu⟩ := hw
  rw [eu] at hM
  subst e_r1
  refine lv_dmul hx hb dX4_give_7 (nn_mul fin_2 ((dB_tone pi on ph).fin (by decide))) ?_
  refine lv_aload_n hx hb dX4_give_8 rfl (lv_at hl 0 rfl) ?_
  refine m_get (ci := 3) (v := .ref kn) (C := RX4) (T := TX4) (N := 7) hx hb hts in_X4_give_X4 hown hE hM g_h0 rfl 0 (by decide) (hts (.fieldLink RX4 13 "CallWays2$Glass" "knobs" "[I") (by decide +kernel)) (u_same (hts (.sameField "CallWays2$Glass" "CallWays2$Instrument" "knobs" "[I") (by decide +kernel))) rfl dX4_give_9 ?_
  refine lv_iconst (v := 0) hx hb dX4_give_12 (by decide) ?_
  refine m_iald hx hb hE hM g_kn (by unfold vp_in; decide) dX4_give_13 ?_
  refine lv_i2d hx hb dX4_give_14 ?_
  refine lv_dadd hx hb dX4_give_15 (nn_add ((dB_mul (K := 1025) (by unfold dB; decide) (dB_tone pi on ph) (by decide) (by decide)).fin (by decide)) (fin_i2d _)) ?_
  exact m_dret hx hb hr hlocks hM hS (Nat.le_refl _) (Nat.le_refl _) dX4_give_16 (by exact ⟨rfl, (mUp_id g_h0).symm⟩)
theorem in_X2_give_X0 : ∀ w ∈ wsX00, w ∈ wsX2_give := by decide +kernel
set_option maxHeartbeats 4000000 in
set_option maxRecDepth 100000 in
theorem c_X2_give_0 (l : Launch) (E : mEnv) (M : mMem) (sz : Nat) (h0 kn : Nat) (pi on ph : Int32) (le : UInt64) (tab : Option Nat) (kf : Nat → Int32) (tb : tbT) (hle : dL le) (g_h0 : M h0 = some (mO 0 [.ref kn, .int pi, .int on, .int ph, .double le, va_rf (tab), .int 0])) (g_kn : M kn = some (mI E 4 kf))  : Met l yX2_give wsX2_give ({ frames := 1, cells := 0, slots := 0, locals := 21 }) (mPre E M sz [.ref h0]) (mQd E M sz (fun r u => r = (sDrum (kf 1) le).2.1 ∧ u = mUp M h0 (mO 0 [.ref kn, .int pi, .int on, .int ph, .double (sDrum (kf 1) le).2.2, va_rf (tab), .int (sDrum (kf 1) le).1]))) (0) (0) (mA M sz) := by
  refine m_met [.ref h0] (by decide) rfl (Nat.le_of_ble_eq_true rfl) ?_
  intro p e s m below meth c ls H eH hx hb hr hts hown hlocks hnm hml hsz hE hM hS hA hl
  have hl : lv_has ls 4 [(0, .ref h0)] := hl
  refine lv_aload_n hx hb dX2_give_0 rfl (lv_at hl 0 rfl) ?_
  refine m_get (ci := 0) (v := .ref kn) (C := RX0) (T := TX0) (N := 7) hx hb hts in_X2_give_X0 hown hE hM g_h0 rfl 0 (by decide) (hts (.fieldLink RX2 19 "CallWays2$Drum" "knobs" "[I") (by decide +kernel)) (u_same (hts (.sameField "CallWays2$Drum" "CallWays2$Instrument" "knobs" "[I") (by decide +kernel))) rfl dX2_give_1 ?_
  refine lv_iconst (v := 1) hx hb dX2_give_4 (by decide) ?_
  refine m_iald hx hb hE hM g_kn (by unfold vp_in; decide) dX2_give_5 ?_
  rw [show kf (1 : Int32).toNatClampNeg = kf 1 from rfl]
  refine lv_istore_n (lv' := [(1, .int (kf 1)), (0, .ref h0)]) hx hb dX2_give_6 rfl hl (by decide) rfl (fun ls hl => ?_)
  refine lv_iload_n hx hb dX2_give_7 rfl (lv_at hl 0 rfl) ?_
  refine lv_if_ne (tgt := 18) hx hb dX2_give_8 (by decide) (fun c_8 => ?_) (fun c_8 => ?_)
  · skip
    refine lv_aload_n hx hb dX2_give_18 rfl (lv_at hl 1 rfl) ?_
    refine m_get (ci := 0) (v := .double le) (C := RX0) (T := TX0) (N := 7) hx hb hts in_X2_give_X0 hown hE hM g_h0 rfl 4 (by decide) (hts (.fieldLink RX2 13 "CallWays2$Drum" "level" "D") (by decide +kernel)) (u_same (hts (.sameField "CallWays2$Drum" "CallWays2$Instrument" "level" "D") (by decide +kernel))) rfl dX2_give_19 ?_
    refine lv_dstore_n (lv' := [(2, .double le), (1, .int (kf 1)), (0, .ref h0)]) hx hb dX2_give_22 rfl hl (by decide) rfl (fun ls hl => ?_)
    refine lv_aload_n hx hb dX2_give_23 rfl (lv_at hl 2 rfl) ?_
    refine lv_aload_n hx hb dX2_give_24 rfl (lv_at hl 2 rfl) ?_
    refine m_get (ci := 0) (v := .double le) (C := RX0) (T := TX0) (N := 7) hx hb hts in_X2_give_X0 hown hE hM g_h0 rfl 4 (by decide) (hts (.fieldLink RX2 13 "CallWays2$Drum" "level" "D") (by decide +kernel)) (u_same (hts (.sameField "CallWays2$Drum" "CallWays2$Instrument" "level" "D") (by decide +kernel))) rfl dX2_give_25 ?_
    refine lv_sipush (v := 1000) hx hb dX2_give_28 (by decide) ?_
    refine lv_iload_n hx hb dX2_give_31 rfl (lv_at hl 1 rfl) ?_
    refine lv_idiv hx hb dX2_give_32 c_8 ?_
    refine lv_i2d hx hb dX2_give_33 ?_
    refine lv_dmul hx hb dX2_give_34 (nn_mul (hle.b.fin (by decide)) (fin_i2d _)) ?_
    refine lv_ldc2d hx hb hown (hts (.constantDouble RX2 27 (4652007308841189376)) (by decide +kernel)) dX2_give_35 ?_
    refine lv_ddiv hx hb dX2_give_38 (nn_div ((dB_mul hle.b (dB_i2d _) (by decide) (by decide)).fin (by decide)) fin_1000 nz_1000) ?_
    refine m_put (ci := 0) (v := .double (FP.ddiv (FP.dmul le (FP.i2d (1000 / (kf 1)))) 4652007308841189376)) (ty := .double) (C := RX0) (T := TX0) (N := 7) hx hb hts in_X2_give_X0 tyX0 tyX0_ok nmX0 hown hE hM hS g_h0 rfl 4 (by decide) (hts (.fieldLink RX2 13 "CallWays2$Drum" "level" "D") (by decide +kernel)) (u_same (hts (.sameField "CallWays2$Drum" "CallWays2$Instrument" "level" "D") (by decide +kernel))) rfl (by decide +kernel) rfl rfl (Nat.le_of_ble_eq_true rfl) dX2_give_39 (fun H locs hM hS => ?_)
    have hM : mOK E.1 (mA M sz) (mUp M h0 (mO 0 [.ref kn, .int pi, .int on, .int ph, .double (FP.ddiv (FP.dmul le (FP.i2d (1000 / (kf 1)))) 4652007308841189376), va_rf (tab), .int 0])) H := hM
    obtain ⟨M1, eM1⟩ : ∃ z, z = mUp M h0 (mO 0 [.ref kn, .int pi, .int on, .int ph, .double (FP.ddiv (FP.dmul le (FP.i2d (1000 / (kf 1)))) 4652007308841189376), va_rf (tab), .int 0]) := ⟨_, rfl⟩
    rw [← eM1] at hM
    have g_kn_ : M1 kn = some (mI E 4 kf) := by rw [eM1]; exact mUp_at (m_ne g_kn g_h0 (by simp)) g_kn
    have g_kn := g_kn_
    have g_h0 : M1 h0 = some (mO 0 [.ref kn, .int pi, .int on, .int ph, .double (FP.ddiv (FP.dmul le (FP.i2d (1000 / (kf 1)))) 4652007308841189376), va_rf (tab), .int 0]) := by rw [eM1]; exact mUp_self _ _ _
    refine lv_dload_n hx hb dX2_give_42 rfl (lv_at hl 0 rfl) ?_
    exact m_dret hx hb hr hlocks hM hS (Nat.le_refl _) (Nat.le_refl _) dX2_give_43 (by rw [eM1]; unfold sDrum; rw [if_neg c_8]; exact ⟨rfl, rfl⟩)
  · skip
    refine lv_aload_n hx hb dX2_give_11 rfl (lv_at hl 1 rfl) ?_
    refine lv_bipush (v := -4) hx hb dX2_give_12 (by decide) ?_
    refine m_calld (va_runU (As := [.int (-4)]) (rest := []) ⟨hx, hb, hml, hown, hts⟩ (c_X5_fail l E M H.size 0 (by unfold insK; decide) h0 kn pi on ph 0 le tab (-4) g_h0) (va_cwU 1 hts gX2_give_X5_fail_u23X0 rfl rfl rfl rfl (by decide +kernel) ⟨Nat.le_of_ble_eq_true rfl, Nat.le_of_ble_eq_true rfl⟩) (m_preV hE hM g_h0 rfl) rfl rfl hl.1 rfl (lv_room (Nat.le_of_ble_eq_true rfl)) dX2_give_14 ⟨Nat.le_of_ble_eq_true rfl, Nat.le_of_ble_eq_true rfl⟩) hM hS hA (fun r1 M2 H locs hw hM hS => ?_)
    obtain ⟨e_r1, eM2⟩ := hw
    exact m_dret hx hb hr hlocks hM hS (Nat.le_refl _) (Nat.le_refl _) dX2_give_17 (by rw [e_r1, eM2]; unfold sDrum; rw [if_pos c_8]; exact ⟨rfl, rfl⟩)
theorem in_X2_give_X2 : ∀ w ∈ wsX20, w ∈ wsX2_give := by decide +kernel
set_option maxHeartbeats 4000000 in
set_option maxRecDepth 100000 in
theorem c_X2_give_1 (l : Launch) (E : mEnv) (M : mMem) (sz : Nat) (h0 kn : Nat) (pi on ph : Int32) (le : UInt64) (tab : Option Nat) (kf : Nat → Int32) (tb : tbT) (hle : dL le) (g_h0 : M h0 = some (mO 1 [.ref kn, .int pi, .int on, .int ph, .double le, va_rf (tab), .int 0])) (g_kn : M kn = some (mI E 4 kf))  : Met l yX2_give wsX2_give ({ frames := 1, cells := 0, slots := 0, locals := 21 }) (mPre E M sz [.ref h0]) (mQd E M sz (fun r u => r = (sDrum (kf 1) le).2.1 ∧ u = mUp M h0 (mO 1 [.ref kn, .int pi, .int on, .int ph, .double (sDrum (kf 1) le).2.2, va_rf (tab), .int (sDrum (kf 1) le).1]))) (0) (0) (mA M sz) := by
  refine m_met [.ref h0] (by decide) rfl (Nat.le_of_ble_eq_true rfl) ?_
  intro p e s m below meth c ls H eH hx hb hr hts hown hlocks hnm hml hsz hE hM hS hA hl
  have hl : lv_has ls 4 [(0, .ref h0)] := hl
  refine lv_aload_n hx hb dX2_give_0 rfl (lv_at hl 0 rfl) ?_
  refine m_get (ci := 1) (v := .ref kn) (C := RX2) (T := TX2) (N := 7) hx hb hts in_X2_give_X2 hown hE hM g_h0 rfl 0 (by decide) (hts (.fieldLink RX2 19 "CallWays2$Drum" "knobs" "[I") (by decide +kernel)) (u_same (hts (.sameField "CallWays2$Drum" "CallWays2$Instrument" "knobs" "[I") (by decide +kernel))) rfl dX2_give_1 ?_
  refine lv_iconst (v := 1) hx hb dX2_give_4 (by decide) ?_
  refine m_iald hx hb hE hM g_kn (by unfold vp_in; decide) dX2_give_5 ?_
  rw [show kf (1 : Int32).toNatClampNeg = kf 1 from rfl]
  refine lv_istore_n (lv' := [(1, .int (kf 1)), (0, .ref h0)]) hx hb dX2_give_6 rfl hl (by decide) rfl (fun ls hl => ?_)
  refine lv_iload_n hx hb dX2_give_7 rfl (lv_at hl 0 rfl) ?_
  refine lv_if_ne (tgt := 18) hx hb dX2_give_8 (by decide) (fun c_8 => ?_) (fun c_8 => ?_)
  · skip
    refine lv_aload_n hx hb dX2_give_18 rfl (lv_at hl 1 rfl) ?_
    refine m_get (ci := 1) (v := .double le) (C := RX2) (T := TX2) (N := 7) hx hb hts in_X2_give_X2 hown hE hM g_h0 rfl 4 (by decide) (hts (.fieldLink RX2 13 "CallWays2$Drum" "level" "D") (by decide +kernel)) (u_same (hts (.sameField "CallWays2$Drum" "CallWays2$Instrument" "level" "D") (by decide +kernel))) rfl dX2_give_19 ?_
    refine lv_dstore_n (lv' := [(2, .double le), (1, .int (kf 1)), (0, .ref h0)]) hx hb dX2_give_22 rfl hl (by decide) rfl (fun ls hl => ?_)
    refine lv_aload_n hx hb dX2_give_23 rfl (lv_at hl 2 rfl) ?_
    refine lv_aload_n hx hb dX2_give_24 rfl (lv_at hl 2 rfl) ?_
    refine m_get (ci := 1) (v := .double le) (C := RX2) (T := TX2) (N := 7) hx hb hts in_X2_give_X2 hown hE hM g_h0 rfl 4 (by decide) (hts (.fieldLink RX2 13 "CallWays2$Drum" "level" "D") (by decide +kernel)) (u_same (hts (.sameField "CallWays2$Drum" "CallWays2$Instrument" "level" "D") (by decide +kernel))) rfl dX2_give_25 ?_
    refine lv_sipush (v := 1000) hx hb dX2_give_28 (by decide) ?_
    refine lv_iload_n hx hb dX2_give_31 rfl (lv_at hl 1 rfl) ?_
    refine lv_idiv hx hb dX2_give_32 c_8 ?_
    refine lv_i2d hx hb dX2_give_33 ?_
    refine lv_dmul hx hb dX2_give_34 (nn_mul (hle.b.fin (by decide)) (fin_i2d _)) ?_
    refine lv_ldc2d hx hb hown (hts (.constantDouble RX2 27 (4652007308841189376)) (by decide +kernel)) dX2_give_35 ?_
    refine lv_ddiv hx hb dX2_give_38 (nn_div ((dB_mul hle.b (dB_i2d _) (by decide) (by decide)).fin (by decide)) fin_1000 nz_1000) ?_
    refine m_put (ci := 1) (v := .double (FP.ddiv (FP.dmul le (FP.i2d (1000 / (kf 1)))) 4652007308841189376)) (ty := .double) (C := RX2) (T := TX2) (N := 7) hx hb hts in_X2_give_X2 tyX2 tyX2_ok nmX2 hown hE hM hS g_h0 rfl 4 (by decide) (hts (.fieldLink RX2 13 "CallWays2$Drum" "level" "D") (by decide +kernel)) (u_same (hts (.sameField "CallWays2$Drum" "CallWays2$Instrument" "level" "D") (by decide +kernel))) rfl (by decide +kernel) rfl rfl (Nat.le_of_ble_eq_true rfl) dX2_give_39 (fun H locs hM hS => ?_)
    have hM : mOK E.1 (mA M sz) (mUp M h0 (mO 1 [.ref kn, .int pi, .int on, .int ph, .double (FP.ddiv (FP.dmul le (FP.i2d (1000 / (kf 1)))) 4652007308841189376), va_rf (tab), .int 0])) H := hM
    obtain ⟨M1, eM1⟩ : ∃ z, z = mUp M h0 (mO 1 [.ref kn, .int pi, .int on, .int ph, .double (FP.ddiv (FP.dmul le (FP.i2d (1000 / (kf 1)))) 4652007308841189376), va_rf (tab), .int 0]) := ⟨_, rfl⟩
    rw [← eM1] at hM
    have g_kn_ : M1 kn = some (mI E 4 kf) := by rw [eM1]; exact mUp_at (m_ne g_kn g_h0 (by simp)) g_kn
    have g_kn := g_kn_
    have g_h0 : M1 h0 = some (mO 1 [.ref kn, .int pi, .int on, .int ph, .double (FP.ddiv (FP.dmul le (FP.i2d (1000 / (kf 1)))) 4652007308841189376), va_rf (tab), .int 0]) := by rw [eM1]; exact mUp_self _ _ _
    refine lv_dload_n hx hb dX2_give_42 rfl (lv_at hl 0 rfl) ?_
    exact m_dret hx hb hr hlocks hM hS (Nat.le_refl _) (Nat.le_refl _) dX2_give_43 (by rw [eM1]; unfold sDrum; rw [if_neg c_8]; exact ⟨rfl, rfl⟩)
  · skip
    refine lv_aload_n hx hb dX2_give_11 rfl (lv_at hl 1 rfl) ?_
    refine lv_bipush (v := -4) hx hb dX2_give_12 (by decide) ?_
    refine m_calld (va_runU (As := [.int (-4)]) (rest := []) ⟨hx, hb, hml, hown, hts⟩ (c_X5_fail l E M H.size 1 (by unfold insK; decide) h0 kn pi on ph 0 le tab (-4) g_h0) (va_cwU 1 hts gX2_give_X5_fail_u23X2 rfl rfl rfl rfl (by decide +kernel) ⟨Nat.le_of_ble_eq_true rfl, Nat.le_of_ble_eq_true rfl⟩) (m_preV hE hM g_h0 rfl) rfl rfl hl.1 rfl (lv_room (Nat.le_of_ble_eq_true rfl)) dX2_give_14 ⟨Nat.le_of_ble_eq_true rfl, Nat.le_of_ble_eq_true rfl⟩) hM hS hA (fun r1 M2 H locs hw hM hS => ?_)
    obtain ⟨e_r1, eM2⟩ := hw
    exact m_dret hx hb hr hlocks hM hS (Nat.le_refl _) (Nat.le_refl _) dX2_give_17 (by rw [e_r1, eM2]; unfold sDrum; rw [if_pos c_8]; exact ⟨rfl, rfl⟩)
theorem in_X0_give_X0 : ∀ w ∈ wsX00, w ∈ wsX0_give := by decide +kernel
set_option maxHeartbeats 4000000 in
set_option maxRecDepth 100000 in
theorem c_X0_give (l : Launch) (E : mEnv) (M : mMem) (sz : Nat) (h0 kn : Nat) (pi on ph : Int32) (le : UInt64) (tab : Option Nat) (kf : Nat → Int32) (tb : tbT) (hle : dL le) (g_h0 : M h0 = some (mO 0 [.ref kn, .int pi, .int on, .int ph, .double le, va_rf (tab), .int 0])) (g_kn : M kn = some (mI E 4 kf))  : Met l yX0_give wsX0_give ({ frames := 2, cells := 0, slots := 0, locals := 44 }) (mPre E M sz [.ref h0]) (mQd E M sz (fun r u => r = (sGive 0 kf pi on ph le tb).2.1 ∧ u = mUp M h0 (mO 0 [.ref kn, .int pi, .int on, .int ph, .double (sGive 0 kf pi on ph le tb).2.2, va_rf (tab), .int (sGive 0 kf pi on ph le tb).1]))) (0) (0) (mA M sz) := by
  refine m_met [.ref h0] (by decide) rfl (Nat.le_of_ble_eq_true rfl) ?_
  intro p e s m below meth c ls H eH hx hb hr hts hown hlocks hnm hml hsz hE hM hS hA hl
  have hl : lv_has ls 3 [(0, .ref h0)] := hl
  refine lv_aload_n hx hb dX0_give_0 rfl (lv_at hl 0 rfl) ?_
  refine m_get (ci := 0) (v := .int ph) (C := RX0) (T := TX0) (N := 7) hx hb hts in_X0_give_X0 hown hE hM g_h0 rfl 3 (by decide) (hts (.fieldLink RX0 9 "CallWays2$Bell" "phase" "I") (by decide +kernel)) (u_same (hts (.sameField "CallWays2$Bell" "CallWays2$Instrument" "phase" "I") (by decide +kernel))) rfl dX0_give_1 ?_
  refine lv_aload_n hx hb dX0_give_4 rfl (lv_at hl 0 rfl) ?_
  refine m_get (ci := 0) (v := .ref kn) (C := RX0) (T := TX0) (N := 7) hx hb hts in_X0_give_X0 hown hE hM g_h0 rfl 0 (by decide) (hts (.fieldLink RX0 15 "CallWays2$Bell" "knobs" "[I") (by decide +kernel)) (u_same (hts (.sameField "CallWays2$Bell" "CallWays2$Instrument" "knobs" "[I") (by decide +kernel))) rfl dX0_give_5 ?_
  refine lv_iconst (v := 2) hx hb dX0_give_8 (by decide) ?_
  refine m_iald hx hb hE hM g_kn (by unfold vp_in; decide) dX0_give_9 ?_
  rw [show kf (2 : Int32).toNatClampNeg = kf 2 from rfl]
  refine lv_icmp_ne (tgt := 20) hx hb dX0_give_10 (by decide) (fun c_10 => ?_) (fun c_10 => ?_)
  · skip
    refine lv_aload_n hx hb dX0_give_20 rfl (lv_at hl 0 rfl) ?_
    refine m_calld (va_runSU (hE.1.1 0 _ rfl).2 (As := []) (rest := []) ⟨hx, hb, hml, hown, hts⟩ (c_X2_give_0 l E M H.size h0 kn pi on ph le tab kf tb hle g_h0 g_kn) (va_cwSU 0 hts gX0_give_X2_give_s23 rfl rfl rfl (by decide +kernel) ⟨Nat.le_of_ble_eq_true rfl, Nat.le_of_ble_eq_true rfl⟩) (m_preV hE hM g_h0 rfl) rfl rfl hl.1 rfl (lv_room (Nat.le_of_ble_eq_true rfl)) dX0_give_21 ⟨Nat.le_of_ble_eq_true rfl, Nat.le_of_ble_eq_true rfl⟩) hM hS hA (fun r1 M1 H locs hw hM hS => ?_)
    obtain ⟨e_r1, eM1⟩ := hw
    subst e_r1
    have g_kn_ : M1 kn = some (mI E 4 kf) := by rw [eM1]; exact mUp_at (m_ne g_kn g_h0 (by simp)) g_kn
    have g_kn := g_kn_
    have g_h0 : M1 h0 = some (mO 0 [.ref kn, .int pi, .int on, .int ph, .double ((sDrum (kf 1) le).2.2), va_rf (tab), .int ((sDrum (kf 1) le).1)]) := by rw [eM1]; exact mUp_self _ _ _
    refine lv_dstore_n (lv' := [(1, .double ((sDrum (kf 1) le).2.1)), (0, .ref h0)]) hx hb dX0_give_24 rfl hl (by decide) rfl (fun ls hl => ?_)
    refine lv_aload_n hx hb dX0_give_25 rfl (lv_at hl 1 rfl) ?_
    refine m_get (ci := 0) (v := .int ph) (C := RX0) (T := TX0) (N := 7) hx hb hts in_X0_give_X0 hown hE hM g_h0 rfl 3 (by decide) (hts (.fieldLink RX0 9 "CallWays2$Bell" "phase" "I") (by decide +kernel)) (u_same (hts (.sameField "CallWays2$Bell" "CallWays2$Instrument" "phase" "I") (by decide +kernel))) rfl dX0_give_26 ?_
    refine lv_iconst (v := 1) hx hb dX0_give_29 (by decide) ?_
    refine lv_iand hx hb dX0_give_30 ?_
    refine lv_if_ne (tgt := 38) hx hb dX0_give_31 (by decide) (fun c_31 => ?_) (fun c_31 => ?_)
    · skip
      refine lv_ldc2d hx hb hown (hts (.constantDouble RX0 27 (13830554455654793216)) (by decide +kernel)) dX0_give_38 ?_
      refine lv_dload_n hx hb dX0_give_41 rfl (lv_at hl 0 rfl) ?_
      refine lv_dmul hx hb dX0_give_42 (nn_mul fin_m1 ((dL_drum hle).1.b.fin (by decide))) ?_
      exact m_dret hx hb hr hlocks hM hS (Nat.le_refl _) (Nat.le_refl _) dX0_give_43 (by rw [eM1]; show _ = (sBell _ _ _ _).2.1 ∧ _ = mUp M h0 (mO 0 [_, _, _, _, .double (sBell _ _ _ _).2.2, _, .int (sBell _ _ _ _).1]); unfold sBell; rw [if_neg c_10]; first | (rw [if_pos c_31]; exact ⟨rfl, rfl⟩) | (rw [if_neg c_31]; exact ⟨rfl, rfl⟩))
    · skip
      refine lv_dload_n hx hb dX0_give_34 rfl (lv_at hl 0 rfl) ?_
      refine lv_goto (tgt := 43) hx hb dX0_give_35 (by decide) ?_
      exact m_dret hx hb hr hlocks hM hS (Nat.le_refl _) (Nat.le_refl _) dX0_give_43 (by rw [eM1]; show _ = (sBell _ _ _ _).2.1 ∧ _ = mUp M h0 (mO 0 [_, _, _, _, .double (sBell _ _ _ _).2.2, _, .int (sBell _ _ _ _).1]); unfold sBell; rw [if_neg c_10]; first | (rw [if_pos c_31]; exact ⟨rfl, rfl⟩) | (rw [if_neg c_31]; exact ⟨rfl, rfl⟩))
  · skip
    refine lv_aload_n hx hb dX0_give_13 rfl (lv_at hl 0 rfl) ?_
    refine lv_bipush (v := -3) hx hb dX0_give_14 (by decide) ?_
    refine m_calld (va_runU (As := [.int (-3)]) (rest := []) ⟨hx, hb, hml, hown, hts⟩ (c_X5_fail l E M H.size 0 (by unfold insK; decide) h0 kn pi on ph 0 le tab (-3) g_h0) (va_cwU 1 hts gX0_give_X5_fail_u19X0 rfl rfl rfl rfl (by decide +kernel) ⟨Nat.le_of_ble_eq_true rfl, Nat.le_of_ble_eq_true rfl⟩) (m_preV hE hM g_h0 rfl) rfl rfl hl.1 rfl (lv_room (Nat.le_of_ble_eq_true rfl)) dX0_give_16 ⟨Nat.le_of_ble_eq_true rfl, Nat.le_of_ble_eq_true rfl⟩) hM hS hA (fun r1 M2 H locs hw hM hS => ?_)
    obtain ⟨e_r1, eM2⟩ := hw
    exact m_dret hx hb hr hlocks hM hS (Nat.le_refl _) (Nat.le_refl _) dX0_give_19 (by rw [e_r1, eM2]; show _ = (sBell _ _ _ _).2.1 ∧ _ = mUp M h0 (mO 0 [_, _, _, _, .double (sBell _ _ _ _).2.2, _, .int (sBell _ _ _ _).1]); unfold sBell; rw [if_pos c_10]; exact ⟨rfl, rfl⟩)
theorem in_X6_give_X6 : ∀ w ∈ wsX60, w ∈ wsX6_give := by decide +kernel
set_option maxHeartbeats 4000000 in
set_option maxRecDepth 100000 in
theorem c_X6_give_n (l : Launch) (E : mEnv) (M : mMem) (sz : Nat) (h0 kn : Nat) (pi on ph : Int32) (le : UInt64) (kf : Nat → Int32)  (g_h0 : M h0 = some (mO 4 [.ref kn, .int pi, .int on, .int ph, .double le, .null, .int 0])) (g_kn : M kn = some (mI E 4 kf))  : Met l yX6_give wsX6_give ({ frames := 1, cells := 0, slots := 0, locals := 21 }) (mPre E M sz [.ref h0]) (mQd E M sz (fun r u => r = (sGive 4 kf pi on ph le none).2.1 ∧ u = mUp M h0 (mO 4 [.ref kn, .int pi, .int on, .int ph, .double le, .null, .int (sGive 4 kf pi on ph le none).1]))) (0) (0) (mA M sz) := by
  refine m_met [.ref h0] (by decide) rfl (Nat.le_of_ble_eq_true rfl) ?_
  intro p e s m below meth c ls H eH hx hb hr hts hown hlocks hnm hml hsz hE hM hS hA hl
  have hl : lv_has ls 2 [(0, .ref h0)] := hl
  refine lv_aload_n hx hb dX6_give_0 rfl (lv_at hl 0 rfl) ?_
  refine m_get (ci := 4) (v := .int on) (C := RX6) (T := TX6) (N := 7) hx hb hts in_X6_give_X6 hown hE hM g_h0 rfl 2 (by decide) (hts (.fieldLink RX6 9 "CallWays2$Reader" "on" "Z") (by decide +kernel)) (u_same (hts (.sameField "CallWays2$Reader" "CallWays2$Instrument" "on" "Z") (by decide +kernel))) rfl dX6_give_1 ?_
  refine lv_if_ne (tgt := 24) hx hb dX6_give_4 (by decide) (fun c_4 => ?_) (fun c_4 => ?_)
  · skip
    refine lv_aload_n hx hb dX6_give_24 rfl (lv_at hl 0 rfl) ?_
    refine m_get (ci := 4) (v := .null) (C := RX6) (T := TX6) (N := 7) hx hb hts in_X6_give_X6 hown hE hM g_h0 rfl 5 (by decide) (hts (.fieldLink RX6 23 "CallWays2$Reader" "table" "LCallWays2$Samples;") (by decide +kernel)) (u_same (hts (.sameField "CallWays2$Reader" "CallWays2$Instrument" "table" "LCallWays2$Samples;") (by decide +kernel))) rfl dX6_give_25 ?_
    refine lv_ifnonnullN hx hb dX6_give_28 ?_
    refine lv_aload_n hx hb dX6_give_31 rfl (lv_at hl 0 rfl) ?_
    refine lv_bipush (v := -5) hx hb dX6_give_32 (by decide) ?_
    refine m_calld (va_runU (As := [.int (-5)]) (rest := []) ⟨hx, hb, hml, hown, hts⟩ (c_X5_fail l E M H.size 4 (by unfold insK; decide) h0 kn pi on ph 0 le none (-5) g_h0) (va_cwU 1 hts gX6_give_X5_fail_u19X6 rfl rfl rfl rfl (by decide +kernel) ⟨Nat.le_of_ble_eq_true rfl, Nat.le_of_ble_eq_true rfl⟩) (m_preV hE hM g_h0 rfl) rfl rfl hl.1 rfl (lv_room (Nat.le_of_ble_eq_true rfl)) dX6_give_34 ⟨Nat.le_of_ble_eq_true rfl, Nat.le_of_ble_eq_true rfl⟩) hM hS hA (fun r1 M1 H locs hw hM hS => ?_)
    obtain ⟨e_r1, eM1⟩ := hw
    exact m_dret hx hb hr hlocks hM hS (Nat.le_refl _) (Nat.le_refl _) dX6_give_37 (by rw [e_r1, eM1]; show _ = (sRead _ _ _ _).2 ∧ _ = mUp M h0 (mO 4 [_, _, _, _, _, _, .int (sRead _ _ _ _).1]); unfold sRead; rw [if_neg (fun h => by first | exact c_4 h.1 | exact h.2 c_14)]; exact ⟨rfl, rfl⟩)
  · skip
    refine lv_aload_n hx hb dX6_give_7 rfl (lv_at hl 0 rfl) ?_
    refine m_get (ci := 4) (v := .int ph) (C := RX6) (T := TX6) (N := 7) hx hb hts in_X6_give_X6 hown hE hM g_h0 rfl 3 (by decide) (hts (.fieldLink RX6 15 "CallWays2$Reader" "phase" "I") (by decide +kernel)) (u_same (hts (.sameField "CallWays2$Reader" "CallWays2$Instrument" "phase" "I") (by decide +kernel))) rfl dX6_give_8 ?_
    refine lv_bipush (v := 8) hx hb dX6_give_11 (by decide) ?_
    refine lv_irem hx hb dX6_give_13 (by decide) ?_
    refine lv_if_ge (tgt := 24) hx hb dX6_give_14 (by decide) (fun c_14 => ?_) (fun c_14 => ?_)
    · skip
      refine lv_aload_n hx hb dX6_give_24 rfl (lv_at hl 0 rfl) ?_
      refine m_get (ci := 4) (v := .null) (C := RX6) (T := TX6) (N := 7) hx hb hts in_X6_give_X6 hown hE hM g_h0 rfl 5 (by decide) (hts (.fieldLink RX6 23 "CallWays2$Reader" "table" "LCallWays2$Samples;") (by decide +kernel)) (u_same (hts (.sameField "CallWays2$Reader" "CallWays2$Instrument" "table" "LCallWays2$Samples;") (by decide +kernel))) rfl dX6_give_25 ?_
      refine lv_ifnonnullN hx hb dX6_give_28 ?_
      refine lv_aload_n hx hb dX6_give_31 rfl (lv_at hl 0 rfl) ?_
      refine lv_bipush (v := -5) hx hb dX6_give_32 (by decide) ?_
      refine m_calld (va_runU (As := [.int (-5)]) (rest := []) ⟨hx, hb, hml, hown, hts⟩ (c_X5_fail l E M H.size 4 (by unfold insK; decide) h0 kn pi on ph 0 le none (-5) g_h0) (va_cwU 1 hts gX6_give_X5_fail_u19X6 rfl rfl rfl rfl (by decide +kernel) ⟨Nat.le_of_ble_eq_true rfl, Nat.le_of_ble_eq_true rfl⟩) (m_preV hE hM g_h0 rfl) rfl rfl hl.1 rfl (lv_room (Nat.le_of_ble_eq_true rfl)) dX6_give_34 ⟨Nat.le_of_ble_eq_true rfl, Nat.le_of_ble_eq_true rfl⟩) hM hS hA (fun r1 M2 H locs hw hM hS => ?_)
      obtain ⟨e_r1, eM2⟩ := hw
      exact m_dret hx hb hr hlocks hM hS (Nat.le_refl _) (Nat.le_refl _) dX6_give_37 (by rw [e_r1, eM2]; show _ = (sRead _ _ _ _).2 ∧ _ = mUp M h0 (mO 4 [_, _, _, _, _, _, .int (sRead _ _ _ _).1]); unfold sRead; rw [if_neg (fun h => by first | exact c_4 h.1 | exact h.2 c_14)]; exact ⟨rfl, rfl⟩)
    · skip
      refine lv_aload_n hx hb dX6_give_17 rfl (lv_at hl 0 rfl) ?_
      refine lv_bipush (v := -8) hx hb dX6_give_18 (by decide) ?_
      refine m_calld (va_runU (As := [.int (-8)]) (rest := []) ⟨hx, hb, hml, hown, hts⟩ (c_X5_fail l E M H.size 4 (by unfold insK; decide) h0 kn pi on ph 0 le none (-8) g_h0) (va_cwU 1 hts gX6_give_X5_fail_u19X6 rfl rfl rfl rfl (by decide +kernel) ⟨Nat.le_of_ble_eq_true rfl, Nat.le_of_ble_eq_true rfl⟩) (m_preV hE hM g_h0 rfl) rfl rfl hl.1 rfl (lv_room (Nat.le_of_ble_eq_true rfl)) dX6_give_20 ⟨Nat.le_of_ble_eq_true rfl, Nat.le_of_ble_eq_true rfl⟩) hM hS hA (fun r1 M3 H locs hw hM hS => ?_)
      obtain ⟨e_r1, eM3⟩ := hw
      exact m_dret hx hb hr hlocks hM hS (Nat.le_refl _) (Nat.le_refl _) dX6_give_23 (by rw [e_r1, eM3]; show _ = (sRead _ _ _ _).2 ∧ _ = mUp M h0 (mO 4 [_, _, _, _, _, _, .int (sRead _ _ _ _).1]); unfold sRead; rw [if_pos ⟨c_4, c_14⟩]; exact ⟨rfl, rfl⟩)
theorem in_X6_give_X7 : ∀ w ∈ wsX70, w ∈ wsX6_give := by decide +kernel
set_option maxHeartbeats 4000000 in
set_option maxRecDepth 100000 in
theorem c_X6_give_s (l : Launch) (E : mEnv) (M : mMem) (sz : Nat) (h0 kn : Nat) (pi on ph : Int32) (le : UInt64) (kf : Nat → Int32) (t v n : Nat) (lane : Int32) (f : Nat → UInt64) (hn0 : n < 2 ^ 31)  (g_h0 : M h0 = some (mO 4 [.ref kn, .int pi, .int on, .int ph, .double le, .ref t, .int 0])) (g_kn : M kn = some (mI E 4 kf)) (g_t : M t = some (mO 5 [.int lane, .ref v])) (g_v : M v = some (mDb E n f))  : Met l yX6_give wsX6_give ({ frames := 1, cells := 0, slots := 0, locals := 21 }) (mPre E M sz [.ref h0]) (mQd E M sz (fun r u => r = (sGive 4 kf pi on ph le (some (lane, n, f))).2.1 ∧ u = mUp M h0 (mO 4 [.ref kn, .int pi, .int on, .int ph, .double le, .ref t, .int (sGive 4 kf pi on ph le (some (lane, n, f))).1]))) (0) (0) (mA M sz) := by
  refine m_met [.ref h0] (by decide) rfl (Nat.le_of_ble_eq_true rfl) ?_
  intro p e s m below meth c ls H eH hx hb hr hts hown hlocks hnm hml hsz hE hM hS hA hl
  have hl : lv_has ls 2 [(0, .ref h0)] := hl
  refine lv_aload_n hx hb dX6_give_0 rfl (lv_at hl 0 rfl) ?_
  refine m_get (ci := 4) (v := .int on) (C := RX6) (T := TX6) (N := 7) hx hb hts in_X6_give_X6 hown hE hM g_h0 rfl 2 (by decide) (hts (.fieldLink RX6 9 "CallWays2$Reader" "on" "Z") (by decide +kernel)) (u_same (hts (.sameField "CallWays2$Reader" "CallWays2$Instrument" "on" "Z") (by decide +kernel))) rfl dX6_give_1 ?_
  refine lv_if_ne (tgt := 24) hx hb dX6_give_4 (by decide) (fun c_4 => ?_) (fun c_4 => ?_)
  · skip
    refine lv_aload_n hx hb dX6_give_24 rfl (lv_at hl 0 rfl) ?_
    refine m_get (ci := 4) (v := .ref t) (C := RX6) (T := TX6) (N := 7) hx hb hts in_X6_give_X6 hown hE hM g_h0 rfl 5 (by decide) (hts (.fieldLink RX6 23 "CallWays2$Reader" "table" "LCallWays2$Samples;") (by decide +kernel)) (u_same (hts (.sameField "CallWays2$Reader" "CallWays2$Instrument" "table" "LCallWays2$Samples;") (by decide +kernel))) rfl dX6_give_25 ?_
    refine lv_ifnonnull (tgt := 38) hx hb dX6_give_28 (by decide) ?_
    refine lv_aload_n hx hb dX6_give_38 rfl (lv_at hl 0 rfl) ?_
    refine m_get (ci := 4) (v := .ref t) (C := RX6) (T := TX6) (N := 7) hx hb hts in_X6_give_X6 hown hE hM g_h0 rfl 5 (by decide) (hts (.fieldLink RX6 23 "CallWays2$Reader" "table" "LCallWays2$Samples;") (by decide +kernel)) (u_same (hts (.sameField "CallWays2$Reader" "CallWays2$Instrument" "table" "LCallWays2$Samples;") (by decide +kernel))) rfl dX6_give_39 ?_
    refine m_get (ci := 5) (v := .int lane) (C := RX7) (T := TX7) (N := 2) hx hb hts in_X6_give_X7 hown hE hM g_t rfl 0 (by decide) (hts (.fieldLink RX6 27 "CallWays2$Samples" "lane" "I") (by decide +kernel)) (fun _ h9 => h9) rfl dX6_give_42 ?_
    refine lv_iconst (v := 1) hx hb dX6_give_45 (by decide) ?_
    refine lv_icmp_eq (tgt := 56) hx hb dX6_give_46 (by decide) (fun c_46 => ?_) (fun c_46 => ?_)
    · skip
      refine lv_aload_n hx hb dX6_give_56 rfl (lv_at hl 0 rfl) ?_
      refine m_get (ci := 4) (v := .int ph) (C := RX6) (T := TX6) (N := 7) hx hb hts in_X6_give_X6 hown hE hM g_h0 rfl 3 (by decide) (hts (.fieldLink RX6 15 "CallWays2$Reader" "phase" "I") (by decide +kernel)) (u_same (hts (.sameField "CallWays2$Reader" "CallWays2$Instrument" "phase" "I") (by decide +kernel))) rfl dX6_give_57 ?_
      refine lv_aload_n hx hb dX6_give_60 rfl (lv_at hl 0 rfl) ?_
      refine m_get (ci := 4) (v := .ref kn) (C := RX6) (T := TX6) (N := 7) hx hb hts in_X6_give_X6 hown hE hM g_h0 rfl 0 (by decide) (hts (.fieldLink RX6 32 "CallWays2$Reader" "knobs" "[I") (by decide +kernel)) (u_same (hts (.sameField "CallWays2$Reader" "CallWays2$Instrument" "knobs" "[I") (by decide +kernel))) rfl dX6_give_61 ?_
      refine lv_iconst (v := 0) hx hb dX6_give_64 (by decide) ?_
      refine m_iald hx hb hE hM g_kn (by unfold vp_in; decide) dX6_give_65 ?_
      rw [show kf (0 : Int32).toNatClampNeg = kf 0 from rfl]
      refine lv_iadd hx hb dX6_give_66 ?_
      refine lv_istore_n (lv' := [(1, .int (ph + (kf 0))), (0, .ref h0)]) hx hb dX6_give_67 rfl hl (by decide) rfl (fun ls hl => ?_)
      refine lv_aload_n hx hb dX6_give_68 rfl (lv_at hl 1 rfl) ?_
      refine m_get (ci := 4) (v := .ref t) (C := RX6) (T := TX6) (N := 7) hx hb hts in_X6_give_X6 hown hE hM g_h0 rfl 5 (by decide) (hts (.fieldLink RX6 23 "CallWays2$Reader" "table" "LCallWays2$Samples;") (by decide +kernel)) (u_same (hts (.sameField "CallWays2$Reader" "CallWays2$Instrument" "table" "LCallWays2$Samples;") (by decide +kernel))) rfl dX6_give_69 ?_
      refine lv_iload_n hx hb dX6_give_72 rfl (lv_at hl 0 rfl) ?_
      refine m_calli (va_runV (As := [.int (ph + (kf 0))]) (rest := []) ⟨hx, hb, hml, hown, hts⟩ (c_X7_has l E M H.size t v n lane f (ph + kf 0) g_t g_v) (cwV 1 hts gX6_give_X7_has rfl rfl rfl (by decide +kernel) ⟨Nat.le_of_ble_eq_true rfl, Nat.le_of_ble_eq_true rfl⟩) (m_preV hE hM g_t rfl) rfl rfl hl.1 rfl (lv_room (Nat.le_of_ble_eq_true rfl)) dX6_give_73 ⟨Nat.le_of_ble_eq_true rfl, Nat.le_of_ble_eq_true rfl⟩) hM hS hA (fun r2 u H locs hw hM hS => ?_)
      obtain ⟨e_r2, eu⟩ := hw
      rw [eu] at hM
      subst e_r2
      refine lv_if_eq (tgt := 91) hx hb dX6_give_76 (by decide) (fun c_76 => ?_) (fun c_76 => ?_)
      · skip
        rw [bI_eq] at c_76
        refine lv_aload_n hx hb dX6_give_91 rfl (lv_at hl 1 rfl) ?_
        refine lv_bipush (v := -7) hx hb dX6_give_92 (by decide) ?_
        refine m_calld (va_runU (As := [.int (-7)]) (rest := []) ⟨hx, hb, hml, hown, hts⟩ (c_X5_fail l E M H.size 4 (by unfold insK; decide) h0 kn pi on ph 0 le (some t) (-7) g_h0) (va_cwU 1 hts gX6_give_X5_fail_u19X6 rfl rfl rfl rfl (by decide +kernel) ⟨Nat.le_of_ble_eq_true rfl, Nat.le_of_ble_eq_true rfl⟩) (m_preV hE hM g_h0 rfl) rfl rfl hl.1 rfl (lv_room (Nat.le_of_ble_eq_true rfl)) dX6_give_94 ⟨Nat.le_of_ble_eq_true rfl, Nat.le_of_ble_eq_true rfl⟩) hM hS hA (fun r1 M1 H locs hw hM hS => ?_)
        obtain ⟨e_r1, eM1⟩ := hw
        exact m_dret hx hb hr hlocks hM hS (Nat.le_refl _) (Nat.le_refl _) dX6_give_97 (by first | (rw [e_r1, eM1]; show _ = (sRead _ _ _ _).2 ∧ _ = mUp M h0 (mO 4 [_, _, _, _, _, _, .int (sRead _ _ _ _).1]); unfold sRead; rw [if_neg (fun h => by first | exact c_4 h.1 | exact h.2 c_14)]; dsimp only; rw [if_pos c_46, if_neg c_76]; exact ⟨rfl, rfl⟩) | (show _ = (sRead _ _ _ _).2 ∧ _ = mUp M h0 (mO 4 [_, _, _, _, _, _, .int (sRead _ _ _ _).1]); unfold sRead; rw [if_neg (fun h => by first | exact c_4 h.1 | exact h.2 c_14)]; dsimp only; rw [if_pos c_46, if_pos c_76]; exact ⟨rfl, (mUp_id g_h0).symm⟩))
      · skip
        rw [bI_ne] at c_76
        refine lv_aload_n hx hb dX6_give_79 rfl (lv_at hl 1 rfl) ?_
        refine m_get (ci := 4) (v := .ref t) (C := RX6) (T := TX6) (N := 7) hx hb hts in_X6_give_X6 hown hE hM g_h0 rfl 5 (by decide) (hts (.fieldLink RX6 23 "CallWays2$Reader" "table" "LCallWays2$Samples;") (by decide +kernel)) (u_same (hts (.sameField "CallWays2$Reader" "CallWays2$Instrument" "table" "LCallWays2$Samples;") (by decide +kernel))) rfl dX6_give_80 ?_
        refine m_get (ci := 5) (v := .ref v) (C := RX7) (T := TX7) (N := 2) hx hb hts in_X6_give_X7 hown hE hM g_t rfl 1 (by decide) (hts (.fieldLink RX6 40 "CallWays2$Samples" "values" "[D") (by decide +kernel)) (fun _ h9 => h9) rfl dX6_give_83 ?_
        refine lv_iload_n hx hb dX6_give_86 rfl (lv_at hl 0 rfl) ?_
        refine m_dald hx hb hE hM g_v (vp_in_h c_76 hn0) dX6_give_87 ?_
        refine lv_goto (tgt := 97) hx hb dX6_give_88 (by decide) ?_
        exact m_dret hx hb hr hlocks hM hS (Nat.le_refl _) (Nat.le_refl _) dX6_give_97 (by first | (rw [e_r1, ]; show _ = (sRead _ _ _ _).2 ∧ _ = mUp M h0 (mO 4 [_, _, _, _, _, _, .int (sRead _ _ _ _).1]); unfold sRead; rw [if_neg (fun h => by first | exact c_4 h.1 | exact h.2 c_14)]; dsimp only; rw [if_pos c_46, if_neg c_76]; exact ⟨rfl, rfl⟩) | (show _ = (sRead _ _ _ _).2 ∧ _ = mUp M h0 (mO 4 [_, _, _, _, _, _, .int (sRead _ _ _ _).1]); unfold sRead; rw [if_neg (fun h => by first | exact c_4 h.1 | exact h.2 c_14)]; dsimp only; rw [if_pos c_46, if_pos c_76]; exact ⟨rfl, (mUp_id g_h0).symm⟩))
    · skip
      refine lv_aload_n hx hb dX6_give_49 rfl (lv_at hl 0 rfl) ?_
      refine lv_bipush (v := -6) hx hb dX6_give_50 (by decide) ?_
      refine m_calld (va_runU (As := [.int (-6)]) (rest := []) ⟨hx, hb, hml, hown, hts⟩ (c_X5_fail l E M H.size 4 (by unfold insK; decide) h0 kn pi on ph 0 le (some t) (-6) g_h0) (va_cwU 1 hts gX6_give_X5_fail_u19X6 rfl rfl rfl rfl (by decide +kernel) ⟨Nat.le_of_ble_eq_true rfl, Nat.le_of_ble_eq_true rfl⟩) (m_preV hE hM g_h0 rfl) rfl rfl hl.1 rfl (lv_room (Nat.le_of_ble_eq_true rfl)) dX6_give_52 ⟨Nat.le_of_ble_eq_true rfl, Nat.le_of_ble_eq_true rfl⟩) hM hS hA (fun r1 M2 H locs hw hM hS => ?_)
      obtain ⟨e_r1, eM2⟩ := hw
      exact m_dret hx hb hr hlocks hM hS (Nat.le_refl _) (Nat.le_refl _) dX6_give_55 (by rw [e_r1, eM2]; show _ = (sRead _ _ _ _).2 ∧ _ = mUp M h0 (mO 4 [_, _, _, _, _, _, .int (sRead _ _ _ _).1]); unfold sRead; rw [if_neg (fun h => by first | exact c_4 h.1 | exact h.2 c_14)]; dsimp only; rw [if_neg c_46]; exact ⟨rfl, rfl⟩)
  · skip
    refine lv_aload_n hx hb dX6_give_7 rfl (lv_at hl 0 rfl) ?_
    refine m_get (ci := 4) (v := .int ph) (C := RX6) (T := TX6) (N := 7) hx hb hts in_X6_give_X6 hown hE hM g_h0 rfl 3 (by decide) (hts (.fieldLink RX6 15 "CallWays2$Reader" "phase" "I") (by decide +kernel)) (u_same (hts (.sameField "CallWays2$Reader" "CallWays2$Instrument" "phase" "I") (by decide +kernel))) rfl dX6_give_8 ?_
    refine lv_bipush (v := 8) hx hb dX6_give_11 (by decide) ?_
    refine lv_irem hx hb dX6_give_13 (by decide) ?_
    refine lv_if_ge (tgt := 24) hx hb dX6_give_14 (by decide) (fun c_14 => ?_) (fun c_14 => ?_)
    · skip
      refine lv_aload_n hx hb dX6_give_24 rfl (lv_at hl 0 rfl) ?_
      refine m_get (ci := 4) (v := .ref t) (C := RX6) (T := TX6) (N := 7) hx hb hts in_X6_give_X6 hown hE hM g_h0 rfl 5 (by decide) (hts (.fieldLink RX6 23 "CallWays2$Reader" "table" "LCallWays2$Samples;") (by decide +kernel)) (u_same (hts (.sameField "CallWays2$Reader" "CallWays2$Instrument" "table" "LCallWays2$Samples;") (by decide +kernel))) rfl dX6_give_25 ?_
      refine lv_ifnonnull (tgt := 38) hx hb dX6_give_28 (by decide) ?_
      refine lv_aload_n hx hb dX6_give_38 rfl (lv_at hl 0 rfl) ?_
      refine m_get (ci := 4) (v := .ref t) (C := RX6) (T := TX6) (N := 7) hx hb hts in_X6_give_X6 hown hE hM g_h0 rfl 5 (by decide) (hts (.fieldLink RX6 23 "CallWays2$Reader" "table" "LCallWays2$Samples;") (by decide +kernel)) (u_same (hts (.sameField "CallWays2$Reader" "CallWays2$Instrument" "table" "LCallWays2$Samples;") (by decide +kernel))) rfl dX6_give_39 ?_
      refine m_get (ci := 5) (v := .int lane) (C := RX7) (T := TX7) (N := 2) hx hb hts in_X6_give_X7 hown hE hM g_t rfl 0 (by decide) (hts (.fieldLink RX6 27 "CallWays2$Samples" "lane" "I") (by decide +kernel)) (fun _ h9 => h9) rfl dX6_give_42 ?_
      refine lv_iconst (v := 1) hx hb dX6_give_45 (by decide) ?_
      refine lv_icmp_eq (tgt := 56) hx hb dX6_give_46 (by decide) (fun c_46 => ?_) (fun c_46 => ?_)
      · skip
        refine lv_aload_n hx hb dX6_give_56 rfl (lv_at hl 0 rfl) ?_
        refine m_get (ci := 4) (v := .int ph) (C := RX6) (T := TX6) (N := 7) hx hb hts in_X6_give_X6 hown hE hM g_h0 rfl 3 (by decide) (hts (.fieldLink RX6 15 "CallWays2$Reader" "phase" "I") (by decide +kernel)) (u_same (hts (.sameField "CallWays2$Reader" "CallWays2$Instrument" "phase" "I") (by decide +kernel))) rfl dX6_give_57 ?_
        refine lv_aload_n hx hb dX6_give_60 rfl (lv_at hl 0 rfl) ?_
        refine m_get (ci := 4) (v := .ref kn) (C := RX6) (T := TX6) (N := 7) hx hb hts in_X6_give_X6 hown hE hM g_h0 rfl 0 (by decide) (hts (.fieldLink RX6 32 "CallWays2$Reader" "knobs" "[I") (by decide +kernel)) (u_same (hts (.sameField "CallWays2$Reader" "CallWays2$Instrument" "knobs" "[I") (by decide +kernel))) rfl dX6_give_61 ?_
        refine lv_iconst (v := 0) hx hb dX6_give_64 (by decide) ?_
        refine m_iald hx hb hE hM g_kn (by unfold vp_in; decide) dX6_give_65 ?_
        rw [show kf (0 : Int32).toNatClampNeg = kf 0 from rfl]
        refine lv_iadd hx hb dX6_give_66 ?_
        refine lv_istore_n (lv' := [(1, .int (ph + (kf 0))), (0, .ref h0)]) hx hb dX6_give_67 rfl hl (by decide) rfl (fun ls hl => ?_)
        refine lv_aload_n hx hb dX6_give_68 rfl (lv_at hl 1 rfl) ?_
        refine m_get (ci := 4) (v := .ref t) (C := RX6) (T := TX6) (N := 7) hx hb hts in_X6_give_X6 hown hE hM g_h0 rfl 5 (by decide) (hts (.fieldLink RX6 23 "CallWays2$Reader" "table" "LCallWays2$Samples;") (by decide +kernel)) (u_same (hts (.sameField "CallWays2$Reader" "CallWays2$Instrument" "table" "LCallWays2$Samples;") (by decide +kernel))) rfl dX6_give_69 ?_
        refine lv_iload_n hx hb dX6_give_72 rfl (lv_at hl 0 rfl) ?_
        refine m_calli (va_runV (As := [.int (ph + (kf 0))]) (rest := []) ⟨hx, hb, hml, hown, hts⟩ (c_X7_has l E M H.size t v n lane f (ph + kf 0) g_t g_v) (cwV 1 hts gX6_give_X7_has rfl rfl rfl (by decide +kernel) ⟨Nat.le_of_ble_eq_true rfl, Nat.le_of_ble_eq_true rfl⟩) (m_preV hE hM g_t rfl) rfl rfl hl.1 rfl (lv_room (Nat.le_of_ble_eq_true rfl)) dX6_give_73 ⟨Nat.le_of_ble_eq_true rfl, Nat.le_of_ble_eq_true rfl⟩) hM hS hA (fun r2 u H locs hw hM hS => ?_)
        obtain ⟨e_r2, eu⟩ := hw
        rw [eu] at hM
        subst e_r2
        refine lv_if_eq (tgt := 91) hx hb dX6_give_76 (by decide) (fun c_76 => ?_) (fun c_76 => ?_)
        · skip
          rw [bI_eq] at c_76
          refine lv_aload_n hx hb dX6_give_91 rfl (lv_at hl 1 rfl) ?_
          refine lv_bipush (v := -7) hx hb dX6_give_92 (by decide) ?_
          refine m_calld (va_runU (As := [.int (-7)]) (rest := []) ⟨hx, hb, hml, hown, hts⟩ (c_X5_fail l E M H.size 4 (by unfold insK; decide) h0 kn pi on ph 0 le (some t) (-7) g_h0) (va_cwU 1 hts gX6_give_X5_fail_u19X6 rfl rfl rfl rfl (by decide +kernel) ⟨Nat.le_of_ble_eq_true rfl, Nat.le_of_ble_eq_true rfl⟩) (m_preV hE hM g_h0 rfl) rfl rfl hl.1 rfl (lv_room (Nat.le_of_ble_eq_true rfl)) dX6_give_94 ⟨Nat.le_of_ble_eq_true rfl, Nat.le_of_ble_eq_true rfl⟩) hM hS hA (fun r1 M3 H locs hw hM hS => ?_)
          obtain ⟨e_r1, eM3⟩ := hw
          exact m_dret hx hb hr hlocks hM hS (Nat.le_refl _) (Nat.le_refl _) dX6_give_97 (by first | (rw [e_r1, eM3]; show _ = (sRead _ _ _ _).2 ∧ _ = mUp M h0 (mO 4 [_, _, _, _, _, _, .int (sRead _ _ _ _).1]); unfold sRead; rw [if_neg (fun h => by first | exact c_4 h.1 | exact h.2 c_14)]; dsimp only; rw [if_pos c_46, if_neg c_76]; exact ⟨rfl, rfl⟩) | (show _ = (sRead _ _ _ _).2 ∧ _ = mUp M h0 (mO 4 [_, _, _, _, _, _, .int (sRead _ _ _ _).1]); unfold sRead; rw [if_neg (fun h => by first | exact c_4 h.1 | exact h.2 c_14)]; dsimp only; rw [if_pos c_46, if_pos c_76]; exact ⟨rfl, (mUp_id g_h0).symm⟩))
        · skip
          rw [bI_ne] at c_76
          refine lv_aload_n hx hb dX6_give_79 rfl (lv_at hl 1 rfl) ?_
          refine m_get (ci := 4) (v := .ref t) (C := RX6) (T := TX6) (N := 7) hx hb hts in_X6_give_X6 hown hE hM g_h0 rfl 5 (by decide) (hts (.fieldLink RX6 23 "CallWays2$Reader" "table" "LCallWays2$Samples;") (by decide +kernel)) (u_same (hts (.sameField "CallWays2$Reader" "CallWays2$Instrument" "table" "LCallWays2$Samples;") (by decide +kernel))) rfl dX6_give_80 ?_
          refine m_get (ci := 5) (v := .ref v) (C := RX7) (T := TX7) (N := 2) hx hb hts in_X6_give_X7 hown hE hM g_t rfl 1 (by decide) (hts (.fieldLink RX6 40 "CallWays2$Samples" "values" "[D") (by decide +kernel)) (fun _ h9 => h9) rfl dX6_give_83 ?_
          refine lv_iload_n hx hb dX6_give_86 rfl (lv_at hl 0 rfl) ?_
          refine m_dald hx hb hE hM g_v (vp_in_h c_76 hn0) dX6_give_87 ?_
          refine lv_goto (tgt := 97) hx hb dX6_give_88 (by decide) ?_
          exact m_dret hx hb hr hlocks hM hS (Nat.le_refl _) (Nat.le_refl _) dX6_give_97 (by first | (rw [e_r1, ]; show _ = (sRead _ _ _ _).2 ∧ _ = mUp M h0 (mO 4 [_, _, _, _, _, _, .int (sRead _ _ _ _).1]); unfold sRead; rw [if_neg (fun h => by first | exact c_4 h.1 | exact h.2 c_14)]; dsimp only; rw [if_pos c_46, if_neg c_76]; exact ⟨rfl, rfl⟩) | (show _ = (sRead _ _ _ _).2 ∧ _ = mUp M h0 (mO 4 [_, _, _, _, _, _, .int (sRead _ _ _ _).1]); unfold sRead; rw [if_neg (fun h => by first | exact c_4 h.1 | exact h.2 c_14)]; dsimp only; rw [if_pos c_46, if_pos c_76]; exact ⟨rfl, (mUp_id g_h0).symm⟩))
      · skip
        refine lv_aload_n hx hb dX6_give_49 rfl (lv_at hl 0 rfl) ?_
        refine lv_bipush (v := -6) hx hb dX6_give_50 (by decide) ?_
        refine m_calld (va_runU (As := [.int (-6)]) (rest := []) ⟨hx, hb, hml, hown, hts⟩ (c_X5_fail l E M H.size 4 (by unfold insK; decide) h0 kn pi on ph 0 le (some t) (-6) g_h0) (va_cwU 1 hts gX6_give_X5_fail_u19X6 rfl rfl rfl rfl (by decide +kernel) ⟨Nat.le_of_ble_eq_true rfl, Nat.le_of_ble_eq_true rfl⟩) (m_preV hE hM g_h0 rfl) rfl rfl hl.1 rfl (lv_room (Nat.le_of_ble_eq_true rfl)) dX6_give_52 ⟨Nat.le_of_ble_eq_true rfl, Nat.le_of_ble_eq_true rfl⟩) hM hS hA (fun r1 M4 H locs hw hM hS => ?_)
        obtain ⟨e_r1, eM4⟩ := hw
        exact m_dret hx hb hr hlocks hM hS (Nat.le_refl _) (Nat.le_refl _) dX6_give_55 (by rw [e_r1, eM4]; show _ = (sRead _ _ _ _).2 ∧ _ = mUp M h0 (mO 4 [_, _, _, _, _, _, .int (sRead _ _ _ _).1]); unfold sRead; rw [if_neg (fun h => by first | exact c_4 h.1 | exact h.2 c_14)]; dsimp only; rw [if_neg c_46]; exact ⟨rfl, rfl⟩)
    · skip
      refine lv_aload_n hx hb dX6_give_17 rfl (lv_at hl 0 rfl) ?_
      refine lv_bipush (v := -8) hx hb dX6_give_18 (by decide) ?_
      refine m_calld (va_runU (As := [.int (-8)]) (rest := []) ⟨hx, hb, hml, hown, hts⟩ (c_X5_fail l E M H.size 4 (by unfold insK; decide) h0 kn pi on ph 0 le (some t) (-8) g_h0) (va_cwU 1 hts gX6_give_X5_fail_u19X6 rfl rfl rfl rfl (by decide +kernel) ⟨Nat.le_of_ble_eq_true rfl, Nat.le_of_ble_eq_true rfl⟩) (m_preV hE hM g_h0 rfl) rfl rfl hl.1 rfl (lv_room (Nat.le_of_ble_eq_true rfl)) dX6_give_20 ⟨Nat.le_of_ble_eq_true rfl, Nat.le_of_ble_eq_true rfl⟩) hM hS hA (fun r1 M5 H locs hw hM hS => ?_)
      obtain ⟨e_r1, eM5⟩ := hw
      exact m_dret hx hb hr hlocks hM hS (Nat.le_refl _) (Nat.le_refl _) dX6_give_23 (by rw [e_r1, eM5]; show _ = (sRead _ _ _ _).2 ∧ _ = mUp M h0 (mO 4 [_, _, _, _, _, _, .int (sRead _ _ _ _).1]); unfold sRead; rw [if_pos ⟨c_4, c_14⟩]; exact ⟨rfl, rfl⟩)
end
section
theorem in_X2_strike_X0 : ∀ w ∈ wsX00, w ∈ wsX2_strike := by decide +kernel
set_option maxHeartbeats 4000000 in
set_option maxRecDepth 100000 in
theorem c_X2_strike_0 (l : Launch) (E : mEnv) (M : mMem) (sz : Nat) (h0 kn : Nat) (pi on ph fl : Int32) (le : UInt64) (tab : Option Nat) (w o : Int32) (hon : o = 0 ∨ o = 1) (g_h0 : M h0 = some (mO 0 [.ref kn, .int pi, .int on, .int ph, .double le, va_rf (tab), .int fl]))  : Met l yX2_strike wsX2_strike ({ frames := 1, cells := 0, slots := 0, locals := 22 }) (mPre E M sz [.ref h0, .int w, .int o]) (mQv E M sz (fun u => u = mUp M h0 (mO 0 [.ref kn, .int w, .int o, .int ph, .double (if o = 0 then le else FP.i2d w), va_rf (tab), .int fl]))) (0) (0) (mA M sz) := by
  refine m_met [.ref h0, .int w, .int o] (by decide) rfl (Nat.le_of_ble_eq_true rfl) ?_
  intro p e s m below meth c ls H eH hx hb hr hts hown hlocks hnm hml hsz hE hM hS hA hl
  have hl : lv_has ls 3 [(0, .ref h0), (1, .int w), (2, .int o)] := hl
  refine lv_aload_n hx hb dX2_strike_0 rfl (lv_at hl 0 rfl) ?_
  refine lv_iload_n hx hb dX2_strike_1 rfl (lv_at hl 1 rfl) ?_
  refine lv_iload_n hx hb dX2_strike_2 rfl (lv_at hl 2 rfl) ?_
  refine m_callv (va_runSU (hE.1.1 0 _ rfl).2 (As := [.int w, .int o]) (rest := []) ⟨hx, hb, hml, hown, hts⟩ (c_X5_strike l E M H.size 0 (by unfold insK; decide) h0 kn pi on ph fl le tab w o hon g_h0) (va_cwSU 2 hts gX2_strike_X5_strike_s9 rfl rfl rfl (by decide +kernel) ⟨Nat.le_of_ble_eq_true rfl, Nat.le_of_ble_eq_true rfl⟩) (m_preV hE hM g_h0 rfl) rfl rfl hl.1 rfl (lv_room (Nat.le_of_ble_eq_true rfl)) dX2_strike_3 ⟨Nat.le_of_ble_eq_true rfl, Nat.le_of_ble_eq_true rfl⟩) hM hS hA (fun M2 H locs hw hM hS => ?_)
  have eM2 := hw
  have g_h0 : M2 h0 = some (mO 0 [.ref kn, .int w, .int o, .int ph, .double le, va_rf (tab), .int fl]) := by rw [eM2]; exact mUp_self _ _ _
  refine lv_iload_n hx hb dX2_strike_6 rfl (lv_at hl 2 rfl) ?_
  refine lv_if_eq (tgt := 16) hx hb dX2_strike_7 (by decide) (fun c_7 => ?_) (fun c_7 => ?_)
  · skip
    exact m_vret hx hb hr hlocks hM hS (Nat.le_refl _) (Nat.le_refl _) dX2_strike_16 (by show _ = _; first | (rw [if_pos c_7, eM2]; done) | (rw [if_pos c_7, eM2]; simp only [mUp_up]) | (rw [if_neg c_7, eM2]; simp only [mUp_up]))
  · skip
    refine lv_aload_n hx hb dX2_strike_10 rfl (lv_at hl 0 rfl) ?_
    refine lv_iload_n hx hb dX2_strike_11 rfl (lv_at hl 1 rfl) ?_
    refine lv_i2d hx hb dX2_strike_12 ?_
    refine m_put (ci := 0) (v := .double (FP.i2d w)) (ty := .double) (C := RX0) (T := TX0) (N := 7) hx hb hts in_X2_strike_X0 tyX0 tyX0_ok nmX0 hown hE hM hS g_h0 rfl 4 (by decide) (hts (.fieldLink RX2 13 "CallWays2$Drum" "level" "D") (by decide +kernel)) (u_same (hts (.sameField "CallWays2$Drum" "CallWays2$Instrument" "level" "D") (by decide +kernel))) rfl (by decide +kernel) rfl rfl (Nat.le_of_ble_eq_true rfl) dX2_strike_13 (fun H locs hM hS => ?_)
    have hM : mOK E.1 (mA M sz) (mUp M2 h0 (mO 0 [.ref kn, .int w, .int o, .int ph, .double (FP.i2d w), va_rf (tab), .int fl])) H := hM
    obtain ⟨M3, eM3⟩ : ∃ z, z = mUp M2 h0 (mO 0 [.ref kn, .int w, .int o, .int ph, .double (FP.i2d w), va_rf (tab), .int fl]) := ⟨_, rfl⟩
    rw [← eM3] at hM
    have g_h0 : M3 h0 = some (mO 0 [.ref kn, .int w, .int o, .int ph, .double (FP.i2d w), va_rf (tab), .int fl]) := by rw [eM3]; exact mUp_self _ _ _
    exact m_vret hx hb hr hlocks hM hS (Nat.le_refl _) (Nat.le_refl _) dX2_strike_16 (by show _ = _; first | (rw [if_pos c_7, eM3, eM2]; done) | (rw [if_pos c_7, eM3, eM2]; simp only [mUp_up]) | (rw [if_neg c_7, eM3, eM2]; simp only [mUp_up]))
theorem in_X2_strike_X2 : ∀ w ∈ wsX20, w ∈ wsX2_strike := by decide +kernel
set_option maxHeartbeats 4000000 in
set_option maxRecDepth 100000 in
theorem c_X2_strike_1 (l : Launch) (E : mEnv) (M : mMem) (sz : Nat) (h0 kn : Nat) (pi on ph fl : Int32) (le : UInt64) (tab : Option Nat) (w o : Int32) (hon : o = 0 ∨ o = 1) (g_h0 : M h0 = some (mO 1 [.ref kn, .int pi, .int on, .int ph, .double le, va_rf (tab), .int fl]))  : Met l yX2_strike wsX2_strike ({ frames := 1, cells := 0, slots := 0, locals := 22 }) (mPre E M sz [.ref h0, .int w, .int o]) (mQv E M sz (fun u => u = mUp M h0 (mO 1 [.ref kn, .int w, .int o, .int ph, .double (if o = 0 then le else FP.i2d w), va_rf (tab), .int fl]))) (0) (0) (mA M sz) := by
  refine m_met [.ref h0, .int w, .int o] (by decide) rfl (Nat.le_of_ble_eq_true rfl) ?_
  intro p e s m below meth c ls H eH hx hb hr hts hown hlocks hnm hml hsz hE hM hS hA hl
  have hl : lv_has ls 3 [(0, .ref h0), (1, .int w), (2, .int o)] := hl
  refine lv_aload_n hx hb dX2_strike_0 rfl (lv_at hl 0 rfl) ?_
  refine lv_iload_n hx hb dX2_strike_1 rfl (lv_at hl 1 rfl) ?_
  refine lv_iload_n hx hb dX2_strike_2 rfl (lv_at hl 2 rfl) ?_
  refine m_callv (va_runSU (hE.1.1 1 _ rfl).2 (As := [.int w, .int o]) (rest := []) ⟨hx, hb, hml, hown, hts⟩ (c_X5_strike l E M H.size 1 (by unfold insK; decide) h0 kn pi on ph fl le tab w o hon g_h0) (va_cwSU 2 hts gX2_strike_X5_strike_s9 rfl rfl rfl (by decide +kernel) ⟨Nat.le_of_ble_eq_true rfl, Nat.le_of_ble_eq_true rfl⟩) (m_preV hE hM g_h0 rfl) rfl rfl hl.1 rfl (lv_room (Nat.le_of_ble_eq_true rfl)) dX2_strike_3 ⟨Nat.le_of_ble_eq_true rfl, Nat.le_of_ble_eq_true rfl⟩) hM hS hA (fun M2 H locs hw hM hS => ?_)
  have eM2 := hw
  have g_h0 : M2 h0 = some (mO 1 [.ref kn, .int w, .int o, .int ph, .double le, va_rf (tab), .int fl]) := by rw [eM2]; exact mUp_self _ _ _
  refine lv_iload_n hx hb dX2_strike_6 rfl (lv_at hl 2 rfl) ?_
  refine lv_if_eq (tgt := 16) hx hb dX2_strike_7 (by decide) (fun c_7 => ?_) (fun c_7 => ?_)
  · skip
    exact m_vret hx hb hr hlocks hM hS (Nat.le_refl _) (Nat.le_refl _) dX2_strike_16 (by show _ = _; first | (rw [if_pos c_7, eM2]; done) | (rw [if_pos c_7, eM2]; simp only [mUp_up]) | (rw [if_neg c_7, eM2]; simp only [mUp_up]))
  · skip
    refine lv_aload_n hx hb dX2_strike_10 rfl (lv_at hl 0 rfl) ?_
    refine lv_iload_n hx hb dX2_strike_11 rfl (lv_at hl 1 rfl) ?_
    refine lv_i2d hx hb dX2_strike_12 ?_
    refine m_put (ci := 1) (v := .double (FP.i2d w)) (ty := .double) (C := RX2) (T := TX2) (N := 7) hx hb hts in_X2_strike_X2 tyX2 tyX2_ok nmX2 hown hE hM hS g_h0 rfl 4 (by decide) (hts (.fieldLink RX2 13 "CallWays2$Drum" "level" "D") (by decide +kernel)) (u_same (hts (.sameField "CallWays2$Drum" "CallWays2$Instrument" "level" "D") (by decide +kernel))) rfl (by decide +kernel) rfl rfl (Nat.le_of_ble_eq_true rfl) dX2_strike_13 (fun H locs hM hS => ?_)
    have hM : mOK E.1 (mA M sz) (mUp M2 h0 (mO 1 [.ref kn, .int w, .int o, .int ph, .double (FP.i2d w), va_rf (tab), .int fl])) H := hM
    obtain ⟨M3, eM3⟩ : ∃ z, z = mUp M2 h0 (mO 1 [.ref kn, .int w, .int o, .int ph, .double (FP.i2d w), va_rf (tab), .int fl]) := ⟨_, rfl⟩
    rw [← eM3] at hM
    have g_h0 : M3 h0 = some (mO 1 [.ref kn, .int w, .int o, .int ph, .double (FP.i2d w), va_rf (tab), .int fl]) := by rw [eM3]; exact mUp_self _ _ _
    exact m_vret hx hb hr hlocks hM hS (Nat.le_refl _) (Nat.le_refl _) dX2_strike_16 (by show _ = _; first | (rw [if_pos c_7, eM3, eM2]; done) | (rw [if_pos c_7, eM3, eM2]; simp only [mUp_up]) | (rw [if_neg c_7, eM3, eM2]; simp only [mUp_up]))
/-- what note() does to an instrument's level -/
def sLev (ci : Nat) (o w : Int32) (le : UInt64) : UInt64 := if ci = 0 ∨ ci = 1 then (if o = 0 then le else FP.i2d w) else le
set_option maxHeartbeats 4000000 in
set_option maxRecDepth 100000 in
theorem c_X8_give_6b (l : Launch) (E : mEnv) (M : mMem) (sz : Nat) (h0 kn : Nat) (pi on ph : Int32) (le : UInt64) (tab : Option Nat) (kf : Nat → Int32) (tb : tbT)  (g_h0 : M h0 = some (mO 6 [.ref kn, .int pi, .int on, .int ph, .double le, va_rf (tab), .int 0])) (g_kn : M kn = some (mI E 4 kf))  : Met l yX8_give wsX8_give ({ frames := 0, cells := 0, slots := 0, locals := 0 }) (mPre E M sz [.ref h0]) (mQd E M sz (fun r u => r = (sGive 6 kf pi on ph le tb).2.1 ∧ u = mUp M h0 (mO 6 [.ref kn, .int pi, .int on, .int ph, .double (sGive 6 kf pi on ph le tb).2.2, va_rf (tab), .int (sGive 6 kf pi on ph le tb).1]))) (0) (0) (mA M sz) := by
  refine m_met [.ref h0] (by decide) rfl (Nat.le_of_ble_eq_true rfl) ?_
  intro p e s m below meth c ls H eH hx hb hr hts hown hlocks hnm hml hsz hE hM hS hA hl
  have hl : lv_has ls 1 [(0, .ref h0)] := hl
  refine lv_aload_n hx hb dX8_give_0 rfl (lv_at hl 0 rfl) ?_
  refine m_get (ci := 6) (v := .int on) (C := RX8) (T := TX8) (N := 7) hx hb hts in_X8_give_X8 hown hE hM g_h0 rfl 2 (by decide) (hts (.fieldLink RX8 7 "CallWays2$Tone" "on" "Z") (by decide +kernel)) (u_same (hts (.sameField "CallWays2$Tone" "CallWays2$Instrument" "on" "Z") (by decide +kernel))) rfl dX8_give_1 ?_
  refine lv_if_eq (tgt := 28) hx hb dX8_give_4 (by decide) (fun c_4 => ?_) (fun c_4 => ?_)
  · skip
    refine lv_dconst0 hx hb dX8_give_28 ?_
    exact m_dret hx hb hr hlocks hM hS (Nat.le_refl _) (Nat.le_refl _) dX8_give_29 (by refine ⟨?_, (mUp_id g_h0).symm⟩; show _ = sTone pi on ph; unfold sTone; simp_all)
  · skip
    refine lv_aload_n hx hb dX8_give_7 rfl (lv_at hl 0 rfl) ?_
    refine m_get (ci := 6) (v := .int ph) (C := RX8) (T := TX8) (N := 7) hx hb hts in_X8_give_X8 hown hE hM g_h0 rfl 3 (by decide) (hts (.fieldLink RX8 13 "CallWays2$Tone" "phase" "I") (by decide +kernel)) (u_same (hts (.sameField "CallWays2$Tone" "CallWays2$Instrument" "phase" "I") (by decide +kernel))) rfl dX8_give_8 ?_
    refine lv_aload_n hx hb dX8_give_11 rfl (lv_at hl 0 rfl) ?_
    refine m_get (ci := 6) (v := .int pi) (C := RX8) (T := TX8) (N := 7) hx hb hts in_X8_give_X8 hown hE hM g_h0 rfl 1 (by decide) (hts (.fieldLink RX8 17 "CallWays2$Tone" "pitch" "I") (by decide +kernel)) (u_same (hts (.sameField "CallWays2$Tone" "CallWays2$Instrument" "pitch" "I") (by decide +kernel))) rfl dX8_give_12 ?_
    refine lv_imul hx hb dX8_give_15 ?_
    refine lv_sipush (v := 256) hx hb dX8_give_16 (by decide) ?_
    refine lv_irem hx hb dX8_give_19 (by decide) ?_
    refine lv_sipush (v := 128) hx hb dX8_give_20 (by decide) ?_
    refine lv_isub hx hb dX8_give_23 ?_
    refine lv_i2d hx hb dX8_give_24 ?_
    refine lv_goto (tgt := 29) hx hb dX8_give_25 (by decide) ?_
    exact m_dret hx hb hr hlocks hM hS (Nat.le_refl _) (Nat.le_refl _) dX8_give_29 (by refine ⟨?_, (mUp_id g_h0).symm⟩; show _ = sTone pi on ph; unfold sTone; simp_all)
theorem in_X5_ask_I : ∀ w ∈ wsX00 ++ wsX20 ++ wsX40 ++ wsX60 ++ wsX80, w ∈ wsX5_ask := by decide +kernel
set_option maxHeartbeats 4000000 in
set_option maxRecDepth 100000 in
theorem c_X5_ask (l : Launch) (E : mEnv) (M : mMem) (sz : Nat) (ci : Nat) (hci : insK ci) (h0 kn : Nat) (pi on ph : Int32) (le : UInt64) (tab : Option Nat) (kf : Nat → Int32) (tb : tbT) (fl : Int32) (htb : tbAt E M tab tb) (hle : dL le) (hnt : ∀ d, tb = some d → d.2.1 < 2 ^ 31) (g_h0 : M h0 = some (mO ci [.ref kn, .int pi, .int on, .int ph, .double le, va_rf (tab), .int fl])) (g_kn : M kn = some (mI E 4 kf))  : Met l yX5_ask wsX5_ask ({ frames := 3, cells := 0, slots := 0, locals := 66 }) (mPre E M sz [.ref h0]) (mQd E M sz (fun r u => r = (sGive ci kf pi on ph le tb).2.1 ∧ u = mUp M h0 (mO ci [.ref kn, .int pi, .int on, .int (ph + 1), .double ((sGive ci kf pi on ph le tb).2.2), va_rf (tab), .int ((sGive ci kf pi on ph le tb).1)]))) (0) (0) (mA M sz) := by
  refine m_met [.ref h0] (by decide) rfl (Nat.le_of_ble_eq_true rfl) ?_
  intro p e s m below meth c ls H eH hx hb hr hts hown hlocks hnm hml hsz hE hM hS hA hl
  have hl : lv_has ls 3 [(0, .ref h0)] := hl
  have g_h00 := g_h0
  refine lv_aload_n hx hb dX5_ask_0 rfl (lv_at hl 0 rfl) ?_
  refine lv_iconst (v := 0) hx hb dX5_ask_1 (by decide) ?_
  refine m_putI (v := .int 0) (ty := .int) hx hb hts in_X5_ask_I hown hE hM hS g_h0 hci 6 (by decide) (hts (.fieldLink RX5 23 "CallWays2$Instrument" "failure" "I") (by decide +kernel)) (fun _ h9 => h9) rfl (by decide +kernel) rfl rfl (Nat.le_of_ble_eq_true rfl) dX5_ask_2 (fun H locs hM hS => ?_)
  have hM : mOK E.1 (mA M sz) (mUp M h0 (mO ci [.ref kn, .int pi, .int on, .int ph, .double le, va_rf (tab), .int 0])) H := hM
  obtain ⟨M1, eM1⟩ : ∃ z, z = mUp M h0 (mO ci [.ref kn, .int pi, .int on, .int ph, .double le, va_rf (tab), .int 0]) := ⟨_, rfl⟩
  rw [← eM1] at hM
  have g_kn_ : M1 kn = some (mI E 4 kf) := by rw [eM1]; exact mUp_at (m_ne g_kn g_h0 (by simp)) g_kn
  have g_kn := g_kn_
  have g_h0 : M1 h0 = some (mO ci [.ref kn, .int pi, .int on, .int ph, .double le, va_rf (tab), .int 0]) := by rw [eM1]; exact mUp_self _ _ _
  refine lv_aload_n hx hb dX5_ask_5 rfl (lv_at hl 0 rfl) ?_
  have hMr := hM
  have hrun : va_Run p l e ({ frames := 3, cells := 0, slots := 0, locals := 66 } : Room) s m #[.ref h0] below meth c H locs 0 0 0 0 (F0 m 6 ls [.ref h0]) [] (mQd E M1 H.size (fun r u => r = (sGive ci kf pi on ph le tb).2.1 ∧ u = mUp M1 h0 (mO ci [.ref kn, .int pi, .int on, .int ph, .double (sGive ci kf pi on ph le tb).2.2, va_rf (tab), .int (sGive ci kf pi on ph le tb).1])) #[.ref h0]) (mA M1 H.size) := by
    rcases hci with rfl | rfl | rfl | rfl | rfl
    · exact va_runU (As := []) (rest := []) ⟨hx, hb, hml, hown, hts⟩ (c_X0_give l E M1 H.size h0 kn pi on ph le tab kf tb hle g_h0 g_kn) (va_cwA 0 hts gX5_ask_X0_give_u26X0 rfl rfl rfl (hE.2.2.2.1 _ (by decide)) (by decide +kernel) ⟨Nat.le_of_ble_eq_true rfl, Nat.le_of_ble_eq_true rfl⟩) (m_preV hE hMr g_h0 rfl) rfl rfl hl.1 rfl (lv_room (Nat.le_of_ble_eq_true rfl)) dX5_ask_6 ⟨Nat.le_of_ble_eq_true rfl, Nat.le_of_ble_eq_true rfl⟩
    · exact va_runU (As := []) (rest := []) ⟨hx, hb, hml, hown, hts⟩ (c_X2_give_1 l E M1 H.size h0 kn pi on ph le tab kf tb hle g_h0 g_kn) (va_cwA 0 hts gX5_ask_X2_give_u26X2 rfl rfl rfl (hE.2.2.2.1 _ (by decide)) (by decide +kernel) ⟨Nat.le_of_ble_eq_true rfl, Nat.le_of_ble_eq_true rfl⟩) (m_preV hE hMr g_h0 rfl) rfl rfl hl.1 rfl (lv_room (Nat.le_of_ble_eq_true rfl)) dX5_ask_6 ⟨Nat.le_of_ble_eq_true rfl, Nat.le_of_ble_eq_true rfl⟩
    · exact va_runU (As := []) (rest := []) ⟨hx, hb, hml, hown, hts⟩ (c_X4_give l E M1 H.size h0 kn pi on ph le tab kf tb g_h0 g_kn) (va_cwA 0 hts gX5_ask_X4_give_u26X4 rfl rfl rfl (hE.2.2.2.1 _ (by decide)) (by decide +kernel) ⟨Nat.le_of_ble_eq_true rfl, Nat.le_of_ble_eq_true rfl⟩) (m_preV hE hMr g_h0 rfl) rfl rfl hl.1 rfl (lv_room (Nat.le_of_ble_eq_true rfl)) dX5_ask_6 ⟨Nat.le_of_ble_eq_true rfl, Nat.le_of_ble_eq_true rfl⟩
    · cases tab with
      | none =>
        cases tb with
        | none => exact va_runU (As := []) (rest := []) ⟨hx, hb, hml, hown, hts⟩ (c_X6_give_n l E M1 H.size h0 kn pi on ph le kf g_h0 g_kn) (va_cwA 0 hts gX5_ask_X6_give_u26X6 rfl rfl rfl (hE.2.2.2.1 _ (by decide)) (by decide +kernel) ⟨Nat.le_of_ble_eq_true rfl, Nat.le_of_ble_eq_true rfl⟩) (m_preV hE hMr g_h0 rfl) rfl rfl hl.1 rfl (lv_room (Nat.le_of_ble_eq_true rfl)) dX5_ask_6 ⟨Nat.le_of_ble_eq_true rfl, Nat.le_of_ble_eq_true rfl⟩
        | some d => exact htb.elim
      | some t =>
        cases tb with
        | none => exact htb.elim
        | some d =>
          obtain ⟨v, k1, k2⟩ := htb
          obtain ⟨lane, n, f⟩ := d
          have g_t : M1 t = some (mO 5 [.int lane, .ref v]) := by rw [eM1]; exact mUp_at (m_ne k1 g_h00 (by simp)) k1
          have g_v : M1 v = some (mDb E n f) := by rw [eM1]; exact mUp_at (m_ne k2 g_h00 (by simp)) k2
          exact va_runU (As := []) (rest := []) ⟨hx, hb, hml, hown, hts⟩ (c_X6_give_s l E M1 H.size h0 kn pi on ph le kf t v n lane f (hnt _ rfl) g_h0 g_kn g_t g_v) (va_cwA 0 hts gX5_ask_X6_give_u26X6 rfl rfl rfl (hE.2.2.2.1 _ (by decide)) (by decide +kernel) ⟨Nat.le_of_ble_eq_true rfl, Nat.le_of_ble_eq_true rfl⟩) (m_preV hE hMr g_h0 rfl) rfl rfl hl.1 rfl (lv_room (Nat.le_of_ble_eq_true rfl)) dX5_ask_6 ⟨Nat.le_of_ble_eq_true rfl, Nat.le_of_ble_eq_true rfl⟩
    · exact va_runU (As := []) (rest := []) ⟨hx, hb, hml, hown, hts⟩ (c_X8_give_6b l E M1 H.size h0 kn pi on ph le tab kf tb g_h0 g_kn) (va_cwA 0 hts gX5_ask_X8_give_u26X8 rfl rfl rfl (hE.2.2.2.1 _ (by decide)) (by decide +kernel) ⟨Nat.le_of_ble_eq_true rfl, Nat.le_of_ble_eq_true rfl⟩) (m_preV hE hMr g_h0 rfl) rfl rfl hl.1 rfl (lv_room (Nat.le_of_ble_eq_true rfl)) dX5_ask_6 ⟨Nat.le_of_ble_eq_true rfl, Nat.le_of_ble_eq_true rfl⟩
  refine m_calld hrun hM hS hA (fun r1 M2 H locs hw hM hS => ?_)
  obtain ⟨e_r1, eM2⟩ := hw
  subst e_r1
  have g_kn_ : M2 kn = some (mI E 4 kf) := by rw [eM2]; exact mUp_at (m_ne g_kn g_h0 (by simp)) g_kn
  have g_kn := g_kn_
  have g_h0 : M2 h0 = some (mO ci [.ref kn, .int pi, .int on, .int ph, .double ((sGive ci kf pi on ph le tb).2.2), va_rf (tab), .int ((sGive ci kf pi on ph le tb).1)]) := by rw [eM2]; exact mUp_self _ _ _
  refine lv_dstore_n (lv' := [(1, .double ((sGive ci kf pi on ph le tb).2.1)), (0, .ref h0)]) hx hb dX5_ask_9 rfl hl (by decide) rfl (fun ls hl => ?_)
  refine lv_aload_n hx hb dX5_ask_10 rfl (lv_at hl 1 rfl) ?_
  refine lv_dup hx hb dX5_ask_11 rfl ?_
  refine m_getI (v := .int ph) hx hb hts in_X5_ask_I hown hE hM g_h0 hci 3 (by decide) (hts (.fieldLink RX5 30 "CallWays2$Instrument" "phase" "I") (by decide +kernel)) (fun _ h9 => h9) rfl dX5_ask_12 ?_
  refine lv_iconst (v := 1) hx hb dX5_ask_15 (by decide) ?_
  refine lv_iadd hx hb dX5_ask_16 ?_
  refine m_putI (v := .int (ph + 1)) (ty := .int) hx hb hts in_X5_ask_I hown hE hM hS g_h0 hci 3 (by decide) (hts (.fieldLink RX5 30 "CallWays2$Instrument" "phase" "I") (by decide +kernel)) (fun _ h9 => h9) rfl (by decide +kernel) rfl rfl (Nat.le_of_ble_eq_true rfl) dX5_ask_17 (fun H locs hM hS => ?_)
  have hM : mOK E.1 (mA M sz) (mUp M2 h0 (mO ci [.ref kn, .int pi, .int on, .int (ph + 1), .double ((sGive ci kf pi on ph le tb).2.2), va_rf (tab), .int ((sGive ci kf pi on ph le tb).1)])) H := hM
  obtain ⟨M3, eM3⟩ : ∃ z, z = mUp M2 h0 (mO ci [.ref kn, .int pi, .int on, .int (ph + 1), .double ((sGive ci kf pi on ph le tb).2.2), va_rf (tab), .int ((sGive ci kf pi on ph le tb).1)]) := ⟨_, rfl⟩
  rw [← eM3] at hM
  have g_kn_ : M3 kn = some (mI E 4 kf) := by rw [eM3]; exact mUp_at (m_ne g_kn g_h0 (by simp)) g_kn
  have g_kn := g_kn_
  have g_h0 : M3 h0 = some (mO ci [.ref kn, .int pi, .int on, .int (ph + 1), .double ((sGive ci kf pi on ph le tb).2.2), va_rf (tab), .int ((sGive ci kf pi on ph le tb).1)]) := by rw [eM3]; exact mUp_self _ _ _
  refine lv_dload_n hx hb dX5_ask_20 rfl (lv_at hl 0 rfl) ?_
  exact m_dret hx hb hr hlocks hM hS (Nat.le_refl _) (Nat.le_refl _) dX5_ask_21 (by exact ⟨rfl, by rw [eM3, eM2, eM1]; simp only [mUp_up]⟩)
end
section
theorem p_hi {t P j N : Nat} (h : 2 ^ N ≤ t * 2 ^ j) (ht : t < 2 ^ (P + 1)) : N < P + 1 + j := by
  have h1 : 2 ^ N < 2 ^ (P + 1 + j) := by
    rw [Nat.pow_add 2 (P + 1) j]
    exact Nat.lt_of_le_of_lt h (Nat.mul_lt_mul_of_pos_right ht (Nat.two_pow_pos j))
  exact (Nat.pow_lt_pow_iff_right (by decide)).mp h1
theorem p_lo {t P j N : Nat} (h : t * 2 ^ j < 2 ^ N) (ht : 2 ^ P ≤ t) : P + j < N := by
  have h1 : 2 ^ (P + j) < 2 ^ N := by
    rw [Nat.pow_add]
    exact Nat.lt_of_le_of_lt (Nat.mul_le_mul_right _ ht) h
  exact (Nat.pow_lt_pow_iff_right (by decide)).mp h1
theorem dU_64 : FP.Core.val64 4895412794951729152 = .fin false (2 ^ 52) (((64 : Nat) : Int) - 52) := by decide +kernel
theorem dU_2 : FP.Core.val64 4611686018427387904 = .fin false (2 ^ 52) (((1 : Nat) : Int) - 52) := by decide +kernel
theorem fin_64 : FP.Core.DFin 4895412794951729152 := ⟨_, _, _, dU_64⟩
theorem nz_2 : ¬ FP.Core.DZero 4611686018427387904 := by rw [FP.Core.zero_bits2]; decide
theorem nI_le1 {e : Nat} (he : e < 2 ^ 31) : nI e ≤ 1 ↔ e ≤ 1 := nI_leI (b := 1) he (by decide)
theorem nI_le64 {e : Nat} (he : e < 2 ^ 31) : nI e ≤ 64 ↔ e ≤ 64 := nI_leI (b := 64) he (by decide)
theorem nI_m64 {e : Nat} (h : 64 ≤ e) : nI e + (-64) = nI (e - 64) := by
  have h64 : (64 : Int32) = nI 64 := rfl
  rw [h64, ← Int32.sub_eq_add_neg]
  exact pk_sub h
theorem nI_m1' {e : Nat} (h : 1 ≤ e) : nI e + (-1) = nI (e - 1) := by
  obtain ⟨d, rfl⟩ : ∃ d, e = d + 1 := ⟨e - 1, by omega⟩
  exact pk_m1 d
theorem nI_2mul (B : Nat) : (2 : Int32) * nI B = nI (2 * B) := pk_mul 2 B
theorem fin_one : FP.Core.DFin FP.dconst1 := FP.Core.fin_of_lt (K := 1024) (by decide) (by decide)
theorem nz_one : ¬ FP.Core.DZero FP.dconst1 := by rw [FP.Core.zero_bits2]; decide
theorem isneg_lt {x : UInt64} (hx0 : FP.Core.DFin x) (h : Op.cmpValue (FP.dcmp x FP.dconst0) CmpOp.g < 0) : 2 ^ 63 ≤ x.toNat := by
  have h1 : FP.Core.dcmp x 0 = some .lt := by
    cases ho : FP.Core.dcmp x 0 with
    | none => rw [show FP.dcmp x FP.dconst0 = none from ho] at h; exact absurd h (by decide)
    | some o => cases o with
      | lt => rfl
      | eq => rw [show FP.dcmp x FP.dconst0 = some .eq from ho] at h; exact absurd h (by decide)
      | gt => rw [show FP.dcmp x FP.dconst0 = some .gt from ho] at h; exact absurd h (by decide)
  have h2 := (FP.Core.dcmp_lt_key hx0.ne_nan fin_0.ne_nan).mp h1
  unfold FP.Core.dkey at h2
  rw [if_neg (by decide : ¬ 2 ^ 63 ≤ (0 : UInt64).toNat)] at h2
  split at h2
  · assumption
  · simp at h2
    omega
theorem isneg_gt {x : UInt64} (hx0 : FP.Core.DFin x) (h : ¬ Op.cmpValue (FP.dcmp x FP.dconst0) CmpOp.g < 0) (h0 : ¬ Op.cmpValue (FP.dcmp x FP.dconst0) CmpOp.l = 0) : ¬ 2 ^ 63 ≤ x.toNat := by
  have h1 : FP.Core.dcmp x 0 = some .gt := by
    obtain ⟨o, ho⟩ := FP.Core.dcmp_of_notNaN hx0.notNaN fin_0.notNaN
    cases o with
    | lt => rw [show FP.dcmp x FP.dconst0 = some .lt from ho] at h; exact absurd (by decide) h
    | eq => rw [show FP.dcmp x FP.dconst0 = some .eq from ho] at h0; exact absurd (by decide) h0
    | gt => exact ho
  have h2 := (FP.Core.dcmp_gt_key hx0.ne_nan fin_0.ne_nan).mp h1
  unfold FP.Core.dkey at h2
  rw [if_neg (by decide : ¬ 2 ^ 63 ≤ (0 : UInt64).toNat)] at h2
  split at h2
  · simp at h2
    omega
  · assumption
theorem isneg_z0 {x : UInt64} (h : FP.dcmp x FP.dconst0 = some .eq) (h1 : 0 ≤ Op.cmpValue (FP.dcmp (FP.ddiv FP.dconst1 x) FP.dconst0) CmpOp.g) : ¬ 2 ^ 63 ≤ x.toNat := by
  rcases FP.Core.zero_bits (t := x) h with rfl | rfl
  · decide
  · exact absurd h1 (by decide +kernel)
theorem isneg_z1 {x : UInt64} (h : FP.dcmp x FP.dconst0 = some .eq) (h1 : ¬ 0 ≤ Op.cmpValue (FP.dcmp (FP.ddiv FP.dconst1 x) FP.dconst0) CmpOp.g) : 2 ^ 63 ≤ x.toNat := by
  rcases FP.Core.zero_bits (t := x) h with rfl | rfl
  · exact absurd (by decide +kernel) h1
  · decide
set_option maxHeartbeats 4000000 in
set_option maxRecDepth 100000 in
theorem c_X1_isNegative (l : Launch) (E : mEnv) (M : mMem) (sz : Nat) (x : UInt64) (hx0 : FP.Core.DFin x)   : Met l yX1_isNegative wsX1_isNegative ({ frames := 0, cells := 0, slots := 0, locals := 0 }) (mPre E M sz [.double x]) (mQi E M sz (fun r u => r = bI (2 ^ 63 ≤ x.toNat) ∧ u = M)) (0) (0) (mA M sz) := by
  refine m_met [.double x] (by decide) rfl (Nat.le_of_ble_eq_true rfl) ?_
  intro p e s m below meth c ls H eH hx hb hr hts hown hlocks hnm hml hsz hE hM hS hA hl
  have hl : lv_has ls 2 [(0, .double x)] := hl
  refine lv_dload_n hx hb dX1_isNegative_0 rfl (lv_at hl 0 rfl) ?_
  refine lv_dconst0 hx hb dX1_isNegative_1 ?_
  refine lv_dcmp hx hb dX1_isNegative_2 ?_
  refine lv_if_lt (tgt := 20) hx hb dX1_isNegative_3 (by decide) (fun c_3 => ?_) (fun c_3 => ?_)
  · skip
    have k1 := isneg_lt hx0 c_3
    refine lv_iconst (v := 1) hx hb dX1_isNegative_20 (by decide) ?_
    refine lv_goto (tgt := 25) hx hb dX1_isNegative_21 (by decide) ?_
    exact m_zret hx hb hr hlocks hM hS (Nat.le_refl _) (Nat.le_refl _) dX1_isNegative_25 (by first | exact Or.inl rfl | exact Or.inr rfl) (by first | exact ⟨(bI_t k1).symm, rfl⟩ | exact ⟨(bI_f k1).symm, rfl⟩)
  · skip
    refine lv_dload_n hx hb dX1_isNegative_6 rfl (lv_at hl 0 rfl) ?_
    refine lv_dconst0 hx hb dX1_isNegative_7 ?_
    refine lv_dcmp hx hb dX1_isNegative_8 ?_
    refine lv_if_ne (tgt := 24) hx hb dX1_isNegative_9 (by decide) (fun c_9 => ?_) (fun c_9 => ?_)
    · skip
      have k1 := isneg_gt hx0 c_3 c_9
      refine lv_iconst (v := 0) hx hb dX1_isNegative_24 (by decide) ?_
      exact m_zret hx hb hr hlocks hM hS (Nat.le_refl _) (Nat.le_refl _) dX1_isNegative_25 (by first | exact Or.inl rfl | exact Or.inr rfl) (by first | exact ⟨(bI_t k1).symm, rfl⟩ | exact ⟨(bI_f k1).symm, rfl⟩)
    · skip
      rw [cmpv_eq] at c_9
      refine lv_dconst1 hx hb dX1_isNegative_12 ?_
      refine lv_dload_n hx hb dX1_isNegative_13 rfl (lv_at hl 0 rfl) ?_
      refine lv_ddiv hx hb dX1_isNegative_14 (n64_of (FP.Core.ddiv_out' fin_one nz_one hx0.notNaN)) ?_
      refine lv_dconst0 hx hb dX1_isNegative_15 ?_
      refine lv_dcmp hx hb dX1_isNegative_16 ?_
      refine lv_if_ge (tgt := 24) hx hb dX1_isNegative_17 (by decide) (fun c_17 => ?_) (fun c_17 => ?_)
      · skip
        have k1 := isneg_z0 c_9 c_17
        refine lv_iconst (v := 0) hx hb dX1_isNegative_24 (by decide) ?_
        exact m_zret hx hb hr hlocks hM hS (Nat.le_refl _) (Nat.le_refl _) dX1_isNegative_25 (by first | exact Or.inl rfl | exact Or.inr rfl) (by first | exact ⟨(bI_t k1).symm, rfl⟩ | exact ⟨(bI_f k1).symm, rfl⟩)
      · skip
        have k1 := isneg_z1 c_9 c_17
        refine lv_iconst (v := 1) hx hb dX1_isNegative_20 (by decide) ?_
        refine lv_goto (tgt := 25) hx hb dX1_isNegative_21 (by decide) ?_
        exact m_zret hx hb hr hlocks hM hS (Nat.le_refl _) (Nat.le_refl _) dX1_isNegative_25 (by first | exact Or.inl rfl | exact Or.inr rfl) (by first | exact ⟨(bI_t k1).symm, rfl⟩ | exact ⟨(bI_f k1).symm, rfl⟩)
set_option maxHeartbeats 4000000 in
set_option maxRecDepth 100000 in
theorem c_X1_mag0 (l : Launch) (E : mEnv) (M : mMem) (sz : Nat) (x : UInt64) (b q : Int32) (hz : FP.dcmp x FP.dconst0 = some .eq)   : Met l yX1_magnitude wsX1_magnitude ({ frames := 0, cells := 0, slots := 0, locals := 0 }) (mPre E M sz [.double x, .int b, .int q]) (mQl E M sz (fun r u => r = 0 ∧ u = M)) (0) (0) (mA M sz) := by
  refine m_met [.double x, .int b, .int q] (by decide) rfl (Nat.le_of_ble_eq_true rfl) ?_
  intro p e s m below meth c ls H eH hx hb hr hts hown hlocks hnm hml hsz hE hM hS hA hl
  have hl : lv_has ls 7 [(0, .double x), (2, .int b), (3, .int q)] := hl
  refine lv_dload_n hx hb dX1_magnitude_0 rfl (lv_at hl 0 rfl) ?_
  refine lv_dconst0 hx hb dX1_magnitude_1 ?_
  refine lv_dcmp hx hb dX1_magnitude_2 ?_
  refine lv_if_ne (tgt := 8) hx hb dX1_magnitude_3 (by decide) (fun h9 => False.elim (by revert h9; exact (fun h => h ((cmpv_eq _ _).mpr hz)))) (fun _ => ?_)
  refine lv_lconst (v := 0) hx hb dX1_magnitude_6 (by decide) ?_
  exact m_lret hx hb hr hlocks hM hS (Nat.le_refl _) (Nat.le_refl _) dX1_magnitude_7 (by exact ⟨rfl, rfl⟩)
theorem mag_end {mm : UInt64} {B P off k t ex j : Nat} (hex : ex = k + 1) (h4 : j + ex = k + off + B) (hB : B + P + off = 1075) (ht53 : t < 2 ^ 53) (hP : P ≤ 52) (hsh : lN k <<< ((nI P).toInt64 &&& 63) = lN (k * 2 ^ P)) (hPd : FP.Core.val64 (FP.l2d ((1 : Int64) <<< ((nI P).toInt64 &&& 63))) = .fin false (2 ^ 52) ((P : Int) - 52)) (h5 : dU mm (t * 2 ^ j)) (hk31 : k < 2 ^ 31 := by omega) : (nI ex - 1).toInt64 <<< ((nI P).toInt64 &&& 63) + FP.d2l (FP.dmul mm (FP.l2d ((1 : Int64) <<< ((nI P).toInt64 &&& 63)))) = lN (k * 2 ^ P + t) := by
  subst hex
  have hj : j + P = 1074 := by omega
  have h7 := dU_mul hPd ht53 (by omega) h5
  rw [hj] at h7
  rw [nI_pred, nI_l hk31, hsh, dU_d2l (by omega) h7, lN_add]
set_option maxHeartbeats 4000000 in
set_option maxRecDepth 100000 in
theorem c_X1_mag (l : Launch) (E : mEnv) (M : mMem) (sz : Nat) (x : UInt64) (B P off k t : Nat) (ht0 : 0 < t) (ht : t < 2 ^ (P + 1)) (hk : k = 0 ∨ 2 ^ P ≤ t) (hkB : k + 1 ≤ 2 * B) (hB : B + P + off = 1075) (hB1 : 1 ≤ B) (hP : P ≤ 52) (hBo : 2 * B + off ≤ 2046) (hU : dU x (t * 2 ^ (k + off))) (hPd : FP.Core.val64 (FP.l2d ((1 : Int64) <<< ((nI P).toInt64 &&& 63))) = .fin false (2 ^ 52) ((P : Int) - 52)) (hsh : lN k <<< ((nI P).toInt64 &&& 63) = lN (k * 2 ^ P))   : Met l yX1_magnitude wsX1_magnitude ({ frames := 0, cells := 0, slots := 0, locals := 0 }) (mPre E M sz [.double x, .int (nI B), .int (nI P)]) (mQl E M sz (fun r u => r = lN (k * 2 ^ P + t) ∧ u = M)) (0) (0) (mA M sz) := by
  refine m_met [.double x, .int (nI B), .int (nI P)] (by decide) rfl (Nat.le_of_ble_eq_true rfl) ?_
  intro p e s m below meth c ls H eH hx hb hr hts hown hlocks hnm hml hsz hE hM hS hA hl
  have hl : lv_has ls 7 [(0, .double x), (2, .int (nI B)), (3, .int (nI P))] := hl
  have ht53 : t < 2 ^ 53 := Nat.lt_of_lt_of_le ht (Nat.pow_le_pow_right (by decide) (by omega))
  have loop3 : ∀ (n ex j : Nat) (mm : UInt64) (ls : Array Slot), ex ≤ n → ex < 4000 → k + 1 ≤ ex → j + ex = k + off + B → dU mm (t * 2 ^ j) → lv_has ls 7 [(6, .int (nI ex)), (4, .double mm), (0, .double x), (2, .int (nI B)), (3, .int (nI P))] → W p l e ({ frames := 0, cells := 0, slots := 0, locals := 0 } : Room) s m #[.double x, .int (nI B), .int (nI P)] below meth c H [] 0 0 (MQ below (mQl E M sz (fun r u => r = lN (k * 2 ^ P + t) ∧ u = M)) #[.double x, .int (nI B), .int (nI P)] s (0) (0) (mA M sz)) (F0 m 77 ls []) := by
    intro n
    induction n with
    | zero =>
      intro ex j mm ls h1 h2 h3 h4 h5 hl
      omega
    | succ n ih =>
      intro ex j mm ls h1 h2 h3 h4 h5 hl
      refine lv_dload hx hb dX1_magnitude_77 (lv_at hl 1 rfl) ?_
      refine lv_dconst1 hx hb dX1_magnitude_79 ?_
      refine lv_dcmp hx hb dX1_magnitude_80 ?_
      refine lv_if_ge (tgt := 104) hx hb dX1_magnitude_81 (by decide) (fun c_81 => ?_) (fun c_81 => ?_)
      · skip
        rw [dU_lt h5 dU_lit1] at c_81
        have hex : ex = k + 1 := by have := p_hi c_81 ht; omega
        refine lv_iload hx hb dX1_magnitude_104 (lv_at hl 0 rfl) ?_
        refine lv_iconst (v := 1) hx hb dX1_magnitude_106 (by decide) ?_
        refine lv_isub hx hb dX1_magnitude_107 ?_
        refine lv_i2l hx hb dX1_magnitude_108 rfl ?_
        refine lv_iload_n hx hb dX1_magnitude_109 rfl (lv_at hl 4 rfl) ?_
        refine lv_lshl hx hb dX1_magnitude_110 rfl ?_
        refine lv_dload hx hb dX1_magnitude_111 (lv_at hl 1 rfl) ?_
        refine lv_lconst (v := 1) hx hb dX1_magnitude_113 (by decide) ?_
        refine lv_iload_n hx hb dX1_magnitude_114 rfl (lv_at hl 4 rfl) ?_
        refine lv_lshl hx hb dX1_magnitude_115 rfl ?_
        refine lv_l2d hx hb dX1_magnitude_116 ?_
        refine lv_dmul hx hb dX1_magnitude_117 (nn_mul h5.fin (FP.Core.l2d_fin _)) ?_
        refine lv_d2l hx hb dX1_magnitude_118 ?_
        refine lv_ladd hx hb dX1_magnitude_119 ?_
        exact m_lret hx hb hr hlocks hM hS (Nat.le_refl _) (Nat.le_refl _) dX1_magnitude_120 (by exact ⟨mag_end hex h4 hB ht53 hP hsh hPd h5 (by omega), rfl⟩)
      · skip
        rw [dU_lt h5 dU_lit1, Nat.not_le] at c_81
        refine lv_iload hx hb dX1_magnitude_84 (lv_at hl 0 rfl) ?_
        refine lv_iconst (v := 1) hx hb dX1_magnitude_86 (by decide) ?_
        refine lv_icmp_le (tgt := 104) hx hb dX1_magnitude_87 (by decide) (fun c_87 => ?_) (fun c_87 => ?_)
        · skip
          rw [nI_le1 (by omega)] at c_87
          have hex : ex = k + 1 := by omega
          refine lv_iload hx hb dX1_magnitude_104 (lv_at hl 0 rfl) ?_
          refine lv_iconst (v := 1) hx hb dX1_magnitude_106 (by decide) ?_
          refine lv_isub hx hb dX1_magnitude_107 ?_
          refine lv_i2l hx hb dX1_magnitude_108 rfl ?_
          refine lv_iload_n hx hb dX1_magnitude_109 rfl (lv_at hl 4 rfl) ?_
          refine lv_lshl hx hb dX1_magnitude_110 rfl ?_
          refine lv_dload hx hb dX1_magnitude_111 (lv_at hl 1 rfl) ?_
          refine lv_lconst (v := 1) hx hb dX1_magnitude_113 (by decide) ?_
          refine lv_iload_n hx hb dX1_magnitude_114 rfl (lv_at hl 4 rfl) ?_
          refine lv_lshl hx hb dX1_magnitude_115 rfl ?_
          refine lv_l2d hx hb dX1_magnitude_116 ?_
          refine lv_dmul hx hb dX1_magnitude_117 (nn_mul h5.fin (FP.Core.l2d_fin _)) ?_
          refine lv_d2l hx hb dX1_magnitude_118 ?_
          refine lv_ladd hx hb dX1_magnitude_119 ?_
          exact m_lret hx hb hr hlocks hM hS (Nat.le_refl _) (Nat.le_refl _) dX1_magnitude_120 (by exact ⟨mag_end hex h4 hB ht53 hP hsh hPd h5 (by omega), rfl⟩)
        · skip
          rw [nI_le1 (by omega)] at c_87
          have hnx : k + 2 ≤ ex := hk.elim (fun h => by omega) (fun h => by have := p_lo c_81 h; omega)
          refine lv_dload hx hb dX1_magnitude_90 (lv_at hl 1 rfl) ?_
          refine lv_ldc2d hx hb hown (hts (.constantDouble RX1 24 (4611686018427387904)) (by decide +kernel)) dX1_magnitude_92 ?_
          refine lv_dmul hx hb dX1_magnitude_95 (nn_mul h5.fin fin_2) ?_
          refine lv_dstore (lv' := [(4, .double (FP.dmul mm 4611686018427387904)), (6, .int (nI ex)), (0, .double x), (2, .int (nI B)), (3, .int (nI P))]) hx hb dX1_magnitude_96 hl (by decide) rfl (fun ls hl => ?_)
          refine lv_iinc (v := ((nI ex) + (-1))) (lv' := [(6, .int ((nI ex) + (-1))), (4, .double (FP.dmul mm 4611686018427387904)), (0, .double x), (2, .int (nI B)), (3, .int (nI P))]) hx hb dX1_magnitude_98 hl (k := 1) rfl rfl (by decide) rfl (fun ls hl => ?_)
          refine lv_goto (tgt := 77) hx hb dX1_magnitude_101 (by decide) ?_
          rw [nI_m1' (by omega)] at hl
          exact ih (ex - 1) (j + 1) _ ls (by omega) (by omega) (by omega) (by omega) (dU_mul dU_2 ht53 (by omega) h5) (lv_sub hl [0, 1, 2, 3, 4] rfl)
  have loop2 : ∀ (n ex j : Nat) (mm : UInt64) (ls : Array Slot), ex ≤ n → ex < 4000 → k + 1 ≤ ex → j + ex = k + off + B → dU mm (t * 2 ^ j) → lv_has ls 7 [(6, .int (nI ex)), (4, .double mm), (0, .double x), (2, .int (nI B)), (3, .int (nI P))] → W p l e ({ frames := 0, cells := 0, slots := 0, locals := 0 } : Room) s m #[.double x, .int (nI B), .int (nI P)] below meth c H [] 0 0 (MQ below (mQl E M sz (fun r u => r = lN (k * 2 ^ P + t) ∧ u = M)) #[.double x, .int (nI B), .int (nI P)] s (0) (0) (mA M sz)) (F0 m 45 ls []) := by
    intro n
    induction n with
    | zero =>
      intro ex j mm ls h1 h2 h3 h4 h5 hl
      omega
    | succ n ih =>
      intro ex j mm ls h1 h2 h3 h4 h5 hl
      refine lv_dload hx hb dX1_magnitude_45 (lv_at hl 1 rfl) ?_
      refine lv_ldc2d hx hb hown (hts (.constantDouble RX1 26 (4895412794951729152)) (by decide +kernel)) dX1_magnitude_47 ?_
      refine lv_dmul hx hb dX1_magnitude_50 (nn_mul h5.fin fin_64) ?_
      refine lv_dconst1 hx hb dX1_magnitude_51 ?_
      refine lv_dcmp hx hb dX1_magnitude_52 ?_
      refine lv_if_ge (tgt := 77) hx hb dX1_magnitude_53 (by decide) (fun c_53 => ?_) (fun c_53 => ?_)
      · skip
        rw [dU_lt (dU_mul dU_64 ht53 (by omega) h5) dU_lit1] at c_53
        exact loop3 ex ex j mm ls (Nat.le_refl _) h2 h3 h4 h5 hl
      · skip
        rw [dU_lt (dU_mul dU_64 ht53 (by omega) h5) dU_lit1, Nat.not_le] at c_53
        refine lv_iload hx hb dX1_magnitude_56 (lv_at hl 0 rfl) ?_
        refine lv_bipush (v := 64) hx hb dX1_magnitude_58 (by decide) ?_
        refine lv_icmp_le (tgt := 77) hx hb dX1_magnitude_60 (by decide) (fun c_60 => ?_) (fun c_60 => ?_)
        · skip
          rw [nI_le64 (by omega)] at c_60
          exact loop3 ex ex j mm ls (Nat.le_refl _) h2 h3 h4 h5 hl
        · skip
          rw [nI_le64 (by omega)] at c_60
          have hnx : k + 65 ≤ ex := hk.elim (fun h => by omega) (fun h => by have := p_lo c_53 h; omega)
          refine lv_dload hx hb dX1_magnitude_63 (lv_at hl 1 rfl) ?_
          refine lv_ldc2d hx hb hown (hts (.constantDouble RX1 26 (4895412794951729152)) (by decide +kernel)) dX1_magnitude_65 ?_
          refine lv_dmul hx hb dX1_magnitude_68 (nn_mul h5.fin fin_64) ?_
          refine lv_dstore (lv' := [(4, .double (FP.dmul mm 4895412794951729152)), (6, .int (nI ex)), (0, .double x), (2, .int (nI B)), (3, .int (nI P))]) hx hb dX1_magnitude_69 hl (by decide) rfl (fun ls hl => ?_)
          refine lv_iinc (v := ((nI ex) + (-64))) (lv' := [(6, .int ((nI ex) + (-64))), (4, .double (FP.dmul mm 4895412794951729152)), (0, .double x), (2, .int (nI B)), (3, .int (nI P))]) hx hb dX1_magnitude_71 hl (k := 1) rfl rfl (by decide) rfl (fun ls hl => ?_)
          refine lv_goto (tgt := 45) hx hb dX1_magnitude_74 (by decide) ?_
          rw [nI_m64 (by omega)] at hl
          exact ih (ex - 64) (j + 64) _ ls (by omega) (by omega) (by omega) (by omega) (dU_mul dU_64 ht53 (by omega) h5) (lv_sub hl [0, 1, 2, 3, 4] rfl)
  have loop1 : ∀ (n ex j : Nat) (mm : UInt64) (ls : Array Slot), 2 * B + 1 ≤ ex + n → ex < 4000 → B ≤ ex ∧ ex ≤ 2 * B → j + ex = k + off + B → dU mm (t * 2 ^ j) → lv_has ls 7 [(6, .int (nI ex)), (4, .double mm), (0, .double x), (2, .int (nI B)), (3, .int (nI P))] → W p l e ({ frames := 0, cells := 0, slots := 0, locals := 0 } : Room) s m #[.double x, .int (nI B), .int (nI P)] below meth c H [] 0 0 (MQ below (mQl E M sz (fun r u => r = lN (k * 2 ^ P + t) ∧ u = M)) #[.double x, .int (nI B), .int (nI P)] s (0) (0) (mA M sz)) (F0 m 14 ls []) := by
    intro n
    induction n with
    | zero =>
      intro ex j mm ls h1 h2 h3 h4 h5 hl
      omega
    | succ n ih =>
      intro ex j mm ls h1 h2 h3 h4 h5 hl
      refine lv_dload hx hb dX1_magnitude_14 (lv_at hl 1 rfl) ?_
      refine lv_ldc2d hx hb hown (hts (.constantDouble RX1 24 (4611686018427387904)) (by decide +kernel)) dX1_magnitude_16 ?_
      refine lv_dcmp hx hb dX1_magnitude_19 ?_
      refine lv_if_lt (tgt := 45) hx hb dX1_magnitude_20 (by decide) (fun c_20 => ?_) (fun c_20 => ?_)
      · skip
        rw [dU_ge h5 dU_lit2] at c_20
        have hnx : k + 1 ≤ ex := hk.elim (fun h => by omega) (fun h => by have := p_lo c_20 h; omega)
        exact loop2 ex ex j mm ls (Nat.le_refl _) h2 hnx h4 h5 hl
      · skip
        rw [dU_ge h5 dU_lit2, Nat.not_lt] at c_20
        have hjj := p_hi c_20 ht
        refine lv_iload hx hb dX1_magnitude_23 (lv_at hl 0 rfl) ?_
        refine lv_iconst (v := 2) hx hb dX1_magnitude_25 (by decide) ?_
        refine lv_iload_n hx hb dX1_magnitude_26 rfl (lv_at hl 3 rfl) ?_
        refine lv_imul hx hb dX1_magnitude_27 ?_
        refine lv_icmp_ge (tgt := 45) hx hb dX1_magnitude_28 (by decide) (fun c_28 => ?_) (fun c_28 => ?_)
        · skip
          rw [nI_2mul, nI_leI (by omega) (by omega)] at c_28
          have hnx : k + 1 ≤ ex := by omega
          exact loop2 ex ex j mm ls (Nat.le_refl _) h2 hnx h4 h5 hl
        · skip
          rw [nI_2mul, nI_leI (by omega) (by omega)] at c_28
          refine lv_dload hx hb dX1_magnitude_31 (lv_at hl 1 rfl) ?_
          refine lv_ldc2d hx hb hown (hts (.constantDouble RX1 24 (4611686018427387904)) (by decide +kernel)) dX1_magnitude_33 ?_
          refine lv_ddiv hx hb dX1_magnitude_36 (nn_div h5.fin fin_2 nz_2) ?_
          refine lv_dstore (lv' := [(4, .double (FP.ddiv mm 4611686018427387904)), (6, .int (nI ex)), (0, .double x), (2, .int (nI B)), (3, .int (nI P))]) hx hb dX1_magnitude_37 hl (by decide) rfl (fun ls hl => ?_)
          refine lv_iinc (v := ((nI ex) + 1)) (lv' := [(6, .int ((nI ex) + 1)), (4, .double (FP.ddiv mm 4611686018427387904)), (0, .double x), (2, .int (nI B)), (3, .int (nI P))]) hx hb dX1_magnitude_39 hl (k := 1) rfl rfl (by decide) rfl (fun ls hl => ?_)
          refine lv_goto (tgt := 14) hx hb dX1_magnitude_42 (by decide) ?_
          rw [nI_1] at hl
          obtain ⟨j2, rfl⟩ : ∃ j2, j = j2 + 1 := ⟨j - 1, by omega⟩
          exact ih (ex + 1) j2 _ ls (by omega) (by omega) (by omega) (by omega) (dU_half ht53 (by omega) h5) (lv_sub hl [0, 1, 2, 3, 4] rfl)
  refine lv_dload_n hx hb dX1_magnitude_0 rfl (lv_at hl 0 rfl) ?_
  refine lv_dconst0 hx hb dX1_magnitude_1 ?_
  refine lv_dcmp hx hb dX1_magnitude_2 ?_
  refine lv_if_ne (tgt := 8) hx hb dX1_magnitude_3 (by decide) (fun _ => ?_) (fun h9 => False.elim (by revert h9; exact (fun h => by rw [cmpv_eq, dU_cmp hU dU_lit0] at h; have h1 := (FP.Core.compare_eq_iff _ _).mp (Option.some.inj h); have h2 := Nat.mul_pos ht0 (Nat.two_pow_pos (k + off)); omega)))
  refine lv_dload_n hx hb dX1_magnitude_8 rfl (lv_at hl 0 rfl) ?_
  refine lv_dstore (lv' := [(4, .double x), (0, .double x), (2, .int (nI B)), (3, .int (nI P))]) hx hb dX1_magnitude_9 hl (by decide) rfl (fun ls hl => ?_)
  refine lv_iload_n hx hb dX1_magnitude_11 rfl (lv_at hl 2 rfl) ?_
  refine lv_istore (lv' := [(6, .int (nI B)), (4, .double x), (0, .double x), (2, .int (nI B)), (3, .int (nI P))]) hx hb dX1_magnitude_12 hl (by decide) rfl (fun ls hl => ?_)
  exact loop1 (2 * B + 1) B (k + off) x ls (by omega) (by omega) ⟨Nat.le_refl _, by omega⟩ (by omega) hU (lv_sub hl [0, 1, 2, 3, 4] rfl)
theorem shl64 {k : Nat} (P : Nat) (s : Int64) (hs : (s.toBitVec.smod 64).toNat = P) (h : k * 2 ^ P < 2 ^ 64) : lN k <<< s = lN (k * 2 ^ P) := by
  apply Int64.toBitVec_inj.mp
  apply BitVec.eq_of_toNat_eq
  show ((Int64.ofNat k).toBitVec <<< (s.toBitVec.smod 64).toNat).toNat = (Int64.ofNat (k * 2 ^ P)).toBitVec.toNat
  have hk : k < 2 ^ 64 := Nat.lt_of_le_of_lt (Nat.le_mul_of_pos_right k (Nat.two_pow_pos P)) h
  rw [hs, BitVec.toNat_shiftLeft, Nat.shiftLeft_eq, Int64.toBitVec_ofNat', Int64.toBitVec_ofNat', BitVec.toNat_ofNat, BitVec.toNat_ofNat, Nat.mod_eq_of_lt hk]
theorem hsh_52 {k : Nat} (h : k < 4096) : lN k <<< ((nI 52).toInt64 &&& 63) = lN (k * 2 ^ 52) := shl64 52 _ (by decide) (by omega)
theorem hsh_23 {k : Nat} (h : k < 4096) : lN k <<< ((nI 23).toInt64 &&& 63) = lN (k * 2 ^ 23) := shl64 23 _ (by decide) (by omega)
theorem hPd_52 : FP.Core.val64 (FP.l2d ((1 : Int64) <<< ((nI 52).toInt64 &&& 63))) = .fin false (2 ^ 52) (((52 : Nat) : Int) - 52) := by decide +kernel
theorem hPd_23 : FP.Core.val64 (FP.l2d ((1 : Int64) <<< ((nI 23).toInt64 &&& 63))) = .fin false (2 ^ 52) (((23 : Nat) : Int) - 52) := by decide +kernel
end
section
theorem dneg_hi {x : UInt64} (h : 2 ^ 63 ≤ x.toNat) : (FP.dneg x).toNat = x.toNat - 2 ^ 63 := by
  have ha := x.toNat_lt
  have hx : (FP.dneg x).toNat = x.toNat ^^^ 2 ^ 63 := by
    unfold FP.dneg
    rw [UInt64.toNat_xor]
    rfl
  rw [hx]
  exact (FP.xor_top (a := x.toNat) (k := 63) (by omega)).2 h
theorem ge_cases {x : UInt64} (hx0 : FP.Core.DFin x) (h : 0 ≤ Op.cmpValue (FP.dcmp x FP.dconst0) CmpOp.g) : x.toNat < 2 ^ 63 ∨ x.toNat % 2 ^ 63 = 0 := by
  by_cases h0 : Op.cmpValue (FP.dcmp x FP.dconst0) CmpOp.l = 0
  · rw [cmpv_eq] at h0
    exact Or.inr ((FP.Core.zero_bits2 x).mp (FP.Core.zero_iff.mp h0))
  · have := isneg_gt hx0 (by intro q; exact absurd h (Int32.not_le.mpr q)) h0
    exact Or.inl (by omega)
theorem lt_case {x : UInt64} (hx0 : FP.Core.DFin x) (h : ¬ 0 ≤ Op.cmpValue (FP.dcmp x FP.dconst0) CmpOp.g) : 2 ^ 63 ≤ x.toNat := isneg_lt hx0 (Int32.not_le.mp h)
theorem zero_cmp {x : UInt64} (h : x.toNat % 2 ^ 63 = 0) : FP.dcmp x FP.dconst0 = some .eq := FP.Core.zero_iff.mpr ((FP.Core.zero_bits2 x).mpr h)
theorem lor_hi {x : UInt64} (h : 2 ^ 63 ≤ x.toNat) : (-9223372036854775808 : Int64) ||| lN (x.toNat % 2 ^ 63) = x.toInt64 := by
  have hx := x.toNat_lt
  apply Int64.toBitVec_inj.mp
  apply BitVec.eq_of_toNat_eq
  rw [Int64.toBitVec_or, BitVec.toNat_or]
  show (-9223372036854775808 : Int64).toBitVec.toNat ||| (Int64.ofNat (x.toNat % 2 ^ 63)).toBitVec.toNat = x.toNat
  rw [Int64.toBitVec_ofNat', BitVec.toNat_ofNat, show (-9223372036854775808 : Int64).toBitVec.toNat = 2 ^ 63 * 1 from rfl, Nat.mod_eq_of_lt (show x.toNat % 2 ^ 63 < 2 ^ 64 by omega), ← Nat.two_pow_add_eq_or_of_lt (by omega)]
  omega
theorem lor_lo {x : UInt64} (h : ¬ 2 ^ 63 ≤ x.toNat) : (0 : Int64) ||| lN (x.toNat % 2 ^ 63) = x.toInt64 := by
  have hx := x.toNat_lt
  apply Int64.toBitVec_inj.mp
  apply BitVec.eq_of_toNat_eq
  rw [Int64.toBitVec_or, BitVec.toNat_or]
  show (0 : Int64).toBitVec.toNat ||| (Int64.ofNat (x.toNat % 2 ^ 63)).toBitVec.toNat = x.toNat
  rw [Int64.toBitVec_ofNat', BitVec.toNat_ofNat, show (0 : Int64).toBitVec.toNat = 0 from rfl, Nat.zero_or]
  omega
theorem ior_hi {f : UInt32} (h : 2 ^ 31 ≤ f.toNat) : (-2147483648 : Int32) ||| (lN (f.toNat % 2 ^ 31)).toInt32 = f.toInt32 := by
  have hx := f.toNat_lt
  rw [lN_i]
  apply Int32.toBitVec_inj.mp
  apply BitVec.eq_of_toNat_eq
  rw [Int32.toBitVec_or, BitVec.toNat_or]
  show (-2147483648 : Int32).toBitVec.toNat ||| (nI (f.toNat % 2 ^ 31)).toBitVec.toNat = f.toNat
  rw [pk_tn (by omega), show (-2147483648 : Int32).toBitVec.toNat = 2 ^ 31 * 1 from rfl, ← Nat.two_pow_add_eq_or_of_lt (by omega)]
  omega
theorem ior_lo {f : UInt32} (h : ¬ 2 ^ 31 ≤ f.toNat) : (0 : Int32) ||| (lN (f.toNat % 2 ^ 31)).toInt32 = f.toInt32 := by
  have hx := f.toNat_lt
  rw [lN_i]
  apply Int32.toBitVec_inj.mp
  apply BitVec.eq_of_toNat_eq
  rw [Int32.toBitVec_or, BitVec.toNat_or]
  show (0 : Int32).toBitVec.toNat ||| (nI (f.toNat % 2 ^ 31)).toBitVec.toNat = f.toNat
  rw [pk_tn (by omega), show (0 : Int32).toBitVec.toNat = 0 from rfl, Nat.zero_or]
  omega
/-- magnitude of a finite double whose sign is clear, or of a zero -/
theorem c_X1_magD (l : Launch) (E : mEnv) (M : mMem) (sz : Nat) (y : UInt64) (hf : y.toNat % 2 ^ 63 < 9218868437227405312) (hs : y.toNat < 2 ^ 63 ∨ y.toNat % 2 ^ 63 = 0) : Met l yX1_magnitude wsX1_magnitude ({ frames := 0, cells := 0, slots := 0, locals := 0 }) (mPre E M sz [.double y, .int 1023, .int 52]) (mQl E M sz (fun r u => r = lN (y.toNat % 2 ^ 63) ∧ u = M)) (0) (0) (mA M sz) := by
  by_cases h0 : y.toNat % 2 ^ 63 = 0
  · rw [h0]
    exact c_X1_mag0 l E M sz y 1023 52 (zero_cmp h0)
  · have hn : y.toNat < 2 ^ 63 := hs.resolve_right h0
    have hm : y.toNat % 2 ^ 63 = y.toNat := Nat.mod_eq_of_lt hn
    rw [hm] at hf h0 ⊢
    generalize hnn : y.toNat = n at *
    by_cases hlt : n < 2 ^ 52
    · have hU : dU y (n * 2 ^ (0 + 0)) := by
        have := dU_bits (x := y) (by omega)
        unfold FP.Core.unitsOf at this
        rw [hnn, FP.Core.tails_b64, if_pos hlt] at this
        simpa using this
      have := c_X1_mag l E M sz y 1023 52 0 0 n (by omega) (by omega) (Or.inl rfl) (by decide) (by decide) (by decide) (by decide) (by decide) hU hPd_52 (hsh_52 (by decide))
      rw [Nat.zero_mul, Nat.zero_add] at this
      exact this
    · have hU : dU y ((2 ^ 52 + n % 2 ^ 52) * 2 ^ (n / 2 ^ 52 - 1 + 0)) := by
        have := dU_bits (x := y) (by omega)
        unfold FP.Core.unitsOf at this
        rw [hnn, FP.Core.tails_b64, if_neg hlt] at this
        exact this
      have := c_X1_mag l E M sz y 1023 52 0 (n / 2 ^ 52 - 1) (2 ^ 52 + n % 2 ^ 52) (by omega) (by omega) (Or.inr (by omega)) (by omega) (by decide) (by decide) (by decide) (by decide) hU hPd_52 (hsh_52 (by omega))
      rw [show (n / 2 ^ 52 - 1) * 2 ^ 52 + (2 ^ 52 + n % 2 ^ 52) = n by omega] at this
      exact this
set_option maxHeartbeats 4000000 in
set_option maxRecDepth 100000 in
theorem c_X1_ofDouble (l : Launch) (E : mEnv) (M : mMem) (sz : Nat) (x : UInt64) (hx0 : FP.Core.DFin x)   : Met l yX1_ofDouble wsX1_ofDouble ({ frames := 1, cells := 0, slots := 0, locals := 26 }) (mPre E M sz [.double x]) (mQl E M sz (fun r u => r = x.toInt64 ∧ u = M)) (0) (0) (mA M sz) := by
  refine m_met [.double x] (by decide) rfl (Nat.le_of_ble_eq_true rfl) ?_
  intro p e s m below meth c ls H eH hx hb hr hts hown hlocks hnm hml hsz hE hM hS hA hl
  have hl : lv_has ls 2 [(0, .double x)] := hl
  have hfb := (FP.Core.fin_bits x).mp hx0
  have hlt := x.toNat_lt
  refine lv_dload_n hx hb dX1_ofDouble_0 rfl (lv_at hl 0 rfl) ?_
  refine m_calli (va_runS (As := [.double x]) (rest := []) ⟨hx, hb, hml, hown, hts⟩ (c_X1_isNegative l E M H.size x hx0) (va_cwS 1 hts gX1_ofDouble_X1_isNegative rfl rfl rfl (by decide +kernel) ⟨Nat.le_of_ble_eq_true rfl, Nat.le_of_ble_eq_true rfl⟩) (m_preS hE hM) rfl rfl hl.1 rfl (lv_room (Nat.le_of_ble_eq_true rfl)) dX1_ofDouble_1 ⟨Nat.le_of_ble_eq_true rfl, Nat.le_of_ble_eq_true rfl⟩) hM hS hA (fun r1 u H locs hw hM hS => ?_)
  obtain ⟨e_r1, eu⟩ := hw
  rw [eu] at hM
  subst e_r1
  refine lv_if_eq (tgt := 13) hx hb dX1_ofDouble_4 (by decide) (fun c_4 => ?_) (fun c_4 => ?_)
  · skip
    rw [bI_eq] at c_4
    refine lv_lconst (v := 0) hx hb dX1_ofDouble_13 (by decide) ?_
    refine lv_dload_n hx hb dX1_ofDouble_14 rfl (lv_at hl 0 rfl) ?_
    refine lv_dconst0 hx hb dX1_ofDouble_15 ?_
    refine lv_dcmp hx hb dX1_ofDouble_16 ?_
    refine lv_if_ge (tgt := 25) hx hb dX1_ofDouble_17 (by decide) (fun c_17 => ?_) (fun c_17 => ?_)
    · skip
      refine lv_dload_n hx hb dX1_ofDouble_25 rfl (lv_at hl 0 rfl) ?_
      refine lv_sipush (v := 1023) hx hb dX1_ofDouble_26 (by decide) ?_
      refine lv_bipush (v := 52) hx hb dX1_ofDouble_29 (by decide) ?_
      refine m_calll (va_runS (As := [.double x, .int 1023, .int 52]) (rest := [.long 0]) ⟨hx, hb, hml, hown, hts⟩ (c_X1_magD l E M H.size x hfb (ge_cases hx0 c_17)) (va_cwS 3 hts gX1_ofDouble_X1_magnitude rfl rfl rfl (by decide +kernel) ⟨Nat.le_of_ble_eq_true rfl, Nat.le_of_ble_eq_true rfl⟩) (m_preS hE hM) rfl rfl hl.1 rfl (lv_room (Nat.le_of_ble_eq_true rfl)) dX1_ofDouble_31 ⟨Nat.le_of_ble_eq_true rfl, Nat.le_of_ble_eq_true rfl⟩) hM hS hA (fun r2 u H locs hw hM hS => ?_)
      obtain ⟨e_r2, eu⟩ := hw
      rw [eu] at hM
      subst e_r2
      refine lv_lor hx hb dX1_ofDouble_34 ?_
      exact m_lret hx hb hr hlocks hM hS (Nat.le_refl _) (Nat.le_refl _) dX1_ofDouble_35 (by refine ⟨?_, rfl⟩; first | exact lor_lo c_4 | exact lor_hi c_4 | (have hn := lt_case hx0 c_17; rw [show (FP.dneg x).toNat % 2 ^ 63 = x.toNat % 2 ^ 63 by rw [dneg_hi hn]; omega]; first | exact lor_lo c_4 | exact lor_hi c_4))
    · skip
      refine lv_dload_n hx hb dX1_ofDouble_20 rfl (lv_at hl 0 rfl) ?_
      refine lv_dneg hx hb dX1_ofDouble_21 ?_
      refine lv_goto (tgt := 26) hx hb dX1_ofDouble_22 (by decide) ?_
      refine lv_sipush (v := 1023) hx hb dX1_ofDouble_26 (by decide) ?_
      refine lv_bipush (v := 52) hx hb dX1_ofDouble_29 (by decide) ?_
      refine m_calll (va_runS (As := [.double (FP.dneg x), .int 1023, .int 52]) (rest := [.long 0]) ⟨hx, hb, hml, hown, hts⟩ (c_X1_magD l E M H.size (FP.dneg x) (by rw [dneg_hi (lt_case hx0 c_17)]; omega) (Or.inl (by rw [dneg_hi (lt_case hx0 c_17)]; omega))) (va_cwS 3 hts gX1_ofDouble_X1_magnitude rfl rfl rfl (by decide +kernel) ⟨Nat.le_of_ble_eq_true rfl, Nat.le_of_ble_eq_true rfl⟩) (m_preS hE hM) rfl rfl hl.1 rfl (lv_room (Nat.le_of_ble_eq_true rfl)) dX1_ofDouble_31 ⟨Nat.le_of_ble_eq_true rfl, Nat.le_of_ble_eq_true rfl⟩) hM hS hA (fun r2 u H locs hw hM hS => ?_)
      obtain ⟨e_r2, eu⟩ := hw
      rw [eu] at hM
      subst e_r2
      refine lv_lor hx hb dX1_ofDouble_34 ?_
      exact m_lret hx hb hr hlocks hM hS (Nat.le_refl _) (Nat.le_refl _) dX1_ofDouble_35 (by refine ⟨?_, rfl⟩; first | exact lor_lo c_4 | exact lor_hi c_4 | (have hn := lt_case hx0 c_17; rw [show (FP.dneg x).toNat % 2 ^ 63 = x.toNat % 2 ^ 63 by rw [dneg_hi hn]; omega]; first | exact lor_lo c_4 | exact lor_hi c_4))
  · skip
    rw [bI_ne] at c_4
    refine lv_ldc2 hx hb hown (hts (.constantLong RX1 15 (-9223372036854775808)) (by decide +kernel)) dX1_ofDouble_7 ?_
    refine lv_goto (tgt := 14) hx hb dX1_ofDouble_10 (by decide) ?_
    refine lv_dload_n hx hb dX1_ofDouble_14 rfl (lv_at hl 0 rfl) ?_
    refine lv_dconst0 hx hb dX1_ofDouble_15 ?_
    refine lv_dcmp hx hb dX1_ofDouble_16 ?_
    refine lv_if_ge (tgt := 25) hx hb dX1_ofDouble_17 (by decide) (fun c_17 => ?_) (fun c_17 => ?_)
    · skip
      refine lv_dload_n hx hb dX1_ofDouble_25 rfl (lv_at hl 0 rfl) ?_
      refine lv_sipush (v := 1023) hx hb dX1_ofDouble_26 (by decide) ?_
      refine lv_bipush (v := 52) hx hb dX1_ofDouble_29 (by decide) ?_
      refine m_calll (va_runS (As := [.double x, .int 1023, .int 52]) (rest := [.long (-9223372036854775808)]) ⟨hx, hb, hml, hown, hts⟩ (c_X1_magD l E M H.size x hfb (ge_cases hx0 c_17)) (va_cwS 3 hts gX1_ofDouble_X1_magnitude rfl rfl rfl (by decide +kernel) ⟨Nat.le_of_ble_eq_true rfl, Nat.le_of_ble_eq_true rfl⟩) (m_preS hE hM) rfl rfl hl.1 rfl (lv_room (Nat.le_of_ble_eq_true rfl)) dX1_ofDouble_31 ⟨Nat.le_of_ble_eq_true rfl, Nat.le_of_ble_eq_true rfl⟩) hM hS hA (fun r2 u H locs hw hM hS => ?_)
      obtain ⟨e_r2, eu⟩ := hw
      rw [eu] at hM
      subst e_r2
      refine lv_lor hx hb dX1_ofDouble_34 ?_
      exact m_lret hx hb hr hlocks hM hS (Nat.le_refl _) (Nat.le_refl _) dX1_ofDouble_35 (by refine ⟨?_, rfl⟩; first | exact lor_lo c_4 | exact lor_hi c_4 | (have hn := lt_case hx0 c_17; rw [show (FP.dneg x).toNat % 2 ^ 63 = x.toNat % 2 ^ 63 by rw [dneg_hi hn]; omega]; first | exact lor_lo c_4 | exact lor_hi c_4))
    · skip
      refine lv_dload_n hx hb dX1_ofDouble_20 rfl (lv_at hl 0 rfl) ?_
      refine lv_dneg hx hb dX1_ofDouble_21 ?_
      refine lv_goto (tgt := 26) hx hb dX1_ofDouble_22 (by decide) ?_
      refine lv_sipush (v := 1023) hx hb dX1_ofDouble_26 (by decide) ?_
      refine lv_bipush (v := 52) hx hb dX1_ofDouble_29 (by decide) ?_
      refine m_calll (va_runS (As := [.double (FP.dneg x), .int 1023, .int 52]) (rest := [.long (-9223372036854775808)]) ⟨hx, hb, hml, hown, hts⟩ (c_X1_magD l E M H.size (FP.dneg x) (by rw [dneg_hi (lt_case hx0 c_17)]; omega) (Or.inl (by rw [dneg_hi (lt_case hx0 c_17)]; omega))) (va_cwS 3 hts gX1_ofDouble_X1_magnitude rfl rfl rfl (by decide +kernel) ⟨Nat.le_of_ble_eq_true rfl, Nat.le_of_ble_eq_true rfl⟩) (m_preS hE hM) rfl rfl hl.1 rfl (lv_room (Nat.le_of_ble_eq_true rfl)) dX1_ofDouble_31 ⟨Nat.le_of_ble_eq_true rfl, Nat.le_of_ble_eq_true rfl⟩) hM hS hA (fun r2 u H locs hw hM hS => ?_)
      obtain ⟨e_r2, eu⟩ := hw
      rw [eu] at hM
      subst e_r2
      refine lv_lor hx hb dX1_ofDouble_34 ?_
      exact m_lret hx hb hr hlocks hM hS (Nat.le_refl _) (Nat.le_refl _) dX1_ofDouble_35 (by refine ⟨?_, rfl⟩; first | exact lor_lo c_4 | exact lor_hi c_4 | (have hn := lt_case hx0 c_17; rw [show (FP.dneg x).toNat % 2 ^ 63 = x.toNat % 2 ^ 63 by rw [dneg_hi hn]; omega]; first | exact lor_lo c_4 | exact lor_hi c_4))
/-- a finite float, as a double: its units -/
theorem f2d_val {f : UInt32} (hf : FP.Core.FFin f) : ∃ (c a : Nat), FP.Core.val64 (FP.f2d f) = FP.Core.roundRatio FP.Core.b64 (decide (2 ^ 31 ≤ f.toNat)) c 1 ((a : Int) - 149) ∧ c * 2 ^ a = FP.Core.unitsOf FP.Core.b32 (f.toNat % 2 ^ 31) := by
  have hfb := (FP.Core.fin_bits32 f).mp hf
  obtain ⟨c, q, h1, h2⟩ := FP.Core.decode_fin (f := FP.Core.b32) (n := f.toNat) (by rw [FP.Core.mag_toNat32, FP.Core.infBits_b32]; exact hfb)
  rw [FP.Core.mag_toNat32] at h2
  have hs : FP.Core.fieldS FP.Core.b32 f.toNat = decide (2 ^ 31 ≤ f.toNat) := by
    rw [FP.Core.fieldS_mag FP.Core.b32 (FP.Core.lt_full32 f), FP.Core.half_b32]
  rw [hs] at h1
  have hfit : FP.Core.fits FP.Core.b32 (.fin (decide (2 ^ 31 ≤ f.toNat)) c q) := h1 ▸ FP.Core.val32_fits f
  have hq := hfit.2.1
  rw [FP.Core.qmin_b32] at hq
  refine ⟨c, (q + 149).toNat, ?_, ?_⟩
  · rw [FP.f2d_core hf.notNaN, FP.Core.val64_f2d, show FP.Core.val32 f = _ from h1, show (((q + 149).toNat : Nat) : Int) - 149 = q by omega]
    rfl
  · rw [← h2]
    show _ = c * 2 ^ (q - FP.Core.b32.qmin).toNat
    rw [FP.Core.qmin_b32, show (q - (-149)).toNat = (q + 149).toNat by omega]
theorem dU_f2d_lo {f : UInt32} (hf : FP.Core.FFin f) (hs : ¬ 2 ^ 31 ≤ f.toNat) {t k : Nat} (ht : t < 2 ^ 53) (hk : k + 925 ≤ 2045) (hu : FP.Core.unitsOf FP.Core.b32 (f.toNat % 2 ^ 31) = t * 2 ^ k) : dU (FP.f2d f) (t * 2 ^ (k + 925)) := by
  obtain ⟨c, a, h1, h2⟩ := f2d_val hf
  refine dU_mk ht hk ?_
  rw [h1, decide_eq_false hs]
  refine FP.Core.roundRatio_congr (by decide) (by decide) ?_
  rw [Nat.mul_one, Nat.mul_one]
  exact pow_cross (h2.trans hu) (by omega)
theorem dU_f2d_hi {f : UInt32} (hf : FP.Core.FFin f) (hs : 2 ^ 31 ≤ f.toNat) {t k : Nat} (ht : t < 2 ^ 53) (hk : k + 925 ≤ 2045) (hu : FP.Core.unitsOf FP.Core.b32 (f.toNat % 2 ^ 31) = t * 2 ^ k) : dU (FP.dneg (FP.f2d f)) (t * 2 ^ (k + 925)) := by
  obtain ⟨c, a, h1, h2⟩ := f2d_val hf
  refine dU_mk ht hk ?_
  rw [FP.val64_dneg, h1, decide_eq_true hs, FP.Core.negate_roundRatio]
  show FP.Core.roundRatio FP.Core.b64 false c 1 _ = _
  refine FP.Core.roundRatio_congr (by decide) (by decide) ?_
  rw [Nat.mul_one, Nat.mul_one]
  exact pow_cross (h2.trans hu) (by omega)
theorem f2d_sign {f : UInt32} (hf : FP.Core.FFin f) : 2 ^ 63 ≤ (FP.f2d f).toNat ↔ 2 ^ 31 ≤ f.toNat := by
  obtain ⟨c, a, h1, h2⟩ := f2d_val hf
  have hs := FP.Core.sgn_roundRatio FP.Core.b64 (decide (2 ^ 31 ≤ f.toNat)) c 1 ((a : Int) - 149)
  have hn : FP.Core.val64 (FP.f2d f) ≠ .nan := by rw [h1]; exact FP.Core.roundRatio_ne_nan _ _ _ _ _
  have h3 := FP.Core.sgn_bits hn
  rw [h1, hs] at h3
  constructor
  · intro h
    rw [decide_eq_true h] at h3
    exact of_decide_eq_true h3
  · intro h
    rw [decide_eq_true h] at h3
    exact of_decide_eq_true h3.symm
theorem f2d_fin' {f : UInt32} (hf : FP.Core.FFin f) : FP.Core.DFin (FP.f2d f) := by rw [FP.f2d_core hf.notNaN]; exact FP.Core.f2d_fin hf
theorem f2d_zero {f : UInt32} (hf : FP.Core.FFin f) (h : f.toNat % 2 ^ 31 = 0) : FP.dcmp (FP.f2d f) FP.dconst0 = some .eq := by
  have hl := f.toNat_lt
  have : f = 0 ∨ f = 2147483648 := by
    rcases (show f.toNat = 0 ∨ f.toNat = 2147483648 by omega) with h1 | h1
    · exact Or.inl (UInt32.toNat_inj.mp h1)
    · exact Or.inr (UInt32.toNat_inj.mp h1)
  rcases this with rfl | rfl <;> decide +kernel
/-- magnitude of a finite float, its sign taken away, as a double -/
theorem c_X1_magF (l : Launch) (E : mEnv) (M : mMem) (sz : Nat) (f : UInt32) (hf : FP.Core.FFin f) (y : UInt64) (hy : (y = FP.f2d f ∧ (¬ 2 ^ 31 ≤ f.toNat ∨ f.toNat % 2 ^ 31 = 0)) ∨ (y = FP.dneg (FP.f2d f) ∧ 2 ^ 31 ≤ f.toNat ∧ ¬ f.toNat % 2 ^ 31 = 0)) : Met l yX1_magnitude wsX1_magnitude ({ frames := 0, cells := 0, slots := 0, locals := 0 }) (mPre E M sz [.double y, .int 127, .int 23]) (mQl E M sz (fun r u => r = lN (f.toNat % 2 ^ 31) ∧ u = M)) (0) (0) (mA M sz) := by
  have hfb := (FP.Core.fin_bits32 f).mp hf
  by_cases h0 : f.toNat % 2 ^ 31 = 0
  · rw [h0]
    rcases hy with ⟨rfl, _⟩ | ⟨_, _, h⟩
    · exact c_X1_mag0 l E M sz _ 127 23 (f2d_zero hf h0)
    · exact absurd h0 h
  · have hU : ∀ {t k : Nat}, t < 2 ^ 53 → k + 925 ≤ 2045 → FP.Core.unitsOf FP.Core.b32 (f.toNat % 2 ^ 31) = t * 2 ^ k → dU y (t * 2 ^ (k + 925)) := by
      intro t k ht hk hu
      rcases hy with ⟨rfl, h⟩ | ⟨rfl, h, _⟩
      · exact dU_f2d_lo hf (h.resolve_right h0) ht hk hu
      · exact dU_f2d_hi hf h ht hk hu
    generalize hnn : f.toNat % 2 ^ 31 = n at *
    by_cases hlt : n < 2 ^ 23
    · have hU := hU (t := n) (k := 0) (by omega) (by decide) (by unfold FP.Core.unitsOf; rw [FP.Core.tails_b32, if_pos hlt]; simp)
      have := c_X1_mag l E M sz y 127 23 925 0 n (by omega) (by omega) (Or.inl rfl) (by decide) (by decide) (by decide) (by decide) (by decide) hU hPd_23 (hsh_23 (by decide))
      rw [Nat.zero_mul, Nat.zero_add] at this
      exact this
    · have hU := hU (t := 2 ^ 23 + n % 2 ^ 23) (k := n / 2 ^ 23 - 1) (by omega) (by omega) (by unfold FP.Core.unitsOf; rw [FP.Core.tails_b32, if_neg hlt])
      have := c_X1_mag l E M sz y 127 23 925 (n / 2 ^ 23 - 1) (2 ^ 23 + n % 2 ^ 23) (by omega) (by omega) (Or.inr (by omega)) (by omega) (by decide) (by decide) (by decide) (by decide) hU hPd_23 (hsh_23 (by omega))
      rw [show (n / 2 ^ 23 - 1) * 2 ^ 23 + (2 ^ 23 + n % 2 ^ 23) = n by omega] at this
      exact this
theorem fge {f : UInt32} (hf : FP.Core.FFin f) (h : 0 ≤ Op.cmpValue (FP.dcmp (FP.f2d f) FP.dconst0) CmpOp.g) : ¬ 2 ^ 31 ≤ f.toNat ∨ f.toNat % 2 ^ 31 = 0 := by
  by_cases hs : 2 ^ 31 ≤ f.toNat
  · right
    rcases ge_cases (f2d_fin' hf) h with h1 | h1
    · have := (f2d_sign hf).mpr hs
      omega
    · have h2 := (FP.Core.zero_bits2 _).mpr h1
      have h4 := h2.zval
      obtain ⟨c, a, k1, k2⟩ := f2d_val hf
      have hz : FP.Core.dcmp (FP.f2d f) 0 = some .eq := FP.Core.zero_iff.mpr h2
      have hd := FP.Core.d2f_f2d hf.ne_nan
      rw [← FP.f2d_core hf.notNaN] at hd
      rcases FP.Core.zero_bits hz with e | e
      · rw [e] at hd
        rw [← hd]
        decide +kernel
      · rw [e] at hd
        rw [← hd]
        decide +kernel
  · exact Or.inl hs
theorem flt {f : UInt32} (hf : FP.Core.FFin f) (h : ¬ 0 ≤ Op.cmpValue (FP.dcmp (FP.f2d f) FP.dconst0) CmpOp.g) : 2 ^ 31 ≤ f.toNat ∧ ¬ f.toNat % 2 ^ 31 = 0 := by
  refine ⟨(f2d_sign hf).mp (lt_case (f2d_fin' hf) h), fun h0 => ?_⟩
  rw [f2d_zero hf h0] at h
  exact h (by decide)
set_option maxHeartbeats 4000000 in
set_option maxRecDepth 100000 in
theorem c_X1_ofFloat (l : Launch) (E : mEnv) (M : mMem) (sz : Nat) (f : UInt32) (hf : FP.Core.FFin f)   : Met l yX1_ofFloat wsX1_ofFloat ({ frames := 1, cells := 0, slots := 0, locals := 26 }) (mPre E M sz [.double (FP.f2d f)]) (mQi E M sz (fun r u => r = f.toInt32 ∧ u = M)) (0) (0) (mA M sz) := by
  refine m_met [.double (FP.f2d f)] (by decide) rfl (Nat.le_of_ble_eq_true rfl) ?_
  intro p e s m below meth c ls H eH hx hb hr hts hown hlocks hnm hml hsz hE hM hS hA hl
  have hl : lv_has ls 2 [(0, .double (FP.f2d f))] := hl
  refine lv_dload_n hx hb dX1_ofFloat_0 rfl (lv_at hl 0 rfl) ?_
  refine m_calli (va_runS (As := [.double (FP.f2d f)]) (rest := []) ⟨hx, hb, hml, hown, hts⟩ (c_X1_isNegative l E M H.size (FP.f2d f) (f2d_fin' hf)) (va_cwS 1 hts gX1_ofFloat_X1_isNegative rfl rfl rfl (by decide +kernel) ⟨Nat.le_of_ble_eq_true rfl, Nat.le_of_ble_eq_true rfl⟩) (m_preS hE hM) rfl rfl hl.1 rfl (lv_room (Nat.le_of_ble_eq_true rfl)) dX1_ofFloat_1 ⟨Nat.le_of_ble_eq_true rfl, Nat.le_of_ble_eq_true rfl⟩) hM hS hA (fun r1 u H locs hw hM hS => ?_)
  obtain ⟨e_r1, eu⟩ := hw
  rw [eu] at hM
  subst e_r1
  refine lv_if_eq (tgt := 12) hx hb dX1_ofFloat_4 (by decide) (fun c_4 => ?_) (fun c_4 => ?_)
  · skip
    rw [bI_eq, f2d_sign hf] at c_4
    refine lv_iconst (v := 0) hx hb dX1_ofFloat_12 (by decide) ?_
    refine lv_dload_n hx hb dX1_ofFloat_13 rfl (lv_at hl 0 rfl) ?_
    refine lv_dconst0 hx hb dX1_ofFloat_14 ?_
    refine lv_dcmp hx hb dX1_ofFloat_15 ?_
    refine lv_if_ge (tgt := 24) hx hb dX1_ofFloat_16 (by decide) (fun c_16 => ?_) (fun c_16 => ?_)
    · skip
      refine lv_dload_n hx hb dX1_ofFloat_24 rfl (lv_at hl 0 rfl) ?_
      refine lv_bipush (v := 127) hx hb dX1_ofFloat_25 (by decide) ?_
      refine lv_bipush (v := 23) hx hb dX1_ofFloat_27 (by decide) ?_
      refine m_calll (va_runS (As := [.double (FP.f2d f), .int 127, .int 23]) (rest := [.int 0]) ⟨hx, hb, hml, hown, hts⟩ (c_X1_magF l E M H.size f hf (FP.f2d f) (Or.inl ⟨rfl, fge hf c_16⟩)) (va_cwS 3 hts gX1_ofFloat_X1_magnitude rfl rfl rfl (by decide +kernel) ⟨Nat.le_of_ble_eq_true rfl, Nat.le_of_ble_eq_true rfl⟩) (m_preS hE hM) rfl rfl hl.1 rfl (lv_room (Nat.le_of_ble_eq_true rfl)) dX1_ofFloat_29 ⟨Nat.le_of_ble_eq_true rfl, Nat.le_of_ble_eq_true rfl⟩) hM hS hA (fun r2 u H locs hw hM hS => ?_)
      obtain ⟨e_r2, eu⟩ := hw
      rw [eu] at hM
      subst e_r2
      refine lv_l2i hx hb dX1_ofFloat_32 rfl ?_
      refine lv_ior hx hb dX1_ofFloat_33 ?_
      exact m_iret hx hb hr hlocks hM hS (Nat.le_refl _) (Nat.le_refl _) dX1_ofFloat_34 (by refine ⟨?_, rfl⟩; first | exact ior_lo c_4 | exact ior_hi c_4)
    · skip
      refine lv_dload_n hx hb dX1_ofFloat_19 rfl (lv_at hl 0 rfl) ?_
      refine lv_dneg hx hb dX1_ofFloat_20 ?_
      refine lv_goto (tgt := 25) hx hb dX1_ofFloat_21 (by decide) ?_
      refine lv_bipush (v := 127) hx hb dX1_ofFloat_25 (by decide) ?_
      refine lv_bipush (v := 23) hx hb dX1_ofFloat_27 (by decide) ?_
      refine m_calll (va_runS (As := [.double (FP.dneg (FP.f2d f)), .int 127, .int 23]) (rest := [.int 0]) ⟨hx, hb, hml, hown, hts⟩ (c_X1_magF l E M H.size f hf (FP.dneg (FP.f2d f)) (Or.inr ⟨rfl, flt hf c_16⟩)) (va_cwS 3 hts gX1_ofFloat_X1_magnitude rfl rfl rfl (by decide +kernel) ⟨Nat.le_of_ble_eq_true rfl, Nat.le_of_ble_eq_true rfl⟩) (m_preS hE hM) rfl rfl hl.1 rfl (lv_room (Nat.le_of_ble_eq_true rfl)) dX1_ofFloat_29 ⟨Nat.le_of_ble_eq_true rfl, Nat.le_of_ble_eq_true rfl⟩) hM hS hA (fun r2 u H locs hw hM hS => ?_)
      obtain ⟨e_r2, eu⟩ := hw
      rw [eu] at hM
      subst e_r2
      refine lv_l2i hx hb dX1_ofFloat_32 rfl ?_
      refine lv_ior hx hb dX1_ofFloat_33 ?_
      exact m_iret hx hb hr hlocks hM hS (Nat.le_refl _) (Nat.le_refl _) dX1_ofFloat_34 (by refine ⟨?_, rfl⟩; first | exact ior_lo c_4 | exact ior_hi c_4)
  · skip
    rw [bI_ne, f2d_sign hf] at c_4
    refine lv_ldc hx hb hown (hts (.constant RX1 23 (-2147483648)) (by decide +kernel)) dX1_ofFloat_7 ?_
    refine lv_goto (tgt := 13) hx hb dX1_ofFloat_9 (by decide) ?_
    refine lv_dload_n hx hb dX1_ofFloat_13 rfl (lv_at hl 0 rfl) ?_
    refine lv_dconst0 hx hb dX1_ofFloat_14 ?_
    refine lv_dcmp hx hb dX1_ofFloat_15 ?_
    refine lv_if_ge (tgt := 24) hx hb dX1_ofFloat_16 (by decide) (fun c_16 => ?_) (fun c_16 => ?_)
    · skip
      refine lv_dload_n hx hb dX1_ofFloat_24 rfl (lv_at hl 0 rfl) ?_
      refine lv_bipush (v := 127) hx hb dX1_ofFloat_25 (by decide) ?_
      refine lv_bipush (v := 23) hx hb dX1_ofFloat_27 (by decide) ?_
      refine m_calll (va_runS (As := [.double (FP.f2d f), .int 127, .int 23]) (rest := [.int (-2147483648)]) ⟨hx, hb, hml, hown, hts⟩ (c_X1_magF l E M H.size f hf (FP.f2d f) (Or.inl ⟨rfl, fge hf c_16⟩)) (va_cwS 3 hts gX1_ofFloat_X1_magnitude rfl rfl rfl (by decide +kernel) ⟨Nat.le_of_ble_eq_true rfl, Nat.le_of_ble_eq_true rfl⟩) (m_preS hE hM) rfl rfl hl.1 rfl (lv_room (Nat.le_of_ble_eq_true rfl)) dX1_ofFloat_29 ⟨Nat.le_of_ble_eq_true rfl, Nat.le_of_ble_eq_true rfl⟩) hM hS hA (fun r2 u H locs hw hM hS => ?_)
      obtain ⟨e_r2, eu⟩ := hw
      rw [eu] at hM
      subst e_r2
      refine lv_l2i hx hb dX1_ofFloat_32 rfl ?_
      refine lv_ior hx hb dX1_ofFloat_33 ?_
      exact m_iret hx hb hr hlocks hM hS (Nat.le_refl _) (Nat.le_refl _) dX1_ofFloat_34 (by refine ⟨?_, rfl⟩; first | exact ior_lo c_4 | exact ior_hi c_4)
    · skip
      refine lv_dload_n hx hb dX1_ofFloat_19 rfl (lv_at hl 0 rfl) ?_
      refine lv_dneg hx hb dX1_ofFloat_20 ?_
      refine lv_goto (tgt := 25) hx hb dX1_ofFloat_21 (by decide) ?_
      refine lv_bipush (v := 127) hx hb dX1_ofFloat_25 (by decide) ?_
      refine lv_bipush (v := 23) hx hb dX1_ofFloat_27 (by decide) ?_
      refine m_calll (va_runS (As := [.double (FP.dneg (FP.f2d f)), .int 127, .int 23]) (rest := [.int (-2147483648)]) ⟨hx, hb, hml, hown, hts⟩ (c_X1_magF l E M H.size f hf (FP.dneg (FP.f2d f)) (Or.inr ⟨rfl, flt hf c_16⟩)) (va_cwS 3 hts gX1_ofFloat_X1_magnitude rfl rfl rfl (by decide +kernel) ⟨Nat.le_of_ble_eq_true rfl, Nat.le_of_ble_eq_true rfl⟩) (m_preS hE hM) rfl rfl hl.1 rfl (lv_room (Nat.le_of_ble_eq_true rfl)) dX1_ofFloat_29 ⟨Nat.le_of_ble_eq_true rfl, Nat.le_of_ble_eq_true rfl⟩) hM hS hA (fun r2 u H locs hw hM hS => ?_)
      obtain ⟨e_r2, eu⟩ := hw
      rw [eu] at hM
      subst e_r2
      refine lv_l2i hx hb dX1_ofFloat_32 rfl ?_
      refine lv_ior hx hb dX1_ofFloat_33 ?_
      exact m_iret hx hb hr hlocks hM hS (Nat.le_refl _) (Nat.le_refl _) dX1_ofFloat_34 (by refine ⟨?_, rfl⟩; first | exact ior_lo c_4 | exact ior_hi c_4)
end
section
/-- a new instrument at a, its knobs at q -/
def newIns (E : mEnv) (M u : mMem) (ci a q : Nat) : Prop := M a = none ∧ M q = none ∧ a ≠ q ∧ u = mUp (mUp M q (mI E 4 (fun _ => 0))) a (mO ci [.ref q, .int 0, .int 0, .int 0, .double 0, .null, .int 0])
theorem mUp_swap {M : mMem} {a q : Nat} {d k o : va_E} (h : q ≠ a) : mUp (mUp (mUp M a d) q k) a o = mUp (mUp M q k) a o := by
  funext z
  by_cases h1 : z = a
  · simp [mUp, h1]
  · by_cases h2 : z = q
    · subst h2
      simp [mUp, h]
    · simp [mUp, h1, h2]
theorem mUp_none {M : mMem} {a q : Nat} {d : va_E} (h : mUp M a d q = none) : q ≠ a ∧ M q = none := by
  by_cases h1 : q = a
  · subst h1
    rw [mUp_self] at h
    cases h
  · exact ⟨h1, by rw [mUp_ne h1] at h; exact h⟩
theorem tab_out1 {x : Int32} {n : Nat} (hn : n < 2 ^ 31) (h : ∀ j, j < n → ¬ x = nI (j + 1)) : x.toInt < 1 ∨ (n : Int) < x.toInt := by
  by_cases h0 : x < 0
  · exact Or.inl (by have := Int32.lt_iff_toInt_lt.mp h0; simp at this; omega)
  · obtain ⟨j, hj, rfl⟩ := nI_of h0
    rw [nI_toInt hj]
    cases j with
    | zero => exact Or.inl (by decide)
    | succ j =>
      refine Or.inr ?_
      have : ¬ j < n := fun q => h j q rfl
      omega
/-- two new cells: the samples' object and their values -/
def newSam (E : mEnv) (M u : mMem) (a v : Nat) (lane : Int32) (n : Nat) (f : Nat → UInt64) : Prop := M a = none ∧ M v = none ∧ a ≠ v ∧ u = mUp (mUp M v (mDb E n f)) a (mO 5 [.int lane, .ref v])
def sBits (lane : Int32) (v : UInt64) : Int64 := if lane = 2 then (FP.d2f v).toInt32.toInt64 else if lane = 3 then v.toInt64 else FP.d2l v
/-- a sample that a lane can hold -/
def vOK (lane : Int32) (v : UInt64) : Prop := (lane = 0 ∧ ∃ n : Int32, v = FP.i2d n) ∨ (lane = 1 ∧ ∃ n : Int32, v = FP.i2d n) ∨ (lane = 2 ∧ ∃ f : UInt32, FP.Core.FFin f ∧ v = FP.f2d f) ∨ (lane = 3 ∧ FP.Core.DFin v)
theorem d2f_f2d' {f : UInt32} (hf : FP.Core.FFin f) : FP.d2f (FP.f2d f) = f := by
  rw [FP.d2f_core (f2d_fin' hf).notNaN, FP.f2d_core hf.notNaN]
  exact FP.Core.d2f_f2d hf.ne_nan
def sci (s : Int32) : Nat := if s = 1 then 3 else if s = 2 then 1 else if s = 3 then 0 else if s = 4 then 4 else 6
theorem in_X5_init_I : ∀ w ∈ wsX00 ++ wsX20 ++ wsX40 ++ wsX60 ++ wsX80, w ∈ wsX5_init := by decide +kernel
set_option maxHeartbeats 4000000 in
set_option maxRecDepth 100000 in
theorem c_X5_init (l : Launch) (E : mEnv) (M : mMem) (sz : Nat) (ci : Nat) (hci : insK ci) (h0 : Nat) (g_h0 : M h0 = some (mO ci [.null, .int 0, .int 0, .int 0, .double 0, .null, .int 0]))  : Met l yX5_init wsX5_init ({ frames := 1, cells := 1, slots := 4, locals := 12 }) (mPre E M sz [.ref h0]) (mQv E M sz (fun u => ∃ q, M q = none ∧ u = mUp (mUp M q (mI E 4 (fun _ => 0))) h0 (mO ci [.ref q, .int 0, .int 0, .int 0, .double 0, .null, .int 0]))) (1) (4) (mA M sz) := by
  refine m_met [.ref h0] (by decide) rfl (Nat.le_of_ble_eq_true rfl) ?_
  intro p e s m below meth c ls H eH hx hb hr hts hown hlocks hnm hml hsz hE hM hS hA hl
  have hl : lv_has ls 1 [(0, .ref h0)] := hl
  refine lv_aload_n hx hb dX5_init_0 rfl (lv_at hl 0 rfl) ?_
  refine W.objInit hx hb hown (hts (.methodLink RX5 3 objectInit) (by decide +kernel)) (hts (.instanceMethod objectInit) (by decide +kernel)) (hts (.code objectInit ⟨#[0xb1]⟩ 1 none) (by decide +kernel)) rfl (by rw [hml]; exact hl.1) rfl dX5_init_1 (Nat.le_of_ble_eq_true rfl) (Nat.le_of_ble_eq_true rfl) ?_
  refine W.eq (g2 := F0 m 4 ls []) rfl ?_
  refine lv_aload_n hx hb dX5_init_4 rfl (lv_at hl 0 rfl) ?_
  refine lv_iconst (v := 4) hx hb dX5_init_5 (by decide) ?_
  refine m_newI (N' := 4) hx hb (hts (.arrayClass .int) (by decide +kernel)) hE hM hS hA (by decide) (by decide) (by decide) (by show 0 + 1 ≤ 1; omega) (by show 0 + 4 ≤ 4; omega) dX5_init_6 (fun q1 H n_q1 hM hS => ?_)
  have hM : mOK E.1 (mA M sz) (mUp M q1 (mI E 4 (fun _ => 0))) H := hM
  obtain ⟨M1, eM1⟩ : ∃ z, z = mUp M q1 (mI E 4 (fun _ => 0)) := ⟨_, rfl⟩
  rw [← eM1] at hM
  have g_h0 : M1 h0 = some (mO ci [.null, .int 0, .int 0, .int 0, .double 0, .null, .int 0]) := by rw [eM1]; exact mUp_at (m_neN g_h0 n_q1) g_h0
  have g_q1 : M1 q1 = some (mI E 4 (fun _ => 0)) := by rw [eM1]; exact mUp_self _ _ _
  refine m_putFI (v := .ref q1) (ty := .array .int) hx hb hts in_X5_init_I hown hE hM hS g_h0 hci 0 (by decide) (hts (.fieldLink RX5 9 "CallWays2$Instrument" "knobs" "[I") (by decide +kernel)) (fun _ h9 => h9) rfl hnm rfl (by decide +kernel) rfl rfl (Nat.le_of_ble_eq_true rfl) dX5_init_8 (fun H locs hM hS => ?_)
  have hM : mOK E.1 (mA M sz) (mUp M1 h0 (mO ci [.ref q1, .int 0, .int 0, .int 0, .double 0, .null, .int 0])) H := hM
  obtain ⟨M2, eM2⟩ : ∃ z, z = mUp M1 h0 (mO ci [.ref q1, .int 0, .int 0, .int 0, .double 0, .null, .int 0]) := ⟨_, rfl⟩
  rw [← eM2] at hM
  have g_q1_ : M2 q1 = some (mI E 4 (fun _ => 0)) := by rw [eM2]; exact mUp_at (m_ne g_q1 g_h0 (by simp)) g_q1
  have g_q1 := g_q1_
  have g_h0 : M2 h0 = some (mO ci [.ref q1, .int 0, .int 0, .int 0, .double 0, .null, .int 0]) := by rw [eM2]; exact mUp_self _ _ _
  exact m_vret hx hb hr hlocks hM hS (by show 0 + 1 ≤ 1; omega) (by show 0 + 4 ≤ 4; omega) dX5_init_11 (by exact ⟨q1, n_q1, by rw [eM2, eM1]⟩)
set_option maxHeartbeats 4000000 in
set_option maxRecDepth 100000 in
theorem c_X8_init_6 (l : Launch) (E : mEnv) (M : mMem) (sz : Nat) (h0 : Nat) (g_h0 : M h0 = some (mO 6 [.null, .int 0, .int 0, .int 0, .double 0, .null, .int 0]))  : Met l yX8_init wsX8_init ({ frames := 2, cells := 1, slots := 4, locals := 32 }) (mPre E M sz [.ref h0]) (mQv E M sz (fun u => ∃ q, M q = none ∧ u = mUp (mUp M q (mI E 4 (fun _ => 0))) h0 (mO 6 [.ref q, .int 0, .int 0, .int 0, .double 0, .null, .int 0]))) (1) (4) (mA M sz) := by
  refine m_met [.ref h0] (by decide) rfl (Nat.le_of_ble_eq_true rfl) ?_
  intro p e s m below meth c ls H eH hx hb hr hts hown hlocks hnm hml hsz hE hM hS hA hl
  have hl : lv_has ls 1 [(0, .ref h0)] := hl
  refine lv_aload_n hx hb dX8_init_0 rfl (lv_at hl 0 rfl) ?_
  refine m_callv (va_runIN (As := []) (rest := []) ⟨hx, hb, hml, hown, hts⟩ (c_X5_init l E M H.size 6 (by unfold insK; decide) h0 g_h0) ⟨va_cnB 0 hts gX8_init_X5_init_n1 rfl rfl rfl (hE.2.2.1 (RX8, 1, yX5_init, RX9) (by decide)) (hts (.initialized RX5) (by decide +kernel)) (by decide +kernel) ⟨Nat.le_of_ble_eq_true rfl, Nat.le_of_ble_eq_true rfl⟩, rfl, (hts (.instanceMethod yX5_init) (by decide +kernel))⟩ (m_preI hE hM) rfl rfl hl.1 rfl (lv_room (Nat.le_of_ble_eq_true rfl)) dX8_init_1 ⟨(by show 0 + 1 ≤ 1; omega), (by show 0 + 4 ≤ 4; omega)⟩) hM hS hA (fun M2 H locs hw hM hS => ?_)
  exact m_vret hx hb hr hlocks hM hS (by show 0 + 1 ≤ 1; omega) (by show 0 + 4 ≤ 4; omega) dX8_init_4 (by exact hw)
set_option maxHeartbeats 4000000 in
set_option maxRecDepth 100000 in
theorem c_X8_init_3 (l : Launch) (E : mEnv) (M : mMem) (sz : Nat) (h0 : Nat) (g_h0 : M h0 = some (mO 3 [.null, .int 0, .int 0, .int 0, .double 0, .null, .int 0]))  : Met l yX8_init wsX8_init ({ frames := 2, cells := 1, slots := 4, locals := 32 }) (mPre E M sz [.ref h0]) (mQv E M sz (fun u => ∃ q, M q = none ∧ u = mUp (mUp M q (mI E 4 (fun _ => 0))) h0 (mO 3 [.ref q, .int 0, .int 0, .int 0, .double 0, .null, .int 0]))) (1) (4) (mA M sz) := by
  refine m_met [.ref h0] (by decide) rfl (Nat.le_of_ble_eq_true rfl) ?_
  intro p e s m below meth c ls H eH hx hb hr hts hown hlocks hnm hml hsz hE hM hS hA hl
  have hl : lv_has ls 1 [(0, .ref h0)] := hl
  refine lv_aload_n hx hb dX8_init_0 rfl (lv_at hl 0 rfl) ?_
  refine m_callv (va_runIN (As := []) (rest := []) ⟨hx, hb, hml, hown, hts⟩ (c_X5_init l E M H.size 3 (by unfold insK; decide) h0 g_h0) ⟨va_cnB 0 hts gX8_init_X5_init_n1 rfl rfl rfl (hE.2.2.1 (RX8, 1, yX5_init, RX9) (by decide)) (hts (.initialized RX5) (by decide +kernel)) (by decide +kernel) ⟨Nat.le_of_ble_eq_true rfl, Nat.le_of_ble_eq_true rfl⟩, rfl, (hts (.instanceMethod yX5_init) (by decide +kernel))⟩ (m_preI hE hM) rfl rfl hl.1 rfl (lv_room (Nat.le_of_ble_eq_true rfl)) dX8_init_1 ⟨(by show 0 + 1 ≤ 1; omega), (by show 0 + 4 ≤ 4; omega)⟩) hM hS hA (fun M2 H locs hw hM hS => ?_)
  exact m_vret hx hb hr hlocks hM hS (by show 0 + 1 ≤ 1; omega) (by show 0 + 4 ≤ 4; omega) dX8_init_4 (by exact hw)
set_option maxHeartbeats 4000000 in
set_option maxRecDepth 100000 in
theorem c_X2_init_1 (l : Launch) (E : mEnv) (M : mMem) (sz : Nat) (h0 : Nat) (g_h0 : M h0 = some (mO 1 [.null, .int 0, .int 0, .int 0, .double 0, .null, .int 0]))  : Met l yX2_init wsX2_init ({ frames := 2, cells := 1, slots := 4, locals := 32 }) (mPre E M sz [.ref h0]) (mQv E M sz (fun u => ∃ q, M q = none ∧ u = mUp (mUp M q (mI E 4 (fun _ => 0))) h0 (mO 1 [.ref q, .int 0, .int 0, .int 0, .double 0, .null, .int 0]))) (1) (4) (mA M sz) := by
  refine m_met [.ref h0] (by decide) rfl (Nat.le_of_ble_eq_true rfl) ?_
  intro p e s m below meth c ls H eH hx hb hr hts hown hlocks hnm hml hsz hE hM hS hA hl
  have hl : lv_has ls 1 [(0, .ref h0)] := hl
  refine lv_aload_n hx hb dX2_init_0 rfl (lv_at hl 0 rfl) ?_
  refine m_callv (va_runIN (As := []) (rest := []) ⟨hx, hb, hml, hown, hts⟩ (c_X5_init l E M H.size 1 (by unfold insK; decide) h0 g_h0) ⟨va_cnB 0 hts gX2_init_X5_init_n3 rfl rfl rfl (hE.2.2.1 (RX2, 3, yX5_init, RX9) (by decide)) (hts (.initialized RX5) (by decide +kernel)) (by decide +kernel) ⟨Nat.le_of_ble_eq_true rfl, Nat.le_of_ble_eq_true rfl⟩, rfl, (hts (.instanceMethod yX5_init) (by decide +kernel))⟩ (m_preI hE hM) rfl rfl hl.1 rfl (lv_room (Nat.le_of_ble_eq_true rfl)) dX2_init_1 ⟨(by show 0 + 1 ≤ 1; omega), (by show 0 + 4 ≤ 4; omega)⟩) hM hS hA (fun M2 H locs hw hM hS => ?_)
  exact m_vret hx hb hr hlocks hM hS (by show 0 + 1 ≤ 1; omega) (by show 0 + 4 ≤ 4; omega) dX2_init_4 (by exact hw)
set_option maxHeartbeats 4000000 in
set_option maxRecDepth 100000 in
theorem c_X2_init_0 (l : Launch) (E : mEnv) (M : mMem) (sz : Nat) (h0 : Nat) (g_h0 : M h0 = some (mO 0 [.null, .int 0, .int 0, .int 0, .double 0, .null, .int 0]))  : Met l yX2_init wsX2_init ({ frames := 2, cells := 1, slots := 4, locals := 32 }) (mPre E M sz [.ref h0]) (mQv E M sz (fun u => ∃ q, M q = none ∧ u = mUp (mUp M q (mI E 4 (fun _ => 0))) h0 (mO 0 [.ref q, .int 0, .int 0, .int 0, .double 0, .null, .int 0]))) (1) (4) (mA M sz) := by
  refine m_met [.ref h0] (by decide) rfl (Nat.le_of_ble_eq_true rfl) ?_
  intro p e s m below meth c ls H eH hx hb hr hts hown hlocks hnm hml hsz hE hM hS hA hl
  have hl : lv_has ls 1 [(0, .ref h0)] := hl
  refine lv_aload_n hx hb dX2_init_0 rfl (lv_at hl 0 rfl) ?_
  refine m_callv (va_runIN (As := []) (rest := []) ⟨hx, hb, hml, hown, hts⟩ (c_X5_init l E M H.size 0 (by unfold insK; decide) h0 g_h0) ⟨va_cnB 0 hts gX2_init_X5_init_n3 rfl rfl rfl (hE.2.2.1 (RX2, 3, yX5_init, RX9) (by decide)) (hts (.initialized RX5) (by decide +kernel)) (by decide +kernel) ⟨Nat.le_of_ble_eq_true rfl, Nat.le_of_ble_eq_true rfl⟩, rfl, (hts (.instanceMethod yX5_init) (by decide +kernel))⟩ (m_preI hE hM) rfl rfl hl.1 rfl (lv_room (Nat.le_of_ble_eq_true rfl)) dX2_init_1 ⟨(by show 0 + 1 ≤ 1; omega), (by show 0 + 4 ≤ 4; omega)⟩) hM hS hA (fun M2 H locs hw hM hS => ?_)
  exact m_vret hx hb hr hlocks hM hS (by show 0 + 1 ≤ 1; omega) (by show 0 + 4 ≤ 4; omega) dX2_init_4 (by exact hw)
set_option maxHeartbeats 4000000 in
set_option maxRecDepth 100000 in
theorem c_X6_init_4 (l : Launch) (E : mEnv) (M : mMem) (sz : Nat) (h0 : Nat) (g_h0 : M h0 = some (mO 4 [.null, .int 0, .int 0, .int 0, .double 0, .null, .int 0]))  : Met l yX6_init wsX6_init ({ frames := 2, cells := 1, slots := 4, locals := 32 }) (mPre E M sz [.ref h0]) (mQv E M sz (fun u => ∃ q, M q = none ∧ u = mUp (mUp M q (mI E 4 (fun _ => 0))) h0 (mO 4 [.ref q, .int 0, .int 0, .int 0, .double 0, .null, .int 0]))) (1) (4) (mA M sz) := by
  refine m_met [.ref h0] (by decide) rfl (Nat.le_of_ble_eq_true rfl) ?_
  intro p e s m below meth c ls H eH hx hb hr hts hown hlocks hnm hml hsz hE hM hS hA hl
  have hl : lv_has ls 1 [(0, .ref h0)] := hl
  refine lv_aload_n hx hb dX6_init_0 rfl (lv_at hl 0 rfl) ?_
  refine m_callv (va_runIN (As := []) (rest := []) ⟨hx, hb, hml, hown, hts⟩ (c_X5_init l E M H.size 4 (by unfold insK; decide) h0 g_h0) ⟨va_cnB 0 hts gX6_init_X5_init_n3 rfl rfl rfl (hE.2.2.1 (RX6, 3, yX5_init, RX9) (by decide)) (hts (.initialized RX5) (by decide +kernel)) (by decide +kernel) ⟨Nat.le_of_ble_eq_true rfl, Nat.le_of_ble_eq_true rfl⟩, rfl, (hts (.instanceMethod yX5_init) (by decide +kernel))⟩ (m_preI hE hM) rfl rfl hl.1 rfl (lv_room (Nat.le_of_ble_eq_true rfl)) dX6_init_1 ⟨(by show 0 + 1 ≤ 1; omega), (by show 0 + 4 ≤ 4; omega)⟩) hM hS hA (fun M2 H locs hw hM hS => ?_)
  exact m_vret hx hb hr hlocks hM hS (by show 0 + 1 ≤ 1; omega) (by show 0 + 4 ≤ 4; omega) dX6_init_4 (by exact hw)
set_option maxHeartbeats 4000000 in
set_option maxRecDepth 100000 in
theorem c_X4_init_3 (l : Launch) (E : mEnv) (M : mMem) (sz : Nat) (h0 : Nat) (g_h0 : M h0 = some (mO 3 [.null, .int 0, .int 0, .int 0, .double 0, .null, .int 0]))  : Met l yX4_init wsX4_init ({ frames := 3, cells := 1, slots := 4, locals := 52 }) (mPre E M sz [.ref h0]) (mQv E M sz (fun u => ∃ q, M q = none ∧ u = mUp (mUp M q (mI E 4 (fun _ => 0))) h0 (mO 3 [.ref q, .int 0, .int 0, .int 0, .double 0, .null, .int 0]))) (1) (4) (mA M sz) := by
  refine m_met [.ref h0] (by decide) rfl (Nat.le_of_ble_eq_true rfl) ?_
  intro p e s m below meth c ls H eH hx hb hr hts hown hlocks hnm hml hsz hE hM hS hA hl
  have hl : lv_has ls 1 [(0, .ref h0)] := hl
  refine lv_aload_n hx hb dX4_init_0 rfl (lv_at hl 0 rfl) ?_
  refine m_callv (va_runIN (As := []) (rest := []) ⟨hx, hb, hml, hown, hts⟩ (c_X8_init_3 l E M H.size h0 g_h0) ⟨va_cnB 0 hts gX4_init_X8_init_n1 rfl rfl rfl (hE.2.2.1 (RX4, 1, yX8_init, RX9) (by decide)) (hts (.initialized RX8) (by decide +kernel)) (by decide +kernel) ⟨Nat.le_of_ble_eq_true rfl, Nat.le_of_ble_eq_true rfl⟩, rfl, (hts (.instanceMethod yX8_init) (by decide +kernel))⟩ (m_preI hE hM) rfl rfl hl.1 rfl (lv_room (Nat.le_of_ble_eq_true rfl)) dX4_init_1 ⟨(by show 0 + 1 ≤ 1; omega), (by show 0 + 4 ≤ 4; omega)⟩) hM hS hA (fun M2 H locs hw hM hS => ?_)
  exact m_vret hx hb hr hlocks hM hS (by show 0 + 1 ≤ 1; omega) (by show 0 + 4 ≤ 4; omega) dX4_init_4 (by exact hw)
set_option maxHeartbeats 4000000 in
set_option maxRecDepth 100000 in
theorem c_X0_init_0 (l : Launch) (E : mEnv) (M : mMem) (sz : Nat) (h0 : Nat) (g_h0 : M h0 = some (mO 0 [.null, .int 0, .int 0, .int 0, .double 0, .null, .int 0]))  : Met l yX0_init wsX0_init ({ frames := 3, cells := 1, slots := 4, locals := 52 }) (mPre E M sz [.ref h0]) (mQv E M sz (fun u => ∃ q, M q = none ∧ u = mUp (mUp M q (mI E 4 (fun _ => 0))) h0 (mO 0 [.ref q, .int 0, .int 0, .int 0, .double 0, .null, .int 0]))) (1) (4) (mA M sz) := by
  refine m_met [.ref h0] (by decide) rfl (Nat.le_of_ble_eq_true rfl) ?_
  intro p e s m below meth c ls H eH hx hb hr hts hown hlocks hnm hml hsz hE hM hS hA hl
  have hl : lv_has ls 1 [(0, .ref h0)] := hl
  refine lv_aload_n hx hb dX0_init_0 rfl (lv_at hl 0 rfl) ?_
  refine m_callv (va_runIN (As := []) (rest := []) ⟨hx, hb, hml, hown, hts⟩ (c_X2_init_0 l E M H.size h0 g_h0) ⟨va_cnB 0 hts gX0_init_X2_init_n3 rfl rfl rfl (hE.2.2.1 (RX0, 3, yX2_init, RX9) (by decide)) (hts (.initialized RX2) (by decide +kernel)) (by decide +kernel) ⟨Nat.le_of_ble_eq_true rfl, Nat.le_of_ble_eq_true rfl⟩, rfl, (hts (.instanceMethod yX2_init) (by decide +kernel))⟩ (m_preI hE hM) rfl rfl hl.1 rfl (lv_room (Nat.le_of_ble_eq_true rfl)) dX0_init_1 ⟨(by show 0 + 1 ≤ 1; omega), (by show 0 + 4 ≤ 4; omega)⟩) hM hS hA (fun M2 H locs hw hM hS => ?_)
  exact m_vret hx hb hr hlocks hM hS (by show 0 + 1 ≤ 1; omega) (by show 0 + 4 ≤ 4; omega) dX0_init_4 (by exact hw)
theorem in_X9_newInstrument_X0 : ∀ w ∈ wsX00, w ∈ wsX9_newInstrument := by decide +kernel
theorem in_X9_newInstrument_X2 : ∀ w ∈ wsX20, w ∈ wsX9_newInstrument := by decide +kernel
theorem in_X9_newInstrument_X4 : ∀ w ∈ wsX40, w ∈ wsX9_newInstrument := by decide +kernel
theorem in_X9_newInstrument_X6 : ∀ w ∈ wsX60, w ∈ wsX9_newInstrument := by decide +kernel
theorem in_X9_newInstrument_X8 : ∀ w ∈ wsX80, w ∈ wsX9_newInstrument := by decide +kernel
set_option maxHeartbeats 4000000 in
set_option maxRecDepth 100000 in
theorem c_X9_newInstrument (l : Launch) (E : mEnv) (M : mMem) (sz : Nat) (sort : Int32)   : Met l yX9_newInstrument wsX9_newInstrument ({ frames := 4, cells := 2, slots := 11, locals := 72 }) (mPre E M sz [.int sort]) (mQq E M sz (fun r u => ∃ (ci a q : Nat), r = some a ∧ ci = sci sort ∧ newIns E M u ci a q)) (2) (11) (mA M sz) := by
  refine m_met [.int sort] (by decide) rfl (Nat.le_of_ble_eq_true rfl) ?_
  intro p e s m below meth c ls H eH hx hb hr hts hown hlocks hnm hml hsz hE hM hS hA hl
  have hl : lv_has ls 1 [(0, .int sort)] := hl
  refine lv_iload_n hx hb dX9_newInstrument_0 rfl (lv_at hl 0 rfl) ?_
  by_cases s_1 : sort = 1
  · refine lv_tableIn (off := 31) (tgt := 32) hx hb dX9_newInstrument_1 (by rw [s_1]; decide) (by rw [s_1]; decide) (by rw [s_1]; rfl) (by decide) ?_
    refine m_new (ci := 3) (fs := [.null, .int 0, .int 0, .int 0, .double 0, .null, .int 0]) (C := RX4) (T := TX4) (N := 7) hx hb hts in_X9_newInstrument_X4 tyX4 tyX4_ok hown (hts (.classLink RX9 176 RX4) (by decide +kernel)) (hts (.instantiable RX4 7) (by decide +kernel)) (hts (.initialized RX4) (by decide +kernel)) hE hM hS hA rfl (fun j hj => by rcases (show j = 0 ∨ j = 1 ∨ j = 2 ∨ j = 3 ∨ j = 4 ∨ j = 5 ∨ j = 6 by omega) with rfl | rfl | rfl | rfl | rfl | rfl | rfl <;> rfl) (by show 0 + 1 ≤ 2; omega) (by show 0 + 7 ≤ 11; omega) dX9_newInstrument_32 (fun a1 H n_a1 hM hS => ?_)
    have hM : mOK E.1 (mA M sz) (mUp M a1 (mO 3 [.null, .int 0, .int 0, .int 0, .double 0, .null, .int 0])) H := hM
    obtain ⟨M1, eM1⟩ : ∃ z, z = mUp M a1 (mO 3 [.null, .int 0, .int 0, .int 0, .double 0, .null, .int 0]) := ⟨_, rfl⟩
    rw [← eM1] at hM
    have g_a1 : M1 a1 = some (mO 3 [.null, .int 0, .int 0, .int 0, .double 0, .null, .int 0]) := by rw [eM1]; exact mUp_self _ _ _
    refine lv_dup hx hb dX9_newInstrument_35 rfl ?_
    refine m_callv (va_runIN (As := []) (rest := [.ref a1]) ⟨hx, hb, hml, hown, hts⟩ (c_X4_init_3 l E M1 H.size a1 g_a1) ⟨va_cnB 0 hts gX9_newInstrument_X4_init_n178 rfl rfl rfl (hE.2.2.1 (RX9, 178, yX4_init, RX9) (by decide)) (hts (.initialized RX4) (by decide +kernel)) (by decide +kernel) ⟨Nat.le_of_ble_eq_true rfl, Nat.le_of_ble_eq_true rfl⟩, rfl, (hts (.instanceMethod yX4_init) (by decide +kernel))⟩ (m_preI hE hM) rfl rfl hl.1 rfl (lv_room (Nat.le_of_ble_eq_true rfl)) dX9_newInstrument_36 ⟨(by show 0 + 1 + 1 ≤ 2; omega), (by show 0 + 7 + 4 ≤ 11; omega)⟩) hM hS hA (fun M3 H locs hw hM hS => ?_)
    obtain ⟨q1, hq1, eq1⟩ := hw
    exact m_qret (some a1) hx hb hr hlocks hM hS (by show 0 + 1 + 1 ≤ 2; omega) (by show 0 + 7 + 4 ≤ 11; omega) dX9_newInstrument_39 (by rw [eM1] at hq1 eq1; obtain ⟨hne, hq2⟩ := mUp_none hq1; rw [mUp_swap hne] at eq1; exact ⟨3, a1, q1, rfl, by simp [sci, *], n_a1, hq2, hne.symm, eq1⟩)
  by_cases s_2 : sort = 2
  · refine lv_tableIn (off := 39) (tgt := 40) hx hb dX9_newInstrument_1 (by rw [s_2]; decide) (by rw [s_2]; decide) (by rw [s_2]; rfl) (by decide) ?_
    refine m_new (ci := 1) (fs := [.null, .int 0, .int 0, .int 0, .double 0, .null, .int 0]) (C := RX2) (T := TX2) (N := 7) hx hb hts in_X9_newInstrument_X2 tyX2 tyX2_ok hown (hts (.classLink RX9 179 RX2) (by decide +kernel)) (hts (.instantiable RX2 7) (by decide +kernel)) (hts (.initialized RX2) (by decide +kernel)) hE hM hS hA rfl (fun j hj => by rcases (show j = 0 ∨ j = 1 ∨ j = 2 ∨ j = 3 ∨ j = 4 ∨ j = 5 ∨ j = 6 by omega) with rfl | rfl | rfl | rfl | rfl | rfl | rfl <;> rfl) (by show 0 + 1 ≤ 2; omega) (by show 0 + 7 ≤ 11; omega) dX9_newInstrument_40 (fun a1 H n_a1 hM hS => ?_)
    have hM : mOK E.1 (mA M sz) (mUp M a1 (mO 1 [.null, .int 0, .int 0, .int 0, .double 0, .null, .int 0])) H := hM
    obtain ⟨M4, eM4⟩ : ∃ z, z = mUp M a1 (mO 1 [.null, .int 0, .int 0, .int 0, .double 0, .null, .int 0]) := ⟨_, rfl⟩
    rw [← eM4] at hM
    have g_a1 : M4 a1 = some (mO 1 [.null, .int 0, .int 0, .int 0, .double 0, .null, .int 0]) := by rw [eM4]; exact mUp_self _ _ _
    refine lv_dup hx hb dX9_newInstrument_43 rfl ?_
    refine m_callv (va_runIN (As := []) (rest := [.ref a1]) ⟨hx, hb, hml, hown, hts⟩ (c_X2_init_1 l E M4 H.size a1 g_a1) ⟨va_cnB 0 hts gX9_newInstrument_X2_init_n181 rfl rfl rfl (hE.2.2.1 (RX9, 181, yX2_init, RX9) (by decide)) (hts (.initialized RX2) (by decide +kernel)) (by decide +kernel) ⟨Nat.le_of_ble_eq_true rfl, Nat.le_of_ble_eq_true rfl⟩, rfl, (hts (.instanceMethod yX2_init) (by decide +kernel))⟩ (m_preI hE hM) rfl rfl hl.1 rfl (lv_room (Nat.le_of_ble_eq_true rfl)) dX9_newInstrument_44 ⟨(by show 0 + 1 + 1 ≤ 2; omega), (by show 0 + 7 + 4 ≤ 11; omega)⟩) hM hS hA (fun M6 H locs hw hM hS => ?_)
    obtain ⟨q1, hq1, eq1⟩ := hw
    exact m_qret (some a1) hx hb hr hlocks hM hS (by show 0 + 1 + 1 ≤ 2; omega) (by show 0 + 7 + 4 ≤ 11; omega) dX9_newInstrument_47 (by rw [eM4] at hq1 eq1; obtain ⟨hne, hq2⟩ := mUp_none hq1; rw [mUp_swap hne] at eq1; exact ⟨1, a1, q1, rfl, by simp [sci, *], n_a1, hq2, hne.symm, eq1⟩)
  by_cases s_3 : sort = 3
  · refine lv_tableIn (off := 47) (tgt := 48) hx hb dX9_newInstrument_1 (by rw [s_3]; decide) (by rw [s_3]; decide) (by rw [s_3]; rfl) (by decide) ?_
    refine m_new (ci := 0) (fs := [.null, .int 0, .int 0, .int 0, .double 0, .null, .int 0]) (C := RX0) (T := TX0) (N := 7) hx hb hts in_X9_newInstrument_X0 tyX0 tyX0_ok hown (hts (.classLink RX9 182 RX0) (by decide +kernel)) (hts (.instantiable RX0 7) (by decide +kernel)) (hts (.initialized RX0) (by decide +kernel)) hE hM hS hA rfl (fun j hj => by rcases (show j = 0 ∨ j = 1 ∨ j = 2 ∨ j = 3 ∨ j = 4 ∨ j = 5 ∨ j = 6 by omega) with rfl | rfl | rfl | rfl | rfl | rfl | rfl <;> rfl) (by show 0 + 1 ≤ 2; omega) (by show 0 + 7 ≤ 11; omega) dX9_newInstrument_48 (fun a1 H n_a1 hM hS => ?_)
    have hM : mOK E.1 (mA M sz) (mUp M a1 (mO 0 [.null, .int 0, .int 0, .int 0, .double 0, .null, .int 0])) H := hM
    obtain ⟨M7, eM7⟩ : ∃ z, z = mUp M a1 (mO 0 [.null, .int 0, .int 0, .int 0, .double 0, .null, .int 0]) := ⟨_, rfl⟩
    rw [← eM7] at hM
    have g_a1 : M7 a1 = some (mO 0 [.null, .int 0, .int 0, .int 0, .double 0, .null, .int 0]) := by rw [eM7]; exact mUp_self _ _ _
    refine lv_dup hx hb dX9_newInstrument_51 rfl ?_
    refine m_callv (va_runIN (As := []) (rest := [.ref a1]) ⟨hx, hb, hml, hown, hts⟩ (c_X0_init_0 l E M7 H.size a1 g_a1) ⟨va_cnB 0 hts gX9_newInstrument_X0_init_n184 rfl rfl rfl (hE.2.2.1 (RX9, 184, yX0_init, RX9) (by decide)) (hts (.initialized RX0) (by decide +kernel)) (by decide +kernel) ⟨Nat.le_of_ble_eq_true rfl, Nat.le_of_ble_eq_true rfl⟩, rfl, (hts (.instanceMethod yX0_init) (by decide +kernel))⟩ (m_preI hE hM) rfl rfl hl.1 rfl (lv_room (Nat.le_of_ble_eq_true rfl)) dX9_newInstrument_52 ⟨(by show 0 + 1 + 1 ≤ 2; omega), (by show 0 + 7 + 4 ≤ 11; omega)⟩) hM hS hA (fun M9 H locs hw hM hS => ?_)
    obtain ⟨q1, hq1, eq1⟩ := hw
    exact m_qret (some a1) hx hb hr hlocks hM hS (by show 0 + 1 + 1 ≤ 2; omega) (by show 0 + 7 + 4 ≤ 11; omega) dX9_newInstrument_55 (by rw [eM7] at hq1 eq1; obtain ⟨hne, hq2⟩ := mUp_none hq1; rw [mUp_swap hne] at eq1; exact ⟨0, a1, q1, rfl, by simp [sci, *], n_a1, hq2, hne.symm, eq1⟩)
  by_cases s_4 : sort = 4
  · refine lv_tableIn (off := 55) (tgt := 56) hx hb dX9_newInstrument_1 (by rw [s_4]; decide) (by rw [s_4]; decide) (by rw [s_4]; rfl) (by decide) ?_
    refine m_new (ci := 4) (fs := [.null, .int 0, .int 0, .int 0, .double 0, .null, .int 0]) (C := RX6) (T := TX6) (N := 7) hx hb hts in_X9_newInstrument_X6 tyX6 tyX6_ok hown (hts (.classLink RX9 185 RX6) (by decide +kernel)) (hts (.instantiable RX6 7) (by decide +kernel)) (hts (.initialized RX6) (by decide +kernel)) hE hM hS hA rfl (fun j hj => by rcases (show j = 0 ∨ j = 1 ∨ j = 2 ∨ j = 3 ∨ j = 4 ∨ j = 5 ∨ j = 6 by omega) with rfl | rfl | rfl | rfl | rfl | rfl | rfl <;> rfl) (by show 0 + 1 ≤ 2; omega) (by show 0 + 7 ≤ 11; omega) dX9_newInstrument_56 (fun a1 H n_a1 hM hS => ?_)
    have hM : mOK E.1 (mA M sz) (mUp M a1 (mO 4 [.null, .int 0, .int 0, .int 0, .double 0, .null, .int 0])) H := hM
    obtain ⟨M10, eM10⟩ : ∃ z, z = mUp M a1 (mO 4 [.null, .int 0, .int 0, .int 0, .double 0, .null, .int 0]) := ⟨_, rfl⟩
    rw [← eM10] at hM
    have g_a1 : M10 a1 = some (mO 4 [.null, .int 0, .int 0, .int 0, .double 0, .null, .int 0]) := by rw [eM10]; exact mUp_self _ _ _
    refine lv_dup hx hb dX9_newInstrument_59 rfl ?_
    refine m_callv (va_runIN (As := []) (rest := [.ref a1]) ⟨hx, hb, hml, hown, hts⟩ (c_X6_init_4 l E M10 H.size a1 g_a1) ⟨va_cnB 0 hts gX9_newInstrument_X6_init_n187 rfl rfl rfl (hE.2.2.1 (RX9, 187, yX6_init, RX9) (by decide)) (hts (.initialized RX6) (by decide +kernel)) (by decide +kernel) ⟨Nat.le_of_ble_eq_true rfl, Nat.le_of_ble_eq_true rfl⟩, rfl, (hts (.instanceMethod yX6_init) (by decide +kernel))⟩ (m_preI hE hM) rfl rfl hl.1 rfl (lv_room (Nat.le_of_ble_eq_true rfl)) dX9_newInstrument_60 ⟨(by show 0 + 1 + 1 ≤ 2; omega), (by show 0 + 7 + 4 ≤ 11; omega)⟩) hM hS hA (fun M12 H locs hw hM hS => ?_)
    obtain ⟨q1, hq1, eq1⟩ := hw
    exact m_qret (some a1) hx hb hr hlocks hM hS (by show 0 + 1 + 1 ≤ 2; omega) (by show 0 + 7 + 4 ≤ 11; omega) dX9_newInstrument_63 (by rw [eM10] at hq1 eq1; obtain ⟨hne, hq2⟩ := mUp_none hq1; rw [mUp_swap hne] at eq1; exact ⟨4, a1, q1, rfl, by simp [sci, *], n_a1, hq2, hne.symm, eq1⟩)
  refine lv_tableOut (tgt := 64) hx hb dX9_newInstrument_1 (tab_out1 (x := sort) (n := 4) (by decide) (fun j hj => match j, hj with | 0, _ => s_1 | 1, _ => s_2 | 2, _ => s_3 | 3, _ => s_4 | j + 4, h => absurd h (by omega))) (by decide) ?_
  refine m_new (ci := 6) (fs := [.null, .int 0, .int 0, .int 0, .double 0, .null, .int 0]) (C := RX8) (T := TX8) (N := 7) hx hb hts in_X9_newInstrument_X8 tyX8 tyX8_ok hown (hts (.classLink RX9 188 RX8) (by decide +kernel)) (hts (.instantiable RX8 7) (by decide +kernel)) (hts (.initialized RX8) (by decide +kernel)) hE hM hS hA rfl (fun j hj => by rcases (show j = 0 ∨ j = 1 ∨ j = 2 ∨ j = 3 ∨ j = 4 ∨ j = 5 ∨ j = 6 by omega) with rfl | rfl | rfl | rfl | rfl | rfl | rfl <;> rfl) (by show 0 + 1 ≤ 2; omega) (by show 0 + 7 ≤ 11; omega) dX9_newInstrument_64 (fun a1 H n_a1 hM hS => ?_)
  have hM : mOK E.1 (mA M sz) (mUp M a1 (mO 6 [.null, .int 0, .int 0, .int 0, .double 0, .null, .int 0])) H := hM
  obtain ⟨M13, eM13⟩ : ∃ z, z = mUp M a1 (mO 6 [.null, .int 0, .int 0, .int 0, .double 0, .null, .int 0]) := ⟨_, rfl⟩
  rw [← eM13] at hM
  have g_a1 : M13 a1 = some (mO 6 [.null, .int 0, .int 0, .int 0, .double 0, .null, .int 0]) := by rw [eM13]; exact mUp_self _ _ _
  refine lv_dup hx hb dX9_newInstrument_67 rfl ?_
  refine m_callv (va_runIN (As := []) (rest := [.ref a1]) ⟨hx, hb, hml, hown, hts⟩ (c_X8_init_6 l E M13 H.size a1 g_a1) ⟨va_cnB 0 hts gX9_newInstrument_X8_init_n190 rfl rfl rfl (hE.2.2.1 (RX9, 190, yX8_init, RX9) (by decide)) (hts (.initialized RX8) (by decide +kernel)) (by decide +kernel) ⟨Nat.le_of_ble_eq_true rfl, Nat.le_of_ble_eq_true rfl⟩, rfl, (hts (.instanceMethod yX8_init) (by decide +kernel))⟩ (m_preI hE hM) rfl rfl hl.1 rfl (lv_room (Nat.le_of_ble_eq_true rfl)) dX9_newInstrument_68 ⟨(by show 0 + 1 + 1 ≤ 2; omega), (by show 0 + 7 + 4 ≤ 11; omega)⟩) hM hS hA (fun M15 H locs hw hM hS => ?_)
  obtain ⟨q1, hq1, eq1⟩ := hw
  exact m_qret (some a1) hx hb hr hlocks hM hS (by show 0 + 1 + 1 ≤ 2; omega) (by show 0 + 7 + 4 ≤ 11; omega) dX9_newInstrument_71 (by rw [eM13] at hq1 eq1; obtain ⟨hne, hq2⟩ := mUp_none hq1; rw [mUp_swap hne] at eq1; exact ⟨6, a1, q1, rfl, by simp [sci, *], n_a1, hq2, hne.symm, eq1⟩)
theorem in_X7_bits_X7 : ∀ w ∈ wsX70, w ∈ wsX7_bits := by decide +kernel
set_option maxHeartbeats 4000000 in
set_option maxRecDepth 100000 in
theorem c_X7_bits (l : Launch) (E : mEnv) (M : mMem) (sz : Nat) (h0 v n : Nat) (lane : Int32) (f : Nat → UInt64) (i : Int32) (hin : vp_in i n) (hv : vOK lane (f i.toNatClampNeg)) (g_h0 : M h0 = some (mO 5 [.int lane, .ref v])) (g_v : M v = some (mDb E n f))  : Met l yX7_bits wsX7_bits ({ frames := 2, cells := 0, slots := 0, locals := 47 }) (mPre E M sz [.ref h0, .int i]) (mQl E M sz (fun r u => r = sBits lane (f i.toNatClampNeg) ∧ u = M)) (0) (0) (mA M sz) := by
  refine m_met [.ref h0, .int i] (by decide) rfl (Nat.le_of_ble_eq_true rfl) ?_
  intro p e s m below meth c ls H eH hx hb hr hts hown hlocks hnm hml hsz hE hM hS hA hl
  have hl : lv_has ls 2 [(0, .ref h0), (1, .int i)] := hl
  refine lv_aload_n hx hb dX7_bits_0 rfl (lv_at hl 0 rfl) ?_
  refine m_get (ci := 5) (v := .int lane) (C := RX7) (T := TX7) (N := 2) hx hb hts in_X7_bits_X7 hown hE hM g_h0 rfl 0 (by decide) (hts (.fieldLink RX7 9 "CallWays2$Samples" "lane" "I") (by decide +kernel)) (fun _ h9 => h9) rfl dX7_bits_1 ?_
  rcases hv with ⟨rfl, hv⟩ | ⟨rfl, hv⟩ | ⟨rfl, fl, hf, hv⟩ | ⟨rfl, hv⟩
  · refine lv_lookup (off := 49) (tgt := 53) hx hb dX7_bits_4 (by decide) (by decide) (by decide) ?_
    refine lv_aload_n hx hb dX7_bits_53 rfl (lv_at hl 0 rfl) ?_
    refine m_get (ci := 5) (v := .ref v) (C := RX7) (T := TX7) (N := 2) hx hb hts in_X7_bits_X7 hown hE hM g_h0 rfl 1 (by decide) (hts (.fieldLink RX7 15 "CallWays2$Samples" "values" "[D") (by decide +kernel)) (fun _ h9 => h9) rfl dX7_bits_54 ?_
    refine lv_iload_n hx hb dX7_bits_57 rfl (lv_at hl 1 rfl) ?_
    refine m_dald hx hb hE hM g_v (by assumption) dX7_bits_58 ?_
    refine lv_d2l hx hb dX7_bits_59 ?_
    exact m_lret hx hb hr hlocks hM hS (Nat.le_refl _) (Nat.le_refl _) dX7_bits_60 (by exact ⟨rfl, rfl⟩)
  · refine lv_lookup (off := 49) (tgt := 53) hx hb dX7_bits_4 (by decide) (by decide) (by decide) ?_
    refine lv_aload_n hx hb dX7_bits_53 rfl (lv_at hl 0 rfl) ?_
    refine m_get (ci := 5) (v := .ref v) (C := RX7) (T := TX7) (N := 2) hx hb hts in_X7_bits_X7 hown hE hM g_h0 rfl 1 (by decide) (hts (.fieldLink RX7 15 "CallWays2$Samples" "values" "[D") (by decide +kernel)) (fun _ h9 => h9) rfl dX7_bits_54 ?_
    refine lv_iload_n hx hb dX7_bits_57 rfl (lv_at hl 1 rfl) ?_
    refine m_dald hx hb hE hM g_v (by assumption) dX7_bits_58 ?_
    refine lv_d2l hx hb dX7_bits_59 ?_
    exact m_lret hx hb hr hlocks hM hS (Nat.le_refl _) (Nat.le_refl _) dX7_bits_60 (by exact ⟨rfl, rfl⟩)
  · refine lv_lookup (off := 28) (tgt := 32) hx hb dX7_bits_4 (by decide) (by decide) (by decide) ?_
    refine lv_aload_n hx hb dX7_bits_32 rfl (lv_at hl 0 rfl) ?_
    refine m_get (ci := 5) (v := .ref v) (C := RX7) (T := TX7) (N := 2) hx hb hts in_X7_bits_X7 hown hE hM g_h0 rfl 1 (by decide) (hts (.fieldLink RX7 15 "CallWays2$Samples" "values" "[D") (by decide +kernel)) (fun _ h9 => h9) rfl dX7_bits_33 ?_
    refine lv_iload_n hx hb dX7_bits_36 rfl (lv_at hl 1 rfl) ?_
    refine m_dald hx hb hE hM g_v (by assumption) dX7_bits_37 ?_
    rw [show f i.toNatClampNeg = FP.f2d fl from hv]
    refine m_calli (va_runS (As := [.double (FP.f2d fl)]) (rest := []) ⟨hx, hb, hml, hown, hts⟩ (c_X1_ofFloat l E M H.size fl hf) (va_cwS 1 hts gX7_bits_X1_ofFloat rfl rfl rfl (by decide +kernel) ⟨Nat.le_of_ble_eq_true rfl, Nat.le_of_ble_eq_true rfl⟩) (m_preS hE hM) rfl rfl hl.1 rfl (lv_room (Nat.le_of_ble_eq_true rfl)) dX7_bits_38 ⟨Nat.le_of_ble_eq_true rfl, Nat.le_of_ble_eq_true rfl⟩) hM hS hA (fun r1 u H locs hw hM hS => ?_)
    obtain ⟨e_r1, eu⟩ := hw
    rw [eu] at hM
    subst e_r1
    refine lv_i2l hx hb dX7_bits_41 rfl ?_
    exact m_lret hx hb hr hlocks hM hS (Nat.le_refl _) (Nat.le_refl _) dX7_bits_42 (by refine ⟨?_, rfl⟩; show _ = (FP.d2f (FP.f2d fl)).toInt32.toInt64; rw [d2f_f2d' hf])
  · refine lv_lookup (off := 39) (tgt := 43) hx hb dX7_bits_4 (by decide) (by decide) (by decide) ?_
    refine lv_aload_n hx hb dX7_bits_43 rfl (lv_at hl 0 rfl) ?_
    refine m_get (ci := 5) (v := .ref v) (C := RX7) (T := TX7) (N := 2) hx hb hts in_X7_bits_X7 hown hE hM g_h0 rfl 1 (by decide) (hts (.fieldLink RX7 15 "CallWays2$Samples" "values" "[D") (by decide +kernel)) (fun _ h9 => h9) rfl dX7_bits_44 ?_
    refine lv_iload_n hx hb dX7_bits_47 rfl (lv_at hl 1 rfl) ?_
    refine m_dald hx hb hE hM g_v (by assumption) dX7_bits_48 ?_
    refine m_calll (va_runS (As := [.double (f i.toNatClampNeg)]) (rest := []) ⟨hx, hb, hml, hown, hts⟩ (c_X1_ofDouble l E M H.size (f i.toNatClampNeg) hv) (va_cwS 1 hts gX7_bits_X1_ofDouble rfl rfl rfl (by decide +kernel) ⟨Nat.le_of_ble_eq_true rfl, Nat.le_of_ble_eq_true rfl⟩) (m_preS hE hM) rfl rfl hl.1 rfl (lv_room (Nat.le_of_ble_eq_true rfl)) dX7_bits_49 ⟨Nat.le_of_ble_eq_true rfl, Nat.le_of_ble_eq_true rfl⟩) hM hS hA (fun r1 u H locs hw hM hS => ?_)
    obtain ⟨e_r1, eu⟩ := hw
    rw [eu] at hM
    subst e_r1
    exact m_lret hx hb hr hlocks hM hS (Nat.le_refl _) (Nat.le_refl _) dX7_bits_52 (by exact ⟨rfl, rfl⟩)
theorem in_X7_twin_X7 : ∀ w ∈ wsX70, w ∈ wsX7_twin := by decide +kernel
set_option maxHeartbeats 4000000 in
set_option maxRecDepth 100000 in
theorem c_X7_twin (l : Launch) (E : mEnv) (M : mMem) (sz : Nat) (h0 v n : Nat) (lane : Int32) (f : Nat → UInt64) (hn : n ≤ 40) (g_h0 : M h0 = some (mO 5 [.int lane, .ref v])) (g_v : M v = some (mDb E n f))  : Met l yX7_twin wsX7_twin ({ frames := 2, cells := 2, slots := 42, locals := 34 }) (mPre E M sz [.ref h0]) (mQq E M sz (fun r u => ∃ (a v : Nat), r = some a ∧ newSam E M u a v lane n f)) (2) (42) (mA M sz) := by
  refine m_met [.ref h0] (by decide) rfl (Nat.le_of_ble_eq_true rfl) ?_
  intro p e s m below meth c ls H eH hx hb hr hts hown hlocks hnm hml hsz hE hM hS hA hl
  have hl : lv_has ls 1 [(0, .ref h0)] := hl
  refine m_new (ci := 5) (fs := [.int 0, .null]) (C := RX7) (T := TX7) (N := 2) hx hb hts in_X7_twin_X7 tyX7 tyX7_ok hown (hts (.classLink RX7 10 RX7) (by decide +kernel)) (hts (.instantiable RX7 2) (by decide +kernel)) (hts (.initialized RX7) (by decide +kernel)) hE hM hS hA rfl (fun j hj => by rcases (show j = 0 ∨ j = 1 by omega) with rfl | rfl <;> rfl) (by show 0 + 1 ≤ 2; omega) (by show 0 + 2 ≤ 42; omega) dX7_twin_0 (fun a2 H n_a2 hM hS => ?_)
  have hM : mOK E.1 (mA M sz) (mUp M a2 (mO 5 [.int 0, .null])) H := hM
  obtain ⟨M1, eM1⟩ : ∃ z, z = mUp M a2 (mO 5 [.int 0, .null]) := ⟨_, rfl⟩
  rw [← eM1] at hM
  have g_h0 : M1 h0 = some (mO 5 [.int lane, .ref v]) := by rw [eM1]; exact mUp_at (m_neN g_h0 n_a2) g_h0
  have g_v : M1 v = some (mDb E n f) := by rw [eM1]; exact mUp_at (m_neN g_v n_a2) g_v
  have g_a2 : M1 a2 = some (mO 5 [.int 0, .null]) := by rw [eM1]; exact mUp_self _ _ _
  refine lv_dup hx hb dX7_twin_3 rfl ?_
  refine lv_aload_n hx hb dX7_twin_4 rfl (lv_at hl 0 rfl) ?_
  refine m_get (ci := 5) (v := .int lane) (C := RX7) (T := TX7) (N := 2) hx hb hts in_X7_twin_X7 hown hE hM g_h0 rfl 0 (by decide) (hts (.fieldLink RX7 9 "CallWays2$Samples" "lane" "I") (by decide +kernel)) (fun _ h9 => h9) rfl dX7_twin_5 ?_
  refine lv_aload_n hx hb dX7_twin_8 rfl (lv_at hl 0 rfl) ?_
  refine m_get (ci := 5) (v := .ref v) (C := RX7) (T := TX7) (N := 2) hx hb hts in_X7_twin_X7 hown hE hM g_h0 rfl 1 (by decide) (hts (.fieldLink RX7 15 "CallWays2$Samples" "values" "[D") (by decide +kernel)) (fun _ h9 => h9) rfl dX7_twin_9 ?_
  refine m_cloneD hx hb (hml.trans hl.1.symm) hown (hts (.methodLink RX7 19 ⟨"[D", "clone", "()Ljava/lang/Object;"⟩) (by decide +kernel)) (hts (.sameMethod "[D" "java/lang/Object" "clone" "()Ljava/lang/Object;") (by decide +kernel)) (hts (.native ⟨"java/lang/Object", "clone", "()Ljava/lang/Object;"⟩) (by decide +kernel)) (hts (.instanceMethod ⟨"java/lang/Object", "clone", "()Ljava/lang/Object;"⟩) (by decide +kernel)) (hts (.selects "[D" ⟨"[D", "clone", "()Ljava/lang/Object;"⟩ ⟨"java/lang/Object", "clone", "()Ljava/lang/Object;"⟩) (by decide +kernel)) hE hM hS hA g_v (Nat.le_of_ble_eq_true rfl) (Nat.le_of_ble_eq_true rfl) (by show 0 + 1 + 1 ≤ 2; omega) (by show 0 + 2 + n ≤ 42; omega) dX7_twin_12 (fun v2 H n_v2 hM hS => ?_)
  have hM : mOK E.1 (mA M sz) (mUp M1 v2 (mDb E n f)) H := hM
  obtain ⟨M2, eM2⟩ : ∃ z, z = mUp M1 v2 (mDb E n f) := ⟨_, rfl⟩
  rw [← eM2] at hM
  have g_h0 : M2 h0 = some (mO 5 [.int lane, .ref v]) := by rw [eM2]; exact mUp_at (m_neN g_h0 n_v2) g_h0
  have g_v : M2 v = some (mDb E n f) := by rw [eM2]; exact mUp_at (m_neN g_v n_v2) g_v
  have g_a2 : M2 a2 = some (mO 5 [.int 0, .null]) := by rw [eM2]; exact mUp_at (m_neN g_a2 n_v2) g_a2
  have g_v2 : M2 v2 = some (mDb E n f) := by rw [eM2]; exact mUp_self _ _ _
  refine m_castD hx hb hown (hts (.classLink RX7 20 "[D") (by decide +kernel)) hE hM g_v2 dX7_twin_15 ?_
  refine m_callv (va_runI (As := [.int lane, .ref v2]) (rest := [.ref a2]) ⟨hx, hb, hml, hown, hts⟩ (c_X7_init l E M2 H.size a2 v2 lane g_a2) (cwI 2 hts gX7_twin_X7_init rfl rfl rfl (hts (.initialized RX7) (by decide +kernel)) (hts (.methodLink RX7 24 yX7_init) (by decide +kernel)) (hts (.instanceMethod yX7_init) (by decide +kernel)) rfl (by decide +kernel) ⟨Nat.le_of_ble_eq_true rfl, Nat.le_of_ble_eq_true rfl⟩) (m_preI hE hM) rfl rfl hl.1 rfl (lv_room (Nat.le_of_ble_eq_true rfl)) dX7_twin_18 ⟨(by show 0 + 1 + 1 + 0 ≤ 2; omega), (by show 0 + 2 + n + 0 ≤ 42; omega)⟩) hM hS hA (fun M4 H locs hw hM hS => ?_)
  have eM4 := hw
  have g_h0_ : M4 h0 = some (mO 5 [.int lane, .ref v]) := by rw [eM4]; exact mUp_at (m_ne g_h0 g_a2 (by simp)) g_h0
  have g_v_ : M4 v = some (mDb E n f) := by rw [eM4]; exact mUp_at (m_ne g_v g_a2 (by simp)) g_v
  have g_v2_ : M4 v2 = some (mDb E n f) := by rw [eM4]; exact mUp_at (m_ne g_v2 g_a2 (by simp)) g_v2
  have g_h0 := g_h0_
  have g_v := g_v_
  have g_v2 := g_v2_
  have g_a2 : M4 a2 = some (mO 5 [.int lane, .ref v2]) := by rw [eM4]; exact mUp_self _ _ _
  exact m_qret (some a2) hx hb hr hlocks hM hS (by show 0 + 1 + 1 + 0 ≤ 2; omega) (by show 0 + 2 + n + 0 ≤ 42; omega) dX7_twin_21 (by have k := mUp_none (a := a2) (by rw [← eM1]; exact n_v2); exact ⟨a2, v2, rfl, n_a2, k.2, k.1.symm, by rw [eM4, eM2, eM1, mUp_swap k.1]⟩)
set_option maxHeartbeats 4000000 in
set_option maxRecDepth 100000 in
theorem c_X9_lot_n (l : Launch) (E : mEnv) (M : mMem) (sz : Nat) (o : Int32)   : Met l yX9_lentOrTwin wsX9_lentOrTwin ({ frames := 0, cells := 2, slots := 42, locals := 0 }) (mPre E M sz [.null, .int o]) (mQq E M sz (fun r u => r = none ∧ u = M)) (2) (42) (mA M sz) := by
  refine m_met [.null, .int o] (by decide) rfl (Nat.le_of_ble_eq_true rfl) ?_
  intro p e s m below meth c ls H eH hx hb hr hts hown hlocks hnm hml hsz hE hM hS hA hl
  have hl : lv_has ls 2 [(0, .null), (1, .int o)] := hl
  refine lv_aload_nN hx hb dX9_lentOrTwin_0 rfl (lv_at hl 0 rfl) ?_
  refine lv_ifnullN (tgt := 8) hx hb dX9_lentOrTwin_1 (by decide) ?_
  refine lv_aload_nN hx hb dX9_lentOrTwin_8 rfl (lv_at hl 0 rfl) ?_
  refine lv_goto (tgt := 16) hx hb dX9_lentOrTwin_9 (by decide) ?_
  exact m_qret none hx hb hr hlocks hM hS (by show 0 ≤ 2; omega) (by show 0 ≤ 42; omega) dX9_lentOrTwin_16 (by exact ⟨rfl, rfl⟩)
set_option maxHeartbeats 4000000 in
set_option maxRecDepth 100000 in
theorem c_X9_lot_l (l : Launch) (E : mEnv) (M : mMem) (sz : Nat) (h0 : Nat) (o : Int32) (ho : ¬ o = 0)   : Met l yX9_lentOrTwin wsX9_lentOrTwin ({ frames := 0, cells := 2, slots := 42, locals := 0 }) (mPre E M sz [.ref h0, .int o]) (mQq E M sz (fun r u => r = some h0 ∧ u = M)) (2) (42) (mA M sz) := by
  refine m_met [.ref h0, .int o] (by decide) rfl (Nat.le_of_ble_eq_true rfl) ?_
  intro p e s m below meth c ls H eH hx hb hr hts hown hlocks hnm hml hsz hE hM hS hA hl
  have hl : lv_has ls 2 [(0, .ref h0), (1, .int o)] := hl
  refine lv_aload_n hx hb dX9_lentOrTwin_0 rfl (lv_at hl 0 rfl) ?_
  refine lv_ifnull hx hb dX9_lentOrTwin_1 ?_
  refine lv_iload_n hx hb dX9_lentOrTwin_4 rfl (lv_at hl 1 rfl) ?_
  refine lv_if_eq (tgt := 12) hx hb dX9_lentOrTwin_5 (by decide) (fun h9 => False.elim (by revert h9; exact (fun h => ho h))) (fun _ => ?_)
  refine lv_aload_n hx hb dX9_lentOrTwin_8 rfl (lv_at hl 0 rfl) ?_
  refine lv_goto (tgt := 16) hx hb dX9_lentOrTwin_9 (by decide) ?_
  exact m_qret (some h0) hx hb hr hlocks hM hS (by show 0 ≤ 2; omega) (by show 0 ≤ 42; omega) dX9_lentOrTwin_16 (by exact ⟨rfl, rfl⟩)
set_option maxHeartbeats 4000000 in
set_option maxRecDepth 100000 in
theorem c_X9_lot_t (l : Launch) (E : mEnv) (M : mMem) (sz : Nat) (h0 v n : Nat) (lane : Int32) (f : Nat → UInt64) (hn : n ≤ 40) (o : Int32) (ho : o = 0) (g_h0 : M h0 = some (mO 5 [.int lane, .ref v])) (g_v : M v = some (mDb E n f))  : Met l yX9_lentOrTwin wsX9_lentOrTwin ({ frames := 3, cells := 2, slots := 42, locals := 54 }) (mPre E M sz [.ref h0, .int o]) (mQq E M sz (fun r u => ∃ (a v : Nat), r = some a ∧ newSam E M u a v lane n f)) (2) (42) (mA M sz) := by
  refine m_met [.ref h0, .int o] (by decide) rfl (Nat.le_of_ble_eq_true rfl) ?_
  intro p e s m below meth c ls H eH hx hb hr hts hown hlocks hnm hml hsz hE hM hS hA hl
  have hl : lv_has ls 2 [(0, .ref h0), (1, .int o)] := hl
  refine lv_aload_n hx hb dX9_lentOrTwin_0 rfl (lv_at hl 0 rfl) ?_
  refine lv_ifnull hx hb dX9_lentOrTwin_1 ?_
  refine lv_iload_n hx hb dX9_lentOrTwin_4 rfl (lv_at hl 1 rfl) ?_
  refine lv_if_eq (tgt := 12) hx hb dX9_lentOrTwin_5 (by decide) (fun _ => ?_) (fun h9 => False.elim (by revert h9; exact (fun h => h ho)))
  refine lv_aload_n hx hb dX9_lentOrTwin_12 rfl (lv_at hl 0 rfl) ?_
  refine m_callq (va_runV (As := []) (rest := []) ⟨hx, hb, hml, hown, hts⟩ (c_X7_twin l E M H.size h0 v n lane f hn g_h0 g_v) (cwV 0 hts gX9_lentOrTwin_X7_twin rfl rfl rfl (by decide +kernel) ⟨Nat.le_of_ble_eq_true rfl, Nat.le_of_ble_eq_true rfl⟩) (m_preV hE hM g_h0 rfl) rfl rfl hl.1 rfl (lv_room (Nat.le_of_ble_eq_true rfl)) dX9_lentOrTwin_13 ⟨(by show 0 + 2 ≤ 2; omega), (by show 0 + 42 ≤ 42; omega)⟩) hM hS hA (fun r1 M1 H locs hw hM hS => ?_)
  exact m_qret r1 hx hb hr hlocks hM hS (by show 0 + 2 ≤ 2; omega) (by show 0 + 42 ≤ 42; omega) dX9_lentOrTwin_16 (by exact hw)
end
section
theorem in_cnt {i : Int32} {n N : Nat} (h : n ≤ N) (hN : N < 2 ^ 31) (h1 : ¬ i < 0) (h2 : ¬ nI n ≤ i) : vp_in i N := by
  obtain ⟨j, hj, rfl⟩ := nI_of h1
  rw [nI_leI (by omega) hj] at h2
  exact vp_in_nI (by omega) hN
theorem na1 {p q : Prop} (h : ¬ p) : ¬ (p ∧ q) := fun z => h z.1
theorem na2 {p q : Prop} (h : ¬ q) : ¬ (p ∧ q) := fun z => h z.2
theorem in_lit {i : Int32} {N : Nat} (hN : N < 2 ^ 31) (h1 : ¬ i < 0) (h2 : ¬ nI N ≤ i) : vp_in i N := in_cnt (Nat.le_refl N) hN h1 h2
theorem in_X9_instrumentAt_X9 : ∀ w ∈ wsX90, w ∈ wsX9_instrumentAt := by decide +kernel
set_option maxHeartbeats 4000000 in
set_option maxRecDepth 100000 in
theorem c_X9_instrumentAt (l : Launch) (E : mEnv) (M : mMem) (sz : Nat) (x a1 a2 a3 a4 nn nf : Nat) (bd st c2 c3 c4 : Int32) (fi fb ff : Nat → Option Nat) (wt : Nat → UInt64) (i : Int32) (hnn : nn ≤ 12) (g_x : M x = some (mO 7 [.ref a1, .ref a2, .ref a3, .ref a4, .int (nI nn), .int (nI nf), .int bd, .int st, .int c2, .int c3, .int c4])) (g_a1 : M a1 = some (mQ E 4 12 fi))  : Met l yX9_instrumentAt wsX9_instrumentAt ({ frames := 0, cells := 0, slots := 0, locals := 0 }) (mPre E M sz [.ref x, .int i]) (mQq E M sz (fun r u => r = (if ¬ i < 0 ∧ ¬ nI nn ≤ i then fi i.toNatClampNeg else none) ∧ u = M)) (0) (0) (mA M sz) := by
  refine m_met [.ref x, .int i] (by decide) rfl (Nat.le_of_ble_eq_true rfl) ?_
  intro p e s m below meth c ls H eH hx hb hr hts hown hlocks hnm hml hsz hE hM hS hA hl
  have hl : lv_has ls 2 [(0, .ref x), (1, .int i)] := hl
  refine lv_iload_n hx hb dX9_instrumentAt_0 rfl (lv_at hl 1 rfl) ?_
  refine lv_if_lt (tgt := 21) hx hb dX9_instrumentAt_1 (by decide) (fun c_1 => ?_) (fun c_1 => ?_)
  · skip
    refine lv_null hx hb dX9_instrumentAt_21 ?_
    exact m_qret none hx hb hr hlocks hM hS (Nat.le_refl _) (Nat.le_refl _) dX9_instrumentAt_22 (by first | exact ⟨(if_neg (na1 (not_not_intro c_1))).symm, rfl⟩ | exact ⟨(if_pos ⟨c_1, c_9⟩).symm, rfl⟩ | exact ⟨(if_neg (na2 (not_not_intro c_9))).symm, rfl⟩)
  · skip
    refine lv_iload_n hx hb dX9_instrumentAt_4 rfl (lv_at hl 1 rfl) ?_
    refine lv_aload_n hx hb dX9_instrumentAt_5 rfl (lv_at hl 0 rfl) ?_
    refine m_get (ci := 7) (v := .int (nI nn)) (C := RX9) (T := TX9) (N := 11) hx hb hts in_X9_instrumentAt_X9 hown hE hM g_x rfl 4 (by decide) (hts (.fieldLink RX9 35 "CallWays2" "instrumentCount" "I") (by decide +kernel)) (fun _ h9 => h9) rfl dX9_instrumentAt_6 ?_
    refine lv_icmp_ge (tgt := 21) hx hb dX9_instrumentAt_9 (by decide) (fun c_9 => ?_) (fun c_9 => ?_)
    · skip
      refine lv_null hx hb dX9_instrumentAt_21 ?_
      exact m_qret none hx hb hr hlocks hM hS (Nat.le_refl _) (Nat.le_refl _) dX9_instrumentAt_22 (by first | exact ⟨(if_neg (na1 (not_not_intro c_1))).symm, rfl⟩ | exact ⟨(if_pos ⟨c_1, c_9⟩).symm, rfl⟩ | exact ⟨(if_neg (na2 (not_not_intro c_9))).symm, rfl⟩)
    · skip
      refine lv_aload_n hx hb dX9_instrumentAt_12 rfl (lv_at hl 0 rfl) ?_
      refine m_get (ci := 7) (v := .ref a1) (C := RX9) (T := TX9) (N := 11) hx hb hts in_X9_instrumentAt_X9 hown hE hM g_x rfl 0 (by decide) (hts (.fieldLink RX9 11 "CallWays2" "instruments" "[LCallWays2$Instrument;") (by decide +kernel)) (fun _ h9 => h9) rfl dX9_instrumentAt_13 ?_
      refine lv_iload_n hx hb dX9_instrumentAt_16 rfl (lv_at hl 1 rfl) ?_
      refine m_qald (C := "CallWays2$Instrument") (r := fi i.toNatClampNeg) hx hb hE hM 4 g_a1 rfl (in_cnt hnn (by decide) c_1 c_9) rfl dX9_instrumentAt_17 ?_
      refine lv_goto (tgt := 22) hx hb dX9_instrumentAt_18 (by decide) ?_
      exact m_qret (fi i.toNatClampNeg) hx hb hr hlocks hM hS (Nat.le_refl _) (Nat.le_refl _) dX9_instrumentAt_22 (by first | exact ⟨(if_neg (na1 (not_not_intro c_1))).symm, rfl⟩ | exact ⟨(if_pos ⟨c_1, c_9⟩).symm, rfl⟩ | exact ⟨(if_neg (na2 (not_not_intro c_9))).symm, rfl⟩)
theorem in_X9_functionAt_X9 : ∀ w ∈ wsX90, w ∈ wsX9_functionAt := by decide +kernel
set_option maxHeartbeats 4000000 in
set_option maxRecDepth 100000 in
theorem c_X9_functionAt (l : Launch) (E : mEnv) (M : mMem) (sz : Nat) (x a1 a2 a3 a4 nn nf : Nat) (bd st c2 c3 c4 : Int32) (fi fb ff : Nat → Option Nat) (wt : Nat → UInt64) (i : Int32) (hnf : nf ≤ 8) (g_x : M x = some (mO 7 [.ref a1, .ref a2, .ref a3, .ref a4, .int (nI nn), .int (nI nf), .int bd, .int st, .int c2, .int c3, .int c4])) (g_a3 : M a3 = some (mQ E 6 8 ff))  : Met l yX9_functionAt wsX9_functionAt ({ frames := 0, cells := 0, slots := 0, locals := 0 }) (mPre E M sz [.ref x, .int i]) (mQq E M sz (fun r u => r = (if ¬ i < 0 ∧ ¬ nI nf ≤ i then ff i.toNatClampNeg else none) ∧ u = M)) (0) (0) (mA M sz) := by
  refine m_met [.ref x, .int i] (by decide) rfl (Nat.le_of_ble_eq_true rfl) ?_
  intro p e s m below meth c ls H eH hx hb hr hts hown hlocks hnm hml hsz hE hM hS hA hl
  have hl : lv_has ls 2 [(0, .ref x), (1, .int i)] := hl
  refine lv_iload_n hx hb dX9_functionAt_0 rfl (lv_at hl 1 rfl) ?_
  refine lv_if_lt (tgt := 21) hx hb dX9_functionAt_1 (by decide) (fun c_1 => ?_) (fun c_1 => ?_)
  · skip
    refine lv_null hx hb dX9_functionAt_21 ?_
    exact m_qret none hx hb hr hlocks hM hS (Nat.le_refl _) (Nat.le_refl _) dX9_functionAt_22 (by first | exact ⟨(if_neg (na1 (not_not_intro c_1))).symm, rfl⟩ | exact ⟨(if_pos ⟨c_1, c_9⟩).symm, rfl⟩ | exact ⟨(if_neg (na2 (not_not_intro c_9))).symm, rfl⟩)
  · skip
    refine lv_iload_n hx hb dX9_functionAt_4 rfl (lv_at hl 1 rfl) ?_
    refine lv_aload_n hx hb dX9_functionAt_5 rfl (lv_at hl 0 rfl) ?_
    refine m_get (ci := 7) (v := .int (nI nf)) (C := RX9) (T := TX9) (N := 11) hx hb hts in_X9_functionAt_X9 hown hE hM g_x rfl 5 (by decide) (hts (.fieldLink RX9 113 "CallWays2" "functionCount" "I") (by decide +kernel)) (fun _ h9 => h9) rfl dX9_functionAt_6 ?_
    refine lv_icmp_ge (tgt := 21) hx hb dX9_functionAt_9 (by decide) (fun c_9 => ?_) (fun c_9 => ?_)
    · skip
      refine lv_null hx hb dX9_functionAt_21 ?_
      exact m_qret none hx hb hr hlocks hM hS (Nat.le_refl _) (Nat.le_refl _) dX9_functionAt_22 (by first | exact ⟨(if_neg (na1 (not_not_intro c_1))).symm, rfl⟩ | exact ⟨(if_pos ⟨c_1, c_9⟩).symm, rfl⟩ | exact ⟨(if_neg (na2 (not_not_intro c_9))).symm, rfl⟩)
    · skip
      refine lv_aload_n hx hb dX9_functionAt_12 rfl (lv_at hl 0 rfl) ?_
      refine m_get (ci := 7) (v := .ref a3) (C := RX9) (T := TX9) (N := 11) hx hb hts in_X9_functionAt_X9 hown hE hM g_x rfl 2 (by decide) (hts (.fieldLink RX9 23 "CallWays2" "functions" "[LCallWays2$Function;") (by decide +kernel)) (fun _ h9 => h9) rfl dX9_functionAt_13 ?_
      refine lv_iload_n hx hb dX9_functionAt_16 rfl (lv_at hl 1 rfl) ?_
      refine m_qald (C := "CallWays2$Function") (r := ff i.toNatClampNeg) hx hb hE hM 6 g_a3 rfl (in_cnt hnf (by decide) c_1 c_9) rfl dX9_functionAt_17 ?_
      refine lv_goto (tgt := 22) hx hb dX9_functionAt_18 (by decide) ?_
      exact m_qret (ff i.toNatClampNeg) hx hb hr hlocks hM hS (Nat.le_refl _) (Nat.le_refl _) dX9_functionAt_22 (by first | exact ⟨(if_neg (na1 (not_not_intro c_1))).symm, rfl⟩ | exact ⟨(if_pos ⟨c_1, c_9⟩).symm, rfl⟩ | exact ⟨(if_neg (na2 (not_not_intro c_9))).symm, rfl⟩)
theorem in_X9_heldBy_X9 : ∀ w ∈ wsX90, w ∈ wsX9_heldBy := by decide +kernel
set_option maxHeartbeats 4000000 in
set_option maxRecDepth 100000 in
theorem c_X9_heldBy (l : Launch) (E : mEnv) (M : mMem) (sz : Nat) (x a1 a2 a3 a4 nn nf : Nat) (bd st c2 c3 c4 : Int32) (fi fb ff : Nat → Option Nat) (wt : Nat → UInt64) (b : Int32) (g_x : M x = some (mO 7 [.ref a1, .ref a2, .ref a3, .ref a4, .int (nI nn), .int (nI nf), .int bd, .int st, .int c2, .int c3, .int c4])) (g_a2 : M a2 = some (mQ E 5 10 fb))  : Met l yX9_heldBy wsX9_heldBy ({ frames := 1, cells := 0, slots := 0, locals := 20 }) (mPre E M sz [.ref x, .int b]) (mQq E M sz (fun r u => r = (if ¬ b < 0 ∧ ¬ 10 ≤ b then fb b.toNatClampNeg else none) ∧ u = M)) (0) (0) (mA M sz) := by
  refine m_met [.ref x, .int b] (by decide) rfl (Nat.le_of_ble_eq_true rfl) ?_
  intro p e s m below meth c ls H eH hx hb hr hts hown hlocks hnm hml hsz hE hM hS hA hl
  have hl : lv_has ls 2 [(0, .ref x), (1, .int b)] := hl
  refine lv_iload_n hx hb dX9_heldBy_0 rfl (lv_at hl 1 rfl) ?_
  refine m_calli (va_runS (As := [.int b]) (rest := []) ⟨hx, hb, hml, hown, hts⟩ (c_X9_isBlock l E M H.size b) (va_cwS 1 hts gX9_heldBy_X9_isBlock rfl rfl rfl (by decide +kernel) ⟨Nat.le_of_ble_eq_true rfl, Nat.le_of_ble_eq_true rfl⟩) (m_preS hE hM) rfl rfl hl.1 rfl (lv_room (Nat.le_of_ble_eq_true rfl)) dX9_heldBy_1 ⟨Nat.le_of_ble_eq_true rfl, Nat.le_of_ble_eq_true rfl⟩) hM hS hA (fun r1 u H locs hw hM hS => ?_)
  obtain ⟨e_r1, eu⟩ := hw
  rw [eu] at hM
  subst e_r1
  refine lv_if_eq (tgt := 16) hx hb dX9_heldBy_4 (by decide) (fun c_4 => ?_) (fun c_4 => ?_)
  · skip
    rw [bI_eq] at c_4
    refine lv_null hx hb dX9_heldBy_16 ?_
    exact m_qret none hx hb hr hlocks hM hS (Nat.le_refl _) (Nat.le_refl _) dX9_heldBy_17 (by first | exact ⟨(if_pos c_4).symm, rfl⟩ | exact ⟨(if_neg c_4).symm, rfl⟩)
  · skip
    rw [bI_ne] at c_4
    refine lv_aload_n hx hb dX9_heldBy_7 rfl (lv_at hl 0 rfl) ?_
    refine m_get (ci := 7) (v := .ref a2) (C := RX9) (T := TX9) (N := 11) hx hb hts in_X9_heldBy_X9 hown hE hM g_x rfl 1 (by decide) (hts (.fieldLink RX9 17 "CallWays2" "blocks" "[LCallWays2$Samples;") (by decide +kernel)) (fun _ h9 => h9) rfl dX9_heldBy_8 ?_
    refine lv_iload_n hx hb dX9_heldBy_11 rfl (lv_at hl 1 rfl) ?_
    refine m_qald (C := "CallWays2$Samples") (r := fb b.toNatClampNeg) hx hb hE hM 5 g_a2 rfl (in_lit (N := 10) (by decide) c_4.1 c_4.2) rfl dX9_heldBy_12 ?_
    refine lv_goto (tgt := 17) hx hb dX9_heldBy_13 (by decide) ?_
    exact m_qret (fb b.toNatClampNeg) hx hb hr hlocks hM hS (Nat.le_refl _) (Nat.le_refl _) dX9_heldBy_17 (by first | exact ⟨(if_pos c_4).symm, rfl⟩ | exact ⟨(if_neg c_4).symm, rfl⟩)
def sPlace (held : Option Nat) (n : Nat) (b i : Int32) : Int32 := if ¬ b < 0 ∧ ¬ 10 ≤ b then (if held = none then -5 else if ¬ i < 0 ∧ ¬ nI n ≤ i then 0 else -7) else -1
set_option maxHeartbeats 4000000 in
set_option maxRecDepth 100000 in
theorem c_X9_place_b (l : Launch) (E : mEnv) (M : mMem) (sz : Nat) (x a1 a2 a3 a4 nn nf : Nat) (bd st c2 c3 c4 : Int32) (fi fb ff : Nat → Option Nat) (wt : Nat → UInt64) (b i : Int32) (hb0 : ¬ (¬ b < 0 ∧ ¬ 10 ≤ b)) (g_x : M x = some (mO 7 [.ref a1, .ref a2, .ref a3, .ref a4, .int (nI nn), .int (nI nf), .int bd, .int st, .int c2, .int c3, .int c4])) (g_a2 : M a2 = some (mQ E 5 10 fb))  : Met l yX9_againstPlace wsX9_againstPlace ({ frames := 1, cells := 0, slots := 0, locals := 20 }) (mPre E M sz [.ref x, .int b, .int i]) (mQi E M sz (fun r u => r = -1 ∧ u = M)) (0) (0) (mA M sz) := by
  refine m_met [.ref x, .int b, .int i] (by decide) rfl (Nat.le_of_ble_eq_true rfl) ?_
  intro p e s m below meth c ls H eH hx hb hr hts hown hlocks hnm hml hsz hE hM hS hA hl
  have hl : lv_has ls 4 [(0, .ref x), (1, .int b), (2, .int i)] := hl
  refine lv_iload_n hx hb dX9_againstPlace_0 rfl (lv_at hl 1 rfl) ?_
  refine m_calli (va_runS (As := [.int b]) (rest := []) ⟨hx, hb, hml, hown, hts⟩ (c_X9_isBlock l E M H.size b) (va_cwS 1 hts gX9_againstPlace_X9_isBlock rfl rfl rfl (by decide +kernel) ⟨Nat.le_of_ble_eq_true rfl, Nat.le_of_ble_eq_true rfl⟩) (m_preS hE hM) rfl rfl hl.1 rfl (lv_room (Nat.le_of_ble_eq_true rfl)) dX9_againstPlace_1 ⟨Nat.le_of_ble_eq_true rfl, Nat.le_of_ble_eq_true rfl⟩) hM hS hA (fun r1 u H locs hw hM hS => ?_)
  obtain ⟨e_r1, eu⟩ := hw
  rw [eu] at hM
  subst e_r1
  refine lv_if_ne (tgt := 9) hx hb dX9_againstPlace_4 (by decide) (fun h9 => False.elim (by revert h9; exact (fun h => hb0 (bI_ne.mp h)))) (fun _ => ?_)
  refine lv_iconst (v := -1) hx hb dX9_againstPlace_7 (by decide) ?_
  exact m_iret hx hb hr hlocks hM hS (Nat.le_refl _) (Nat.le_refl _) dX9_againstPlace_8 (by exact ⟨rfl, rfl⟩)
theorem in_X9_againstPlace_X9 : ∀ w ∈ wsX90, w ∈ wsX9_againstPlace := by decide +kernel
set_option maxHeartbeats 4000000 in
set_option maxRecDepth 100000 in
theorem c_X9_place_n (l : Launch) (E : mEnv) (M : mMem) (sz : Nat) (x a1 a2 a3 a4 nn nf : Nat) (bd st c2 c3 c4 : Int32) (fi fb ff : Nat → Option Nat) (wt : Nat → UInt64) (b i : Int32) (hb0 : ¬ b < 0 ∧ ¬ 10 ≤ b) (hq : fb b.toNatClampNeg = none) (g_x : M x = some (mO 7 [.ref a1, .ref a2, .ref a3, .ref a4, .int (nI nn), .int (nI nf), .int bd, .int st, .int c2, .int c3, .int c4])) (g_a2 : M a2 = some (mQ E 5 10 fb))  : Met l yX9_againstPlace wsX9_againstPlace ({ frames := 1, cells := 0, slots := 0, locals := 20 }) (mPre E M sz [.ref x, .int b, .int i]) (mQi E M sz (fun r u => r = -5 ∧ u = M)) (0) (0) (mA M sz) := by
  refine m_met [.ref x, .int b, .int i] (by decide) rfl (Nat.le_of_ble_eq_true rfl) ?_
  intro p e s m below meth c ls H eH hx hb hr hts hown hlocks hnm hml hsz hE hM hS hA hl
  have hl : lv_has ls 4 [(0, .ref x), (1, .int b), (2, .int i)] := hl
  refine lv_iload_n hx hb dX9_againstPlace_0 rfl (lv_at hl 1 rfl) ?_
  refine m_calli (va_runS (As := [.int b]) (rest := []) ⟨hx, hb, hml, hown, hts⟩ (c_X9_isBlock l E M H.size b) (va_cwS 1 hts gX9_againstPlace_X9_isBlock rfl rfl rfl (by decide +kernel) ⟨Nat.le_of_ble_eq_true rfl, Nat.le_of_ble_eq_true rfl⟩) (m_preS hE hM) rfl rfl hl.1 rfl (lv_room (Nat.le_of_ble_eq_true rfl)) dX9_againstPlace_1 ⟨Nat.le_of_ble_eq_true rfl, Nat.le_of_ble_eq_true rfl⟩) hM hS hA (fun r1 u H locs hw hM hS => ?_)
  obtain ⟨e_r1, eu⟩ := hw
  rw [eu] at hM
  subst e_r1
  refine lv_if_ne (tgt := 9) hx hb dX9_againstPlace_4 (by decide) (fun _ => ?_) (fun h9 => False.elim (by revert h9; exact (fun h => bI_ne.mpr hb0 h)))
  refine lv_aload_n hx hb dX9_againstPlace_9 rfl (lv_at hl 0 rfl) ?_
  refine m_get (ci := 7) (v := .ref a2) (C := RX9) (T := TX9) (N := 11) hx hb hts in_X9_againstPlace_X9 hown hE hM g_x rfl 1 (by decide) (hts (.fieldLink RX9 17 "CallWays2" "blocks" "[LCallWays2$Samples;") (by decide +kernel)) (fun _ h9 => h9) rfl dX9_againstPlace_10 ?_
  refine lv_iload_n hx hb dX9_againstPlace_13 rfl (lv_at hl 1 rfl) ?_
  refine m_qald (C := "CallWays2$Samples") (r := none) hx hb hE hM 5 g_a2 rfl (in_lit (N := 10) (by decide) hb0.1 hb0.2) hq dX9_againstPlace_14 ?_
  show W _ _ _ _ _ _ _ _ _ _ _ _ _ _ _ (F0 m 15 ls [.null])
  refine lv_astore_nN (lv' := [(3, .null), (0, .ref x), (1, .int b), (2, .int i)]) hx hb dX9_againstPlace_15 rfl hl (by decide) rfl (fun ls hl => ?_)
  refine lv_aload_nN hx hb dX9_againstPlace_16 rfl (lv_at hl 0 rfl) ?_
  refine lv_ifnonnullN hx hb dX9_againstPlace_17 ?_
  refine lv_bipush (v := -5) hx hb dX9_againstPlace_20 (by decide) ?_
  exact m_iret hx hb hr hlocks hM hS (Nat.le_refl _) (Nat.le_refl _) dX9_againstPlace_22 (by exact ⟨rfl, rfl⟩)
set_option maxHeartbeats 4000000 in
set_option maxRecDepth 100000 in
theorem c_X9_place_s (l : Launch) (E : mEnv) (M : mMem) (sz : Nat) (x a1 a2 a3 a4 nn nf : Nat) (bd st c2 c3 c4 : Int32) (fi fb ff : Nat → Option Nat) (wt : Nat → UInt64) (h0 v n : Nat) (lane : Int32) (f : Nat → UInt64) (b i : Int32) (hb0 : ¬ b < 0 ∧ ¬ 10 ≤ b) (hq : fb b.toNatClampNeg = some h0) (g_x : M x = some (mO 7 [.ref a1, .ref a2, .ref a3, .ref a4, .int (nI nn), .int (nI nf), .int bd, .int st, .int c2, .int c3, .int c4])) (g_a2 : M a2 = some (mQ E 5 10 fb)) (g_h0 : M h0 = some (mO 5 [.int lane, .ref v])) (g_v : M v = some (mDb E n f))  : Met l yX9_againstPlace wsX9_againstPlace ({ frames := 1, cells := 0, slots := 0, locals := 21 }) (mPre E M sz [.ref x, .int b, .int i]) (mQi E M sz (fun r u => r = (if ¬ i < 0 ∧ ¬ nI n ≤ i then 0 else -7) ∧ u = M)) (0) (0) (mA M sz) := by
  refine m_met [.ref x, .int b, .int i] (by decide) rfl (Nat.le_of_ble_eq_true rfl) ?_
  intro p e s m below meth c ls H eH hx hb hr hts hown hlocks hnm hml hsz hE hM hS hA hl
  have hl : lv_has ls 4 [(0, .ref x), (1, .int b), (2, .int i)] := hl
  refine lv_iload_n hx hb dX9_againstPlace_0 rfl (lv_at hl 1 rfl) ?_
  refine m_calli (va_runS (As := [.int b]) (rest := []) ⟨hx, hb, hml, hown, hts⟩ (c_X9_isBlock l E M H.size b) (va_cwS 1 hts gX9_againstPlace_X9_isBlock rfl rfl rfl (by decide +kernel) ⟨Nat.le_of_ble_eq_true rfl, Nat.le_of_ble_eq_true rfl⟩) (m_preS hE hM) rfl rfl hl.1 rfl (lv_room (Nat.le_of_ble_eq_true rfl)) dX9_againstPlace_1 ⟨Nat.le_of_ble_eq_true rfl, Nat.le_of_ble_eq_true rfl⟩) hM hS hA (fun r1 u H locs hw hM hS => ?_)
  obtain ⟨e_r1, eu⟩ := hw
  rw [eu] at hM
  subst e_r1
  refine lv_if_ne (tgt := 9) hx hb dX9_againstPlace_4 (by decide) (fun _ => ?_) (fun h9 => False.elim (by revert h9; exact (fun h => bI_ne.mpr hb0 h)))
  refine lv_aload_n hx hb dX9_againstPlace_9 rfl (lv_at hl 0 rfl) ?_
  refine m_get (ci := 7) (v := .ref a2) (C := RX9) (T := TX9) (N := 11) hx hb hts in_X9_againstPlace_X9 hown hE hM g_x rfl 1 (by decide) (hts (.fieldLink RX9 17 "CallWays2" "blocks" "[LCallWays2$Samples;") (by decide +kernel)) (fun _ h9 => h9) rfl dX9_againstPlace_10 ?_
  refine lv_iload_n hx hb dX9_againstPlace_13 rfl (lv_at hl 1 rfl) ?_
  refine m_qald (C := "CallWays2$Samples") (r := some h0) hx hb hE hM 5 g_a2 rfl (in_lit (N := 10) (by decide) hb0.1 hb0.2) hq dX9_againstPlace_14 ?_
  show W _ _ _ _ _ _ _ _ _ _ _ _ _ _ _ (F0 m 15 ls [.ref h0])
  refine lv_astore_n (lv' := [(3, .ref h0), (0, .ref x), (1, .int b), (2, .int i)]) hx hb dX9_againstPlace_15 rfl hl (by decide) rfl (fun ls hl => ?_)
  refine lv_aload_n hx hb dX9_againstPlace_16 rfl (lv_at hl 0 rfl) ?_
  refine lv_ifnonnull (tgt := 23) hx hb dX9_againstPlace_17 (by decide) ?_
  refine lv_aload_n hx hb dX9_againstPlace_23 rfl (lv_at hl 0 rfl) ?_
  refine lv_iload_n hx hb dX9_againstPlace_24 rfl (lv_at hl 3 rfl) ?_
  refine m_calli (va_runV (As := [.int i]) (rest := []) ⟨hx, hb, hml, hown, hts⟩ (c_X7_has l E M H.size h0 v n lane f i g_h0 g_v) (cwV 1 hts gX9_againstPlace_X7_has rfl rfl rfl (by decide +kernel) ⟨Nat.le_of_ble_eq_true rfl, Nat.le_of_ble_eq_true rfl⟩) (m_preV hE hM g_h0 rfl) rfl rfl hl.1 rfl (lv_room (Nat.le_of_ble_eq_true rfl)) dX9_againstPlace_25 ⟨Nat.le_of_ble_eq_true rfl, Nat.le_of_ble_eq_true rfl⟩) hM hS hA (fun r2 u H locs hw hM hS => ?_)
  obtain ⟨e_r2, eu⟩ := hw
  rw [eu] at hM
  subst e_r2
  refine lv_if_eq (tgt := 35) hx hb dX9_againstPlace_28 (by decide) (fun c_28 => ?_) (fun c_28 => ?_)
  · skip
    rw [bI_eq] at c_28
    refine lv_bipush (v := -7) hx hb dX9_againstPlace_35 (by decide) ?_
    exact m_iret hx hb hr hlocks hM hS (Nat.le_refl _) (Nat.le_refl _) dX9_againstPlace_37 (by first | exact ⟨(if_pos c_28).symm, rfl⟩ | exact ⟨(if_neg c_28).symm, rfl⟩)
  · skip
    rw [bI_ne] at c_28
    refine lv_iconst (v := 0) hx hb dX9_againstPlace_31 (by decide) ?_
    refine lv_goto (tgt := 37) hx hb dX9_againstPlace_32 (by decide) ?_
    exact m_iret hx hb hr hlocks hM hS (Nat.le_refl _) (Nat.le_refl _) dX9_againstPlace_37 (by first | exact ⟨(if_pos c_28).symm, rfl⟩ | exact ⟨(if_neg c_28).symm, rfl⟩)
def sInto (lane : Int32) (n : Nat) (bd way fr k : Int32) : Int32 := if way = 1 ∧ ¬ lane = bd then -6 else if k < 0 then -8 else if ¬ fr < 0 ∧ ¬ k < 0 ∧ ¬ nI n < k ∧ ¬ nI n - k < fr then 0 else -7
set_option maxHeartbeats 4000000 in
set_option maxRecDepth 100000 in
theorem c_X9_into_n (l : Launch) (E : mEnv) (M : mMem) (sz : Nat) (x : Nat) (way fr k : Int32)   : Met l yX9_againstBlock wsX9_againstBlock ({ frames := 0, cells := 0, slots := 0, locals := 0 }) (mPre E M sz [.ref x, .null, .int way, .int fr, .int k]) (mQi E M sz (fun r u => r = -5 ∧ u = M)) (0) (0) (mA M sz) := by
  refine m_met [.ref x, .null, .int way, .int fr, .int k] (by decide) rfl (Nat.le_of_ble_eq_true rfl) ?_
  intro p e s m below meth c ls H eH hx hb hr hts hown hlocks hnm hml hsz hE hM hS hA hl
  have hl : lv_has ls 5 [(0, .ref x), (1, .null), (2, .int way), (3, .int fr), (4, .int k)] := hl
  refine lv_aload_nN hx hb dX9_againstBlock_0 rfl (lv_at hl 1 rfl) ?_
  refine lv_ifnonnullN hx hb dX9_againstBlock_1 ?_
  refine lv_bipush (v := -5) hx hb dX9_againstBlock_4 (by decide) ?_
  exact m_iret hx hb hr hlocks hM hS (Nat.le_refl _) (Nat.le_refl _) dX9_againstBlock_6 (by exact ⟨rfl, rfl⟩)
theorem in_X9_againstBlock_X7 : ∀ w ∈ wsX70, w ∈ wsX9_againstBlock := by decide +kernel
theorem in_X9_againstBlock_X9 : ∀ w ∈ wsX90, w ∈ wsX9_againstBlock := by decide +kernel
set_option maxHeartbeats 4000000 in
set_option maxRecDepth 100000 in
theorem c_X9_into_s (l : Launch) (E : mEnv) (M : mMem) (sz : Nat) (x a1 a2 a3 a4 nn nf : Nat) (bd st c2 c3 c4 : Int32) (fi fb ff : Nat → Option Nat) (wt : Nat → UInt64) (h0 v n : Nat) (lane : Int32) (f : Nat → UInt64) (way fr k : Int32) (g_x : M x = some (mO 7 [.ref a1, .ref a2, .ref a3, .ref a4, .int (nI nn), .int (nI nf), .int bd, .int st, .int c2, .int c3, .int c4])) (g_h0 : M h0 = some (mO 5 [.int lane, .ref v])) (g_v : M v = some (mDb E n f))  : Met l yX9_againstBlock wsX9_againstBlock ({ frames := 1, cells := 0, slots := 0, locals := 22 }) (mPre E M sz [.ref x, .ref h0, .int way, .int fr, .int k]) (mQi E M sz (fun r u => r = sInto lane n bd way fr k ∧ u = M)) (0) (0) (mA M sz) := by
  refine m_met [.ref x, .ref h0, .int way, .int fr, .int k] (by decide) rfl (Nat.le_of_ble_eq_true rfl) ?_
  intro p e s m below meth c ls H eH hx hb hr hts hown hlocks hnm hml hsz hE hM hS hA hl
  have hl : lv_has ls 5 [(0, .ref x), (1, .ref h0), (2, .int way), (3, .int fr), (4, .int k)] := hl
  refine lv_aload_n hx hb dX9_againstBlock_0 rfl (lv_at hl 1 rfl) ?_
  refine lv_ifnonnull (tgt := 7) hx hb dX9_againstBlock_1 (by decide) ?_
  refine lv_iload_n hx hb dX9_againstBlock_7 rfl (lv_at hl 2 rfl) ?_
  refine lv_iconst (v := 1) hx hb dX9_againstBlock_8 (by decide) ?_
  refine lv_icmp_ne (tgt := 26) hx hb dX9_againstBlock_9 (by decide) (fun c_9 => ?_) (fun c_9 => ?_)
  · skip
    refine lv_iload hx hb dX9_againstBlock_26 (lv_at hl 4 rfl) ?_
    refine lv_if_ge (tgt := 34) hx hb dX9_againstBlock_28 (by decide) (fun c_28 => ?_) (fun c_28 => ?_)
    · skip
      refine lv_aload_n hx hb dX9_againstBlock_34 rfl (lv_at hl 1 rfl) ?_
      refine lv_iload_n hx hb dX9_againstBlock_35 rfl (lv_at hl 3 rfl) ?_
      refine lv_iload hx hb dX9_againstBlock_36 (lv_at hl 4 rfl) ?_
      refine m_calli (va_runV (As := [.int fr, .int k]) (rest := []) ⟨hx, hb, hml, hown, hts⟩ (c_X7_spans l E M H.size h0 v n lane f fr k g_h0 g_v) (cwV 2 hts gX9_againstBlock_X7_spans rfl rfl rfl (by decide +kernel) ⟨Nat.le_of_ble_eq_true rfl, Nat.le_of_ble_eq_true rfl⟩) (m_preV hE hM g_h0 rfl) rfl rfl hl.1 rfl (lv_room (Nat.le_of_ble_eq_true rfl)) dX9_againstBlock_38 ⟨Nat.le_of_ble_eq_true rfl, Nat.le_of_ble_eq_true rfl⟩) hM hS hA (fun r2 u H locs hw hM hS => ?_)
      obtain ⟨e_r2, eu⟩ := hw
      rw [eu] at hM
      subst e_r2
      refine lv_if_eq (tgt := 48) hx hb dX9_againstBlock_41 (by decide) (fun c_41 => ?_) (fun c_41 => ?_)
      · skip
        rw [bI_eq] at c_41
        refine lv_bipush (v := -7) hx hb dX9_againstBlock_48 (by decide) ?_
        exact m_iret hx hb hr hlocks hM hS (Nat.le_refl _) (Nat.le_refl _) dX9_againstBlock_50 (by refine ⟨?_, rfl⟩; unfold sInto; rw [if_neg (fun h => by first | exact c_9 h.1 | exact h.2 c_20), if_neg (Int32.not_lt.mpr c_28)]; first | exact (if_pos c_41).symm | exact (if_neg c_41).symm)
      · skip
        rw [bI_ne] at c_41
        refine lv_iconst (v := 0) hx hb dX9_againstBlock_44 (by decide) ?_
        refine lv_goto (tgt := 50) hx hb dX9_againstBlock_45 (by decide) ?_
        exact m_iret hx hb hr hlocks hM hS (Nat.le_refl _) (Nat.le_refl _) dX9_againstBlock_50 (by refine ⟨?_, rfl⟩; unfold sInto; rw [if_neg (fun h => by first | exact c_9 h.1 | exact h.2 c_20), if_neg (Int32.not_lt.mpr c_28)]; first | exact (if_pos c_41).symm | exact (if_neg c_41).symm)
    · skip
      refine lv_bipush (v := -8) hx hb dX9_againstBlock_31 (by decide) ?_
      exact m_iret hx hb hr hlocks hM hS (Nat.le_refl _) (Nat.le_refl _) dX9_againstBlock_33 (by refine ⟨?_, rfl⟩; unfold sInto; rw [if_neg (fun h => by first | exact c_9 h.1 | exact h.2 c_20), if_pos (Int32.not_le.mp c_28)])
  · skip
    refine lv_aload_n hx hb dX9_againstBlock_12 rfl (lv_at hl 1 rfl) ?_
    refine m_get (ci := 5) (v := .int lane) (C := RX7) (T := TX7) (N := 2) hx hb hts in_X9_againstBlock_X7 hown hE hM g_h0 rfl 0 (by decide) (hts (.fieldLink RX9 85 "CallWays2$Samples" "lane" "I") (by decide +kernel)) (fun _ h9 => h9) rfl dX9_againstBlock_13 ?_
    refine lv_aload_n hx hb dX9_againstBlock_16 rfl (lv_at hl 0 rfl) ?_
    refine m_get (ci := 7) (v := .int bd) (C := RX9) (T := TX9) (N := 11) hx hb hts in_X9_againstBlock_X9 hown hE hM g_x rfl 6 (by decide) (hts (.fieldLink RX9 31 "CallWays2" "boundLane" "I") (by decide +kernel)) (fun _ h9 => h9) rfl dX9_againstBlock_17 ?_
    refine lv_icmp_eq (tgt := 26) hx hb dX9_againstBlock_20 (by decide) (fun c_20 => ?_) (fun c_20 => ?_)
    · skip
      refine lv_iload hx hb dX9_againstBlock_26 (lv_at hl 4 rfl) ?_
      refine lv_if_ge (tgt := 34) hx hb dX9_againstBlock_28 (by decide) (fun c_28 => ?_) (fun c_28 => ?_)
      · skip
        refine lv_aload_n hx hb dX9_againstBlock_34 rfl (lv_at hl 1 rfl) ?_
        refine lv_iload_n hx hb dX9_againstBlock_35 rfl (lv_at hl 3 rfl) ?_
        refine lv_iload hx hb dX9_againstBlock_36 (lv_at hl 4 rfl) ?_
        refine m_calli (va_runV (As := [.int fr, .int k]) (rest := []) ⟨hx, hb, hml, hown, hts⟩ (c_X7_spans l E M H.size h0 v n lane f fr k g_h0 g_v) (cwV 2 hts gX9_againstBlock_X7_spans rfl rfl rfl (by decide +kernel) ⟨Nat.le_of_ble_eq_true rfl, Nat.le_of_ble_eq_true rfl⟩) (m_preV hE hM g_h0 rfl) rfl rfl hl.1 rfl (lv_room (Nat.le_of_ble_eq_true rfl)) dX9_againstBlock_38 ⟨Nat.le_of_ble_eq_true rfl, Nat.le_of_ble_eq_true rfl⟩) hM hS hA (fun r2 u H locs hw hM hS => ?_)
        obtain ⟨e_r2, eu⟩ := hw
        rw [eu] at hM
        subst e_r2
        refine lv_if_eq (tgt := 48) hx hb dX9_againstBlock_41 (by decide) (fun c_41 => ?_) (fun c_41 => ?_)
        · skip
          rw [bI_eq] at c_41
          refine lv_bipush (v := -7) hx hb dX9_againstBlock_48 (by decide) ?_
          exact m_iret hx hb hr hlocks hM hS (Nat.le_refl _) (Nat.le_refl _) dX9_againstBlock_50 (by refine ⟨?_, rfl⟩; unfold sInto; rw [if_neg (fun h => by first | exact c_9 h.1 | exact h.2 c_20), if_neg (Int32.not_lt.mpr c_28)]; first | exact (if_pos c_41).symm | exact (if_neg c_41).symm)
        · skip
          rw [bI_ne] at c_41
          refine lv_iconst (v := 0) hx hb dX9_againstBlock_44 (by decide) ?_
          refine lv_goto (tgt := 50) hx hb dX9_againstBlock_45 (by decide) ?_
          exact m_iret hx hb hr hlocks hM hS (Nat.le_refl _) (Nat.le_refl _) dX9_againstBlock_50 (by refine ⟨?_, rfl⟩; unfold sInto; rw [if_neg (fun h => by first | exact c_9 h.1 | exact h.2 c_20), if_neg (Int32.not_lt.mpr c_28)]; first | exact (if_pos c_41).symm | exact (if_neg c_41).symm)
      · skip
        refine lv_bipush (v := -8) hx hb dX9_againstBlock_31 (by decide) ?_
        exact m_iret hx hb hr hlocks hM hS (Nat.le_refl _) (Nat.le_refl _) dX9_againstBlock_33 (by refine ⟨?_, rfl⟩; unfold sInto; rw [if_neg (fun h => by first | exact c_9 h.1 | exact h.2 c_20), if_pos (Int32.not_le.mp c_28)])
    · skip
      refine lv_bipush (v := -6) hx hb dX9_againstBlock_23 (by decide) ?_
      exact m_iret hx hb hr hlocks hM hS (Nat.le_refl _) (Nat.le_refl _) dX9_againstBlock_25 (by refine ⟨?_, rfl⟩; unfold sInto; rw [if_pos ⟨c_9, c_20⟩])
end
section
/-! THE STATE: a value for both sides. An instrument: its class's number, knobs, pitch, on, phase, level, its table's row. A row: lane, how many samples, the samples (as the class holds them). -/
abbrev sIn : Type := Nat × (Nat → Int32) × Int32 × Int32 × Int32 × UInt64 × Option Nat
abbrev sRw : Type := Int32 × Nat × (Nat → UInt64)
abbrev Sg : Type := Nat × (Nat → sIn) × Nat × (Nat → Int32 × Int32) × (Nat → Option Nat) × (Nat → sRw) × Int32 × Int32 × Int32 × Int32 × Int32
def live (nn : Nat) (ins : Nat → sIn) (bk : Nat → Option Nat) (r : Nat) : Prop := (∃ k, k < 10 ∧ bk k = some r) ∨ (∃ i, i < nn ∧ (ins i).2.2.2.2.2.2 = some r)
abbrev vB (b : Int32) : Prop := ¬ b < 0 ∧ ¬ 10 ≤ b
abbrev vI (nn : Nat) (i : Int32) : Prop := ¬ i < 0 ∧ ¬ nI nn ≤ i
/-- what holds of every state that is reached -/
def Inv (σ : Sg) : Prop := match σ with
  | (nn, ins, nf, fn, bk, rw, _) => nn ≤ 12 ∧ nf ≤ 8 ∧ (∀ i, i < nn → ∀ ci kf pi on ph le tb, ins i = (ci, kf, pi, on, ph, le, tb) → insK ci ∧ dL le ∧ (on = 0 ∨ on = 1)) ∧ (∀ i, nn ≤ i → (ins i).2 = ((fun _ => 0), 0, 0, 0, 0, none)) ∧ (∀ r, live nn ins bk r → r < 24) ∧ (∀ r, live nn ins bk r → ∀ lane n f, rw r = (lane, n, f) → n ≤ 40 ∧ (lane = 0 ∨ lane = 1 ∨ lane = 2 ∨ lane = 3) ∧ ∀ j, j < n → vOK lane (f j)) ∧ (∀ i, i < nf → 0 ≤ (fn i).1 ∧ (fn i).1 ≤ 5)
/-- the instruments' cells -/
def pIns (E : mEnv) (M : mMem) (nn : Nat) (ins : Nat → sIn) (fi : Nat → Option Nat) (ia ib ra : Nat → Nat) (fl : Nat → Int32) : Prop := ∀ i, i < nn → ∀ ci kf pi on ph le tb, ins i = (ci, kf, pi, on, ph, le, tb) → fi i = some (ia i) ∧ M (ia i) = some (mO ci [.ref (ib i), .int pi, .int on, .int ph, .double le, va_rf (tb.map ra), .int (fl i)]) ∧ M (ib i) = some (mI E 4 kf)
def pFun (M : mMem) (nf : Nat) (fn : Nat → Int32 × Int32) (ff : Nat → Option Nat) (fa : Nat → Nat) : Prop := ∀ i, i < nf → ff i = some (fa i) ∧ M (fa i) = some (mO 2 [.int (fn i).1, .double (FP.i2d (fn i).2)])
def pRow (E : mEnv) (M : mMem) (LV : Nat → Prop) (rw : Nat → sRw) (ra rb : Nat → Nat) (a4 : Nat) : Prop := ∀ r, LV r → ∀ lane n f, rw r = (lane, n, f) → M (ra r) = some (mO 5 [.int lane, .ref (rb r)]) ∧ M (rb r) = some (mDb E n f) ∧ rb r ≠ a4
def pInj (nn : Nat) (LV : Nat → Prop) (ia ib ra rb : Nat → Nat) : Prop := (∀ i j, i < nn → j < nn → ia i = ia j → i = j) ∧ (∀ i j, i < nn → j < nn → ib i = ib j → i = j) ∧ (∀ r q, LV r → LV q → ra r = ra q → r = q) ∧ (∀ r q, LV r → LV q → rb r = rb q → r = q)
def pNo (NO : Nat → Prop) (x a1 a2 a3 a4 nn nf : Nat) (LV : Nat → Prop) (ia ib fa ra rb : Nat → Nat) : Prop := (¬ NO x ∧ ¬ NO a1 ∧ ¬ NO a2 ∧ ¬ NO a3 ∧ ¬ NO a4) ∧ (∀ i, i < nn → ¬ NO (ia i) ∧ ¬ NO (ib i)) ∧ (∀ i, i < nf → ¬ NO (fa i)) ∧ (∀ r, LV r → ¬ NO (ra r) ∧ ¬ NO (rb r))
abbrev xCell (a1 a2 a3 a4 nn nf : Nat) (bd st c2 c3 c4 : Int32) : va_E := mO 7 [.ref a1, .ref a2, .ref a3, .ref a4, .int (nI nn), .int (nI nf), .int bd, .int st, .int c2, .int c3, .int c4]
/-- the class's cells hold the state, with these addresses -/
def cR (E : mEnv) (M : mMem) (NO : Nat → Prop) (x : Nat) (σ : Sg) (a1 a2 a3 a4 : Nat) (fi fb ff : Nat → Option Nat) (wt : Nat → UInt64) (ia ib fa ra rb : Nat → Nat) (fl : Nat → Int32) (LV : Nat → Prop) : Prop := match σ with
  | (nn, ins, nf, fn, bk, rw, bd, st, c2, c3, c4) => (M x = some (xCell a1 a2 a3 a4 nn nf bd st c2 c3 c4) ∧ M a1 = some (mQ E 4 12 fi) ∧ M a2 = some (mQ E 5 10 fb) ∧ M a3 = some (mQ E 6 8 ff) ∧ M a4 = some (mDb E 40 wt)) ∧ pIns E M nn ins fi ia ib ra fl ∧ pFun M nf fn ff fa ∧ (∀ k, k < 10 → fb k = (bk k).map ra) ∧ (∀ r, live nn ins bk r → LV r) ∧ pRow E M LV rw ra rb a4 ∧ pInj nn LV ia ib ra rb ∧ pNo NO x a1 a2 a3 a4 nn nf LV ia ib fa ra rb
def cRep (E : mEnv) (M : mMem) (NO : Nat → Prop) (x : Nat) (σ : Sg) : Prop := ∃ (a1 a2 a3 a4 : Nat) (fi fb ff : Nat → Option Nat) (wt : Nat → UInt64) (ia ib fa ra rb : Nat → Nat) (fl : Nat → Int32) (LV : Nat → Prop), cR E M NO x σ a1 a2 a3 a4 fi fb ff wt ia ib fa ra rb fl LV
theorem cR.rep {E : mEnv} {M : mMem} {NO : Nat → Prop} {x : Nat} {σ : Sg} {a1 a2 a3 a4 : Nat} {fi fb ff : Nat → Option Nat} {wt : Nat → UInt64} {ia ib fa ra rb : Nat → Nat} {fl : Nat → Int32} {LV : Nat → Prop} (h : cR E M NO x σ a1 a2 a3 a4 fi fb ff wt ia ib fa ra rb fl LV) : cRep E M NO x σ := ⟨_, _, _, _, _, _, _, _, _, _, _, _, _, _, _, h⟩
section UPD
variable {E : mEnv} {M : mMem} {NO LV : Nat → Prop} {nn nf x a1 a2 a3 a4 z : Nat} {ins : Nat → sIn} {fn : Nat → Int32 × Int32} {bk fi fb ff : Nat → Option Nat} {rw : Nat → sRw} {bd st c2 c3 c4 : Int32} {wt : Nat → UInt64} {ia ib fa ra rb : Nat → Nat} {fl : Nat → Int32} {e e0 : va_E}
/-- a cell of another kind was written -/
theorem pIns.up (h : pIns E M nn ins fi ia ib ra fl) (h1 : ∀ i, i < nn → ia i ≠ z) (h2 : ∀ i, i < nn → ib i ≠ z) : pIns E (mUp M z e) nn ins fi ia ib ra fl := fun i hi ci kf pi on ph le tb he => ⟨(h i hi ci kf pi on ph le tb he).1, mUp_at (h1 i hi) (h i hi ci kf pi on ph le tb he).2.1, mUp_at (h2 i hi) (h i hi ci kf pi on ph le tb he).2.2⟩
theorem pFun.up (h : pFun M nf fn ff fa) (h1 : ∀ i, i < nf → fa i ≠ z) : pFun (mUp M z e) nf fn ff fa := fun i hi => ⟨(h i hi).1, mUp_at (h1 i hi) (h i hi).2⟩
theorem pRow.up (h : pRow E M LV rw ra rb a4) (h1 : ∀ r, LV r → ra r ≠ z) (h2 : ∀ r, LV r → rb r ≠ z) : pRow E (mUp M z e) LV rw ra rb a4 := fun r hr lane n f he => ⟨mUp_at (h1 r hr) (h r hr lane n f he).1, mUp_at (h2 r hr) (h r hr lane n f he).2.1, (h r hr lane n f he).2.2⟩
theorem pIns.ia_ne (h : pIns E M nn ins fi ia ib ra fl) (hz : M z = some e0) (hk : ∀ ci fs, insK ci → e0 ≠ mO ci fs) (hi0 : ∀ i, i < nn → insK (ins i).1) : ∀ i, i < nn → ia i ≠ z := fun i hi => m_ne (h i hi _ _ _ _ _ _ _ rfl).2.1 hz (fun q => hk _ _ (hi0 i hi) q.symm)
theorem pIns.ib_ne (h : pIns E M nn ins fi ia ib ra fl) (hz : M z = some e0) (hk : ∀ f, e0 ≠ mI E 4 f) : ∀ i, i < nn → ib i ≠ z := fun i hi => m_ne (h i hi _ _ _ _ _ _ _ rfl).2.2 hz (fun q => hk _ q.symm)
theorem pFun.ne (h : pFun M nf fn ff fa) (hz : M z = some e0) (hk : ∀ fs, e0 ≠ mO 2 fs) : ∀ i, i < nf → fa i ≠ z := fun i hi => m_ne (h i hi).2 hz (fun q => hk _ q.symm)
theorem pRow.ra_ne (h : pRow E M LV rw ra rb a4) (hz : M z = some e0) (hk : ∀ fs, e0 ≠ mO 5 fs) : ∀ r, LV r → ra r ≠ z := fun r hr => m_ne (h r hr _ _ _ rfl).1 hz (fun q => hk _ q.symm)
theorem pRow.rb_ne (h : pRow E M LV rw ra rb a4) (hz : M z = some e0) (hk : ∀ n f, e0 ≠ mDb E n f) : ∀ r, LV r → rb r ≠ z := fun r hr => m_ne (h r hr _ _ _ rfl).2.1 hz (fun q => hk _ _ q.symm)
theorem insK_ne {ci : Nat} (h : insK ci) : ci ≠ 2 ∧ ci ≠ 5 ∧ ci ≠ 7 ∧ ci ≠ 8 := by
  rcases h with rfl | rfl | rfl | rfl | rfl <;> decide
end UPD
theorem Inv.insK {nn nf : Nat} {ins : Nat → sIn} {fn : Nat → Int32 × Int32} {bk : Nat → Option Nat} {rw : Nat → sRw} {q : Int32 × Int32 × Int32 × Int32 × Int32} (h : Inv (nn, ins, nf, fn, bk, rw, q)) : ∀ i, i < nn → insK (ins i).1 := fun i hi => (h.2.2.1 i hi _ _ _ _ _ _ _ rfl).1
section CR
variable {E : mEnv} {M : mMem} {NO LV : Nat → Prop} {nn nf x a1 a2 a3 a4 : Nat} {ins : Nat → sIn} {fn : Nat → Int32 × Int32} {bk fi fb ff : Nat → Option Nat} {rw : Nat → sRw} {bd st c2 c3 c4 : Int32} {wt : Nat → UInt64} {ia ib fa ra rb : Nat → Nat} {fl : Nat → Int32}
/-- the object's own numbers are written -/
theorem cR.scal {bd' st' c2' c3' c4' : Int32} (hi : ∀ i, i < nn → insK (ins i).1) (h : cR E M NO x (nn, ins, nf, fn, bk, rw, bd, st, c2, c3, c4) a1 a2 a3 a4 fi fb ff wt ia ib fa ra rb fl LV) : cR E (mUp M x (xCell a1 a2 a3 a4 nn nf bd' st' c2' c3' c4')) NO x (nn, ins, nf, fn, bk, rw, bd', st', c2', c3', c4') a1 a2 a3 a4 fi fb ff wt ia ib fa ra rb fl LV := by
  obtain ⟨⟨g_x, g1, g2, g3, g4⟩, hI, hF, hB, hL, hR, hJ, hN⟩ := h
  refine ⟨⟨mUp_self _ _ _, mUp_at (m_ne g1 g_x (by simp)) g1, mUp_at (m_ne g2 g_x (by simp)) g2, mUp_at (m_ne g3 g_x (by simp)) g3, mUp_at (m_ne g4 g_x (by simp)) g4⟩, ?_, ?_, hB, hL, ?_, hJ, hN⟩
  · exact hI.up (hI.ia_ne g_x (fun ci fs hc q => by have := (insK_ne hc).2.2.1; simp at q; exact this q.1.symm) hi) (hI.ib_ne g_x (fun f q => by simp at q))
  · exact hF.up (hF.ne g_x (fun fs q => by simp at q))
  · exact hR.up (hR.ra_ne g_x (fun fs q => by simp at q)) (hR.rb_ne g_x (fun n f q => by simp at q))
theorem live_up {j : Nat} {v : sIn} (hv : v.2.2.2.2.2.2 = (ins j).2.2.2.2.2.2) (r : Nat) : live nn (va_up ins j v) bk r ↔ live nn ins bk r := by
  have h : ∀ i, (va_up ins j v i).2.2.2.2.2.2 = (ins i).2.2.2.2.2.2 := by
    intro i
    by_cases hi : i = j
    · subst hi
      simp [va_up, hv]
    · simp [va_up, hi]
  unfold live
  simp only [h]
/-- an instrument's own cell is written: pitch, on, phase, level, its failure -/
theorem cR.inst {j ci : Nat} {kf : Nat → Int32} {pi on ph pi' on' ph' fl' : Int32} {le le' : UInt64} {tb : Option Nat} (hi : ∀ i, i < nn → insK (ins i).1) (hj : j < nn) (hins : ins j = (ci, kf, pi, on, ph, le, tb)) (h : cR E M NO x (nn, ins, nf, fn, bk, rw, bd, st, c2, c3, c4) a1 a2 a3 a4 fi fb ff wt ia ib fa ra rb fl LV) : cR E (mUp M (ia j) (mO ci [.ref (ib j), .int pi', .int on', .int ph', .double le', va_rf (tb.map ra), .int fl'])) NO x (nn, va_up ins j (ci, kf, pi', on', ph', le', tb), nf, fn, bk, rw, bd, st, c2, c3, c4) a1 a2 a3 a4 fi fb ff wt ia ib fa ra rb (va_up fl j fl') LV := by
  obtain ⟨⟨g_x, g1, g2, g3, g4⟩, hI, hF, hB, hL, hR, hJ, hN⟩ := h
  obtain ⟨k1, k2, k3⟩ := hI j hj _ _ _ _ _ _ _ hins
  have hc := insK_ne (by have := hi j hj; rw [hins] at this; exact this)
  refine ⟨⟨mUp_at (m_ne g_x k2 (by simp)) g_x, mUp_at (m_ne g1 k2 (by simp)) g1, mUp_at (m_ne g2 k2 (by simp)) g2, mUp_at (m_ne g3 k2 (by simp)) g3, mUp_at (m_ne g4 k2 (by simp)) g4⟩, ?_, ?_, hB, fun r hr => hL r ((live_up (by rw [hins]) r).mp hr), ?_, hJ, hN⟩
  · intro i hi2 ci2 kf2 pi2 on2 ph2 le2 tb2 he
    by_cases hij : i = j
    · subst hij
      rw [va_up_self] at he
      simp only [Prod.mk.injEq] at he
      obtain ⟨rfl, rfl, rfl, rfl, rfl, rfl, rfl⟩ := he
      rw [va_up_self]
      exact ⟨k1, mUp_self _ _ _, mUp_at (m_ne k3 k2 (by simp)) k3⟩
    · rw [va_up_ne _ _ hij] at he
      rw [va_up_ne _ _ hij]
      obtain ⟨m1, m2, m3⟩ := hI i hi2 _ _ _ _ _ _ _ he
      exact ⟨m1, mUp_at (fun q => hij (hJ.1 i j hi2 hj q)) m2, mUp_at (m_ne m3 k2 (by simp)) m3⟩
  · exact hF.up (hF.ne k2 (fun fs q => by simp at q; exact hc.1 q.1))
  · exact hR.up (hR.ra_ne k2 (fun fs q => by simp at q; exact hc.2.1 q.1)) (hR.rb_ne k2 (fun n f q => by simp at q))
/-- its knobs are written -/
theorem cR.knob {j ci : Nat} {kf kf' : Nat → Int32} {pi on ph : Int32} {le : UInt64} {tb : Option Nat} (hi : ∀ i, i < nn → insK (ins i).1) (hj : j < nn) (hins : ins j = (ci, kf, pi, on, ph, le, tb)) (h : cR E M NO x (nn, ins, nf, fn, bk, rw, bd, st, c2, c3, c4) a1 a2 a3 a4 fi fb ff wt ia ib fa ra rb fl LV) : cR E (mUp M (ib j) (mI E 4 kf')) NO x (nn, va_up ins j (ci, kf', pi, on, ph, le, tb), nf, fn, bk, rw, bd, st, c2, c3, c4) a1 a2 a3 a4 fi fb ff wt ia ib fa ra rb fl LV := by
  obtain ⟨⟨g_x, g1, g2, g3, g4⟩, hI, hF, hB, hL, hR, hJ, hN⟩ := h
  obtain ⟨k1, k2, k3⟩ := hI j hj _ _ _ _ _ _ _ hins
  refine ⟨⟨mUp_at (m_ne g_x k3 (by simp)) g_x, mUp_at (m_ne g1 k3 (by simp)) g1, mUp_at (m_ne g2 k3 (by simp)) g2, mUp_at (m_ne g3 k3 (by simp)) g3, mUp_at (m_ne g4 k3 (by simp)) g4⟩, ?_, ?_, hB, fun r hr => hL r ((live_up (by rw [hins]) r).mp hr), ?_, hJ, hN⟩
  · intro i hi2 ci2 kf2 pi2 on2 ph2 le2 tb2 he
    by_cases hij : i = j
    · subst hij
      rw [va_up_self] at he
      simp only [Prod.mk.injEq] at he
      obtain ⟨rfl, rfl, rfl, rfl, rfl, rfl, rfl⟩ := he
      exact ⟨k1, mUp_at (m_ne k2 k3 (by simp)) k2, mUp_self _ _ _⟩
    · rw [va_up_ne _ _ hij] at he
      obtain ⟨m1, m2, m3⟩ := hI i hi2 _ _ _ _ _ _ _ he
      exact ⟨m1, mUp_at (m_ne m2 k3 (by simp)) m2, mUp_at (fun q => hij (hJ.2.1 i j hi2 hj q)) m3⟩
  · exact hF.up (hF.ne k3 (fun fs q => by simp at q))
  · exact hR.up (hR.ra_ne k3 (fun fs q => by simp at q)) (hR.rb_ne k3 (fun n f q => by simp at q))
/-- the waiting row is written -/
theorem cR.wait {wt' : Nat → UInt64} (hi : ∀ i, i < nn → insK (ins i).1) (h : cR E M NO x (nn, ins, nf, fn, bk, rw, bd, st, c2, c3, c4) a1 a2 a3 a4 fi fb ff wt ia ib fa ra rb fl LV) : cR E (mUp M a4 (mDb E 40 wt')) NO x (nn, ins, nf, fn, bk, rw, bd, st, c2, c3, c4) a1 a2 a3 a4 fi fb ff wt' ia ib fa ra rb fl LV := by
  obtain ⟨⟨g_x, g1, g2, g3, g4⟩, hI, hF, hB, hL, hR, hJ, hN⟩ := h
  refine ⟨⟨mUp_at (m_ne g_x g4 (by simp)) g_x, mUp_at (m_ne g1 g4 (by simp)) g1, mUp_at (m_ne g2 g4 (by simp)) g2, mUp_at (m_ne g3 g4 (by simp)) g3, mUp_self _ _ _⟩, ?_, ?_, hB, hL, ?_, hJ, hN⟩
  · exact hI.up (hI.ia_ne g4 (fun ci fs hc q => by simp at q) hi) (hI.ib_ne g4 (fun f q => by simp at q))
  · exact hF.up (hF.ne g4 (fun fs q => by simp at q))
  · exact hR.up (hR.ra_ne g4 (fun fs q => by simp at q)) (fun r hr => (hR r hr _ _ _ rfl).2.2)
/-- a row's samples are written -/
theorem cR.row {r n : Nat} {lane : Int32} {f f' : Nat → UInt64} (hi : ∀ i, i < nn → insK (ins i).1) (hr : LV r) (hrw : rw r = (lane, n, f)) (h : cR E M NO x (nn, ins, nf, fn, bk, rw, bd, st, c2, c3, c4) a1 a2 a3 a4 fi fb ff wt ia ib fa ra rb fl LV) : cR E (mUp M (rb r) (mDb E n f')) NO x (nn, ins, nf, fn, bk, va_up rw r (lane, n, f'), bd, st, c2, c3, c4) a1 a2 a3 a4 fi fb ff wt ia ib fa ra rb fl LV := by
  obtain ⟨⟨g_x, g1, g2, g3, g4⟩, hI, hF, hB, hL, hR, hJ, hN⟩ := h
  obtain ⟨k1, k2, k3⟩ := hR r hr _ _ _ hrw
  refine ⟨⟨mUp_at (m_ne g_x k2 (by simp)) g_x, mUp_at (m_ne g1 k2 (by simp)) g1, mUp_at (m_ne g2 k2 (by simp)) g2, mUp_at (m_ne g3 k2 (by simp)) g3, mUp_at (Ne.symm k3) g4⟩, ?_, ?_, hB, hL, ?_, hJ, hN⟩
  · exact hI.up (hI.ia_ne k2 (fun ci fs hc q => by simp at q) hi) (hI.ib_ne k2 (fun f q => by simp at q))
  · exact hF.up (hF.ne k2 (fun fs q => by simp at q))
  · intro q hq lane2 n2 f2 he
    by_cases hqr : q = r
    · subst hqr
      rw [va_up_self] at he
      simp only [Prod.mk.injEq] at he
      obtain ⟨rfl, rfl, rfl⟩ := he
      exact ⟨mUp_at (m_ne k1 k2 (by simp)) k1, mUp_self _ _ _, k3⟩
    · rw [va_up_ne _ _ hqr] at he
      obtain ⟨m1, m2, m3⟩ := hR q hq _ _ _ he
      exact ⟨mUp_at (m_ne m1 k2 (by simp)) m1, mUp_at (fun z => hqr (hJ.2.2.2 q r hq hr z)) m2, m3⟩
end CR
/-- which cells stay: those that are not the class's -/
def kept (NO : Nat → Prop) (M u : mMem) : Prop := ∀ q, NO q → u q = M q
theorem kept.rf {NO : Nat → Prop} {M : mMem} : kept NO M M := fun _ _ => rfl
theorem kept.up {NO : Nat → Prop} {M u : mMem} {z : Nat} {e : va_E} (h : kept NO M u) (hz : ¬ NO z) : kept NO M (mUp u z e) := fun q hq => (mUp_ne (a := z) (q := q) (fun k => hz (by rw [← k]; exact hq))).trans (h q hq)
theorem vI_ix {i : Int32} {nn : Nat} (h : vI nn i) (hnn : nn ≤ 12) : ∃ j, j < nn ∧ i = nI j ∧ i.toNatClampNeg = j := by
  obtain ⟨j, hj, rfl⟩ := nI_of h.1
  have h2 := h.2
  rw [nI_leI (by omega) hj] at h2
  exact ⟨j, by omega, rfl, nI_clamp hj⟩
theorem vB_ix {b : Int32} (h : vB b) : ∃ j, j < 10 ∧ b = nI j ∧ b.toNatClampNeg = j := by
  obtain ⟨j, hj, rfl⟩ := nI_of h.1
  have h2 := h.2
  rw [show (10 : Int32) = nI 10 from rfl, nI_leI (by omega) hj] at h2
  exact ⟨j, by omega, rfl, nI_clamp hj⟩
end
section
def aState (σ : Sg) : Int32 := match σ with | (_, _, _, _, _, _, _, st, _) => st
def aCount (σ : Sg) (w : Int32) : Int32 := match σ with | (nn, _, nf, _, _, _, _, _, c2, c3, c4) => if w = 0 then nI nn else if w = 1 then nI nf else if w = 2 then c2 else if w = 3 then c3 else if w = 4 then c4 else -1
abbrev vL (l : Int32) : Prop := ¬ l < 0 ∧ ¬ 3 < l
def aBind (σ : Sg) (l : Int32) : Int32 := match σ with | (_, _, _, _, _, _, bd, _) => if vL l then bd else -2
def nBind (σ : Sg) (l : Int32) : Sg := match σ with | (nn, ins, nf, fn, bk, rw, bd, st, c2, c3, c4) => (nn, ins, nf, fn, bk, rw, (if vL l then l else bd), st, c2, c3, c4)
abbrev vK (k : Int32) : Prop := ¬ k < 0 ∧ k < 4
def aKnob (σ : Sg) (i k v : Int32) : Int32 := match σ with | (nn, ins, _) => if vI nn i ∧ vK k then (ins i.toNatClampNeg).2.1 k.toNatClampNeg else 0
def nKnob (σ : Sg) (i k v : Int32) : Sg := match σ with | (nn, ins, nf, fn, bk, rw, bd, st, c2, c3, c4) => if vI nn i ∧ vK k then (nn, va_up ins i.toNatClampNeg ((ins i.toNatClampNeg).1, upd (ins i.toNatClampNeg).2.1 k.toNatClampNeg v, (ins i.toNatClampNeg).2.2), nf, fn, bk, rw, bd, 0, c2, c3, c4) else (nn, ins, nf, fn, bk, rw, bd, -1, c2, c3, c4)
def aPhase (σ : Sg) (i v : Int32) : Int32 := match σ with | (nn, ins, _) => if vI nn i then (ins i.toNatClampNeg).2.2.2.2.1 else 0
def nPhase (σ : Sg) (i v : Int32) : Sg := match σ with | (nn, ins, nf, fn, bk, rw, bd, st, c2, c3, c4) => if vI nn i then (nn, va_up ins i.toNatClampNeg ((ins i.toNatClampNeg).1, (ins i.toNatClampNeg).2.1, (ins i.toNatClampNeg).2.2.1, (ins i.toNatClampNeg).2.2.2.1, v, (ins i.toNatClampNeg).2.2.2.2.2), nf, fn, bk, rw, bd, 0, c2, c3, c4) else (nn, ins, nf, fn, bk, rw, bd, -1, c2, c3, c4)
abbrev vP (p : Int32) : Prop := ¬ p < 0 ∧ p ≤ 127
def aNote (σ : Sg) (i p o : Int32) : Int32 := match σ with | (nn, ins, _) => if vI nn i ∧ vP p then (if (ins i.toNatClampNeg).2.2.2.1 = 0 then 0 else 1) else -1
def nNote (σ : Sg) (i p o : Int32) : Sg := match σ with | (nn, ins, nf, fn, bk, rw, bd, st, c2, c3, c4) => if vI nn i ∧ vP p then (nn, va_up ins i.toNatClampNeg ((ins i.toNatClampNeg).1, (ins i.toNatClampNeg).2.1, p, o, (ins i.toNatClampNeg).2.2.2.2.1, sLev (ins i.toNatClampNeg).1 o p (ins i.toNatClampNeg).2.2.2.2.2.1, (ins i.toNatClampNeg).2.2.2.2.2.2), nf, fn, bk, rw, bd, st, c2, c3, c4) else (nn, ins, nf, fn, bk, rw, bd, st, c2, c3, c4)
theorem kx {NO : Nat → Prop} {M : mMem} {x : Nat} {e : va_E} (h : ¬ NO x) : kept NO M (mUp M x e) := kept.rf.up h
theorem insK_up {nn j : Nat} {ins : Nat → sIn} {v : sIn} (h : ∀ i, i < nn → insK (ins i).1) (hv : v.1 = (ins j).1) : ∀ i, i < nn → insK (va_up ins j v i).1 := by
  intro i hi
  by_cases hij : i = j
  · subst hij
    rw [va_up_self, hv]
    exact h i hi
  · rw [va_up_ne _ _ hij]
    exact h i hi
theorem vk_ix {k : Int32} (h : vK k) : ∃ j, j < 4 ∧ k = nI j ∧ k.toNatClampNeg = j := by
  obtain ⟨j, hj, rfl⟩ := nI_of h.1
  have h2 := h.2
  rw [show (4 : Int32) = nI 4 from rfl, nI_ltI hj (by decide)] at h2
  exact ⟨j, h2, rfl, nI_clamp hj⟩
theorem vk_in {k : Int32} (h : vK k) : vp_in k 4 := by
  obtain ⟨j, hj, rfl, _⟩ := vk_ix h
  exact vp_in_nI hj (by decide)
theorem in_X9_state_X9 : ∀ w ∈ wsX90, w ∈ wsX9_state := by decide +kernel
set_option maxHeartbeats 4000000 in
set_option maxRecDepth 100000 in
theorem c_X9_state (l : Launch) (E : mEnv) (M : mMem) (sz : Nat) (NO : Nat → Prop) (x nn nf : Nat) (ins : Nat → sIn) (fn : Nat → Int32 × Int32) (bk : Nat → Option Nat) (rw : Nat → sRw) (bd st c2 c3 c4 : Int32) (hV : Inv (nn, ins, nf, fn, bk, rw, bd, st, c2, c3, c4)) (hC : cRep E M NO x (nn, ins, nf, fn, bk, rw, bd, st, c2, c3, c4)) (hO : ∀ q, NO q → M q ≠ none)    : Met l yX9_state wsX9_state ({ frames := 0, cells := 0, slots := 0, locals := 0 }) (mPre E M sz [.ref x]) (mQi E M sz (fun r u => r = aState (nn, ins, nf, fn, bk, rw, bd, st, c2, c3, c4) ∧ cRep E u NO x ((nn, ins, nf, fn, bk, rw, bd, st, c2, c3, c4)) ∧ kept NO M u)) (0) (0) (mA M sz) := by
  refine m_met [.ref x] (by decide) rfl (Nat.le_of_ble_eq_true rfl) ?_
  intro p e s m below meth c ls H eH hx hb hr hts hown hlocks hnm hml hsz hE hM hS hA hl
  have hl : lv_has ls 1 [(0, .ref x)] := hl
  obtain ⟨a1, a2, a3, a4, fi, fb, ff, wt, ia, ib, fa, ra, rb, fl, LV, hC⟩ := hC
  have hC0 := hC.rep
  have hiK := hV.insK
  obtain ⟨hnn, hnf, hvI, hvD, hv24, hvR, hvF⟩ := id hV
  obtain ⟨⟨g_x, g_a1, g_a2, g_a3, g_a4⟩, hI, hF, hB, hL, hR, hJ, hN⟩ := id hC
  obtain ⟨⟨nx, n1, n2, n3, n4⟩, nI0, nF0, nR0⟩ := id hN
  refine lv_aload_n hx hb dX9_state_0 rfl (lv_at hl 0 rfl) ?_
  refine m_get (ci := 7) (v := .int st) (C := RX9) (T := TX9) (N := 11) hx hb hts in_X9_state_X9 hown hE hM g_x rfl 7 (by decide) (hts (.fieldLink RX9 53 "CallWays2" "latest" "I") (by decide +kernel)) (fun _ h9 => h9) rfl dX9_state_1 ?_
  exact m_iret hx hb hr hlocks hM hS (Nat.le_refl _) (Nat.le_refl _) dX9_state_4 (by exact ⟨rfl, hC0, kept.rf⟩)
theorem in_X9_count_X9 : ∀ w ∈ wsX90, w ∈ wsX9_count := by decide +kernel
set_option maxHeartbeats 4000000 in
set_option maxRecDepth 100000 in
theorem c_X9_count (l : Launch) (E : mEnv) (M : mMem) (sz : Nat) (NO : Nat → Prop) (x nn nf : Nat) (ins : Nat → sIn) (fn : Nat → Int32 × Int32) (bk : Nat → Option Nat) (rw : Nat → sRw) (bd st c2 c3 c4 : Int32) (hV : Inv (nn, ins, nf, fn, bk, rw, bd, st, c2, c3, c4)) (hC : cRep E M NO x (nn, ins, nf, fn, bk, rw, bd, st, c2, c3, c4)) (hO : ∀ q, NO q → M q ≠ none) (w : Int32)    : Met l yX9_count wsX9_count ({ frames := 0, cells := 0, slots := 0, locals := 0 }) (mPre E M sz [.ref x, .int w]) (mQi E M sz (fun r u => r = aCount (nn, ins, nf, fn, bk, rw, bd, st, c2, c3, c4) w ∧ cRep E u NO x ((nn, ins, nf, fn, bk, rw, bd, st, c2, c3, c4)) ∧ kept NO M u)) (0) (0) (mA M sz) := by
  refine m_met [.ref x, .int w] (by decide) rfl (Nat.le_of_ble_eq_true rfl) ?_
  intro p e s m below meth c ls H eH hx hb hr hts hown hlocks hnm hml hsz hE hM hS hA hl
  have hl : lv_has ls 2 [(0, .ref x), (1, .int w)] := hl
  obtain ⟨a1, a2, a3, a4, fi, fb, ff, wt, ia, ib, fa, ra, rb, fl, LV, hC⟩ := hC
  have hC0 := hC.rep
  have hiK := hV.insK
  obtain ⟨hnn, hnf, hvI, hvD, hv24, hvR, hvF⟩ := id hV
  obtain ⟨⟨g_x, g_a1, g_a2, g_a3, g_a4⟩, hI, hF, hB, hL, hR, hJ, hN⟩ := id hC
  obtain ⟨⟨nx, n1, n2, n3, n4⟩, nI0, nF0, nR0⟩ := id hN
  refine lv_iload_n hx hb dX9_count_0 rfl (lv_at hl 1 rfl) ?_
  by_cases s_1_0 : w = 0
  · refine lv_tableIn (off := 35) (tgt := 36) hx hb dX9_count_1 (by rw [s_1_0]; decide) (by rw [s_1_0]; decide) (by rw [s_1_0]; rfl) (by decide) ?_
    refine lv_aload_n hx hb dX9_count_36 rfl (lv_at hl 0 rfl) ?_
    refine m_get (ci := 7) (v := .int (nI nn)) (C := RX9) (T := TX9) (N := 11) hx hb hts in_X9_count_X9 hown hE hM g_x rfl 4 (by decide) (hts (.fieldLink RX9 35 "CallWays2" "instrumentCount" "I") (by decide +kernel)) (fun _ h9 => h9) rfl dX9_count_37 ?_
    exact m_iret hx hb hr hlocks hM hS (Nat.le_refl _) (Nat.le_refl _) dX9_count_40 (by refine ⟨?_, hC0, kept.rf⟩; show _ = (if w = 0 then _ else _); simp_all)
  by_cases s_1_1 : w = 1
  · refine lv_tableIn (off := 40) (tgt := 41) hx hb dX9_count_1 (by rw [s_1_1]; decide) (by rw [s_1_1]; decide) (by rw [s_1_1]; rfl) (by decide) ?_
    refine lv_aload_n hx hb dX9_count_41 rfl (lv_at hl 0 rfl) ?_
    refine m_get (ci := 7) (v := .int (nI nf)) (C := RX9) (T := TX9) (N := 11) hx hb hts in_X9_count_X9 hown hE hM g_x rfl 5 (by decide) (hts (.fieldLink RX9 113 "CallWays2" "functionCount" "I") (by decide +kernel)) (fun _ h9 => h9) rfl dX9_count_42 ?_
    exact m_iret hx hb hr hlocks hM hS (Nat.le_refl _) (Nat.le_refl _) dX9_count_45 (by refine ⟨?_, hC0, kept.rf⟩; show _ = (if w = 0 then _ else _); simp_all)
  by_cases s_1_2 : w = 2
  · refine lv_tableIn (off := 45) (tgt := 46) hx hb dX9_count_1 (by rw [s_1_2]; decide) (by rw [s_1_2]; decide) (by rw [s_1_2]; rfl) (by decide) ?_
    refine lv_aload_n hx hb dX9_count_46 rfl (lv_at hl 0 rfl) ?_
    refine m_get (ci := 7) (v := .int c2) (C := RX9) (T := TX9) (N := 11) hx hb hts in_X9_count_X9 hown hE hM g_x rfl 8 (by decide) (hts (.fieldLink RX9 138 "CallWays2" "playedWell" "I") (by decide +kernel)) (fun _ h9 => h9) rfl dX9_count_47 ?_
    exact m_iret hx hb hr hlocks hM hS (Nat.le_refl _) (Nat.le_refl _) dX9_count_50 (by refine ⟨?_, hC0, kept.rf⟩; show _ = (if w = 0 then _ else _); simp_all)
  by_cases s_1_3 : w = 3
  · refine lv_tableIn (off := 50) (tgt := 51) hx hb dX9_count_1 (by rw [s_1_3]; decide) (by rw [s_1_3]; decide) (by rw [s_1_3]; rfl) (by decide) ?_
    refine lv_aload_n hx hb dX9_count_51 rfl (lv_at hl 0 rfl) ?_
    refine m_get (ci := 7) (v := .int c3) (C := RX9) (T := TX9) (N := 11) hx hb hts in_X9_count_X9 hown hE hM g_x rfl 9 (by decide) (hts (.fieldLink RX9 135 "CallWays2" "playedFailed" "I") (by decide +kernel)) (fun _ h9 => h9) rfl dX9_count_52 ?_
    exact m_iret hx hb hr hlocks hM hS (Nat.le_refl _) (Nat.le_refl _) dX9_count_55 (by refine ⟨?_, hC0, kept.rf⟩; show _ = (if w = 0 then _ else _); simp_all)
  by_cases s_1_4 : w = 4
  · refine lv_tableIn (off := 55) (tgt := 56) hx hb dX9_count_1 (by rw [s_1_4]; decide) (by rw [s_1_4]; decide) (by rw [s_1_4]; rfl) (by decide) ?_
    refine lv_aload_n hx hb dX9_count_56 rfl (lv_at hl 0 rfl) ?_
    refine m_get (ci := 7) (v := .int c4) (C := RX9) (T := TX9) (N := 11) hx hb hts in_X9_count_X9 hown hE hM g_x rfl 10 (by decide) (hts (.fieldLink RX9 173 "CallWays2" "samplesAsked" "I") (by decide +kernel)) (fun _ h9 => h9) rfl dX9_count_57 ?_
    exact m_iret hx hb hr hlocks hM hS (Nat.le_refl _) (Nat.le_refl _) dX9_count_60 (by refine ⟨?_, hC0, kept.rf⟩; show _ = (if w = 0 then _ else _); simp_all)
  refine lv_tableOut (tgt := 61) hx hb dX9_count_1 (tab_out (x := w) (n := 4) (by decide) (fun j hj => match j, hj with | 0, _ => s_1_0 | 1, _ => s_1_1 | 2, _ => s_1_2 | 3, _ => s_1_3 | 4, _ => s_1_4 | j + 5, h => absurd h (by omega))) (by decide) ?_
  refine lv_iconst (v := -1) hx hb dX9_count_61 (by decide) ?_
  exact m_iret hx hb hr hlocks hM hS (Nat.le_refl _) (Nat.le_refl _) dX9_count_62 (by refine ⟨?_, hC0, kept.rf⟩; show _ = (if w = 0 then _ else _); simp_all)
theorem in_X9_bind_X9 : ∀ w ∈ wsX90, w ∈ wsX9_bind := by decide +kernel
set_option maxHeartbeats 4000000 in
set_option maxRecDepth 100000 in
theorem c_X9_bind (l : Launch) (E : mEnv) (M : mMem) (sz : Nat) (NO : Nat → Prop) (x nn nf : Nat) (ins : Nat → sIn) (fn : Nat → Int32 × Int32) (bk : Nat → Option Nat) (rw : Nat → sRw) (bd st c2 c3 c4 : Int32) (hV : Inv (nn, ins, nf, fn, bk, rw, bd, st, c2, c3, c4)) (hC : cRep E M NO x (nn, ins, nf, fn, bk, rw, bd, st, c2, c3, c4)) (hO : ∀ q, NO q → M q ≠ none) (w : Int32)    : Met l yX9_bind wsX9_bind ({ frames := 1, cells := 0, slots := 0, locals := 20 }) (mPre E M sz [.ref x, .int w]) (mQi E M sz (fun r u => r = aBind (nn, ins, nf, fn, bk, rw, bd, st, c2, c3, c4) w ∧ cRep E u NO x (nBind (nn, ins, nf, fn, bk, rw, bd, st, c2, c3, c4) w) ∧ kept NO M u)) (0) (0) (mA M sz) := by
  refine m_met [.ref x, .int w] (by decide) rfl (Nat.le_of_ble_eq_true rfl) ?_
  intro p e s m below meth c ls H eH hx hb hr hts hown hlocks hnm hml hsz hE hM hS hA hl
  have hl : lv_has ls 3 [(0, .ref x), (1, .int w)] := hl
  obtain ⟨a1, a2, a3, a4, fi, fb, ff, wt, ia, ib, fa, ra, rb, fl, LV, hC⟩ := hC
  have hC0 := hC.rep
  have hiK := hV.insK
  obtain ⟨hnn, hnf, hvI, hvD, hv24, hvR, hvF⟩ := id hV
  obtain ⟨⟨g_x, g_a1, g_a2, g_a3, g_a4⟩, hI, hF, hB, hL, hR, hJ, hN⟩ := id hC
  obtain ⟨⟨nx, n1, n2, n3, n4⟩, nI0, nF0, nR0⟩ := id hN
  refine lv_iload_n hx hb dX9_bind_0 rfl (lv_at hl 1 rfl) ?_
  refine m_calli (va_runS (As := [.int w]) (rest := []) ⟨hx, hb, hml, hown, hts⟩ (c_X9_isLane l E M H.size w) (va_cwS 1 hts gX9_bind_X9_isLane rfl rfl rfl (by decide +kernel) ⟨Nat.le_of_ble_eq_true rfl, Nat.le_of_ble_eq_true rfl⟩) (m_preS hE hM) rfl rfl hl.1 rfl (lv_room (Nat.le_of_ble_eq_true rfl)) dX9_bind_1 ⟨Nat.le_of_ble_eq_true rfl, Nat.le_of_ble_eq_true rfl⟩) hM hS hA (fun r1 u H locs hw hM hS => ?_)
  obtain ⟨e_r1, eu⟩ := hw
  rw [eu] at hM
  subst e_r1
  refine lv_if_ne (tgt := 10) hx hb dX9_bind_4 (by decide) (fun c_4 => ?_) (fun c_4 => ?_)
  · skip
    rw [bI_ne] at c_4
    refine lv_aload_n hx hb dX9_bind_10 rfl (lv_at hl 0 rfl) ?_
    refine m_get (ci := 7) (v := .int bd) (C := RX9) (T := TX9) (N := 11) hx hb hts in_X9_bind_X9 hown hE hM g_x rfl 6 (by decide) (hts (.fieldLink RX9 31 "CallWays2" "boundLane" "I") (by decide +kernel)) (fun _ h9 => h9) rfl dX9_bind_11 ?_
    refine lv_istore_n (lv' := [(2, .int bd), (0, .ref x), (1, .int w)]) hx hb dX9_bind_14 rfl hl (by decide) rfl (fun ls hl => ?_)
    refine lv_aload_n hx hb dX9_bind_15 rfl (lv_at hl 1 rfl) ?_
    refine lv_iload_n hx hb dX9_bind_16 rfl (lv_at hl 2 rfl) ?_
    refine m_put (ci := 7) (v := .int w) (ty := .int) (C := RX9) (T := TX9) (N := 11) hx hb hts in_X9_bind_X9 tyX9 tyX9_ok nmX9 hown hE hM hS g_x rfl 6 (by decide) (hts (.fieldLink RX9 31 "CallWays2" "boundLane" "I") (by decide +kernel)) (fun _ h9 => h9) rfl (by decide +kernel) rfl rfl (Nat.le_of_ble_eq_true rfl) dX9_bind_17 (fun H locs hM hS => ?_)
    have hM : mOK E.1 (mA M sz) (mUp M x (mO 7 [.ref a1, .ref a2, .ref a3, .ref a4, .int (nI nn), .int (nI nf), .int w, .int st, .int c2, .int c3, .int c4])) H := hM
    obtain ⟨M1, eM1⟩ : ∃ z, z = mUp M x (mO 7 [.ref a1, .ref a2, .ref a3, .ref a4, .int (nI nn), .int (nI nf), .int w, .int st, .int c2, .int c3, .int c4]) := ⟨_, rfl⟩
    rw [← eM1] at hM
    have g_a1_ : M1 a1 = some (mQ E 4 12 fi) := by rw [eM1]; exact mUp_at (m_ne g_a1 g_x (by simp)) g_a1
    have g_a2_ : M1 a2 = some (mQ E 5 10 fb) := by rw [eM1]; exact mUp_at (m_ne g_a2 g_x (by simp)) g_a2
    have g_a3_ : M1 a3 = some (mQ E 6 8 ff) := by rw [eM1]; exact mUp_at (m_ne g_a3 g_x (by simp)) g_a3
    have g_a4_ : M1 a4 = some (mDb E 40 wt) := by rw [eM1]; exact mUp_at (m_ne g_a4 g_x (by simp)) g_a4
    have g_a1 := g_a1_
    have g_a2 := g_a2_
    have g_a3 := g_a3_
    have g_a4 := g_a4_
    have g_x : M1 x = some (mO 7 [.ref a1, .ref a2, .ref a3, .ref a4, .int (nI nn), .int (nI nf), .int w, .int st, .int c2, .int c3, .int c4]) := by rw [eM1]; exact mUp_self _ _ _
    refine lv_iload_n hx hb dX9_bind_20 rfl (lv_at hl 0 rfl) ?_
    exact m_iret hx hb hr hlocks hM hS (Nat.le_refl _) (Nat.le_refl _) dX9_bind_21 (by refine ⟨(if_pos c_4).symm, ?_, by rw [eM1]; exact kx nx⟩; show cRep E _ NO x (nn, ins, nf, fn, bk, rw, (if vL w then w else bd), st, c2, c3, c4); rw [if_pos c_4, eM1]; exact (hC.scal hiK).rep)
  · skip
    rw [bI_eq] at c_4
    refine lv_bipush (v := -2) hx hb dX9_bind_7 (by decide) ?_
    exact m_iret hx hb hr hlocks hM hS (Nat.le_refl _) (Nat.le_refl _) dX9_bind_9 (by refine ⟨(if_neg c_4).symm, ?_, kept.rf⟩; show cRep E M NO x (nn, ins, nf, fn, bk, rw, (if vL w then w else bd), st, c2, c3, c4); rw [if_neg c_4]; exact hC0)
theorem in_X9_phase_I : ∀ w ∈ wsX00 ++ wsX20 ++ wsX40 ++ wsX60 ++ wsX80, w ∈ wsX9_phase := by decide +kernel
theorem in_X9_phase_X9 : ∀ w ∈ wsX90, w ∈ wsX9_phase := by decide +kernel
set_option maxHeartbeats 4000000 in
set_option maxRecDepth 100000 in
theorem c_X9_phase (l : Launch) (E : mEnv) (M : mMem) (sz : Nat) (NO : Nat → Prop) (x nn nf : Nat) (ins : Nat → sIn) (fn : Nat → Int32 × Int32) (bk : Nat → Option Nat) (rw : Nat → sRw) (bd st c2 c3 c4 : Int32) (hV : Inv (nn, ins, nf, fn, bk, rw, bd, st, c2, c3, c4)) (hC : cRep E M NO x (nn, ins, nf, fn, bk, rw, bd, st, c2, c3, c4)) (hO : ∀ q, NO q → M q ≠ none) (i v : Int32)    : Met l yX9_phase wsX9_phase ({ frames := 1, cells := 0, slots := 0, locals := 21 }) (mPre E M sz [.ref x, .int i, .int v]) (mQi E M sz (fun r u => r = aPhase (nn, ins, nf, fn, bk, rw, bd, st, c2, c3, c4) i v ∧ cRep E u NO x (nPhase (nn, ins, nf, fn, bk, rw, bd, st, c2, c3, c4) i v) ∧ kept NO M u)) (0) (0) (mA M sz) := by
  refine m_met [.ref x, .int i, .int v] (by decide) rfl (Nat.le_of_ble_eq_true rfl) ?_
  intro p e s m below meth c ls H eH hx hb hr hts hown hlocks hnm hml hsz hE hM hS hA hl
  have hl : lv_has ls 5 [(0, .ref x), (1, .int i), (2, .int v)] := hl
  obtain ⟨a1, a2, a3, a4, fi, fb, ff, wt, ia, ib, fa, ra, rb, fl, LV, hC⟩ := hC
  have hC0 := hC.rep
  have hiK := hV.insK
  obtain ⟨hnn, hnf, hvI, hvD, hv24, hvR, hvF⟩ := id hV
  obtain ⟨⟨g_x, g_a1, g_a2, g_a3, g_a4⟩, hI, hF, hB, hL, hR, hJ, hN⟩ := id hC
  obtain ⟨⟨nx, n1, n2, n3, n4⟩, nI0, nF0, nR0⟩ := id hN
  refine lv_aload_n hx hb dX9_phase_0 rfl (lv_at hl 0 rfl) ?_
  refine lv_iload_n hx hb dX9_phase_1 rfl (lv_at hl 1 rfl) ?_
  refine m_callq (va_runV (As := [.int i]) (rest := []) ⟨hx, hb, hml, hown, hts⟩ (c_X9_instrumentAt l E M H.size x a1 a2 a3 a4 nn nf bd st c2 c3 c4 fi fb ff wt i hnn g_x g_a1) (cwV 1 hts gX9_phase_X9_instrumentAt rfl rfl rfl (by decide +kernel) ⟨Nat.le_of_ble_eq_true rfl, Nat.le_of_ble_eq_true rfl⟩) (m_preV hE hM g_x rfl) rfl rfl hl.1 rfl (lv_room (Nat.le_of_ble_eq_true rfl)) dX9_phase_2 ⟨Nat.le_of_ble_eq_true rfl, Nat.le_of_ble_eq_true rfl⟩) hM hS hA (fun r1 u H locs hw hM hS => ?_)
  obtain ⟨e_r1, eu⟩ := hw
  rw [eu] at hM
  by_cases hv : ¬ i < 0 ∧ ¬ nI nn ≤ i
  · rw [if_pos hv] at e_r1
    obtain ⟨j, hj, hij, hjc⟩ := vI_ix hv hnn
    rw [hjc] at e_r1
    rcases hins : ins j with ⟨ci, kf, pi, on, ph, le, tb⟩
    obtain ⟨k1, g_p0, g_q0⟩ := hI j hj _ _ _ _ _ _ _ hins
    obtain ⟨hci, hle, hon⟩ := hvI j hj _ _ _ _ _ _ _ hins
    have hno := nI0 j hj
    obtain ⟨p0, ep0⟩ : ∃ z, z = ia j := ⟨_, rfl⟩
    obtain ⟨q0, eq0⟩ : ∃ z, z = ib j := ⟨_, rfl⟩
    obtain ⟨f0, ef0⟩ : ∃ z, z = fl j := ⟨_, rfl⟩
    rw [← ep0] at k1 g_p0
    rw [← eq0, ← ef0] at g_p0
    rw [← eq0] at g_q0
    rw [k1] at e_r1
    subst e_r1
    refine W.eq (g2 := F0 m 5 ls [.ref p0]) rfl ?_
    refine lv_astore_n (lv' := [(3, .ref p0), (0, .ref x), (1, .int i), (2, .int v)]) hx hb dX9_phase_5 rfl hl (by decide) rfl (fun ls hl => ?_)
    refine lv_aload_n hx hb dX9_phase_6 rfl (lv_at hl 0 rfl) ?_
    refine lv_ifnonnull (tgt := 17) hx hb dX9_phase_7 (by decide) ?_
    refine lv_aload_n hx hb dX9_phase_17 rfl (lv_at hl 0 rfl) ?_
    refine m_getI (v := .int ph) hx hb hts in_X9_phase_I hown hE hM g_p0 hci 3 (by decide) (hts (.fieldLink RX9 60 "CallWays2$Instrument" "phase" "I") (by decide +kernel)) (fun _ h9 => h9) rfl dX9_phase_18 ?_
    refine lv_istore (lv' := [(4, .int ph), (3, .ref p0), (0, .ref x), (1, .int i), (2, .int v)]) hx hb dX9_phase_21 hl (by decide) rfl (fun ls hl => ?_)
    refine lv_aload_n hx hb dX9_phase_23 rfl (lv_at hl 1 rfl) ?_
    refine lv_iload_n hx hb dX9_phase_24 rfl (lv_at hl 4 rfl) ?_
    refine m_putI (v := .int v) (ty := .int) hx hb hts in_X9_phase_I hown hE hM hS g_p0 hci 3 (by decide) (hts (.fieldLink RX9 60 "CallWays2$Instrument" "phase" "I") (by decide +kernel)) (fun _ h9 => h9) rfl (by decide +kernel) rfl rfl (Nat.le_of_ble_eq_true rfl) dX9_phase_25 (fun H locs hM hS => ?_)
    have hM : mOK E.1 (mA M sz) (mUp M p0 (mO ci [.ref q0, .int pi, .int on, .int v, .double le, va_rf (tb.map ra), .int f0])) H := hM
    obtain ⟨M1, eM1⟩ : ∃ z, z = mUp M p0 (mO ci [.ref q0, .int pi, .int on, .int v, .double le, va_rf (tb.map ra), .int f0]) := ⟨_, rfl⟩
    rw [← eM1] at hM
    have g_x_ : M1 x = some (mO 7 [.ref a1, .ref a2, .ref a3, .ref a4, .int (nI nn), .int (nI nf), .int bd, .int st, .int c2, .int c3, .int c4]) := by rw [eM1]; exact mUp_at (m_ne g_x g_p0 (by simp)) g_x
    have g_a1_ : M1 a1 = some (mQ E 4 12 fi) := by rw [eM1]; exact mUp_at (m_ne g_a1 g_p0 (by simp)) g_a1
    have g_a2_ : M1 a2 = some (mQ E 5 10 fb) := by rw [eM1]; exact mUp_at (m_ne g_a2 g_p0 (by simp)) g_a2
    have g_a3_ : M1 a3 = some (mQ E 6 8 ff) := by rw [eM1]; exact mUp_at (m_ne g_a3 g_p0 (by simp)) g_a3
    have g_a4_ : M1 a4 = some (mDb E 40 wt) := by rw [eM1]; exact mUp_at (m_ne g_a4 g_p0 (by simp)) g_a4
    have g_q0_ : M1 q0 = some (mI E 4 kf) := by rw [eM1]; exact mUp_at (m_ne g_q0 g_p0 (by simp)) g_q0
    have g_x := g_x_
    have g_a1 := g_a1_
    have g_a2 := g_a2_
    have g_a3 := g_a3_
    have g_a4 := g_a4_
    have g_q0 := g_q0_
    have g_p0 : M1 p0 = some (mO ci [.ref q0, .int pi, .int on, .int v, .double le, va_rf (tb.map ra), .int f0]) := by rw [eM1]; exact mUp_self _ _ _
    refine lv_aload_n hx hb dX9_phase_28 rfl (lv_at hl 2 rfl) ?_
    refine lv_iconst (v := 0) hx hb dX9_phase_29 (by decide) ?_
    refine m_put (ci := 7) (v := .int 0) (ty := .int) (C := RX9) (T := TX9) (N := 11) hx hb hts in_X9_phase_X9 tyX9 tyX9_ok nmX9 hown hE hM hS g_x rfl 7 (by decide) (hts (.fieldLink RX9 53 "CallWays2" "latest" "I") (by decide +kernel)) (fun _ h9 => h9) rfl (by decide +kernel) rfl rfl (Nat.le_of_ble_eq_true rfl) dX9_phase_30 (fun H locs hM hS => ?_)
    have hM : mOK E.1 (mA M sz) (mUp M1 x (mO 7 [.ref a1, .ref a2, .ref a3, .ref a4, .int (nI nn), .int (nI nf), .int bd, .int 0, .int c2, .int c3, .int c4])) H := hM
    obtain ⟨M2, eM2⟩ : ∃ z, z = mUp M1 x (mO 7 [.ref a1, .ref a2, .ref a3, .ref a4, .int (nI nn), .int (nI nf), .int bd, .int 0, .int c2, .int c3, .int c4]) := ⟨_, rfl⟩
    rw [← eM2] at hM
    have g_a1_ : M2 a1 = some (mQ E 4 12 fi) := by rw [eM2]; exact mUp_at (m_ne g_a1 g_x (by simp)) g_a1
    have g_a2_ : M2 a2 = some (mQ E 5 10 fb) := by rw [eM2]; exact mUp_at (m_ne g_a2 g_x (by simp)) g_a2
    have g_a3_ : M2 a3 = some (mQ E 6 8 ff) := by rw [eM2]; exact mUp_at (m_ne g_a3 g_x (by simp)) g_a3
    have g_a4_ : M2 a4 = some (mDb E 40 wt) := by rw [eM2]; exact mUp_at (m_ne g_a4 g_x (by simp)) g_a4
    have g_p0_ : M2 p0 = some (mO ci [.ref q0, .int pi, .int on, .int v, .double le, va_rf (tb.map ra), .int f0]) := by rw [eM2]; exact mUp_at (Ne.symm (m_ne g_x g_p0 (by simp))) g_p0
    have g_q0_ : M2 q0 = some (mI E 4 kf) := by rw [eM2]; exact mUp_at (m_ne g_q0 g_x (by simp)) g_q0
    have g_a1 := g_a1_
    have g_a2 := g_a2_
    have g_a3 := g_a3_
    have g_a4 := g_a4_
    have g_p0 := g_p0_
    have g_q0 := g_q0_
    have g_x : M2 x = some (mO 7 [.ref a1, .ref a2, .ref a3, .ref a4, .int (nI nn), .int (nI nf), .int bd, .int 0, .int c2, .int c3, .int c4]) := by rw [eM2]; exact mUp_self _ _ _
    refine lv_iload hx hb dX9_phase_33 (lv_at hl 0 rfl) ?_
    exact m_iret hx hb hr hlocks hM hS (Nat.le_refl _) (Nat.le_refl _) dX9_phase_35 (by exact ⟨(by show _ = (if vI nn i then _ else _); rw [if_pos hv, hjc, hins]), (by show cRep E _ NO x (if vI nn i then _ else _); rw [if_pos hv, hjc, hins, eM2, eM1, ep0, eq0]; exact ((hC.inst hiK hj hins).scal (insK_up hiK (by rw [hins]))).rep), (by rw [eM2, eM1, ep0]; exact (kx hno.1).up nx)⟩)
  · rw [if_neg hv] at e_r1
    subst e_r1
    refine W.eq (g2 := F0 m 5 ls [.null]) rfl ?_
    refine lv_astore_nN (lv' := [(3, .null), (0, .ref x), (1, .int i), (2, .int v)]) hx hb dX9_phase_5 rfl hl (by decide) rfl (fun ls hl => ?_)
    refine lv_aload_nN hx hb dX9_phase_6 rfl (lv_at hl 0 rfl) ?_
    refine lv_ifnonnullN hx hb dX9_phase_7 ?_
    refine lv_aload_n hx hb dX9_phase_10 rfl (lv_at hl 1 rfl) ?_
    refine lv_iconst (v := -1) hx hb dX9_phase_11 (by decide) ?_
    refine m_put (ci := 7) (v := .int (-1)) (ty := .int) (C := RX9) (T := TX9) (N := 11) hx hb hts in_X9_phase_X9 tyX9 tyX9_ok nmX9 hown hE hM hS g_x rfl 7 (by decide) (hts (.fieldLink RX9 53 "CallWays2" "latest" "I") (by decide +kernel)) (fun _ h9 => h9) rfl (by decide +kernel) rfl rfl (Nat.le_of_ble_eq_true rfl) dX9_phase_12 (fun H locs hM hS => ?_)
    have hM : mOK E.1 (mA M sz) (mUp M x (mO 7 [.ref a1, .ref a2, .ref a3, .ref a4, .int (nI nn), .int (nI nf), .int bd, .int (-1), .int c2, .int c3, .int c4])) H := hM
    obtain ⟨M3, eM3⟩ : ∃ z, z = mUp M x (mO 7 [.ref a1, .ref a2, .ref a3, .ref a4, .int (nI nn), .int (nI nf), .int bd, .int (-1), .int c2, .int c3, .int c4]) := ⟨_, rfl⟩
    rw [← eM3] at hM
    have g_a1_ : M3 a1 = some (mQ E 4 12 fi) := by rw [eM3]; exact mUp_at (m_ne g_a1 g_x (by simp)) g_a1
    have g_a2_ : M3 a2 = some (mQ E 5 10 fb) := by rw [eM3]; exact mUp_at (m_ne g_a2 g_x (by simp)) g_a2
    have g_a3_ : M3 a3 = some (mQ E 6 8 ff) := by rw [eM3]; exact mUp_at (m_ne g_a3 g_x (by simp)) g_a3
    have g_a4_ : M3 a4 = some (mDb E 40 wt) := by rw [eM3]; exact mUp_at (m_ne g_a4 g_x (by simp)) g_a4
    have g_a1 := g_a1_
    have g_a2 := g_a2_
    have g_a3 := g_a3_
    have g_a4 := g_a4_
    have g_x : M3 x = some (mO 7 [.ref a1, .ref a2, .ref a3, .ref a4, .int (nI nn), .int (nI nf), .int bd, .int (-1), .int c2, .int c3, .int c4]) := by rw [eM3]; exact mUp_self _ _ _
    refine lv_iconst (v := 0) hx hb dX9_phase_15 (by decide) ?_
    exact m_iret hx hb hr hlocks hM hS (Nat.le_refl _) (Nat.le_refl _) dX9_phase_16 (by refine ⟨(if_neg hv).symm, ?_, by rw [eM3]; exact kx nx⟩; show cRep E _ NO x (if vI nn i then _ else _); rw [if_neg hv, eM3]; exact (hC.scal hiK).rep)
theorem in_X9_knob_I : ∀ w ∈ wsX00 ++ wsX20 ++ wsX40 ++ wsX60 ++ wsX80, w ∈ wsX9_knob := by decide +kernel
theorem in_X9_knob_X9 : ∀ w ∈ wsX90, w ∈ wsX9_knob := by decide +kernel
set_option maxHeartbeats 4000000 in
set_option maxRecDepth 100000 in
theorem c_X9_knob (l : Launch) (E : mEnv) (M : mMem) (sz : Nat) (NO : Nat → Prop) (x nn nf : Nat) (ins : Nat → sIn) (fn : Nat → Int32 × Int32) (bk : Nat → Option Nat) (rw : Nat → sRw) (bd st c2 c3 c4 : Int32) (hV : Inv (nn, ins, nf, fn, bk, rw, bd, st, c2, c3, c4)) (hC : cRep E M NO x (nn, ins, nf, fn, bk, rw, bd, st, c2, c3, c4)) (hO : ∀ q, NO q → M q ≠ none) (i k v : Int32)    : Met l yX9_knob wsX9_knob ({ frames := 1, cells := 0, slots := 0, locals := 21 }) (mPre E M sz [.ref x, .int i, .int k, .int v]) (mQi E M sz (fun r u => r = aKnob (nn, ins, nf, fn, bk, rw, bd, st, c2, c3, c4) i k v ∧ cRep E u NO x (nKnob (nn, ins, nf, fn, bk, rw, bd, st, c2, c3, c4) i k v) ∧ kept NO M u)) (0) (0) (mA M sz) := by
  refine m_met [.ref x, .int i, .int k, .int v] (by decide) rfl (Nat.le_of_ble_eq_true rfl) ?_
  intro p e s m below meth c ls H eH hx hb hr hts hown hlocks hnm hml hsz hE hM hS hA hl
  have hl : lv_has ls 6 [(0, .ref x), (1, .int i), (2, .int k), (3, .int v)] := hl
  obtain ⟨a1, a2, a3, a4, fi, fb, ff, wt, ia, ib, fa, ra, rb, fl, LV, hC⟩ := hC
  have hC0 := hC.rep
  have hiK := hV.insK
  obtain ⟨hnn, hnf, hvI, hvD, hv24, hvR, hvF⟩ := id hV
  obtain ⟨⟨g_x, g_a1, g_a2, g_a3, g_a4⟩, hI, hF, hB, hL, hR, hJ, hN⟩ := id hC
  obtain ⟨⟨nx, n1, n2, n3, n4⟩, nI0, nF0, nR0⟩ := id hN
  refine lv_aload_n hx hb dX9_knob_0 rfl (lv_at hl 0 rfl) ?_
  refine lv_iload_n hx hb dX9_knob_1 rfl (lv_at hl 1 rfl) ?_
  refine m_callq (va_runV (As := [.int i]) (rest := []) ⟨hx, hb, hml, hown, hts⟩ (c_X9_instrumentAt l E M H.size x a1 a2 a3 a4 nn nf bd st c2 c3 c4 fi fb ff wt i hnn g_x g_a1) (cwV 1 hts gX9_knob_X9_instrumentAt rfl rfl rfl (by decide +kernel) ⟨Nat.le_of_ble_eq_true rfl, Nat.le_of_ble_eq_true rfl⟩) (m_preV hE hM g_x rfl) rfl rfl hl.1 rfl (lv_room (Nat.le_of_ble_eq_true rfl)) dX9_knob_2 ⟨Nat.le_of_ble_eq_true rfl, Nat.le_of_ble_eq_true rfl⟩) hM hS hA (fun r1 u H locs hw hM hS => ?_)
  obtain ⟨e_r1, eu⟩ := hw
  rw [eu] at hM
  by_cases hv : ¬ i < 0 ∧ ¬ nI nn ≤ i
  · rw [if_pos hv] at e_r1
    obtain ⟨j, hj, hij, hjc⟩ := vI_ix hv hnn
    rw [hjc] at e_r1
    rcases hins : ins j with ⟨ci, kf, pi, on, ph, le, tb⟩
    obtain ⟨k1, g_p0, g_q0⟩ := hI j hj _ _ _ _ _ _ _ hins
    obtain ⟨hci, hle, hon⟩ := hvI j hj _ _ _ _ _ _ _ hins
    have hno := nI0 j hj
    obtain ⟨p0, ep0⟩ : ∃ z, z = ia j := ⟨_, rfl⟩
    obtain ⟨q0, eq0⟩ : ∃ z, z = ib j := ⟨_, rfl⟩
    obtain ⟨f0, ef0⟩ : ∃ z, z = fl j := ⟨_, rfl⟩
    rw [← ep0] at k1 g_p0
    rw [← eq0, ← ef0] at g_p0
    rw [← eq0] at g_q0
    rw [k1] at e_r1
    subst e_r1
    refine W.eq (g2 := F0 m 5 ls [.ref p0]) rfl ?_
    refine lv_astore (lv' := [(4, .ref p0), (0, .ref x), (1, .int i), (2, .int k), (3, .int v)]) hx hb dX9_knob_5 hl (by decide) rfl (fun ls hl => ?_)
    refine lv_aload hx hb dX9_knob_7 (lv_at hl 0 rfl) ?_
    refine lv_ifnull hx hb dX9_knob_9 ?_
    refine lv_iload_n hx hb dX9_knob_12 rfl (lv_at hl 3 rfl) ?_
    refine lv_if_lt (tgt := 21) hx hb dX9_knob_13 (by decide) (fun c_13 => ?_) (fun c_13 => ?_)
    · skip
      have hx9 : ¬ (vI nn i ∧ vK k) := fun h => h.2.1 c_13
      refine lv_aload_n hx hb dX9_knob_21 rfl (lv_at hl 1 rfl) ?_
      refine lv_iconst (v := -1) hx hb dX9_knob_22 (by decide) ?_
      refine m_put (ci := 7) (v := .int (-1)) (ty := .int) (C := RX9) (T := TX9) (N := 11) hx hb hts in_X9_knob_X9 tyX9 tyX9_ok nmX9 hown hE hM hS g_x rfl 7 (by decide) (hts (.fieldLink RX9 53 "CallWays2" "latest" "I") (by decide +kernel)) (fun _ h9 => h9) rfl (by decide +kernel) rfl rfl (Nat.le_of_ble_eq_true rfl) dX9_knob_23 (fun H locs hM hS => ?_)
      have hM : mOK E.1 (mA M sz) (mUp M x (mO 7 [.ref a1, .ref a2, .ref a3, .ref a4, .int (nI nn), .int (nI nf), .int bd, .int (-1), .int c2, .int c3, .int c4])) H := hM
      obtain ⟨M1, eM1⟩ : ∃ z, z = mUp M x (mO 7 [.ref a1, .ref a2, .ref a3, .ref a4, .int (nI nn), .int (nI nf), .int bd, .int (-1), .int c2, .int c3, .int c4]) := ⟨_, rfl⟩
      rw [← eM1] at hM
      have g_a1_ : M1 a1 = some (mQ E 4 12 fi) := by rw [eM1]; exact mUp_at (m_ne g_a1 g_x (by simp)) g_a1
      have g_a2_ : M1 a2 = some (mQ E 5 10 fb) := by rw [eM1]; exact mUp_at (m_ne g_a2 g_x (by simp)) g_a2
      have g_a3_ : M1 a3 = some (mQ E 6 8 ff) := by rw [eM1]; exact mUp_at (m_ne g_a3 g_x (by simp)) g_a3
      have g_a4_ : M1 a4 = some (mDb E 40 wt) := by rw [eM1]; exact mUp_at (m_ne g_a4 g_x (by simp)) g_a4
      have g_p0_ : M1 p0 = some (mO ci [.ref q0, .int pi, .int on, .int ph, .double le, va_rf (tb.map ra), .int f0]) := by rw [eM1]; exact mUp_at (Ne.symm (m_ne g_x g_p0 (by simp))) g_p0
      have g_q0_ : M1 q0 = some (mI E 4 kf) := by rw [eM1]; exact mUp_at (m_ne g_q0 g_x (by simp)) g_q0
      have g_a1 := g_a1_
      have g_a2 := g_a2_
      have g_a3 := g_a3_
      have g_a4 := g_a4_
      have g_p0 := g_p0_
      have g_q0 := g_q0_
      have g_x : M1 x = some (mO 7 [.ref a1, .ref a2, .ref a3, .ref a4, .int (nI nn), .int (nI nf), .int bd, .int (-1), .int c2, .int c3, .int c4]) := by rw [eM1]; exact mUp_self _ _ _
      refine lv_iconst (v := 0) hx hb dX9_knob_26 (by decide) ?_
      exact m_iret hx hb hr hlocks hM hS (Nat.le_refl _) (Nat.le_refl _) dX9_knob_27 (by first | (refine ⟨(if_neg hx9).symm, ?_, by rw [eM1]; exact kx nx⟩; show cRep E _ NO x (if vI nn i ∧ vK k then _ else _); rw [if_neg hx9, eM1]; exact (hC.scal hiK).rep) | (have hx9 : ¬ (vI nn i ∧ vK k) := na1 hv; refine ⟨(if_neg hx9).symm, ?_, by rw [eM1]; exact kx nx⟩; show cRep E _ NO x (if vI nn i ∧ vK k then _ else _); rw [if_neg hx9, eM1]; exact (hC.scal hiK).rep))
    · skip
      refine lv_iload_n hx hb dX9_knob_16 rfl (lv_at hl 3 rfl) ?_
      refine lv_iconst (v := 4) hx hb dX9_knob_17 (by decide) ?_
      refine lv_icmp_lt (tgt := 28) hx hb dX9_knob_18 (by decide) (fun c_18 => ?_) (fun c_18 => ?_)
      · skip
        have hk : vK k := ⟨c_13, c_18⟩
        refine lv_aload hx hb dX9_knob_28 (lv_at hl 0 rfl) ?_
        refine m_getI (v := .ref q0) hx hb hts in_X9_knob_I hown hE hM g_p0 hci 0 (by decide) (hts (.fieldLink RX9 56 "CallWays2$Instrument" "knobs" "[I") (by decide +kernel)) (fun _ h9 => h9) rfl dX9_knob_30 ?_
        refine lv_iload_n hx hb dX9_knob_33 rfl (lv_at hl 3 rfl) ?_
        refine m_iald hx hb hE hM g_q0 (vk_in hk) dX9_knob_34 ?_
        refine lv_istore (lv' := [(5, .int (kf k.toNatClampNeg)), (4, .ref p0), (0, .ref x), (1, .int i), (2, .int k), (3, .int v)]) hx hb dX9_knob_35 hl (by decide) rfl (fun ls hl => ?_)
        refine lv_aload hx hb dX9_knob_37 (lv_at hl 1 rfl) ?_
        refine m_getI (v := .ref q0) hx hb hts in_X9_knob_I hown hE hM g_p0 hci 0 (by decide) (hts (.fieldLink RX9 56 "CallWays2$Instrument" "knobs" "[I") (by decide +kernel)) (fun _ h9 => h9) rfl dX9_knob_39 ?_
        refine lv_iload_n hx hb dX9_knob_42 rfl (lv_at hl 4 rfl) ?_
        refine lv_iload_n hx hb dX9_knob_43 rfl (lv_at hl 5 rfl) ?_
        refine m_iast hx hb hE hM hS g_q0 (vk_in hk) dX9_knob_44 (fun H locs hM hS => ?_)
        have hM : mOK E.1 (mA M sz) (mUp M q0 (mI E 4 (upd kf k.toNatClampNeg v))) H := hM
        obtain ⟨M2, eM2⟩ : ∃ z, z = mUp M q0 (mI E 4 (upd kf k.toNatClampNeg v)) := ⟨_, rfl⟩
        rw [← eM2] at hM
        have g_x_ : M2 x = some (mO 7 [.ref a1, .ref a2, .ref a3, .ref a4, .int (nI nn), .int (nI nf), .int bd, .int st, .int c2, .int c3, .int c4]) := by rw [eM2]; exact mUp_at (m_ne g_x g_q0 (by simp)) g_x
        have g_a1_ : M2 a1 = some (mQ E 4 12 fi) := by rw [eM2]; exact mUp_at (m_ne g_a1 g_q0 (by simp)) g_a1
        have g_a2_ : M2 a2 = some (mQ E 5 10 fb) := by rw [eM2]; exact mUp_at (m_ne g_a2 g_q0 (by simp)) g_a2
        have g_a3_ : M2 a3 = some (mQ E 6 8 ff) := by rw [eM2]; exact mUp_at (m_ne g_a3 g_q0 (by simp)) g_a3
        have g_a4_ : M2 a4 = some (mDb E 40 wt) := by rw [eM2]; exact mUp_at (m_ne g_a4 g_q0 (by simp)) g_a4
        have g_p0_ : M2 p0 = some (mO ci [.ref q0, .int pi, .int on, .int ph, .double le, va_rf (tb.map ra), .int f0]) := by rw [eM2]; exact mUp_at (m_ne g_p0 g_q0 (by simp)) g_p0
        have g_x := g_x_
        have g_a1 := g_a1_
        have g_a2 := g_a2_
        have g_a3 := g_a3_
        have g_a4 := g_a4_
        have g_p0 := g_p0_
        have g_q0 : M2 q0 = some (mI E 4 (upd kf k.toNatClampNeg v)) := by rw [eM2]; exact mUp_self _ _ _
        refine lv_aload_n hx hb dX9_knob_45 rfl (lv_at hl 2 rfl) ?_
        refine lv_iconst (v := 0) hx hb dX9_knob_46 (by decide) ?_
        refine m_put (ci := 7) (v := .int 0) (ty := .int) (C := RX9) (T := TX9) (N := 11) hx hb hts in_X9_knob_X9 tyX9 tyX9_ok nmX9 hown hE hM hS g_x rfl 7 (by decide) (hts (.fieldLink RX9 53 "CallWays2" "latest" "I") (by decide +kernel)) (fun _ h9 => h9) rfl (by decide +kernel) rfl rfl (Nat.le_of_ble_eq_true rfl) dX9_knob_47 (fun H locs hM hS => ?_)
        have hM : mOK E.1 (mA M sz) (mUp M2 x (mO 7 [.ref a1, .ref a2, .ref a3, .ref a4, .int (nI nn), .int (nI nf), .int bd, .int 0, .int c2, .int c3, .int c4])) H := hM
        obtain ⟨M3, eM3⟩ : ∃ z, z = mUp M2 x (mO 7 [.ref a1, .ref a2, .ref a3, .ref a4, .int (nI nn), .int (nI nf), .int bd, .int 0, .int c2, .int c3, .int c4]) := ⟨_, rfl⟩
        rw [← eM3] at hM
        have g_a1_ : M3 a1 = some (mQ E 4 12 fi) := by rw [eM3]; exact mUp_at (m_ne g_a1 g_x (by simp)) g_a1
        have g_a2_ : M3 a2 = some (mQ E 5 10 fb) := by rw [eM3]; exact mUp_at (m_ne g_a2 g_x (by simp)) g_a2
        have g_a3_ : M3 a3 = some (mQ E 6 8 ff) := by rw [eM3]; exact mUp_at (m_ne g_a3 g_x (by simp)) g_a3
        have g_a4_ : M3 a4 = some (mDb E 40 wt) := by rw [eM3]; exact mUp_at (m_ne g_a4 g_x (by simp)) g_a4
        have g_p0_ : M3 p0 = some (mO ci [.ref q0, .int pi, .int on, .int ph, .double le, va_rf (tb.map ra), .int f0]) := by rw [eM3]; exact mUp_at (Ne.symm (m_ne g_x g_p0 (by simp))) g_p0
        have g_q0_ : M3 q0 = some (mI E 4 (upd kf k.toNatClampNeg v)) := by rw [eM3]; exact mUp_at (m_ne g_q0 g_x (by simp)) g_q0
        have g_a1 := g_a1_
        have g_a2 := g_a2_
        have g_a3 := g_a3_
        have g_a4 := g_a4_
        have g_p0 := g_p0_
        have g_q0 := g_q0_
        have g_x : M3 x = some (mO 7 [.ref a1, .ref a2, .ref a3, .ref a4, .int (nI nn), .int (nI nf), .int bd, .int 0, .int c2, .int c3, .int c4]) := by rw [eM3]; exact mUp_self _ _ _
        refine lv_iload hx hb dX9_knob_50 (lv_at hl 0 rfl) ?_
        exact m_iret hx hb hr hlocks hM hS (Nat.le_refl _) (Nat.le_refl _) dX9_knob_52 (by exact ⟨(by show _ = (if vI nn i ∧ vK k then _ else _); rw [if_pos ⟨hv, hk⟩, hjc, hins]), (by show cRep E _ NO x (if vI nn i ∧ vK k then _ else _); rw [if_pos ⟨hv, hk⟩, hjc, hins, eM3, eM2, eq0]; exact ((hC.knob hiK hj hins).scal (insK_up hiK (by rw [hins]))).rep), (by rw [eM3, eM2, eq0]; exact (kx hno.2).up nx)⟩)
      · skip
        have hx9 : ¬ (vI nn i ∧ vK k) := fun h => c_18 h.2.2
        refine lv_aload_n hx hb dX9_knob_21 rfl (lv_at hl 1 rfl) ?_
        refine lv_iconst (v := -1) hx hb dX9_knob_22 (by decide) ?_
        refine m_put (ci := 7) (v := .int (-1)) (ty := .int) (C := RX9) (T := TX9) (N := 11) hx hb hts in_X9_knob_X9 tyX9 tyX9_ok nmX9 hown hE hM hS g_x rfl 7 (by decide) (hts (.fieldLink RX9 53 "CallWays2" "latest" "I") (by decide +kernel)) (fun _ h9 => h9) rfl (by decide +kernel) rfl rfl (Nat.le_of_ble_eq_true rfl) dX9_knob_23 (fun H locs hM hS => ?_)
        have hM : mOK E.1 (mA M sz) (mUp M x (mO 7 [.ref a1, .ref a2, .ref a3, .ref a4, .int (nI nn), .int (nI nf), .int bd, .int (-1), .int c2, .int c3, .int c4])) H := hM
        obtain ⟨M4, eM4⟩ : ∃ z, z = mUp M x (mO 7 [.ref a1, .ref a2, .ref a3, .ref a4, .int (nI nn), .int (nI nf), .int bd, .int (-1), .int c2, .int c3, .int c4]) := ⟨_, rfl⟩
        rw [← eM4] at hM
        have g_a1_ : M4 a1 = some (mQ E 4 12 fi) := by rw [eM4]; exact mUp_at (m_ne g_a1 g_x (by simp)) g_a1
        have g_a2_ : M4 a2 = some (mQ E 5 10 fb) := by rw [eM4]; exact mUp_at (m_ne g_a2 g_x (by simp)) g_a2
        have g_a3_ : M4 a3 = some (mQ E 6 8 ff) := by rw [eM4]; exact mUp_at (m_ne g_a3 g_x (by simp)) g_a3
        have g_a4_ : M4 a4 = some (mDb E 40 wt) := by rw [eM4]; exact mUp_at (m_ne g_a4 g_x (by simp)) g_a4
        have g_p0_ : M4 p0 = some (mO ci [.ref q0, .int pi, .int on, .int ph, .double le, va_rf (tb.map ra), .int f0]) := by rw [eM4]; exact mUp_at (Ne.symm (m_ne g_x g_p0 (by simp))) g_p0
        have g_q0_ : M4 q0 = some (mI E 4 kf) := by rw [eM4]; exact mUp_at (m_ne g_q0 g_x (by simp)) g_q0
        have g_a1 := g_a1_
        have g_a2 := g_a2_
        have g_a3 := g_a3_
        have g_a4 := g_a4_
        have g_p0 := g_p0_
        have g_q0 := g_q0_
        have g_x : M4 x = some (mO 7 [.ref a1, .ref a2, .ref a3, .ref a4, .int (nI nn), .int (nI nf), .int bd, .int (-1), .int c2, .int c3, .int c4]) := by rw [eM4]; exact mUp_self _ _ _
        refine lv_iconst (v := 0) hx hb dX9_knob_26 (by decide) ?_
        exact m_iret hx hb hr hlocks hM hS (Nat.le_refl _) (Nat.le_refl _) dX9_knob_27 (by first | (refine ⟨(if_neg hx9).symm, ?_, by rw [eM4]; exact kx nx⟩; show cRep E _ NO x (if vI nn i ∧ vK k then _ else _); rw [if_neg hx9, eM4]; exact (hC.scal hiK).rep) | (have hx9 : ¬ (vI nn i ∧ vK k) := na1 hv; refine ⟨(if_neg hx9).symm, ?_, by rw [eM4]; exact kx nx⟩; show cRep E _ NO x (if vI nn i ∧ vK k then _ else _); rw [if_neg hx9, eM4]; exact (hC.scal hiK).rep))
  · rw [if_neg hv] at e_r1
    subst e_r1
    refine W.eq (g2 := F0 m 5 ls [.null]) rfl ?_
    refine lv_astoreN (lv' := [(4, .null), (0, .ref x), (1, .int i), (2, .int k), (3, .int v)]) hx hb dX9_knob_5 hl (by decide) rfl (fun ls hl => ?_)
    refine lv_aloadN hx hb dX9_knob_7 (lv_at hl 0 rfl) ?_
    refine lv_ifnullN (tgt := 21) hx hb dX9_knob_9 (by decide) ?_
    refine lv_aload_n hx hb dX9_knob_21 rfl (lv_at hl 1 rfl) ?_
    refine lv_iconst (v := -1) hx hb dX9_knob_22 (by decide) ?_
    refine m_put (ci := 7) (v := .int (-1)) (ty := .int) (C := RX9) (T := TX9) (N := 11) hx hb hts in_X9_knob_X9 tyX9 tyX9_ok nmX9 hown hE hM hS g_x rfl 7 (by decide) (hts (.fieldLink RX9 53 "CallWays2" "latest" "I") (by decide +kernel)) (fun _ h9 => h9) rfl (by decide +kernel) rfl rfl (Nat.le_of_ble_eq_true rfl) dX9_knob_23 (fun H locs hM hS => ?_)
    have hM : mOK E.1 (mA M sz) (mUp M x (mO 7 [.ref a1, .ref a2, .ref a3, .ref a4, .int (nI nn), .int (nI nf), .int bd, .int (-1), .int c2, .int c3, .int c4])) H := hM
    obtain ⟨M5, eM5⟩ : ∃ z, z = mUp M x (mO 7 [.ref a1, .ref a2, .ref a3, .ref a4, .int (nI nn), .int (nI nf), .int bd, .int (-1), .int c2, .int c3, .int c4]) := ⟨_, rfl⟩
    rw [← eM5] at hM
    have g_a1_ : M5 a1 = some (mQ E 4 12 fi) := by rw [eM5]; exact mUp_at (m_ne g_a1 g_x (by simp)) g_a1
    have g_a2_ : M5 a2 = some (mQ E 5 10 fb) := by rw [eM5]; exact mUp_at (m_ne g_a2 g_x (by simp)) g_a2
    have g_a3_ : M5 a3 = some (mQ E 6 8 ff) := by rw [eM5]; exact mUp_at (m_ne g_a3 g_x (by simp)) g_a3
    have g_a4_ : M5 a4 = some (mDb E 40 wt) := by rw [eM5]; exact mUp_at (m_ne g_a4 g_x (by simp)) g_a4
    have g_a1 := g_a1_
    have g_a2 := g_a2_
    have g_a3 := g_a3_
    have g_a4 := g_a4_
    have g_x : M5 x = some (mO 7 [.ref a1, .ref a2, .ref a3, .ref a4, .int (nI nn), .int (nI nf), .int bd, .int (-1), .int c2, .int c3, .int c4]) := by rw [eM5]; exact mUp_self _ _ _
    refine lv_iconst (v := 0) hx hb dX9_knob_26 (by decide) ?_
    exact m_iret hx hb hr hlocks hM hS (Nat.le_refl _) (Nat.le_refl _) dX9_knob_27 (by first | (refine ⟨(if_neg hx9).symm, ?_, by rw [eM5]; exact kx nx⟩; show cRep E _ NO x (if vI nn i ∧ vK k then _ else _); rw [if_neg hx9, eM5]; exact (hC.scal hiK).rep) | (have hx9 : ¬ (vI nn i ∧ vK k) := na1 hv; refine ⟨(if_neg hx9).symm, ?_, by rw [eM5]; exact kx nx⟩; show cRep E _ NO x (if vI nn i ∧ vK k then _ else _); rw [if_neg hx9, eM5]; exact (hC.scal hiK).rep))
end
section
theorem in_X9_note_I : ∀ w ∈ wsX00 ++ wsX20 ++ wsX40 ++ wsX60 ++ wsX80, w ∈ wsX9_note := by decide +kernel
set_option maxHeartbeats 4000000 in
set_option maxRecDepth 100000 in
theorem c_X9_note (l : Launch) (E : mEnv) (M : mMem) (sz : Nat) (NO : Nat → Prop) (x nn nf : Nat) (ins : Nat → sIn) (fn : Nat → Int32 × Int32) (bk : Nat → Option Nat) (rw : Nat → sRw) (bd st c2 c3 c4 : Int32) (hV : Inv (nn, ins, nf, fn, bk, rw, bd, st, c2, c3, c4)) (hC : cRep E M NO x (nn, ins, nf, fn, bk, rw, bd, st, c2, c3, c4)) (hO : ∀ q, NO q → M q ≠ none) (i pt o : Int32) (ho : o = 0 ∨ o = 1)   : Met l yX9_note wsX9_note ({ frames := 2, cells := 0, slots := 0, locals := 44 }) (mPre E M sz [.ref x, .int i, .int pt, .int o]) (mQi E M sz (fun r u => r = aNote (nn, ins, nf, fn, bk, rw, bd, st, c2, c3, c4) i pt o ∧ cRep E u NO x (nNote (nn, ins, nf, fn, bk, rw, bd, st, c2, c3, c4) i pt o) ∧ kept NO M u)) (0) (0) (mA M sz) := by
  refine m_met [.ref x, .int i, .int pt, .int o] (by decide) rfl (Nat.le_of_ble_eq_true rfl) ?_
  intro p e s m below meth c ls H eH hx hb hr hts hown hlocks hnm hml hsz hE hM hS hA hl
  have hl : lv_has ls 6 [(0, .ref x), (1, .int i), (2, .int pt), (3, .int o)] := hl
  obtain ⟨a1, a2, a3, a4, fi, fb, ff, wt, ia, ib, fa, ra, rb, fl, LV, hC⟩ := hC
  have hC0 := hC.rep
  have hiK := hV.insK
  obtain ⟨hnn, hnf, hvI, hvD, hv24, hvR, hvF⟩ := id hV
  obtain ⟨⟨g_x, g_a1, g_a2, g_a3, g_a4⟩, hI, hF, hB, hL, hR, hJ, hN⟩ := id hC
  obtain ⟨⟨nx, n1, n2, n3, n4⟩, nI0, nF0, nR0⟩ := id hN
  refine lv_aload_n hx hb dX9_note_0 rfl (lv_at hl 0 rfl) ?_
  refine lv_iload_n hx hb dX9_note_1 rfl (lv_at hl 1 rfl) ?_
  refine m_callq (va_runV (As := [.int i]) (rest := []) ⟨hx, hb, hml, hown, hts⟩ (c_X9_instrumentAt l E M H.size x a1 a2 a3 a4 nn nf bd st c2 c3 c4 fi fb ff wt i hnn g_x g_a1) (cwV 1 hts gX9_note_X9_instrumentAt rfl rfl rfl (by decide +kernel) ⟨Nat.le_of_ble_eq_true rfl, Nat.le_of_ble_eq_true rfl⟩) (m_preV hE hM g_x rfl) rfl rfl hl.1 rfl (lv_room (Nat.le_of_ble_eq_true rfl)) dX9_note_2 ⟨Nat.le_of_ble_eq_true rfl, Nat.le_of_ble_eq_true rfl⟩) hM hS hA (fun r1 u H locs hw hM hS => ?_)
  obtain ⟨e_r1, eu⟩ := hw
  rw [eu] at hM
  by_cases hv : ¬ i < 0 ∧ ¬ nI nn ≤ i
  · rw [if_pos hv] at e_r1
    obtain ⟨j, hj, hij, hjc⟩ := vI_ix hv hnn
    rw [hjc] at e_r1
    rcases hins : ins j with ⟨ci, kf, pi, on, ph, le, tb⟩
    obtain ⟨k1, g_p0, g_q0⟩ := hI j hj _ _ _ _ _ _ _ hins
    obtain ⟨hci, hle, hon⟩ := hvI j hj _ _ _ _ _ _ _ hins
    have hno := nI0 j hj
    obtain ⟨p0, ep0⟩ : ∃ z, z = ia j := ⟨_, rfl⟩
    obtain ⟨q0, eq0⟩ : ∃ z, z = ib j := ⟨_, rfl⟩
    obtain ⟨f0, ef0⟩ : ∃ z, z = fl j := ⟨_, rfl⟩
    rw [← ep0] at k1 g_p0
    rw [← eq0, ← ef0] at g_p0
    rw [← eq0] at g_q0
    rw [k1] at e_r1
    subst e_r1
    refine W.eq (g2 := F0 m 5 ls [.ref p0]) rfl ?_
    refine lv_astore (lv' := [(4, .ref p0), (0, .ref x), (1, .int i), (2, .int pt), (3, .int o)]) hx hb dX9_note_5 hl (by decide) rfl (fun ls hl => ?_)
    refine lv_aload hx hb dX9_note_7 (lv_at hl 0 rfl) ?_
    refine lv_ifnull hx hb dX9_note_9 ?_
    refine lv_iload_n hx hb dX9_note_12 rfl (lv_at hl 3 rfl) ?_
    refine lv_if_lt (tgt := 22) hx hb dX9_note_13 (by decide) (fun c_13 => ?_) (fun c_13 => ?_)
    · skip
      have hx9 : ¬ (vI nn i ∧ vP pt) := fun h => h.2.1 c_13
      refine lv_iconst (v := -1) hx hb dX9_note_22 (by decide) ?_
      exact m_iret hx hb hr hlocks hM hS (Nat.le_refl _) (Nat.le_refl _) dX9_note_23 (by first | (exact ⟨(if_neg hx9).symm, (by show cRep E _ NO x (if vI nn i ∧ vP pt then _ else _); rw [if_neg hx9]; exact hC0), kept.rf⟩) | (have hx9 : ¬ (vI nn i ∧ vP pt) := na1 hv; exact ⟨(if_neg hx9).symm, (by show cRep E _ NO x (if vI nn i ∧ vP pt then _ else _); rw [if_neg hx9]; exact hC0), kept.rf⟩))
    · skip
      refine lv_iload_n hx hb dX9_note_16 rfl (lv_at hl 3 rfl) ?_
      refine lv_bipush (v := 127) hx hb dX9_note_17 (by decide) ?_
      refine lv_icmp_le (tgt := 24) hx hb dX9_note_19 (by decide) (fun c_19 => ?_) (fun c_19 => ?_)
      · skip
        have hp : vP pt := ⟨c_13, c_19⟩
        refine lv_aload hx hb dX9_note_24 (lv_at hl 0 rfl) ?_
        refine m_getI (v := .int on) hx hb hts in_X9_note_I hown hE hM g_p0 hci 2 (by decide) (hts (.fieldLink RX9 45 "CallWays2$Instrument" "on" "Z") (by decide +kernel)) (fun _ h9 => h9) rfl dX9_note_26 ?_
        refine lv_if_eq (tgt := 36) hx hb dX9_note_29 (by decide) (fun c_29 => ?_) (fun c_29 => ?_)
        · skip
          refine lv_iconst (v := 0) hx hb dX9_note_36 (by decide) ?_
          refine lv_istore (lv' := [(5, .int 0), (4, .ref p0), (0, .ref x), (1, .int i), (2, .int pt), (3, .int o)]) hx hb dX9_note_37 hl (by decide) rfl (fun ls hl => ?_)
          refine lv_aload hx hb dX9_note_39 (lv_at hl 1 rfl) ?_
          refine lv_iload_n hx hb dX9_note_41 rfl (lv_at hl 4 rfl) ?_
          refine lv_iload_n hx hb dX9_note_42 rfl (lv_at hl 5 rfl) ?_
          have hMr := hM
          have hrun : va_Run p l e ({ frames := 2, cells := 0, slots := 0, locals := 44 } : Room) s m #[.ref x, .int i, .int pt, .int o] below meth c H locs 0 0 0 0 (F0 m 43 ls [.int o, .int pt, .ref p0]) [] (mQv E M H.size (fun u => u = mUp M p0 (mO ci [.ref q0, .int pt, .int o, .int ph, .double (sLev ci o pt le), va_rf (tb.map ra), .int f0])) #[.ref p0, .int pt, .int o]) (mA M H.size) := by
            rcases hci with rfl | rfl | rfl | rfl | rfl
            · exact va_runU (As := [.int pt, .int o]) (rest := []) ⟨hx, hb, hml, hown, hts⟩ (c_X2_strike_0 l E M H.size p0 q0 pi on ph f0 le (tb.map ra) pt o ho g_p0) (va_cwO 2 hts gX9_note_X2_strike_u49X0 rfl rfl rfl (b0 := cX5_strike) (m0 := 3) (r0 := none) (by decide +kernel) (by decide +kernel) ⟨Nat.le_of_ble_eq_true rfl, Nat.le_of_ble_eq_true rfl⟩) (m_preV hE hMr g_p0 rfl) rfl rfl hl.1 rfl (lv_room (Nat.le_of_ble_eq_true rfl)) dX9_note_43 ⟨Nat.le_of_ble_eq_true rfl, Nat.le_of_ble_eq_true rfl⟩
            · exact va_runU (As := [.int pt, .int o]) (rest := []) ⟨hx, hb, hml, hown, hts⟩ (c_X2_strike_1 l E M H.size p0 q0 pi on ph f0 le (tb.map ra) pt o ho g_p0) (va_cwO 2 hts gX9_note_X2_strike_u49X2 rfl rfl rfl (b0 := cX5_strike) (m0 := 3) (r0 := none) (by decide +kernel) (by decide +kernel) ⟨Nat.le_of_ble_eq_true rfl, Nat.le_of_ble_eq_true rfl⟩) (m_preV hE hMr g_p0 rfl) rfl rfl hl.1 rfl (lv_room (Nat.le_of_ble_eq_true rfl)) dX9_note_43 ⟨Nat.le_of_ble_eq_true rfl, Nat.le_of_ble_eq_true rfl⟩
            · exact va_runU (As := [.int pt, .int o]) (rest := []) ⟨hx, hb, hml, hown, hts⟩ (c_X5_strike l E M H.size 3 (by unfold insK; decide) p0 q0 pi on ph f0 le (tb.map ra) pt o ho g_p0) (va_cwU 2 hts gX9_note_X5_strike_u49X4 rfl rfl rfl rfl (by decide +kernel) ⟨Nat.le_of_ble_eq_true rfl, Nat.le_of_ble_eq_true rfl⟩) (m_preV hE hMr g_p0 rfl) rfl rfl hl.1 rfl (lv_room (Nat.le_of_ble_eq_true rfl)) dX9_note_43 ⟨Nat.le_of_ble_eq_true rfl, Nat.le_of_ble_eq_true rfl⟩
            · exact va_runU (As := [.int pt, .int o]) (rest := []) ⟨hx, hb, hml, hown, hts⟩ (c_X5_strike l E M H.size 4 (by unfold insK; decide) p0 q0 pi on ph f0 le (tb.map ra) pt o ho g_p0) (va_cwU 2 hts gX9_note_X5_strike_u49X6 rfl rfl rfl rfl (by decide +kernel) ⟨Nat.le_of_ble_eq_true rfl, Nat.le_of_ble_eq_true rfl⟩) (m_preV hE hMr g_p0 rfl) rfl rfl hl.1 rfl (lv_room (Nat.le_of_ble_eq_true rfl)) dX9_note_43 ⟨Nat.le_of_ble_eq_true rfl, Nat.le_of_ble_eq_true rfl⟩
            · exact va_runU (As := [.int pt, .int o]) (rest := []) ⟨hx, hb, hml, hown, hts⟩ (c_X5_strike l E M H.size 6 (by unfold insK; decide) p0 q0 pi on ph f0 le (tb.map ra) pt o ho g_p0) (va_cwU 2 hts gX9_note_X5_strike_u49X8 rfl rfl rfl rfl (by decide +kernel) ⟨Nat.le_of_ble_eq_true rfl, Nat.le_of_ble_eq_true rfl⟩) (m_preV hE hMr g_p0 rfl) rfl rfl hl.1 rfl (lv_room (Nat.le_of_ble_eq_true rfl)) dX9_note_43 ⟨Nat.le_of_ble_eq_true rfl, Nat.le_of_ble_eq_true rfl⟩
          refine m_callv hrun hM hS hA (fun M1 H locs hw hM hS => ?_)
          have eM1 := hw
          have g_x_ : M1 x = some (mO 7 [.ref a1, .ref a2, .ref a3, .ref a4, .int (nI nn), .int (nI nf), .int bd, .int st, .int c2, .int c3, .int c4]) := by rw [eM1]; exact mUp_at (m_ne g_x g_p0 (by simp)) g_x
          have g_a1_ : M1 a1 = some (mQ E 4 12 fi) := by rw [eM1]; exact mUp_at (m_ne g_a1 g_p0 (by simp)) g_a1
          have g_a2_ : M1 a2 = some (mQ E 5 10 fb) := by rw [eM1]; exact mUp_at (m_ne g_a2 g_p0 (by simp)) g_a2
          have g_a3_ : M1 a3 = some (mQ E 6 8 ff) := by rw [eM1]; exact mUp_at (m_ne g_a3 g_p0 (by simp)) g_a3
          have g_a4_ : M1 a4 = some (mDb E 40 wt) := by rw [eM1]; exact mUp_at (m_ne g_a4 g_p0 (by simp)) g_a4
          have g_q0_ : M1 q0 = some (mI E 4 kf) := by rw [eM1]; exact mUp_at (m_ne g_q0 g_p0 (by simp)) g_q0
          have g_x := g_x_
          have g_a1 := g_a1_
          have g_a2 := g_a2_
          have g_a3 := g_a3_
          have g_a4 := g_a4_
          have g_q0 := g_q0_
          have g_p0 : M1 p0 = some (mO ci [.ref q0, .int pt, .int o, .int ph, .double (sLev ci o pt le), va_rf (tb.map ra), .int f0]) := by rw [eM1]; exact mUp_self _ _ _
          refine lv_iload hx hb dX9_note_46 (lv_at hl 0 rfl) ?_
          exact m_iret hx hb hr hlocks hM hS (Nat.le_refl _) (Nat.le_refl _) dX9_note_48 (by exact ⟨(by show _ = (if vI nn i ∧ vP pt then _ else _); rw [if_pos ⟨hv, hp⟩, hjc, hins]; first | exact (if_pos c_29).symm | exact (if_neg c_29).symm), (by show cRep E _ NO x (if vI nn i ∧ vP pt then _ else _); rw [if_pos ⟨hv, hp⟩, hjc, hins, eM1, ep0, eq0]; exact (hC.inst hiK hj hins).rep), (by rw [eM1, ep0]; exact kx hno.1)⟩)
        · skip
          refine lv_iconst (v := 1) hx hb dX9_note_32 (by decide) ?_
          refine lv_goto (tgt := 37) hx hb dX9_note_33 (by decide) ?_
          refine lv_istore (lv' := [(5, .int 1), (4, .ref p0), (0, .ref x), (1, .int i), (2, .int pt), (3, .int o)]) hx hb dX9_note_37 hl (by decide) rfl (fun ls hl => ?_)
          refine lv_aload hx hb dX9_note_39 (lv_at hl 1 rfl) ?_
          refine lv_iload_n hx hb dX9_note_41 rfl (lv_at hl 4 rfl) ?_
          refine lv_iload_n hx hb dX9_note_42 rfl (lv_at hl 5 rfl) ?_
          have hMr := hM
          have hrun : va_Run p l e ({ frames := 2, cells := 0, slots := 0, locals := 44 } : Room) s m #[.ref x, .int i, .int pt, .int o] below meth c H locs 0 0 0 0 (F0 m 43 ls [.int o, .int pt, .ref p0]) [] (mQv E M H.size (fun u => u = mUp M p0 (mO ci [.ref q0, .int pt, .int o, .int ph, .double (sLev ci o pt le), va_rf (tb.map ra), .int f0])) #[.ref p0, .int pt, .int o]) (mA M H.size) := by
            rcases hci with rfl | rfl | rfl | rfl | rfl
            · exact va_runU (As := [.int pt, .int o]) (rest := []) ⟨hx, hb, hml, hown, hts⟩ (c_X2_strike_0 l E M H.size p0 q0 pi on ph f0 le (tb.map ra) pt o ho g_p0) (va_cwO 2 hts gX9_note_X2_strike_u49X0 rfl rfl rfl (b0 := cX5_strike) (m0 := 3) (r0 := none) (by decide +kernel) (by decide +kernel) ⟨Nat.le_of_ble_eq_true rfl, Nat.le_of_ble_eq_true rfl⟩) (m_preV hE hMr g_p0 rfl) rfl rfl hl.1 rfl (lv_room (Nat.le_of_ble_eq_true rfl)) dX9_note_43 ⟨Nat.le_of_ble_eq_true rfl, Nat.le_of_ble_eq_true rfl⟩
            · exact va_runU (As := [.int pt, .int o]) (rest := []) ⟨hx, hb, hml, hown, hts⟩ (c_X2_strike_1 l E M H.size p0 q0 pi on ph f0 le (tb.map ra) pt o ho g_p0) (va_cwO 2 hts gX9_note_X2_strike_u49X2 rfl rfl rfl (b0 := cX5_strike) (m0 := 3) (r0 := none) (by decide +kernel) (by decide +kernel) ⟨Nat.le_of_ble_eq_true rfl, Nat.le_of_ble_eq_true rfl⟩) (m_preV hE hMr g_p0 rfl) rfl rfl hl.1 rfl (lv_room (Nat.le_of_ble_eq_true rfl)) dX9_note_43 ⟨Nat.le_of_ble_eq_true rfl, Nat.le_of_ble_eq_true rfl⟩
            · exact va_runU (As := [.int pt, .int o]) (rest := []) ⟨hx, hb, hml, hown, hts⟩ (c_X5_strike l E M H.size 3 (by unfold insK; decide) p0 q0 pi on ph f0 le (tb.map ra) pt o ho g_p0) (va_cwU 2 hts gX9_note_X5_strike_u49X4 rfl rfl rfl rfl (by decide +kernel) ⟨Nat.le_of_ble_eq_true rfl, Nat.le_of_ble_eq_true rfl⟩) (m_preV hE hMr g_p0 rfl) rfl rfl hl.1 rfl (lv_room (Nat.le_of_ble_eq_true rfl)) dX9_note_43 ⟨Nat.le_of_ble_eq_true rfl, Nat.le_of_ble_eq_true rfl⟩
            · exact va_runU (As := [.int pt, .int o]) (rest := []) ⟨hx, hb, hml, hown, hts⟩ (c_X5_strike l E M H.size 4 (by unfold insK; decide) p0 q0 pi on ph f0 le (tb.map ra) pt o ho g_p0) (va_cwU 2 hts gX9_note_X5_strike_u49X6 rfl rfl rfl rfl (by decide +kernel) ⟨Nat.le_of_ble_eq_true rfl, Nat.le_of_ble_eq_true rfl⟩) (m_preV hE hMr g_p0 rfl) rfl rfl hl.1 rfl (lv_room (Nat.le_of_ble_eq_true rfl)) dX9_note_43 ⟨Nat.le_of_ble_eq_true rfl, Nat.le_of_ble_eq_true rfl⟩
            · exact va_runU (As := [.int pt, .int o]) (rest := []) ⟨hx, hb, hml, hown, hts⟩ (c_X5_strike l E M H.size 6 (by unfold insK; decide) p0 q0 pi on ph f0 le (tb.map ra) pt o ho g_p0) (va_cwU 2 hts gX9_note_X5_strike_u49X8 rfl rfl rfl rfl (by decide +kernel) ⟨Nat.le_of_ble_eq_true rfl, Nat.le_of_ble_eq_true rfl⟩) (m_preV hE hMr g_p0 rfl) rfl rfl hl.1 rfl (lv_room (Nat.le_of_ble_eq_true rfl)) dX9_note_43 ⟨Nat.le_of_ble_eq_true rfl, Nat.le_of_ble_eq_true rfl⟩
          refine m_callv hrun hM hS hA (fun M2 H locs hw hM hS => ?_)
          have eM2 := hw
          have g_x_ : M2 x = some (mO 7 [.ref a1, .ref a2, .ref a3, .ref a4, .int (nI nn), .int (nI nf), .int bd, .int st, .int c2, .int c3, .int c4]) := by rw [eM2]; exact mUp_at (m_ne g_x g_p0 (by simp)) g_x
          have g_a1_ : M2 a1 = some (mQ E 4 12 fi) := by rw [eM2]; exact mUp_at (m_ne g_a1 g_p0 (by simp)) g_a1
          have g_a2_ : M2 a2 = some (mQ E 5 10 fb) := by rw [eM2]; exact mUp_at (m_ne g_a2 g_p0 (by simp)) g_a2
          have g_a3_ : M2 a3 = some (mQ E 6 8 ff) := by rw [eM2]; exact mUp_at (m_ne g_a3 g_p0 (by simp)) g_a3
          have g_a4_ : M2 a4 = some (mDb E 40 wt) := by rw [eM2]; exact mUp_at (m_ne g_a4 g_p0 (by simp)) g_a4
          have g_q0_ : M2 q0 = some (mI E 4 kf) := by rw [eM2]; exact mUp_at (m_ne g_q0 g_p0 (by simp)) g_q0
          have g_x := g_x_
          have g_a1 := g_a1_
          have g_a2 := g_a2_
          have g_a3 := g_a3_
          have g_a4 := g_a4_
          have g_q0 := g_q0_
          have g_p0 : M2 p0 = some (mO ci [.ref q0, .int pt, .int o, .int ph, .double (sLev ci o pt le), va_rf (tb.map ra), .int f0]) := by rw [eM2]; exact mUp_self _ _ _
          refine lv_iload hx hb dX9_note_46 (lv_at hl 0 rfl) ?_
          exact m_iret hx hb hr hlocks hM hS (Nat.le_refl _) (Nat.le_refl _) dX9_note_48 (by exact ⟨(by show _ = (if vI nn i ∧ vP pt then _ else _); rw [if_pos ⟨hv, hp⟩, hjc, hins]; first | exact (if_pos c_29).symm | exact (if_neg c_29).symm), (by show cRep E _ NO x (if vI nn i ∧ vP pt then _ else _); rw [if_pos ⟨hv, hp⟩, hjc, hins, eM2, ep0, eq0]; exact (hC.inst hiK hj hins).rep), (by rw [eM2, ep0]; exact kx hno.1)⟩)
      · skip
        have hx9 : ¬ (vI nn i ∧ vP pt) := fun h => c_19 h.2.2
        refine lv_iconst (v := -1) hx hb dX9_note_22 (by decide) ?_
        exact m_iret hx hb hr hlocks hM hS (Nat.le_refl _) (Nat.le_refl _) dX9_note_23 (by first | (exact ⟨(if_neg hx9).symm, (by show cRep E _ NO x (if vI nn i ∧ vP pt then _ else _); rw [if_neg hx9]; exact hC0), kept.rf⟩) | (have hx9 : ¬ (vI nn i ∧ vP pt) := na1 hv; exact ⟨(if_neg hx9).symm, (by show cRep E _ NO x (if vI nn i ∧ vP pt then _ else _); rw [if_neg hx9]; exact hC0), kept.rf⟩))
  · rw [if_neg hv] at e_r1
    subst e_r1
    refine W.eq (g2 := F0 m 5 ls [.null]) rfl ?_
    refine lv_astoreN (lv' := [(4, .null), (0, .ref x), (1, .int i), (2, .int pt), (3, .int o)]) hx hb dX9_note_5 hl (by decide) rfl (fun ls hl => ?_)
    refine lv_aloadN hx hb dX9_note_7 (lv_at hl 0 rfl) ?_
    refine lv_ifnullN (tgt := 22) hx hb dX9_note_9 (by decide) ?_
    refine lv_iconst (v := -1) hx hb dX9_note_22 (by decide) ?_
    exact m_iret hx hb hr hlocks hM hS (Nat.le_refl _) (Nat.le_refl _) dX9_note_23 (by first | (exact ⟨(if_neg hx9).symm, (by show cRep E _ NO x (if vI nn i ∧ vP pt then _ else _); rw [if_neg hx9]; exact hC0), kept.rf⟩) | (have hx9 : ¬ (vI nn i ∧ vP pt) := na1 hv; exact ⟨(if_neg hx9).symm, (by show cRep E _ NO x (if vI nn i ∧ vP pt then _ else _); rw [if_neg hx9]; exact hC0), kept.rf⟩))
def aIsLent (σ : Sg) (a b : Int32) : Int32 := match σ with | (_, _, _, _, bk, _) => bI (vB a ∧ vB b ∧ bk a.toNatClampNeg = bk b.toNatClampNeg)
def aOf (σ : Sg) (b w : Int32) : Int32 := match σ with | (_, _, _, _, bk, rw, _) => if vB b ∧ ¬ w < 0 ∧ w ≤ 1 then (match bk b.toNatClampNeg with | none => -5 | some r => if w = 0 then (rw r).1 else nI (rw r).2.1) else -1
theorem map_inj {ra : Nat → Nat} {p q : Option Nat} (h : ∀ r s, p = some r → q = some s → ra r = ra s → r = s) : p.map ra = q.map ra ↔ p = q := by
  cases p with
  | none => cases q with
    | none => simp
    | some s => simp
  | some r => cases q with
    | none => simp
    | some s =>
      simp
      exact ⟨fun k => h r s rfl rfl k, fun k => by rw [k]⟩
set_option maxHeartbeats 4000000 in
set_option maxRecDepth 100000 in
theorem c_X9_isLent (l : Launch) (E : mEnv) (M : mMem) (sz : Nat) (NO : Nat → Prop) (x nn nf : Nat) (ins : Nat → sIn) (fn : Nat → Int32 × Int32) (bk : Nat → Option Nat) (rw : Nat → sRw) (bd st c2 c3 c4 : Int32) (hV : Inv (nn, ins, nf, fn, bk, rw, bd, st, c2, c3, c4)) (hC : cRep E M NO x (nn, ins, nf, fn, bk, rw, bd, st, c2, c3, c4)) (hO : ∀ q, NO q → M q ≠ none) (a b : Int32)    : Met l yX9_isLent wsX9_isLent ({ frames := 2, cells := 0, slots := 0, locals := 41 }) (mPre E M sz [.ref x, .int a, .int b]) (mQi E M sz (fun r u => r = aIsLent (nn, ins, nf, fn, bk, rw, bd, st, c2, c3, c4) a b ∧ cRep E u NO x ((nn, ins, nf, fn, bk, rw, bd, st, c2, c3, c4)) ∧ kept NO M u)) (0) (0) (mA M sz) := by
  refine m_met [.ref x, .int a, .int b] (by decide) rfl (Nat.le_of_ble_eq_true rfl) ?_
  intro p e s m below meth c ls H eH hx hb hr hts hown hlocks hnm hml hsz hE hM hS hA hl
  have hl : lv_has ls 3 [(0, .ref x), (1, .int a), (2, .int b)] := hl
  obtain ⟨a1, a2, a3, a4, fi, fb, ff, wt, ia, ib, fa, ra, rb, fl, LV, hC⟩ := hC
  have hC0 := hC.rep
  have hiK := hV.insK
  obtain ⟨hnn, hnf, hvI, hvD, hv24, hvR, hvF⟩ := id hV
  obtain ⟨⟨g_x, g_a1, g_a2, g_a3, g_a4⟩, hI, hF, hB, hL, hR, hJ, hN⟩ := id hC
  obtain ⟨⟨nx, n1, n2, n3, n4⟩, nI0, nF0, nR0⟩ := id hN
  refine lv_iload_n hx hb dX9_isLent_0 rfl (lv_at hl 1 rfl) ?_
  refine m_calli (va_runS (As := [.int a]) (rest := []) ⟨hx, hb, hml, hown, hts⟩ (c_X9_isBlock l E M H.size a) (va_cwS 1 hts gX9_isLent_X9_isBlock rfl rfl rfl (by decide +kernel) ⟨Nat.le_of_ble_eq_true rfl, Nat.le_of_ble_eq_true rfl⟩) (m_preS hE hM) rfl rfl hl.1 rfl (lv_room (Nat.le_of_ble_eq_true rfl)) dX9_isLent_1 ⟨Nat.le_of_ble_eq_true rfl, Nat.le_of_ble_eq_true rfl⟩) hM hS hA (fun r0 u H locs hw hM hS => ?_)
  obtain ⟨e_r0, eu⟩ := hw
  rw [eu] at hM
  subst e_r0
  refine lv_if_eq (tgt := 31) hx hb dX9_isLent_4 (by decide) (fun c_4 => ?_) (fun c_4 => ?_)
  · skip
    rw [bI_eq] at c_4
    have hz : ¬ (vB a ∧ vB b ∧ bk a.toNatClampNeg = bk b.toNatClampNeg) := na1 c_4
    refine lv_iconst (v := 0) hx hb dX9_isLent_31 (by decide) ?_
    exact m_zret hx hb hr hlocks hM hS (Nat.le_refl _) (Nat.le_refl _) dX9_isLent_32 (by first | exact Or.inl rfl | exact Or.inr rfl) (by first | exact ⟨(bI_f hz).symm, hC0, kept.rf⟩ | exact ⟨(bI_f (na2 (na2 (by rw [hjc, hjc2]; exact c_24)))).symm, hC0, kept.rf⟩ | exact ⟨(bI_t ⟨c_4, c_11, by rw [hjc, hjc2]; exact c_24⟩).symm, hC0, kept.rf⟩)
  · skip
    rw [bI_ne] at c_4
    refine lv_iload_n hx hb dX9_isLent_7 rfl (lv_at hl 2 rfl) ?_
    refine m_calli (va_runS (As := [.int b]) (rest := []) ⟨hx, hb, hml, hown, hts⟩ (c_X9_isBlock l E M H.size b) (va_cwS 1 hts gX9_isLent_X9_isBlock rfl rfl rfl (by decide +kernel) ⟨Nat.le_of_ble_eq_true rfl, Nat.le_of_ble_eq_true rfl⟩) (m_preS hE hM) rfl rfl hl.1 rfl (lv_room (Nat.le_of_ble_eq_true rfl)) dX9_isLent_8 ⟨Nat.le_of_ble_eq_true rfl, Nat.le_of_ble_eq_true rfl⟩) hM hS hA (fun r0 u H locs hw hM hS => ?_)
    obtain ⟨e_r0, eu⟩ := hw
    rw [eu] at hM
    subst e_r0
    refine lv_if_eq (tgt := 31) hx hb dX9_isLent_11 (by decide) (fun c_11 => ?_) (fun c_11 => ?_)
    · skip
      rw [bI_eq] at c_11
      have hz : ¬ (vB a ∧ vB b ∧ bk a.toNatClampNeg = bk b.toNatClampNeg) := na2 (na1 c_11)
      refine lv_iconst (v := 0) hx hb dX9_isLent_31 (by decide) ?_
      exact m_zret hx hb hr hlocks hM hS (Nat.le_refl _) (Nat.le_refl _) dX9_isLent_32 (by first | exact Or.inl rfl | exact Or.inr rfl) (by first | exact ⟨(bI_f hz).symm, hC0, kept.rf⟩ | exact ⟨(bI_f (na2 (na2 (by rw [hjc, hjc2]; exact c_24)))).symm, hC0, kept.rf⟩ | exact ⟨(bI_t ⟨c_4, c_11, by rw [hjc, hjc2]; exact c_24⟩).symm, hC0, kept.rf⟩)
    · skip
      rw [bI_ne] at c_11
      refine lv_aload_n hx hb dX9_isLent_14 rfl (lv_at hl 0 rfl) ?_
      refine lv_iload_n hx hb dX9_isLent_15 rfl (lv_at hl 1 rfl) ?_
      refine m_callq (va_runV (As := [.int a]) (rest := []) ⟨hx, hb, hml, hown, hts⟩ (c_X9_heldBy l E M H.size x a1 a2 a3 a4 nn nf bd st c2 c3 c4 fi fb ff wt a g_x g_a2) (cwV 1 hts gX9_isLent_X9_heldBy rfl rfl rfl (by decide +kernel) ⟨Nat.le_of_ble_eq_true rfl, Nat.le_of_ble_eq_true rfl⟩) (m_preV hE hM g_x rfl) rfl rfl hl.1 rfl (lv_room (Nat.le_of_ble_eq_true rfl)) dX9_isLent_16 ⟨Nat.le_of_ble_eq_true rfl, Nat.le_of_ble_eq_true rfl⟩) hM hS hA (fun r1 u H locs hw hM hS => ?_)
      obtain ⟨e_r1, eu⟩ := hw
      rw [eu] at hM
      refine lv_aload_n hx hb dX9_isLent_19 rfl (lv_at hl 0 rfl) ?_
      refine lv_iload_n hx hb dX9_isLent_20 rfl (lv_at hl 2 rfl) ?_
      refine m_callq (va_runV (As := [.int b]) (rest := [va_rf (r1)]) ⟨hx, hb, hml, hown, hts⟩ (c_X9_heldBy l E M H.size x a1 a2 a3 a4 nn nf bd st c2 c3 c4 fi fb ff wt b g_x g_a2) (cwV 1 hts gX9_isLent_X9_heldBy rfl rfl rfl (by decide +kernel) ⟨Nat.le_of_ble_eq_true rfl, Nat.le_of_ble_eq_true rfl⟩) (m_preV hE hM g_x rfl) rfl rfl hl.1 rfl (lv_room (by cases r1 <;> exact Nat.le_of_ble_eq_true rfl)) dX9_isLent_21 ⟨Nat.le_of_ble_eq_true rfl, Nat.le_of_ble_eq_true rfl⟩) hM hS hA (fun r2 u H locs hw hM hS => ?_)
      obtain ⟨e_r2, eu⟩ := hw
      rw [eu] at hM
      rw [if_pos c_4] at e_r1
      rw [if_pos c_11] at e_r2
      obtain ⟨j, hj, hij, hjc⟩ := vB_ix c_4
      obtain ⟨j2, hj2, hij2, hjc2⟩ := vB_ix c_11
      rw [hjc, hB j hj] at e_r1
      rw [hjc2, hB j2 hj2] at e_r2
      have hmap : (bk j).map ra = (bk j2).map ra ↔ bk j = bk j2 := map_inj (fun r s h1 h2 h3 => hJ.2.2.1 r s (hL r (Or.inl ⟨j, hj, h1⟩)) (hL s (Or.inl ⟨j2, hj2, h2⟩)) h3)
      rw [← e_r1, ← e_r2] at hmap
      refine lv_acmp_ne (rx := r1) (ry := r2) (tgt := 31) hx hb dX9_isLent_24 (by decide) (fun c_24 => ?_) (fun c_24 => ?_)
      · rw [hmap] at c_24
        refine lv_iconst (v := 0) hx hb dX9_isLent_31 (by decide) ?_
        exact m_zret hx hb hr hlocks hM hS (Nat.le_refl _) (Nat.le_refl _) dX9_isLent_32 (by first | exact Or.inl rfl | exact Or.inr rfl) (by first | exact ⟨(bI_f hz).symm, hC0, kept.rf⟩ | exact ⟨(bI_f (na2 (na2 (by rw [hjc, hjc2]; exact c_24)))).symm, hC0, kept.rf⟩ | exact ⟨(bI_t ⟨c_4, c_11, by rw [hjc, hjc2]; exact c_24⟩).symm, hC0, kept.rf⟩)
      · rw [hmap] at c_24
        refine lv_iconst (v := 1) hx hb dX9_isLent_27 (by decide) ?_
        refine lv_goto (tgt := 32) hx hb dX9_isLent_28 (by decide) ?_
        exact m_zret hx hb hr hlocks hM hS (Nat.le_refl _) (Nat.le_refl _) dX9_isLent_32 (by first | exact Or.inl rfl | exact Or.inr rfl) (by first | exact ⟨(bI_f hz).symm, hC0, kept.rf⟩ | exact ⟨(bI_f (na2 (na2 (by rw [hjc, hjc2]; exact c_24)))).symm, hC0, kept.rf⟩ | exact ⟨(bI_t ⟨c_4, c_11, by rw [hjc, hjc2]; exact c_24⟩).symm, hC0, kept.rf⟩)
theorem in_X9_of_X7 : ∀ w ∈ wsX70, w ∈ wsX9_of := by decide +kernel
set_option maxHeartbeats 4000000 in
set_option maxRecDepth 100000 in
theorem c_X9_of (l : Launch) (E : mEnv) (M : mMem) (sz : Nat) (NO : Nat → Prop) (x nn nf : Nat) (ins : Nat → sIn) (fn : Nat → Int32 × Int32) (bk : Nat → Option Nat) (rw : Nat → sRw) (bd st c2 c3 c4 : Int32) (hV : Inv (nn, ins, nf, fn, bk, rw, bd, st, c2, c3, c4)) (hC : cRep E M NO x (nn, ins, nf, fn, bk, rw, bd, st, c2, c3, c4)) (hO : ∀ q, NO q → M q ≠ none) (b w : Int32)    : Met l yX9_of wsX9_of ({ frames := 2, cells := 0, slots := 0, locals := 41 }) (mPre E M sz [.ref x, .int b, .int w]) (mQi E M sz (fun r u => r = aOf (nn, ins, nf, fn, bk, rw, bd, st, c2, c3, c4) b w ∧ cRep E u NO x ((nn, ins, nf, fn, bk, rw, bd, st, c2, c3, c4)) ∧ kept NO M u)) (0) (0) (mA M sz) := by
  refine m_met [.ref x, .int b, .int w] (by decide) rfl (Nat.le_of_ble_eq_true rfl) ?_
  intro p e s m below meth c ls H eH hx hb hr hts hown hlocks hnm hml hsz hE hM hS hA hl
  have hl : lv_has ls 4 [(0, .ref x), (1, .int b), (2, .int w)] := hl
  obtain ⟨a1, a2, a3, a4, fi, fb, ff, wt, ia, ib, fa, ra, rb, fl, LV, hC⟩ := hC
  have hC0 := hC.rep
  have hiK := hV.insK
  obtain ⟨hnn, hnf, hvI, hvD, hv24, hvR, hvF⟩ := id hV
  obtain ⟨⟨g_x, g_a1, g_a2, g_a3, g_a4⟩, hI, hF, hB, hL, hR, hJ, hN⟩ := id hC
  obtain ⟨⟨nx, n1, n2, n3, n4⟩, nI0, nF0, nR0⟩ := id hN
  refine lv_iload_n hx hb dX9_of_0 rfl (lv_at hl 1 rfl) ?_
  refine m_calli (va_runS (As := [.int b]) (rest := []) ⟨hx, hb, hml, hown, hts⟩ (c_X9_isBlock l E M H.size b) (va_cwS 1 hts gX9_of_X9_isBlock rfl rfl rfl (by decide +kernel) ⟨Nat.le_of_ble_eq_true rfl, Nat.le_of_ble_eq_true rfl⟩) (m_preS hE hM) rfl rfl hl.1 rfl (lv_room (Nat.le_of_ble_eq_true rfl)) dX9_of_1 ⟨Nat.le_of_ble_eq_true rfl, Nat.le_of_ble_eq_true rfl⟩) hM hS hA (fun r0 u H locs hw hM hS => ?_)
  obtain ⟨e_r0, eu⟩ := hw
  rw [eu] at hM
  subst e_r0
  refine lv_if_eq (tgt := 16) hx hb dX9_of_4 (by decide) (fun c_4 => ?_) (fun c_4 => ?_)
  · skip
    rw [bI_eq] at c_4
    have hz : ¬ (vB b ∧ ¬ w < 0 ∧ w ≤ 1) := na1 c_4
    refine lv_iconst (v := -1) hx hb dX9_of_16 (by decide) ?_
    exact m_iret hx hb hr hlocks hM hS (Nat.le_refl _) (Nat.le_refl _) dX9_of_17 (by exact ⟨(if_neg hz).symm, hC0, kept.rf⟩)
  · skip
    rw [bI_ne] at c_4
    refine lv_iload_n hx hb dX9_of_7 rfl (lv_at hl 2 rfl) ?_
    refine lv_if_lt (tgt := 16) hx hb dX9_of_8 (by decide) (fun c_8 => ?_) (fun c_8 => ?_)
    · skip
      have hz : ¬ (vB b ∧ ¬ w < 0 ∧ w ≤ 1) := na2 (na1 (not_not_intro c_8))
      refine lv_iconst (v := -1) hx hb dX9_of_16 (by decide) ?_
      exact m_iret hx hb hr hlocks hM hS (Nat.le_refl _) (Nat.le_refl _) dX9_of_17 (by exact ⟨(if_neg hz).symm, hC0, kept.rf⟩)
    · skip
      refine lv_iload_n hx hb dX9_of_11 rfl (lv_at hl 2 rfl) ?_
      refine lv_iconst (v := 1) hx hb dX9_of_12 (by decide) ?_
      refine lv_icmp_le (tgt := 18) hx hb dX9_of_13 (by decide) (fun c_13 => ?_) (fun c_13 => ?_)
      · skip
        refine lv_aload_n hx hb dX9_of_18 rfl (lv_at hl 0 rfl) ?_
        refine lv_iload_n hx hb dX9_of_19 rfl (lv_at hl 1 rfl) ?_
        refine m_callq (va_runV (As := [.int b]) (rest := []) ⟨hx, hb, hml, hown, hts⟩ (c_X9_heldBy l E M H.size x a1 a2 a3 a4 nn nf bd st c2 c3 c4 fi fb ff wt b g_x g_a2) (cwV 1 hts gX9_of_X9_heldBy rfl rfl rfl (by decide +kernel) ⟨Nat.le_of_ble_eq_true rfl, Nat.le_of_ble_eq_true rfl⟩) (m_preV hE hM g_x rfl) rfl rfl hl.1 rfl (lv_room (Nat.le_of_ble_eq_true rfl)) dX9_of_20 ⟨Nat.le_of_ble_eq_true rfl, Nat.le_of_ble_eq_true rfl⟩) hM hS hA (fun r1 u H locs hw hM hS => ?_)
        obtain ⟨e_r1, eu⟩ := hw
        rw [eu] at hM
        rw [if_pos c_4] at e_r1
        obtain ⟨j1, hj1, hij1, hjc1⟩ := vB_ix c_4
        rw [hjc1, hB j1 hj1] at e_r1
        rcases hbk1 : bk j1 with _ | w1
        · rw [hbk1] at e_r1
          replace e_r1 : r1 = none := e_r1
          subst e_r1
          refine W.eq (g2 := F0 m 23 ls [.null]) rfl ?_
          refine lv_astore_nN (lv' := [(3, .null), (0, .ref x), (1, .int b), (2, .int w)]) hx hb dX9_of_23 rfl hl (by decide) rfl (fun ls hl => ?_)
          refine lv_aload_nN hx hb dX9_of_24 rfl (lv_at hl 0 rfl) ?_
          refine lv_ifnonnullN hx hb dX9_of_25 ?_
          refine lv_bipush (v := -5) hx hb dX9_of_28 (by decide) ?_
          exact m_iret hx hb hr hlocks hM hS (Nat.le_refl _) (Nat.le_refl _) dX9_of_30 (by refine ⟨?_, hC0, kept.rf⟩; show _ = (if vB b ∧ ¬ w < 0 ∧ w ≤ 1 then _ else _); rw [if_pos ⟨c_4, c_8, c_13⟩, hjc1, hbk1])
        · rw [hbk1] at e_r1
          replace e_r1 : r1 = some (ra w1) := e_r1
          have hlv1 : live nn ins bk w1 := Or.inl ⟨j1, hj1, hbk1⟩
          rcases hrw1 : rw w1 with ⟨lane1, n1, f1⟩
          obtain ⟨g_s1, g_v1, hva1⟩ := hR w1 (hL w1 hlv1) _ _ _ hrw1
          obtain ⟨hn1, hlane1, hvo1⟩ := hvR w1 hlv1 _ _ _ hrw1
          have hnr1 := nR0 w1 (hL w1 hlv1)
          obtain ⟨s1, es1⟩ : ∃ z, z = ra w1 := ⟨_, rfl⟩
          obtain ⟨v1, ev1⟩ : ∃ z, z = rb w1 := ⟨_, rfl⟩
          rw [← es1, ← ev1] at g_s1
          rw [← ev1] at g_v1 hva1
          rw [← es1] at e_r1
          subst e_r1
          refine W.eq (g2 := F0 m 23 ls [.ref s1]) rfl ?_
          refine lv_astore_n (lv' := [(3, .ref s1), (0, .ref x), (1, .int b), (2, .int w)]) hx hb dX9_of_23 rfl hl (by decide) rfl (fun ls hl => ?_)
          refine lv_aload_n hx hb dX9_of_24 rfl (lv_at hl 0 rfl) ?_
          refine lv_ifnonnull (tgt := 31) hx hb dX9_of_25 (by decide) ?_
          refine lv_iload_n hx hb dX9_of_31 rfl (lv_at hl 3 rfl) ?_
          refine lv_if_ne (tgt := 42) hx hb dX9_of_32 (by decide) (fun c_32 => ?_) (fun c_32 => ?_)
          · skip
            refine lv_aload_n hx hb dX9_of_42 rfl (lv_at hl 0 rfl) ?_
            refine m_get (ci := 5) (v := .ref v1) (C := RX7) (T := TX7) (N := 2) hx hb hts in_X9_of_X7 hown hE hM g_s1 rfl 1 (by decide) (hts (.fieldLink RX9 88 "CallWays2$Samples" "values" "[D") (by decide +kernel)) (fun _ h9 => h9) rfl dX9_of_43 ?_
            refine m_alenD hx hb hE hM g_v1 dX9_of_46 ?_
            exact m_iret hx hb hr hlocks hM hS (Nat.le_refl _) (Nat.le_refl _) dX9_of_47 (by refine ⟨?_, hC0, kept.rf⟩; show _ = (if vB b ∧ ¬ w < 0 ∧ w ≤ 1 then _ else _); rw [if_pos ⟨c_4, c_8, c_13⟩, hjc1, hbk1]; show _ = (if w = 0 then (rw w1).1 else nI (rw w1).2.1); rw [hrw1]; first | exact (if_pos c_32).symm | exact (if_neg c_32).symm)
          · skip
            refine lv_aload_n hx hb dX9_of_35 rfl (lv_at hl 0 rfl) ?_
            refine m_get (ci := 5) (v := .int lane1) (C := RX7) (T := TX7) (N := 2) hx hb hts in_X9_of_X7 hown hE hM g_s1 rfl 0 (by decide) (hts (.fieldLink RX9 85 "CallWays2$Samples" "lane" "I") (by decide +kernel)) (fun _ h9 => h9) rfl dX9_of_36 ?_
            refine lv_goto (tgt := 47) hx hb dX9_of_39 (by decide) ?_
            exact m_iret hx hb hr hlocks hM hS (Nat.le_refl _) (Nat.le_refl _) dX9_of_47 (by refine ⟨?_, hC0, kept.rf⟩; show _ = (if vB b ∧ ¬ w < 0 ∧ w ≤ 1 then _ else _); rw [if_pos ⟨c_4, c_8, c_13⟩, hjc1, hbk1]; show _ = (if w = 0 then (rw w1).1 else nI (rw w1).2.1); rw [hrw1]; first | exact (if_pos c_32).symm | exact (if_neg c_32).symm)
      · skip
        have hz : ¬ (vB b ∧ ¬ w < 0 ∧ w ≤ 1) := na2 (na2 c_13)
        refine lv_iconst (v := -1) hx hb dX9_of_16 (by decide) ?_
        exact m_iret hx hb hr hlocks hM hS (Nat.le_refl _) (Nat.le_refl _) dX9_of_17 (by exact ⟨(if_neg hz).symm, hC0, kept.rf⟩)
end
section
def sAt (bk : Nat → Option Nat) (rw : Nat → sRw) (b i : Int32) : Int32 := if vB b then (match bk b.toNatClampNeg with | none => -5 | some r => if ¬ i < 0 ∧ ¬ nI (rw r).2.1 ≤ i then 0 else -7) else -1
def aAt (σ : Sg) (b i : Int32) : Int64 := match σ with | (_, _, _, _, bk, rw, _) => if vB b then (match bk b.toNatClampNeg with | none => 0 | some r => if ¬ i < 0 ∧ ¬ nI (rw r).2.1 ≤ i then sBits (rw r).1 ((rw r).2.2 i.toNatClampNeg) else 0) else 0
def nAt (σ : Sg) (b i : Int32) : Sg := match σ with | (nn, ins, nf, fn, bk, rw, bd, st, c2, c3, c4) => (nn, ins, nf, fn, bk, rw, bd, sAt bk rw b i, c2, c3, c4)
def aPut (σ : Sg) (b i v : Int32) : Int32 := match σ with | (_, _, _, _, bk, rw, _) => if sAt bk rw b i = 0 then 1 else sAt bk rw b i
def rPut (bk : Nat → Option Nat) (rw : Nat → sRw) (b i v : Int32) : Nat → sRw := if sAt bk rw b i = 0 then (match bk b.toNatClampNeg with | none => rw | some r => va_up rw r ((rw r).1, (rw r).2.1, vf_upd (rw r).2.2 i.toNatClampNeg (sTurn (rw r).1 (FP.i2d v)))) else rw
def nPut (σ : Sg) (b i v : Int32) : Sg := match σ with | (nn, ins, nf, fn, bk, rw, bd, st, c2, c3, c4) => (nn, ins, nf, fn, bk, rPut bk rw b i v, bd, sAt bk rw b i, c2, c3, c4)
theorem sAt_b {bk : Nat → Option Nat} {rw : Nat → sRw} {b i : Int32} (h : ¬ vB b) : sAt bk rw b i = -1 := if_neg h
theorem sAt_n {bk : Nat → Option Nat} {rw : Nat → sRw} {b i : Int32} {j : Nat} (h : vB b) (hj : b.toNatClampNeg = j) (hb : bk j = none) : sAt bk rw b i = -5 := by
  unfold sAt
  rw [if_pos h, hj, hb]
theorem sAt_s {bk : Nat → Option Nat} {rw : Nat → sRw} {b i lane : Int32} {j r n : Nat} {f : Nat → UInt64} (h : vB b) (hj : b.toNatClampNeg = j) (hb : bk j = some r) (hr : rw r = (lane, n, f)) : sAt bk rw b i = if ¬ i < 0 ∧ ¬ nI n ≤ i then 0 else -7 := by
  unfold sAt
  rw [if_pos h, hj, hb]
  show (if ¬ i < 0 ∧ ¬ nI (rw r).2.1 ≤ i then (0 : Int32) else -7) = _
  rw [hr]
theorem in_X9_at_X9 : ∀ w ∈ wsX90, w ∈ wsX9_at := by decide +kernel
set_option maxHeartbeats 4000000 in
set_option maxRecDepth 100000 in
theorem c_X9_at (l : Launch) (E : mEnv) (M : mMem) (sz : Nat) (NO : Nat → Prop) (x nn nf : Nat) (ins : Nat → sIn) (fn : Nat → Int32 × Int32) (bk : Nat → Option Nat) (rw : Nat → sRw) (bd st c2 c3 c4 : Int32) (hV : Inv (nn, ins, nf, fn, bk, rw, bd, st, c2, c3, c4)) (hC : cRep E M NO x (nn, ins, nf, fn, bk, rw, bd, st, c2, c3, c4)) (hO : ∀ q, NO q → M q ≠ none) (b i : Int32)    : Met l yX9_at wsX9_at ({ frames := 3, cells := 0, slots := 0, locals := 68 }) (mPre E M sz [.ref x, .int b, .int i]) (mQl E M sz (fun r u => r = aAt (nn, ins, nf, fn, bk, rw, bd, st, c2, c3, c4) b i ∧ cRep E u NO x (nAt (nn, ins, nf, fn, bk, rw, bd, st, c2, c3, c4) b i) ∧ kept NO M u)) (0) (0) (mA M sz) := by
  refine m_met [.ref x, .int b, .int i] (by decide) rfl (Nat.le_of_ble_eq_true rfl) ?_
  intro p e s m below meth c ls H eH hx hb hr hts hown hlocks hnm hml hsz hE hM hS hA hl
  have hl : lv_has ls 3 [(0, .ref x), (1, .int b), (2, .int i)] := hl
  obtain ⟨a1, a2, a3, a4, fi, fb, ff, wt, ia, ib, fa, ra, rb, fl, LV, hC⟩ := hC
  have hC0 := hC.rep
  have hiK := hV.insK
  obtain ⟨hnn, hnf, hvI, hvD, hv24, hvR, hvF⟩ := id hV
  obtain ⟨⟨g_x, g_a1, g_a2, g_a3, g_a4⟩, hI, hF, hB, hL, hR, hJ, hN⟩ := id hC
  obtain ⟨⟨nx, n1, n2, n3, n4⟩, nI0, nF0, nR0⟩ := id hN
  refine lv_aload_n hx hb dX9_at_0 rfl (lv_at hl 0 rfl) ?_
  refine lv_aload_n hx hb dX9_at_1 rfl (lv_at hl 0 rfl) ?_
  refine lv_iload_n hx hb dX9_at_2 rfl (lv_at hl 1 rfl) ?_
  refine lv_iload_n hx hb dX9_at_3 rfl (lv_at hl 2 rfl) ?_
  by_cases hvb : ¬ b < 0 ∧ ¬ 10 ≤ b
  · obtain ⟨j1, hj1, hij1, hjc1⟩ := vB_ix hvb
    have hfb := hB j1 hj1
    rcases hbk1 : bk j1 with _ | w1
    · rw [hbk1] at hfb
      replace hfb : fb b.toNatClampNeg = none := by rw [hjc1]; exact hfb
      refine m_calli (va_runV (As := [.int b, .int i]) (rest := [.ref x]) ⟨hx, hb, hml, hown, hts⟩ (c_X9_place_n l E M H.size x a1 a2 a3 a4 nn nf bd st c2 c3 c4 fi fb ff wt b i hvb hfb g_x g_a2) (cwV 2 hts gX9_at_X9_againstPlace rfl rfl rfl (by decide +kernel) ⟨Nat.le_of_ble_eq_true rfl, Nat.le_of_ble_eq_true rfl⟩) (m_preV hE hM g_x rfl) rfl rfl hl.1 rfl (lv_room (Nat.le_of_ble_eq_true rfl)) dX9_at_4 ⟨Nat.le_of_ble_eq_true rfl, Nat.le_of_ble_eq_true rfl⟩) hM hS hA (fun r1 u H locs hw hM hS => ?_)
      obtain ⟨e_r1, eu⟩ := hw
      rw [eu] at hM
      subst e_r1
      have hsa : sAt bk rw b i = -5 := sAt_n hvb hjc1 hbk1
      refine m_put (ci := 7) (v := .int (-5)) (ty := .int) (C := RX9) (T := TX9) (N := 11) hx hb hts in_X9_at_X9 tyX9 tyX9_ok nmX9 hown hE hM hS g_x rfl 7 (by decide) (hts (.fieldLink RX9 53 "CallWays2" "latest" "I") (by decide +kernel)) (fun _ h9 => h9) rfl (by decide +kernel) rfl rfl (Nat.le_of_ble_eq_true rfl) dX9_at_7 (fun H locs hM hS => ?_)
      have hM : mOK E.1 (mA M sz) (mUp M x (mO 7 [.ref a1, .ref a2, .ref a3, .ref a4, .int (nI nn), .int (nI nf), .int bd, .int (-5), .int c2, .int c3, .int c4])) H := hM
      obtain ⟨M1, eM1⟩ : ∃ z, z = mUp M x (mO 7 [.ref a1, .ref a2, .ref a3, .ref a4, .int (nI nn), .int (nI nf), .int bd, .int (-5), .int c2, .int c3, .int c4]) := ⟨_, rfl⟩
      rw [← eM1] at hM
      have g_a1_ : M1 a1 = some (mQ E 4 12 fi) := by rw [eM1]; exact mUp_at (m_ne g_a1 g_x (by simp)) g_a1
      have g_a2_ : M1 a2 = some (mQ E 5 10 fb) := by rw [eM1]; exact mUp_at (m_ne g_a2 g_x (by simp)) g_a2
      have g_a3_ : M1 a3 = some (mQ E 6 8 ff) := by rw [eM1]; exact mUp_at (m_ne g_a3 g_x (by simp)) g_a3
      have g_a4_ : M1 a4 = some (mDb E 40 wt) := by rw [eM1]; exact mUp_at (m_ne g_a4 g_x (by simp)) g_a4
      have g_a1 := g_a1_
      have g_a2 := g_a2_
      have g_a3 := g_a3_
      have g_a4 := g_a4_
      have g_x : M1 x = some (mO 7 [.ref a1, .ref a2, .ref a3, .ref a4, .int (nI nn), .int (nI nf), .int bd, .int (-5), .int c2, .int c3, .int c4]) := by rw [eM1]; exact mUp_self _ _ _
      refine lv_aload_n hx hb dX9_at_10 rfl (lv_at hl 0 rfl) ?_
      refine m_get (ci := 7) (v := .int (-5)) (C := RX9) (T := TX9) (N := 11) hx hb hts in_X9_at_X9 hown hE hM g_x rfl 7 (by decide) (hts (.fieldLink RX9 53 "CallWays2" "latest" "I") (by decide +kernel)) (fun _ h9 => h9) rfl dX9_at_11 ?_
      refine lv_if_ne (tgt := 30) hx hb dX9_at_14 (by decide) (fun _ => ?_) (fun h9 => absurd h9 (by decide))
      refine lv_lconst (v := 0) hx hb dX9_at_30 (by decide) ?_
      exact m_lret hx hb hr hlocks hM hS (Nat.le_refl _) (Nat.le_refl _) dX9_at_31 (by exact ⟨(by show _ = (if vB b then _ else _); rw [if_pos hvb, hjc1, hbk1]), (by show cRep E _ NO x (nn, ins, nf, fn, bk, rw, bd, sAt bk rw b i, c2, c3, c4); rw [hsa, eM1]; exact (hC.scal hiK).rep), (by rw [eM1]; exact kx nx)⟩)
    · rw [hbk1] at hfb
      have hlv1 : live nn ins bk w1 := Or.inl ⟨j1, hj1, hbk1⟩
      rcases hrw1 : rw w1 with ⟨lane1, n1, f1⟩
      obtain ⟨g_s1, g_v1, hva1⟩ := hR w1 (hL w1 hlv1) _ _ _ hrw1
      obtain ⟨hn1, hlane1, hvo1⟩ := hvR w1 hlv1 _ _ _ hrw1
      have hnr1 := nR0 w1 (hL w1 hlv1)
      obtain ⟨s1, es1⟩ : ∃ z, z = ra w1 := ⟨_, rfl⟩
      obtain ⟨v1, ev1⟩ : ∃ z, z = rb w1 := ⟨_, rfl⟩
      rw [← es1, ← ev1] at g_s1
      rw [← ev1] at g_v1 hva1
      replace hfb : fb b.toNatClampNeg = some s1 := by rw [hjc1, es1]; exact hfb
      by_cases hin : ¬ i < 0 ∧ ¬ nI n1 ≤ i
      · have hsa : sAt bk rw b i = 0 := by rw [sAt_s hvb hjc1 hbk1 hrw1, if_pos hin]
        refine m_calli (va_runV (As := [.int b, .int i]) (rest := [.ref x]) ⟨hx, hb, hml, hown, hts⟩ (c_X9_place_s l E M H.size x a1 a2 a3 a4 nn nf bd st c2 c3 c4 fi fb ff wt s1 v1 n1 lane1 f1 b i hvb hfb g_x g_a2 g_s1 g_v1) (cwV 2 hts gX9_at_X9_againstPlace rfl rfl rfl (by decide +kernel) ⟨Nat.le_of_ble_eq_true rfl, Nat.le_of_ble_eq_true rfl⟩) (m_preV hE hM g_x rfl) rfl rfl hl.1 rfl (lv_room (Nat.le_of_ble_eq_true rfl)) dX9_at_4 ⟨Nat.le_of_ble_eq_true rfl, Nat.le_of_ble_eq_true rfl⟩) hM hS hA (fun r1 u H locs hw hM hS => ?_)
        obtain ⟨e_r1, eu⟩ := hw
        rw [eu] at hM
        rw [if_pos hin] at e_r1
        subst e_r1
        refine m_put (ci := 7) (v := .int 0) (ty := .int) (C := RX9) (T := TX9) (N := 11) hx hb hts in_X9_at_X9 tyX9 tyX9_ok nmX9 hown hE hM hS g_x rfl 7 (by decide) (hts (.fieldLink RX9 53 "CallWays2" "latest" "I") (by decide +kernel)) (fun _ h9 => h9) rfl (by decide +kernel) rfl rfl (Nat.le_of_ble_eq_true rfl) dX9_at_7 (fun H locs hM hS => ?_)
        have hM : mOK E.1 (mA M sz) (mUp M x (mO 7 [.ref a1, .ref a2, .ref a3, .ref a4, .int (nI nn), .int (nI nf), .int bd, .int 0, .int c2, .int c3, .int c4])) H := hM
        obtain ⟨M2, eM2⟩ : ∃ z, z = mUp M x (mO 7 [.ref a1, .ref a2, .ref a3, .ref a4, .int (nI nn), .int (nI nf), .int bd, .int 0, .int c2, .int c3, .int c4]) := ⟨_, rfl⟩
        rw [← eM2] at hM
        have g_a1_ : M2 a1 = some (mQ E 4 12 fi) := by rw [eM2]; exact mUp_at (m_ne g_a1 g_x (by simp)) g_a1
        have g_a2_ : M2 a2 = some (mQ E 5 10 fb) := by rw [eM2]; exact mUp_at (m_ne g_a2 g_x (by simp)) g_a2
        have g_a3_ : M2 a3 = some (mQ E 6 8 ff) := by rw [eM2]; exact mUp_at (m_ne g_a3 g_x (by simp)) g_a3
        have g_a4_ : M2 a4 = some (mDb E 40 wt) := by rw [eM2]; exact mUp_at (m_ne g_a4 g_x (by simp)) g_a4
        have g_s1_ : M2 s1 = some (mO 5 [.int lane1, .ref v1]) := by rw [eM2]; exact mUp_at (m_ne g_s1 g_x (by simp)) g_s1
        have g_v1_ : M2 v1 = some (mDb E n1 f1) := by rw [eM2]; exact mUp_at (m_ne g_v1 g_x (by simp)) g_v1
        have g_a1 := g_a1_
        have g_a2 := g_a2_
        have g_a3 := g_a3_
        have g_a4 := g_a4_
        have g_s1 := g_s1_
        have g_v1 := g_v1_
        have g_x : M2 x = some (mO 7 [.ref a1, .ref a2, .ref a3, .ref a4, .int (nI nn), .int (nI nf), .int bd, .int 0, .int c2, .int c3, .int c4]) := by rw [eM2]; exact mUp_self _ _ _
        refine lv_aload_n hx hb dX9_at_10 rfl (lv_at hl 0 rfl) ?_
        refine m_get (ci := 7) (v := .int 0) (C := RX9) (T := TX9) (N := 11) hx hb hts in_X9_at_X9 hown hE hM g_x rfl 7 (by decide) (hts (.fieldLink RX9 53 "CallWays2" "latest" "I") (by decide +kernel)) (fun _ h9 => h9) rfl dX9_at_11 ?_
        refine lv_if_ne (tgt := 30) hx hb dX9_at_14 (by decide) (fun h9 => absurd rfl h9) (fun _ => ?_)
        refine lv_aload_n hx hb dX9_at_17 rfl (lv_at hl 0 rfl) ?_
        refine m_get (ci := 7) (v := .ref a2) (C := RX9) (T := TX9) (N := 11) hx hb hts in_X9_at_X9 hown hE hM g_x rfl 1 (by decide) (hts (.fieldLink RX9 17 "CallWays2" "blocks" "[LCallWays2$Samples;") (by decide +kernel)) (fun _ h9 => h9) rfl dX9_at_18 ?_
        refine lv_iload_n hx hb dX9_at_21 rfl (lv_at hl 1 rfl) ?_
        refine m_qald (C := "CallWays2$Samples") (r := some s1) hx hb hE hM 5 g_a2 rfl (in_lit (N := 10) (by decide) hvb.1 hvb.2) hfb dX9_at_22 ?_
        show W _ _ _ _ _ _ _ _ _ _ _ _ _ _ _ (F0 m 23 ls [.ref s1])
        refine lv_iload_n hx hb dX9_at_23 rfl (lv_at hl 2 rfl) ?_
        refine m_calll (va_runV (As := [.int i]) (rest := []) ⟨hx, hb, hml, hown, hts⟩ (c_X7_bits l E M2 H.size s1 v1 n1 lane1 f1 i (vp_in_h hin (by omega)) (hvo1 _ (by obtain ⟨z, hz, rfl⟩ := vp_in_of (vp_in_h hin (by omega)) (by omega); rw [nI_clamp (by omega)]; exact hz)) g_s1 g_v1) (cwV 1 hts gX9_at_X7_bits rfl rfl rfl (by decide +kernel) ⟨Nat.le_of_ble_eq_true rfl, Nat.le_of_ble_eq_true rfl⟩) (m_preV hE hM g_s1 rfl) rfl rfl hl.1 rfl (lv_room (Nat.le_of_ble_eq_true rfl)) dX9_at_24 ⟨Nat.le_of_ble_eq_true rfl, Nat.le_of_ble_eq_true rfl⟩) hM hS hA (fun r2 u H locs hw hM hS => ?_)
        obtain ⟨e_r2, eu⟩ := hw
        rw [eu] at hM
        subst e_r2
        refine lv_goto (tgt := 31) hx hb dX9_at_27 (by decide) ?_
        exact m_lret hx hb hr hlocks hM hS (Nat.le_refl _) (Nat.le_refl _) dX9_at_31 (by exact ⟨(by show _ = (if vB b then _ else _); rw [if_pos hvb, hjc1, hbk1]; show _ = (if ¬ i < 0 ∧ ¬ nI (rw w1).2.1 ≤ i then _ else _); rw [hrw1, if_pos hin]), (by show cRep E _ NO x (nn, ins, nf, fn, bk, rw, bd, sAt bk rw b i, c2, c3, c4); rw [hsa, eM2]; exact (hC.scal hiK).rep), (by rw [eM2]; exact kx nx)⟩)
      · have hsa : sAt bk rw b i = -7 := by rw [sAt_s hvb hjc1 hbk1 hrw1, if_neg hin]
        refine m_calli (va_runV (As := [.int b, .int i]) (rest := [.ref x]) ⟨hx, hb, hml, hown, hts⟩ (c_X9_place_s l E M H.size x a1 a2 a3 a4 nn nf bd st c2 c3 c4 fi fb ff wt s1 v1 n1 lane1 f1 b i hvb hfb g_x g_a2 g_s1 g_v1) (cwV 2 hts gX9_at_X9_againstPlace rfl rfl rfl (by decide +kernel) ⟨Nat.le_of_ble_eq_true rfl, Nat.le_of_ble_eq_true rfl⟩) (m_preV hE hM g_x rfl) rfl rfl hl.1 rfl (lv_room (Nat.le_of_ble_eq_true rfl)) dX9_at_4 ⟨Nat.le_of_ble_eq_true rfl, Nat.le_of_ble_eq_true rfl⟩) hM hS hA (fun r1 u H locs hw hM hS => ?_)
        obtain ⟨e_r1, eu⟩ := hw
        rw [eu] at hM
        rw [if_neg hin] at e_r1
        subst e_r1
        refine m_put (ci := 7) (v := .int (-7)) (ty := .int) (C := RX9) (T := TX9) (N := 11) hx hb hts in_X9_at_X9 tyX9 tyX9_ok nmX9 hown hE hM hS g_x rfl 7 (by decide) (hts (.fieldLink RX9 53 "CallWays2" "latest" "I") (by decide +kernel)) (fun _ h9 => h9) rfl (by decide +kernel) rfl rfl (Nat.le_of_ble_eq_true rfl) dX9_at_7 (fun H locs hM hS => ?_)
        have hM : mOK E.1 (mA M sz) (mUp M x (mO 7 [.ref a1, .ref a2, .ref a3, .ref a4, .int (nI nn), .int (nI nf), .int bd, .int (-7), .int c2, .int c3, .int c4])) H := hM
        obtain ⟨M3, eM3⟩ : ∃ z, z = mUp M x (mO 7 [.ref a1, .ref a2, .ref a3, .ref a4, .int (nI nn), .int (nI nf), .int bd, .int (-7), .int c2, .int c3, .int c4]) := ⟨_, rfl⟩
        rw [← eM3] at hM
        have g_a1_ : M3 a1 = some (mQ E 4 12 fi) := by rw [eM3]; exact mUp_at (m_ne g_a1 g_x (by simp)) g_a1
        have g_a2_ : M3 a2 = some (mQ E 5 10 fb) := by rw [eM3]; exact mUp_at (m_ne g_a2 g_x (by simp)) g_a2
        have g_a3_ : M3 a3 = some (mQ E 6 8 ff) := by rw [eM3]; exact mUp_at (m_ne g_a3 g_x (by simp)) g_a3
        have g_a4_ : M3 a4 = some (mDb E 40 wt) := by rw [eM3]; exact mUp_at (m_ne g_a4 g_x (by simp)) g_a4
        have g_s1_ : M3 s1 = some (mO 5 [.int lane1, .ref v1]) := by rw [eM3]; exact mUp_at (m_ne g_s1 g_x (by simp)) g_s1
        have g_v1_ : M3 v1 = some (mDb E n1 f1) := by rw [eM3]; exact mUp_at (m_ne g_v1 g_x (by simp)) g_v1
        have g_a1 := g_a1_
        have g_a2 := g_a2_
        have g_a3 := g_a3_
        have g_a4 := g_a4_
        have g_s1 := g_s1_
        have g_v1 := g_v1_
        have g_x : M3 x = some (mO 7 [.ref a1, .ref a2, .ref a3, .ref a4, .int (nI nn), .int (nI nf), .int bd, .int (-7), .int c2, .int c3, .int c4]) := by rw [eM3]; exact mUp_self _ _ _
        refine lv_aload_n hx hb dX9_at_10 rfl (lv_at hl 0 rfl) ?_
        refine m_get (ci := 7) (v := .int (-7)) (C := RX9) (T := TX9) (N := 11) hx hb hts in_X9_at_X9 hown hE hM g_x rfl 7 (by decide) (hts (.fieldLink RX9 53 "CallWays2" "latest" "I") (by decide +kernel)) (fun _ h9 => h9) rfl dX9_at_11 ?_
        refine lv_if_ne (tgt := 30) hx hb dX9_at_14 (by decide) (fun _ => ?_) (fun h9 => absurd h9 (by decide))
        refine lv_lconst (v := 0) hx hb dX9_at_30 (by decide) ?_
        exact m_lret hx hb hr hlocks hM hS (Nat.le_refl _) (Nat.le_refl _) dX9_at_31 (by exact ⟨(by show _ = (if vB b then _ else _); rw [if_pos hvb, hjc1, hbk1]; show _ = (if ¬ i < 0 ∧ ¬ nI (rw w1).2.1 ≤ i then _ else _); rw [hrw1, if_neg hin]), (by show cRep E _ NO x (nn, ins, nf, fn, bk, rw, bd, sAt bk rw b i, c2, c3, c4); rw [hsa, eM3]; exact (hC.scal hiK).rep), (by rw [eM3]; exact kx nx)⟩)
  · have hsa : sAt bk rw b i = -1 := sAt_b hvb
    refine m_calli (va_runV (As := [.int b, .int i]) (rest := [.ref x]) ⟨hx, hb, hml, hown, hts⟩ (c_X9_place_b l E M H.size x a1 a2 a3 a4 nn nf bd st c2 c3 c4 fi fb ff wt b i hvb g_x g_a2) (cwV 2 hts gX9_at_X9_againstPlace rfl rfl rfl (by decide +kernel) ⟨Nat.le_of_ble_eq_true rfl, Nat.le_of_ble_eq_true rfl⟩) (m_preV hE hM g_x rfl) rfl rfl hl.1 rfl (lv_room (Nat.le_of_ble_eq_true rfl)) dX9_at_4 ⟨Nat.le_of_ble_eq_true rfl, Nat.le_of_ble_eq_true rfl⟩) hM hS hA (fun r1 u H locs hw hM hS => ?_)
    obtain ⟨e_r1, eu⟩ := hw
    rw [eu] at hM
    subst e_r1
    refine m_put (ci := 7) (v := .int (-1)) (ty := .int) (C := RX9) (T := TX9) (N := 11) hx hb hts in_X9_at_X9 tyX9 tyX9_ok nmX9 hown hE hM hS g_x rfl 7 (by decide) (hts (.fieldLink RX9 53 "CallWays2" "latest" "I") (by decide +kernel)) (fun _ h9 => h9) rfl (by decide +kernel) rfl rfl (Nat.le_of_ble_eq_true rfl) dX9_at_7 (fun H locs hM hS => ?_)
    have hM : mOK E.1 (mA M sz) (mUp M x (mO 7 [.ref a1, .ref a2, .ref a3, .ref a4, .int (nI nn), .int (nI nf), .int bd, .int (-1), .int c2, .int c3, .int c4])) H := hM
    obtain ⟨M4, eM4⟩ : ∃ z, z = mUp M x (mO 7 [.ref a1, .ref a2, .ref a3, .ref a4, .int (nI nn), .int (nI nf), .int bd, .int (-1), .int c2, .int c3, .int c4]) := ⟨_, rfl⟩
    rw [← eM4] at hM
    have g_a1_ : M4 a1 = some (mQ E 4 12 fi) := by rw [eM4]; exact mUp_at (m_ne g_a1 g_x (by simp)) g_a1
    have g_a2_ : M4 a2 = some (mQ E 5 10 fb) := by rw [eM4]; exact mUp_at (m_ne g_a2 g_x (by simp)) g_a2
    have g_a3_ : M4 a3 = some (mQ E 6 8 ff) := by rw [eM4]; exact mUp_at (m_ne g_a3 g_x (by simp)) g_a3
    have g_a4_ : M4 a4 = some (mDb E 40 wt) := by rw [eM4]; exact mUp_at (m_ne g_a4 g_x (by simp)) g_a4
    have g_a1 := g_a1_
    have g_a2 := g_a2_
    have g_a3 := g_a3_
    have g_a4 := g_a4_
    have g_x : M4 x = some (mO 7 [.ref a1, .ref a2, .ref a3, .ref a4, .int (nI nn), .int (nI nf), .int bd, .int (-1), .int c2, .int c3, .int c4]) := by rw [eM4]; exact mUp_self _ _ _
    refine lv_aload_n hx hb dX9_at_10 rfl (lv_at hl 0 rfl) ?_
    refine m_get (ci := 7) (v := .int (-1)) (C := RX9) (T := TX9) (N := 11) hx hb hts in_X9_at_X9 hown hE hM g_x rfl 7 (by decide) (hts (.fieldLink RX9 53 "CallWays2" "latest" "I") (by decide +kernel)) (fun _ h9 => h9) rfl dX9_at_11 ?_
    refine lv_if_ne (tgt := 30) hx hb dX9_at_14 (by decide) (fun _ => ?_) (fun h9 => absurd h9 (by decide))
    refine lv_lconst (v := 0) hx hb dX9_at_30 (by decide) ?_
    exact m_lret hx hb hr hlocks hM hS (Nat.le_refl _) (Nat.le_refl _) dX9_at_31 (by exact ⟨(by show _ = (if vB b then _ else _); rw [if_neg hvb]), (by show cRep E _ NO x (nn, ins, nf, fn, bk, rw, bd, sAt bk rw b i, c2, c3, c4); rw [hsa, eM4]; exact (hC.scal hiK).rep), (by rw [eM4]; exact kx nx)⟩)
theorem in_X9_put_X9 : ∀ w ∈ wsX90, w ∈ wsX9_put := by decide +kernel
set_option maxHeartbeats 4000000 in
set_option maxRecDepth 100000 in
theorem c_X9_put (l : Launch) (E : mEnv) (M : mMem) (sz : Nat) (NO : Nat → Prop) (x nn nf : Nat) (ins : Nat → sIn) (fn : Nat → Int32 × Int32) (bk : Nat → Option Nat) (rw : Nat → sRw) (bd st c2 c3 c4 : Int32) (hV : Inv (nn, ins, nf, fn, bk, rw, bd, st, c2, c3, c4)) (hC : cRep E M NO x (nn, ins, nf, fn, bk, rw, bd, st, c2, c3, c4)) (hO : ∀ q, NO q → M q ≠ none) (b i v : Int32)    : Met l yX9_put wsX9_put ({ frames := 2, cells := 0, slots := 0, locals := 45 }) (mPre E M sz [.ref x, .int b, .int i, .int v]) (mQi E M sz (fun r u => r = aPut (nn, ins, nf, fn, bk, rw, bd, st, c2, c3, c4) b i v ∧ cRep E u NO x (nPut (nn, ins, nf, fn, bk, rw, bd, st, c2, c3, c4) b i v) ∧ kept NO M u)) (0) (0) (mA M sz) := by
  refine m_met [.ref x, .int b, .int i, .int v] (by decide) rfl (Nat.le_of_ble_eq_true rfl) ?_
  intro p e s m below meth c ls H eH hx hb hr hts hown hlocks hnm hml hsz hE hM hS hA hl
  have hl : lv_has ls 4 [(0, .ref x), (1, .int b), (2, .int i), (3, .int v)] := hl
  obtain ⟨a1, a2, a3, a4, fi, fb, ff, wt, ia, ib, fa, ra, rb, fl, LV, hC⟩ := hC
  have hC0 := hC.rep
  have hiK := hV.insK
  obtain ⟨hnn, hnf, hvI, hvD, hv24, hvR, hvF⟩ := id hV
  obtain ⟨⟨g_x, g_a1, g_a2, g_a3, g_a4⟩, hI, hF, hB, hL, hR, hJ, hN⟩ := id hC
  obtain ⟨⟨nx, n1, n2, n3, n4⟩, nI0, nF0, nR0⟩ := id hN
  refine lv_aload_n hx hb dX9_put_0 rfl (lv_at hl 0 rfl) ?_
  refine lv_aload_n hx hb dX9_put_1 rfl (lv_at hl 0 rfl) ?_
  refine lv_iload_n hx hb dX9_put_2 rfl (lv_at hl 1 rfl) ?_
  refine lv_iload_n hx hb dX9_put_3 rfl (lv_at hl 2 rfl) ?_
  by_cases hvb : ¬ b < 0 ∧ ¬ 10 ≤ b
  · obtain ⟨j1, hj1, hij1, hjc1⟩ := vB_ix hvb
    have hfb := hB j1 hj1
    rcases hbk1 : bk j1 with _ | w1
    · rw [hbk1] at hfb
      replace hfb : fb b.toNatClampNeg = none := by rw [hjc1]; exact hfb
      refine m_calli (va_runV (As := [.int b, .int i]) (rest := [.ref x]) ⟨hx, hb, hml, hown, hts⟩ (c_X9_place_n l E M H.size x a1 a2 a3 a4 nn nf bd st c2 c3 c4 fi fb ff wt b i hvb hfb g_x g_a2) (cwV 2 hts gX9_put_X9_againstPlace rfl rfl rfl (by decide +kernel) ⟨Nat.le_of_ble_eq_true rfl, Nat.le_of_ble_eq_true rfl⟩) (m_preV hE hM g_x rfl) rfl rfl hl.1 rfl (lv_room (Nat.le_of_ble_eq_true rfl)) dX9_put_4 ⟨Nat.le_of_ble_eq_true rfl, Nat.le_of_ble_eq_true rfl⟩) hM hS hA (fun r1 u H locs hw hM hS => ?_)
      obtain ⟨e_r1, eu⟩ := hw
      rw [eu] at hM
      subst e_r1
      have hsa : sAt bk rw b i = -5 := sAt_n hvb hjc1 hbk1
      refine m_put (ci := 7) (v := .int (-5)) (ty := .int) (C := RX9) (T := TX9) (N := 11) hx hb hts in_X9_put_X9 tyX9 tyX9_ok nmX9 hown hE hM hS g_x rfl 7 (by decide) (hts (.fieldLink RX9 53 "CallWays2" "latest" "I") (by decide +kernel)) (fun _ h9 => h9) rfl (by decide +kernel) rfl rfl (Nat.le_of_ble_eq_true rfl) dX9_put_7 (fun H locs hM hS => ?_)
      have hM : mOK E.1 (mA M sz) (mUp M x (mO 7 [.ref a1, .ref a2, .ref a3, .ref a4, .int (nI nn), .int (nI nf), .int bd, .int (-5), .int c2, .int c3, .int c4])) H := hM
      obtain ⟨M1, eM1⟩ : ∃ z, z = mUp M x (mO 7 [.ref a1, .ref a2, .ref a3, .ref a4, .int (nI nn), .int (nI nf), .int bd, .int (-5), .int c2, .int c3, .int c4]) := ⟨_, rfl⟩
      rw [← eM1] at hM
      have g_a1_ : M1 a1 = some (mQ E 4 12 fi) := by rw [eM1]; exact mUp_at (m_ne g_a1 g_x (by simp)) g_a1
      have g_a2_ : M1 a2 = some (mQ E 5 10 fb) := by rw [eM1]; exact mUp_at (m_ne g_a2 g_x (by simp)) g_a2
      have g_a3_ : M1 a3 = some (mQ E 6 8 ff) := by rw [eM1]; exact mUp_at (m_ne g_a3 g_x (by simp)) g_a3
      have g_a4_ : M1 a4 = some (mDb E 40 wt) := by rw [eM1]; exact mUp_at (m_ne g_a4 g_x (by simp)) g_a4
      have g_a1 := g_a1_
      have g_a2 := g_a2_
      have g_a3 := g_a3_
      have g_a4 := g_a4_
      have g_x : M1 x = some (mO 7 [.ref a1, .ref a2, .ref a3, .ref a4, .int (nI nn), .int (nI nf), .int bd, .int (-5), .int c2, .int c3, .int c4]) := by rw [eM1]; exact mUp_self _ _ _
      refine lv_aload_n hx hb dX9_put_10 rfl (lv_at hl 0 rfl) ?_
      refine m_get (ci := 7) (v := .int (-5)) (C := RX9) (T := TX9) (N := 11) hx hb hts in_X9_put_X9 hown hE hM g_x rfl 7 (by decide) (hts (.fieldLink RX9 53 "CallWays2" "latest" "I") (by decide +kernel)) (fun _ h9 => h9) rfl dX9_put_11 ?_
      refine lv_if_eq (tgt := 22) hx hb dX9_put_14 (by decide) (fun h9 => absurd h9 (by decide)) (fun _ => ?_)
      refine lv_aload_n hx hb dX9_put_17 rfl (lv_at hl 0 rfl) ?_
      refine m_get (ci := 7) (v := .int (-5)) (C := RX9) (T := TX9) (N := 11) hx hb hts in_X9_put_X9 hown hE hM g_x rfl 7 (by decide) (hts (.fieldLink RX9 53 "CallWays2" "latest" "I") (by decide +kernel)) (fun _ h9 => h9) rfl dX9_put_18 ?_
      exact m_iret hx hb hr hlocks hM hS (Nat.le_refl _) (Nat.le_refl _) dX9_put_21 (by exact ⟨(by show _ = (if sAt bk rw b i = 0 then _ else _); rw [hsa]; rfl), (by show cRep E _ NO x (nn, ins, nf, fn, bk, rPut bk rw b i v, bd, sAt bk rw b i, c2, c3, c4); unfold rPut; rw [hsa, if_neg (by decide), eM1]; exact (hC.scal hiK).rep), (by rw [eM1]; exact kx nx)⟩)
    · rw [hbk1] at hfb
      have hlv1 : live nn ins bk w1 := Or.inl ⟨j1, hj1, hbk1⟩
      rcases hrw1 : rw w1 with ⟨lane1, n1, f1⟩
      obtain ⟨g_s1, g_v1, hva1⟩ := hR w1 (hL w1 hlv1) _ _ _ hrw1
      obtain ⟨hn1, hlane1, hvo1⟩ := hvR w1 hlv1 _ _ _ hrw1
      have hnr1 := nR0 w1 (hL w1 hlv1)
      obtain ⟨s1, es1⟩ : ∃ z, z = ra w1 := ⟨_, rfl⟩
      obtain ⟨v1, ev1⟩ : ∃ z, z = rb w1 := ⟨_, rfl⟩
      rw [← es1, ← ev1] at g_s1
      rw [← ev1] at g_v1 hva1
      replace hfb : fb b.toNatClampNeg = some s1 := by rw [hjc1, es1]; exact hfb
      by_cases hin : ¬ i < 0 ∧ ¬ nI n1 ≤ i
      · have hsa : sAt bk rw b i = 0 := by rw [sAt_s hvb hjc1 hbk1 hrw1, if_pos hin]
        refine m_calli (va_runV (As := [.int b, .int i]) (rest := [.ref x]) ⟨hx, hb, hml, hown, hts⟩ (c_X9_place_s l E M H.size x a1 a2 a3 a4 nn nf bd st c2 c3 c4 fi fb ff wt s1 v1 n1 lane1 f1 b i hvb hfb g_x g_a2 g_s1 g_v1) (cwV 2 hts gX9_put_X9_againstPlace rfl rfl rfl (by decide +kernel) ⟨Nat.le_of_ble_eq_true rfl, Nat.le_of_ble_eq_true rfl⟩) (m_preV hE hM g_x rfl) rfl rfl hl.1 rfl (lv_room (Nat.le_of_ble_eq_true rfl)) dX9_put_4 ⟨Nat.le_of_ble_eq_true rfl, Nat.le_of_ble_eq_true rfl⟩) hM hS hA (fun r1 u H locs hw hM hS => ?_)
        obtain ⟨e_r1, eu⟩ := hw
        rw [eu] at hM
        rw [if_pos hin] at e_r1
        subst e_r1
        refine m_put (ci := 7) (v := .int 0) (ty := .int) (C := RX9) (T := TX9) (N := 11) hx hb hts in_X9_put_X9 tyX9 tyX9_ok nmX9 hown hE hM hS g_x rfl 7 (by decide) (hts (.fieldLink RX9 53 "CallWays2" "latest" "I") (by decide +kernel)) (fun _ h9 => h9) rfl (by decide +kernel) rfl rfl (Nat.le_of_ble_eq_true rfl) dX9_put_7 (fun H locs hM hS => ?_)
        have hM : mOK E.1 (mA M sz) (mUp M x (mO 7 [.ref a1, .ref a2, .ref a3, .ref a4, .int (nI nn), .int (nI nf), .int bd, .int 0, .int c2, .int c3, .int c4])) H := hM
        obtain ⟨M2, eM2⟩ : ∃ z, z = mUp M x (mO 7 [.ref a1, .ref a2, .ref a3, .ref a4, .int (nI nn), .int (nI nf), .int bd, .int 0, .int c2, .int c3, .int c4]) := ⟨_, rfl⟩
        rw [← eM2] at hM
        have g_a1_ : M2 a1 = some (mQ E 4 12 fi) := by rw [eM2]; exact mUp_at (m_ne g_a1 g_x (by simp)) g_a1
        have g_a2_ : M2 a2 = some (mQ E 5 10 fb) := by rw [eM2]; exact mUp_at (m_ne g_a2 g_x (by simp)) g_a2
        have g_a3_ : M2 a3 = some (mQ E 6 8 ff) := by rw [eM2]; exact mUp_at (m_ne g_a3 g_x (by simp)) g_a3
        have g_a4_ : M2 a4 = some (mDb E 40 wt) := by rw [eM2]; exact mUp_at (m_ne g_a4 g_x (by simp)) g_a4
        have g_s1_ : M2 s1 = some (mO 5 [.int lane1, .ref v1]) := by rw [eM2]; exact mUp_at (m_ne g_s1 g_x (by simp)) g_s1
        have g_v1_ : M2 v1 = some (mDb E n1 f1) := by rw [eM2]; exact mUp_at (m_ne g_v1 g_x (by simp)) g_v1
        have g_a1 := g_a1_
        have g_a2 := g_a2_
        have g_a3 := g_a3_
        have g_a4 := g_a4_
        have g_s1 := g_s1_
        have g_v1 := g_v1_
        have g_x : M2 x = some (mO 7 [.ref a1, .ref a2, .ref a3, .ref a4, .int (nI nn), .int (nI nf), .int bd, .int 0, .int c2, .int c3, .int c4]) := by rw [eM2]; exact mUp_self _ _ _
        refine lv_aload_n hx hb dX9_put_10 rfl (lv_at hl 0 rfl) ?_
        refine m_get (ci := 7) (v := .int 0) (C := RX9) (T := TX9) (N := 11) hx hb hts in_X9_put_X9 hown hE hM g_x rfl 7 (by decide) (hts (.fieldLink RX9 53 "CallWays2" "latest" "I") (by decide +kernel)) (fun _ h9 => h9) rfl dX9_put_11 ?_
        refine lv_if_eq (tgt := 22) hx hb dX9_put_14 (by decide) (fun _ => ?_) (fun h9 => absurd rfl h9)
        refine lv_aload_n hx hb dX9_put_22 rfl (lv_at hl 0 rfl) ?_
        refine m_get (ci := 7) (v := .ref a2) (C := RX9) (T := TX9) (N := 11) hx hb hts in_X9_put_X9 hown hE hM g_x rfl 1 (by decide) (hts (.fieldLink RX9 17 "CallWays2" "blocks" "[LCallWays2$Samples;") (by decide +kernel)) (fun _ h9 => h9) rfl dX9_put_23 ?_
        refine lv_iload_n hx hb dX9_put_26 rfl (lv_at hl 1 rfl) ?_
        refine m_qald (C := "CallWays2$Samples") (r := some s1) hx hb hE hM 5 g_a2 rfl (in_lit (N := 10) (by decide) hvb.1 hvb.2) hfb dX9_put_27 ?_
        show W _ _ _ _ _ _ _ _ _ _ _ _ _ _ _ (F0 m 28 ls [.ref s1])
        refine lv_iload_n hx hb dX9_put_28 rfl (lv_at hl 2 rfl) ?_
        refine lv_iload_n hx hb dX9_put_29 rfl (lv_at hl 3 rfl) ?_
        refine lv_i2d hx hb dX9_put_30 ?_
        refine m_callv (va_runV (As := [.int i, .double (FP.i2d v)]) (rest := []) ⟨hx, hb, hml, hown, hts⟩ (c_X7_set l E M2 H.size s1 v1 n1 lane1 f1 i (FP.i2d v) (fin_i2d v) (vp_in_h hin (by omega)) g_s1 g_v1) (cwV 2 hts gX9_put_X7_set rfl rfl rfl (by decide +kernel) ⟨Nat.le_of_ble_eq_true rfl, Nat.le_of_ble_eq_true rfl⟩) (m_preV hE hM g_s1 rfl) rfl rfl hl.1 rfl (lv_room (Nat.le_of_ble_eq_true rfl)) dX9_put_31 ⟨Nat.le_of_ble_eq_true rfl, Nat.le_of_ble_eq_true rfl⟩) hM hS hA (fun M4 H locs hw hM hS => ?_)
        have eM4 := hw
        have g_x_ : M4 x = some (mO 7 [.ref a1, .ref a2, .ref a3, .ref a4, .int (nI nn), .int (nI nf), .int bd, .int 0, .int c2, .int c3, .int c4]) := by rw [eM4]; exact mUp_at (m_ne g_x g_v1 (by simp)) g_x
        have g_a1_ : M4 a1 = some (mQ E 4 12 fi) := by rw [eM4]; exact mUp_at (m_ne g_a1 g_v1 (by simp)) g_a1
        have g_a2_ : M4 a2 = some (mQ E 5 10 fb) := by rw [eM4]; exact mUp_at (m_ne g_a2 g_v1 (by simp)) g_a2
        have g_a3_ : M4 a3 = some (mQ E 6 8 ff) := by rw [eM4]; exact mUp_at (m_ne g_a3 g_v1 (by simp)) g_a3
        have g_a4_ : M4 a4 = some (mDb E 40 wt) := by rw [eM4]; exact mUp_at (Ne.symm hva1) g_a4
        have g_s1_ : M4 s1 = some (mO 5 [.int lane1, .ref v1]) := by rw [eM4]; exact mUp_at (m_ne g_s1 g_v1 (by simp)) g_s1
        have g_x := g_x_
        have g_a1 := g_a1_
        have g_a2 := g_a2_
        have g_a3 := g_a3_
        have g_a4 := g_a4_
        have g_s1 := g_s1_
        have g_v1 : M4 v1 = some (mDb E n1 (vf_upd f1 i.toNatClampNeg (sTurn lane1 (FP.i2d v)))) := by rw [eM4]; exact mUp_self _ _ _
        refine lv_iconst (v := 1) hx hb dX9_put_34 (by decide) ?_
        exact m_iret hx hb hr hlocks hM hS (Nat.le_refl _) (Nat.le_refl _) dX9_put_35 (by exact ⟨(by show _ = (if sAt bk rw b i = 0 then _ else _); rw [hsa]; rfl), (by show cRep E _ NO x (nn, ins, nf, fn, bk, rPut bk rw b i v, bd, sAt bk rw b i, c2, c3, c4); unfold rPut; rw [hsa, if_pos rfl, hjc1, hbk1]; show cRep E _ NO x (nn, ins, nf, fn, bk, va_up rw w1 ((rw w1).1, (rw w1).2.1, vf_upd (rw w1).2.2 i.toNatClampNeg (sTurn (rw w1).1 (FP.i2d v))), bd, 0, c2, c3, c4); rw [hrw1, eM4, eM2, ev1]; exact ((hC.scal hiK).row hiK (hL w1 hlv1) hrw1).rep), (by rw [eM4, eM2, ev1]; exact (kx nx).up hnr1.2)⟩)
      · have hsa : sAt bk rw b i = -7 := by rw [sAt_s hvb hjc1 hbk1 hrw1, if_neg hin]
        refine m_calli (va_runV (As := [.int b, .int i]) (rest := [.ref x]) ⟨hx, hb, hml, hown, hts⟩ (c_X9_place_s l E M H.size x a1 a2 a3 a4 nn nf bd st c2 c3 c4 fi fb ff wt s1 v1 n1 lane1 f1 b i hvb hfb g_x g_a2 g_s1 g_v1) (cwV 2 hts gX9_put_X9_againstPlace rfl rfl rfl (by decide +kernel) ⟨Nat.le_of_ble_eq_true rfl, Nat.le_of_ble_eq_true rfl⟩) (m_preV hE hM g_x rfl) rfl rfl hl.1 rfl (lv_room (Nat.le_of_ble_eq_true rfl)) dX9_put_4 ⟨Nat.le_of_ble_eq_true rfl, Nat.le_of_ble_eq_true rfl⟩) hM hS hA (fun r1 u H locs hw hM hS => ?_)
        obtain ⟨e_r1, eu⟩ := hw
        rw [eu] at hM
        rw [if_neg hin] at e_r1
        subst e_r1
        refine m_put (ci := 7) (v := .int (-7)) (ty := .int) (C := RX9) (T := TX9) (N := 11) hx hb hts in_X9_put_X9 tyX9 tyX9_ok nmX9 hown hE hM hS g_x rfl 7 (by decide) (hts (.fieldLink RX9 53 "CallWays2" "latest" "I") (by decide +kernel)) (fun _ h9 => h9) rfl (by decide +kernel) rfl rfl (Nat.le_of_ble_eq_true rfl) dX9_put_7 (fun H locs hM hS => ?_)
        have hM : mOK E.1 (mA M sz) (mUp M x (mO 7 [.ref a1, .ref a2, .ref a3, .ref a4, .int (nI nn), .int (nI nf), .int bd, .int (-7), .int c2, .int c3, .int c4])) H := hM
        obtain ⟨M5, eM5⟩ : ∃ z, z = mUp M x (mO 7 [.ref a1, .ref a2, .ref a3, .ref a4, .int (nI nn), .int (nI nf), .int bd, .int (-7), .int c2, .int c3, .int c4]) := ⟨_, rfl⟩
        rw [← eM5] at hM
        have g_a1_ : M5 a1 = some (mQ E 4 12 fi) := by rw [eM5]; exact mUp_at (m_ne g_a1 g_x (by simp)) g_a1
        have g_a2_ : M5 a2 = some (mQ E 5 10 fb) := by rw [eM5]; exact mUp_at (m_ne g_a2 g_x (by simp)) g_a2
        have g_a3_ : M5 a3 = some (mQ E 6 8 ff) := by rw [eM5]; exact mUp_at (m_ne g_a3 g_x (by simp)) g_a3
        have g_a4_ : M5 a4 = some (mDb E 40 wt) := by rw [eM5]; exact mUp_at (m_ne g_a4 g_x (by simp)) g_a4
        have g_s1_ : M5 s1 = some (mO 5 [.int lane1, .ref v1]) := by rw [eM5]; exact mUp_at (m_ne g_s1 g_x (by simp)) g_s1
        have g_v1_ : M5 v1 = some (mDb E n1 f1) := by rw [eM5]; exact mUp_at (m_ne g_v1 g_x (by simp)) g_v1
        have g_a1 := g_a1_
        have g_a2 := g_a2_
        have g_a3 := g_a3_
        have g_a4 := g_a4_
        have g_s1 := g_s1_
        have g_v1 := g_v1_
        have g_x : M5 x = some (mO 7 [.ref a1, .ref a2, .ref a3, .ref a4, .int (nI nn), .int (nI nf), .int bd, .int (-7), .int c2, .int c3, .int c4]) := by rw [eM5]; exact mUp_self _ _ _
        refine lv_aload_n hx hb dX9_put_10 rfl (lv_at hl 0 rfl) ?_
        refine m_get (ci := 7) (v := .int (-7)) (C := RX9) (T := TX9) (N := 11) hx hb hts in_X9_put_X9 hown hE hM g_x rfl 7 (by decide) (hts (.fieldLink RX9 53 "CallWays2" "latest" "I") (by decide +kernel)) (fun _ h9 => h9) rfl dX9_put_11 ?_
        refine lv_if_eq (tgt := 22) hx hb dX9_put_14 (by decide) (fun h9 => absurd h9 (by decide)) (fun _ => ?_)
        refine lv_aload_n hx hb dX9_put_17 rfl (lv_at hl 0 rfl) ?_
        refine m_get (ci := 7) (v := .int (-7)) (C := RX9) (T := TX9) (N := 11) hx hb hts in_X9_put_X9 hown hE hM g_x rfl 7 (by decide) (hts (.fieldLink RX9 53 "CallWays2" "latest" "I") (by decide +kernel)) (fun _ h9 => h9) rfl dX9_put_18 ?_
        exact m_iret hx hb hr hlocks hM hS (Nat.le_refl _) (Nat.le_refl _) dX9_put_21 (by exact ⟨(by show _ = (if sAt bk rw b i = 0 then _ else _); rw [hsa]; rfl), (by show cRep E _ NO x (nn, ins, nf, fn, bk, rPut bk rw b i v, bd, sAt bk rw b i, c2, c3, c4); unfold rPut; rw [hsa, if_neg (by decide), eM5]; exact (hC.scal hiK).rep), (by rw [eM5]; exact kx nx)⟩)
  · have hsa : sAt bk rw b i = -1 := sAt_b hvb
    refine m_calli (va_runV (As := [.int b, .int i]) (rest := [.ref x]) ⟨hx, hb, hml, hown, hts⟩ (c_X9_place_b l E M H.size x a1 a2 a3 a4 nn nf bd st c2 c3 c4 fi fb ff wt b i hvb g_x g_a2) (cwV 2 hts gX9_put_X9_againstPlace rfl rfl rfl (by decide +kernel) ⟨Nat.le_of_ble_eq_true rfl, Nat.le_of_ble_eq_true rfl⟩) (m_preV hE hM g_x rfl) rfl rfl hl.1 rfl (lv_room (Nat.le_of_ble_eq_true rfl)) dX9_put_4 ⟨Nat.le_of_ble_eq_true rfl, Nat.le_of_ble_eq_true rfl⟩) hM hS hA (fun r1 u H locs hw hM hS => ?_)
    obtain ⟨e_r1, eu⟩ := hw
    rw [eu] at hM
    subst e_r1
    refine m_put (ci := 7) (v := .int (-1)) (ty := .int) (C := RX9) (T := TX9) (N := 11) hx hb hts in_X9_put_X9 tyX9 tyX9_ok nmX9 hown hE hM hS g_x rfl 7 (by decide) (hts (.fieldLink RX9 53 "CallWays2" "latest" "I") (by decide +kernel)) (fun _ h9 => h9) rfl (by decide +kernel) rfl rfl (Nat.le_of_ble_eq_true rfl) dX9_put_7 (fun H locs hM hS => ?_)
    have hM : mOK E.1 (mA M sz) (mUp M x (mO 7 [.ref a1, .ref a2, .ref a3, .ref a4, .int (nI nn), .int (nI nf), .int bd, .int (-1), .int c2, .int c3, .int c4])) H := hM
    obtain ⟨M6, eM6⟩ : ∃ z, z = mUp M x (mO 7 [.ref a1, .ref a2, .ref a3, .ref a4, .int (nI nn), .int (nI nf), .int bd, .int (-1), .int c2, .int c3, .int c4]) := ⟨_, rfl⟩
    rw [← eM6] at hM
    have g_a1_ : M6 a1 = some (mQ E 4 12 fi) := by rw [eM6]; exact mUp_at (m_ne g_a1 g_x (by simp)) g_a1
    have g_a2_ : M6 a2 = some (mQ E 5 10 fb) := by rw [eM6]; exact mUp_at (m_ne g_a2 g_x (by simp)) g_a2
    have g_a3_ : M6 a3 = some (mQ E 6 8 ff) := by rw [eM6]; exact mUp_at (m_ne g_a3 g_x (by simp)) g_a3
    have g_a4_ : M6 a4 = some (mDb E 40 wt) := by rw [eM6]; exact mUp_at (m_ne g_a4 g_x (by simp)) g_a4
    have g_a1 := g_a1_
    have g_a2 := g_a2_
    have g_a3 := g_a3_
    have g_a4 := g_a4_
    have g_x : M6 x = some (mO 7 [.ref a1, .ref a2, .ref a3, .ref a4, .int (nI nn), .int (nI nf), .int bd, .int (-1), .int c2, .int c3, .int c4]) := by rw [eM6]; exact mUp_self _ _ _
    refine lv_aload_n hx hb dX9_put_10 rfl (lv_at hl 0 rfl) ?_
    refine m_get (ci := 7) (v := .int (-1)) (C := RX9) (T := TX9) (N := 11) hx hb hts in_X9_put_X9 hown hE hM g_x rfl 7 (by decide) (hts (.fieldLink RX9 53 "CallWays2" "latest" "I") (by decide +kernel)) (fun _ h9 => h9) rfl dX9_put_11 ?_
    refine lv_if_eq (tgt := 22) hx hb dX9_put_14 (by decide) (fun h9 => absurd h9 (by decide)) (fun _ => ?_)
    refine lv_aload_n hx hb dX9_put_17 rfl (lv_at hl 0 rfl) ?_
    refine m_get (ci := 7) (v := .int (-1)) (C := RX9) (T := TX9) (N := 11) hx hb hts in_X9_put_X9 hown hE hM g_x rfl 7 (by decide) (hts (.fieldLink RX9 53 "CallWays2" "latest" "I") (by decide +kernel)) (fun _ h9 => h9) rfl dX9_put_18 ?_
    exact m_iret hx hb hr hlocks hM hS (Nat.le_refl _) (Nat.le_refl _) dX9_put_21 (by exact ⟨(by show _ = (if sAt bk rw b i = 0 then _ else _); rw [hsa]; rfl), (by show cRep E _ NO x (nn, ins, nf, fn, bk, rPut bk rw b i v, bd, sAt bk rw b i, c2, c3, c4); unfold rPut; rw [hsa, if_neg (by decide), eM6]; exact (hC.scal hiK).rep), (by rw [eM6]; exact kx nx)⟩)
end
