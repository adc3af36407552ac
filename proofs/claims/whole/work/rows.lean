section
-- ===== PART A: goes FIRST, ahead of the names: the tables' words, and 'selects' of the private methods out of them =====
/-- a private method of a class that the tables say can be made, by its rows of tables_1 -/
def lw_okq (q : MethodName × Nat) : Prop := (q.1.cls ≠ "java/lang/invoke/MethodHandle" ∧ q.1.cls ≠ "java/lang/invoke/VarHandle") ∧ Cond.instantiable q.1.cls q.2 ∈ tables_1 ∧ Cond.privateMethod q.1 ∈ tables_1 ∧ Cond.instanceMethod q.1 ∈ tables_1
theorem lw_p0 : lw_okq (⟨"ReelBarn", "refuse", "(J)J"⟩, 4) := ⟨⟨by decide +kernel, by decide +kernel⟩, List.mem_of_getElem? (i := 10) (by decide +kernel), List.mem_of_getElem? (i := 47) (by decide +kernel), List.mem_of_getElem? (i := 48) (by decide +kernel)⟩
theorem lw_p1 : lw_okq (⟨"ReelBarn", "carry", "(IILReelBarn$Reel;)V"⟩, 4) := ⟨⟨by decide +kernel, by decide +kernel⟩, List.mem_of_getElem? (i := 10) (by decide +kernel), List.mem_of_getElem? (i := 103) (by decide +kernel), List.mem_of_getElem? (i := 104) (by decide +kernel)⟩
theorem lw_p2 : lw_okq (⟨"ReelBarn", "reelFault", "(II)J"⟩, 4) := ⟨⟨by decide +kernel, by decide +kernel⟩, List.mem_of_getElem? (i := 10) (by decide +kernel), List.mem_of_getElem? (i := 111) (by decide +kernel), List.mem_of_getElem? (i := 112) (by decide +kernel)⟩
theorem lw_p3 : lw_okq (⟨"ReelBarn", "reelOn", "(II)LReelBarn$Reel;"⟩, 4) := ⟨⟨by decide +kernel, by decide +kernel⟩, List.mem_of_getElem? (i := 10) (by decide +kernel), List.mem_of_getElem? (i := 115) (by decide +kernel), List.mem_of_getElem? (i := 116) (by decide +kernel)⟩
theorem lw_p4 : lw_okq (⟨"ReelBarn", "placeFault", "(III)J"⟩, 4) := ⟨⟨by decide +kernel, by decide +kernel⟩, List.mem_of_getElem? (i := 10) (by decide +kernel), List.mem_of_getElem? (i := 150) (by decide +kernel), List.mem_of_getElem? (i := 151) (by decide +kernel)⟩
theorem lw_p5 : lw_okq (⟨"ReelBarn", "rowFault", "(II)J"⟩, 4) := ⟨⟨by decide +kernel, by decide +kernel⟩, List.mem_of_getElem? (i := 10) (by decide +kernel), List.mem_of_getElem? (i := 304) (by decide +kernel), List.mem_of_getElem? (i := 305) (by decide +kernel)⟩
theorem lw_p6 : lw_okq (⟨"ReelBarn", "wallFault", "(I)J"⟩, 4) := ⟨⟨by decide +kernel, by decide +kernel⟩, List.mem_of_getElem? (i := 10) (by decide +kernel), List.mem_of_getElem? (i := 308) (by decide +kernel), List.mem_of_getElem? (i := 309) (by decide +kernel)⟩
theorem lw_p7 : lw_okq (⟨"ReelBarn", "wallPlaceFault", "(III)J"⟩, 4) := ⟨⟨by decide +kernel, by decide +kernel⟩, List.mem_of_getElem? (i := 10) (by decide +kernel), List.mem_of_getElem? (i := 320) (by decide +kernel), List.mem_of_getElem? (i := 321) (by decide +kernel)⟩
theorem lw_p8 : lw_okq (⟨"ReelBarn", "wallReelFault", "(II)J"⟩, 4) := ⟨⟨by decide +kernel, by decide +kernel⟩, List.mem_of_getElem? (i := 10) (by decide +kernel), List.mem_of_getElem? (i := 324) (by decide +kernel), List.mem_of_getElem? (i := 325) (by decide +kernel)⟩
theorem lw_p9 : lw_okq (⟨"ReelBarnModel", "refuse", "(J)J"⟩, 11) := ⟨⟨by decide +kernel, by decide +kernel⟩, List.mem_of_getElem? (i := 351) (by decide +kernel), List.mem_of_getElem? (i := 399) (by decide +kernel), List.mem_of_getElem? (i := 400) (by decide +kernel)⟩
theorem lw_p10 : lw_okq (⟨"ReelBarnModel", "reel", "(I)I"⟩, 11) := ⟨⟨by decide +kernel, by decide +kernel⟩, List.mem_of_getElem? (i := 351) (by decide +kernel), List.mem_of_getElem? (i := 405) (by decide +kernel), List.mem_of_getElem? (i := 406) (by decide +kernel)⟩
theorem lw_p11 : lw_okq (⟨"ReelBarnModel", "against", "(II)J"⟩, 11) := ⟨⟨by decide +kernel, by decide +kernel⟩, List.mem_of_getElem? (i := 351) (by decide +kernel), List.mem_of_getElem? (i := 426) (by decide +kernel), List.mem_of_getElem? (i := 427) (by decide +kernel)⟩
theorem lw_p12 : lw_okq (⟨"ReelBarnModel", "told", "(III)J"⟩, 11) := ⟨⟨by decide +kernel, by decide +kernel⟩, List.mem_of_getElem? (i := 351) (by decide +kernel), List.mem_of_getElem? (i := 431) (by decide +kernel), List.mem_of_getElem? (i := 432) (by decide +kernel)⟩
theorem lw_p13 : lw_okq (⟨"ReelBarnModel", "fill", "(IIII)V"⟩, 11) := ⟨⟨by decide +kernel, by decide +kernel⟩, List.mem_of_getElem? (i := 351) (by decide +kernel), List.mem_of_getElem? (i := 440) (by decide +kernel), List.mem_of_getElem? (i := 441) (by decide +kernel)⟩
theorem lw_p14 : lw_okq (⟨"ReelBarnModel", "againstRow", "(II)J"⟩, 11) := ⟨⟨by decide +kernel, by decide +kernel⟩, List.mem_of_getElem? (i := 351) (by decide +kernel), List.mem_of_getElem? (i := 477) (by decide +kernel), List.mem_of_getElem? (i := 478) (by decide +kernel)⟩
theorem lw_p15 : lw_okq (⟨"ReelBarnModel", "againstPlace", "(III)J"⟩, 11) := ⟨⟨by decide +kernel, by decide +kernel⟩, List.mem_of_getElem? (i := 351) (by decide +kernel), List.mem_of_getElem? (i := 489) (by decide +kernel), List.mem_of_getElem? (i := 490) (by decide +kernel)⟩
def lw_privs_1 : List (MethodName × Nat) := [(⟨"ReelBarn", "refuse", "(J)J"⟩, 4), (⟨"ReelBarn", "carry", "(IILReelBarn$Reel;)V"⟩, 4), (⟨"ReelBarn", "reelFault", "(II)J"⟩, 4), (⟨"ReelBarn", "reelOn", "(II)LReelBarn$Reel;"⟩, 4), (⟨"ReelBarn", "placeFault", "(III)J"⟩, 4), (⟨"ReelBarn", "rowFault", "(II)J"⟩, 4), (⟨"ReelBarn", "wallFault", "(I)J"⟩, 4), (⟨"ReelBarn", "wallPlaceFault", "(III)J"⟩, 4), (⟨"ReelBarn", "wallReelFault", "(II)J"⟩, 4), (⟨"ReelBarnModel", "refuse", "(J)J"⟩, 11), (⟨"ReelBarnModel", "reel", "(I)I"⟩, 11), (⟨"ReelBarnModel", "against", "(II)J"⟩, 11), (⟨"ReelBarnModel", "told", "(III)J"⟩, 11), (⟨"ReelBarnModel", "fill", "(IIII)V"⟩, 11), (⟨"ReelBarnModel", "againstRow", "(II)J"⟩, 11), (⟨"ReelBarnModel", "againstPlace", "(III)J"⟩, 11)]
theorem lw_r1 : ∀ q ∈ lw_privs_1, lw_okq q := List.forall_mem_cons.mpr ⟨lw_p0, List.forall_mem_cons.mpr ⟨lw_p1, List.forall_mem_cons.mpr ⟨lw_p2, List.forall_mem_cons.mpr ⟨lw_p3, List.forall_mem_cons.mpr ⟨lw_p4, List.forall_mem_cons.mpr ⟨lw_p5, List.forall_mem_cons.mpr ⟨lw_p6, List.forall_mem_cons.mpr ⟨lw_p7, List.forall_mem_cons.mpr ⟨lw_p8, List.forall_mem_cons.mpr ⟨lw_p9, List.forall_mem_cons.mpr ⟨lw_p10, List.forall_mem_cons.mpr ⟨lw_p11, List.forall_mem_cons.mpr ⟨lw_p12, List.forall_mem_cons.mpr ⟨lw_p13, List.forall_mem_cons.mpr ⟨lw_p14, List.forall_mem_cons.mpr ⟨lw_p15, fun _ h => absurd h List.not_mem_nil⟩⟩⟩⟩⟩⟩⟩⟩⟩⟩⟩⟩⟩⟩⟩⟩
def lw_privs : List (MethodName × Nat) := lw_privs_1
def lw_tbl : List Cond := k2_sels lw_privs ++ tables_1
theorem lw_privs_ok : ∀ q ∈ lw_privs, lw_okq q := lw_r1
end
section
/-! ===== BEGIN words of one list among another's, by their places ===== -/
theorem goodIn_r {big : List Cond} (ws : List Cond) (ps : List Nat) (hp : ws = ps.filterMap (fun i => big[i]?)) (h : ws.all goodWord = true) : GoodIn big ws := by
  intro w hw
  have h1 := List.all_eq_true.mp h w hw
  rw [hp] at hw
  obtain ⟨i, -, hi⟩ := List.mem_filterMap.mp hw
  have hm : w ∈ big := by first | exact List.mem_of_getElem? hi | exact List.getElem?_mem hi
  exact ⟨hm, good_of_word h1⟩
theorem goodIn_app {big a b : List Cond} (ha : GoodIn big a) (hb : GoodIn big b) : GoodIn big (a ++ b) := fun w h => (List.mem_append.mp h).elim (ha w) (hb w)
theorem goodIn_ca {big a b : List Cond} {c : Cond} (ha : GoodIn big (c :: a)) (hb : GoodIn big b) : GoodIn big (c :: (a ++ b)) := fun w h => (List.mem_cons.mp h).elim (fun e => ha w (List.mem_cons.mpr (Or.inl e))) (fun h => (List.mem_append.mp h).elim (fun h => ha w (List.mem_cons.mpr (Or.inr h))) (hb w))
theorem goodIn_sub {big ws : List Cond} (hm : ∀ w ∈ ws, w ∈ big) (h : ws.all goodWord = true) : GoodIn big ws := fun w hw => ⟨hm w hw, good_of_word (List.all_eq_true.mp h w hw)⟩
/-! ===== END ===== -/

/-! ===== BEGIN printed: names, fields, word lists, decode rows ===== -/
def RX0 : String := "ReelBarn$FaderReel"
def TX0 : u_T := fun k => match k with
  | _ => ("ReelBarn$FaderReel", "faders", "[F", true)
def tyX0 : Nat → FieldType := fun k => match k with
  | _ => .array .float
abbrev wsX00 : List Cond := u_ws RX0 TX0 1
theorem nmX0 : ∀ a, a < 1 → ∀ b, b < 1 → a ≠ b → (TX0 a).2.1 ≠ (TX0 b).2.1 := by decide +kernel
theorem tyX0_ok : ∀ k, k < 1 → parseFieldDescriptor (TX0 k).2.2.1 = some (tyX0 k) := by decide +kernel
abbrev cX0_init : ByteArray := prog_2_method_1_code
def yX0_init : MethodName := ⟨RX0, "<init>", "(I)V"⟩
abbrev cX0_places : ByteArray := prog_2_method_2_code
def yX0_places : MethodName := ⟨RX0, "places", "()I"⟩
abbrev cX0_told : ByteArray := prog_2_method_3_code
def yX0_told : MethodName := ⟨RX0, "told", "(I)I"⟩
abbrev cX0_put : ByteArray := prog_2_method_4_code
def yX0_put : MethodName := ⟨RX0, "put", "(II)V"⟩
abbrev cX0_change : ByteArray := prog_2_method_5_code
def yX0_change : MethodName := ⟨RX0, "change", "(III)V"⟩
abbrev cX0_stepUp : ByteArray := prog_2_method_6_code
def yX0_stepUp : MethodName := ⟨RX0, "stepUp", "(I)V"⟩
abbrev cX0_level : ByteArray := prog_2_method_7_code
def yX0_level : MethodName := ⟨RX0, "level", "(I)F"⟩
abbrev cX0_putLevel : ByteArray := prog_2_method_8_code
def yX0_putLevel : MethodName := ⟨RX0, "putLevel", "(IF)V"⟩
abbrev cX0_levelOf : ByteArray := prog_2_method_9_code
def yX0_levelOf : MethodName := ⟨RX0, "levelOf", "(I)F"⟩
abbrev cX0_bounded : ByteArray := prog_2_method_10_code
def yX0_bounded : MethodName := ⟨RX0, "bounded", "(F)F"⟩
def RX1 : String := "ReelBarn$LampReel"
def TX1 : u_T := fun k => match k with
  | _ => ("ReelBarn$LampReel", "lamps", "[Z", true)
def tyX1 : Nat → FieldType := fun k => match k with
  | _ => .array .boolean
abbrev wsX10 : List Cond := u_ws RX1 TX1 1
theorem nmX1 : ∀ a, a < 1 → ∀ b, b < 1 → a ≠ b → (TX1 a).2.1 ≠ (TX1 b).2.1 := by decide +kernel
theorem tyX1_ok : ∀ k, k < 1 → parseFieldDescriptor (TX1 k).2.2.1 = some (tyX1 k) := by decide +kernel
abbrev cX1_init : ByteArray := prog_3_method_1_code
def yX1_init : MethodName := ⟨RX1, "<init>", "(I)V"⟩
abbrev cX1_places : ByteArray := prog_3_method_2_code
def yX1_places : MethodName := ⟨RX1, "places", "()I"⟩
abbrev cX1_told : ByteArray := prog_3_method_3_code
def yX1_told : MethodName := ⟨RX1, "told", "(I)I"⟩
abbrev cX1_put : ByteArray := prog_3_method_4_code
def yX1_put : MethodName := ⟨RX1, "put", "(II)V"⟩
def RX2 : String := "ReelBarn$LetterReel"
def TX2 : u_T := fun k => match k with
  | _ => ("ReelBarn$LetterReel", "letters", "[C", true)
def tyX2 : Nat → FieldType := fun k => match k with
  | _ => .array .char
abbrev wsX20 : List Cond := u_ws RX2 TX2 1
theorem nmX2 : ∀ a, a < 1 → ∀ b, b < 1 → a ≠ b → (TX2 a).2.1 ≠ (TX2 b).2.1 := by decide +kernel
theorem tyX2_ok : ∀ k, k < 1 → parseFieldDescriptor (TX2 k).2.2.1 = some (tyX2 k) := by decide +kernel
abbrev cX2_init : ByteArray := prog_4_method_1_code
def yX2_init : MethodName := ⟨RX2, "<init>", "(I)V"⟩
abbrev cX2_places : ByteArray := prog_4_method_2_code
def yX2_places : MethodName := ⟨RX2, "places", "()I"⟩
abbrev cX2_told : ByteArray := prog_4_method_3_code
def yX2_told : MethodName := ⟨RX2, "told", "(I)I"⟩
abbrev cX2_put : ByteArray := prog_4_method_4_code
def yX2_put : MethodName := ⟨RX2, "put", "(II)V"⟩
def RX3 : String := "ReelBarn$Reel"
def TX3 : u_T := fun k => match k with
  | _ => ("", "", "", false)
def tyX3 : Nat → FieldType := fun k => match k with
  | _ => .int
abbrev wsX30 : List Cond := u_ws RX3 TX3 0
theorem nmX3 : ∀ a, a < 0 → ∀ b, b < 0 → a ≠ b → (TX3 a).2.1 ≠ (TX3 b).2.1 := by decide +kernel
theorem tyX3_ok : ∀ k, k < 0 → parseFieldDescriptor (TX3 k).2.2.1 = some (tyX3 k) := by decide +kernel
abbrev cX3_init : ByteArray := prog_5_method_1_code
def yX3_init : MethodName := ⟨RX3, "<init>", "()V"⟩
abbrev cX3_has : ByteArray := prog_5_method_5_code
def yX3_has : MethodName := ⟨RX3, "has", "(I)Z"⟩
abbrev cX3_change : ByteArray := prog_5_method_6_code
def yX3_change : MethodName := ⟨RX3, "change", "(III)V"⟩
abbrev cX3_stepUp : ByteArray := prog_5_method_7_code
def yX3_stepUp : MethodName := ⟨RX3, "stepUp", "(I)V"⟩
abbrev cX3_level : ByteArray := prog_5_method_8_code
def yX3_level : MethodName := ⟨RX3, "level", "(I)F"⟩
abbrev cX3_putLevel : ByteArray := prog_5_method_9_code
def yX3_putLevel : MethodName := ⟨RX3, "putLevel", "(IF)V"⟩
abbrev cX3_reckon : ByteArray := prog_5_method_10_code
def yX3_reckon : MethodName := ⟨RX3, "reckon", "(III)I"⟩
def RX4 : String := "ReelBarn$Wall"
def TX4 : u_T := fun k => match k with
  | _ => ("ReelBarn$Wall", "rows", "[LReelBarn$Reel;", true)
def tyX4 : Nat → FieldType := fun k => match k with
  | _ => .array (.object "ReelBarn$Reel")
abbrev wsX40 : List Cond := u_ws RX4 TX4 1
theorem nmX4 : ∀ a, a < 1 → ∀ b, b < 1 → a ≠ b → (TX4 a).2.1 ≠ (TX4 b).2.1 := by decide +kernel
theorem tyX4_ok : ∀ k, k < 1 → parseFieldDescriptor (TX4 k).2.2.1 = some (tyX4 k) := by decide +kernel
abbrev cX4_init : ByteArray := prog_6_method_1_code
def yX4_init : MethodName := ⟨RX4, "<init>", "(I)V"⟩
def RX5 : String := "ReelBarn$WaveReel"
def TX5 : u_T := fun k => match k with
  | _ => ("ReelBarn$WaveReel", "waves", "[S", true)
def tyX5 : Nat → FieldType := fun k => match k with
  | _ => .array .short
abbrev wsX50 : List Cond := u_ws RX5 TX5 1
theorem nmX5 : ∀ a, a < 1 → ∀ b, b < 1 → a ≠ b → (TX5 a).2.1 ≠ (TX5 b).2.1 := by decide +kernel
theorem tyX5_ok : ∀ k, k < 1 → parseFieldDescriptor (TX5 k).2.2.1 = some (tyX5 k) := by decide +kernel
abbrev cX5_init : ByteArray := prog_7_method_1_code
def yX5_init : MethodName := ⟨RX5, "<init>", "(I)V"⟩
abbrev cX5_places : ByteArray := prog_7_method_2_code
def yX5_places : MethodName := ⟨RX5, "places", "()I"⟩
abbrev cX5_told : ByteArray := prog_7_method_3_code
def yX5_told : MethodName := ⟨RX5, "told", "(I)I"⟩
abbrev cX5_put : ByteArray := prog_7_method_4_code
def yX5_put : MethodName := ⟨RX5, "put", "(II)V"⟩
def RX6 : String := "ReelBarn"
def TX6 : u_T := fun k => match k with
  | 0 => ("ReelBarn", "carried", "[LReelBarn$Reel;", true)
  | 1 => ("ReelBarn", "walls", "[LReelBarn$Wall;", true)
  | 2 => ("ReelBarn", "refusals", "[I", true)
  | _ => ("ReelBarn", "chartRows", "[[I", false)
def tyX6 : Nat → FieldType := fun k => match k with
  | 0 => .array (.object "ReelBarn$Reel")
  | 1 => .array (.object "ReelBarn$Wall")
  | 2 => .array .int
  | _ => .array (.array .int)
abbrev wsX60 : List Cond := u_ws RX6 TX6 4
theorem nmX6 : ∀ a, a < 4 → ∀ b, b < 4 → a ≠ b → (TX6 a).2.1 ≠ (TX6 b).2.1 := by decide +kernel
theorem tyX6_ok : ∀ k, k < 4 → parseFieldDescriptor (TX6 k).2.2.1 = some (tyX6 k) := by decide +kernel
abbrev cX6_init : ByteArray := prog_1_method_1_code
def yX6_init : MethodName := ⟨RX6, "<init>", "()V"⟩
abbrev cX6_mount : ByteArray := prog_1_method_2_code
def yX6_mount : MethodName := ⟨RX6, "mount", "(III)J"⟩
abbrev cX6_eject : ByteArray := prog_1_method_3_code
def yX6_eject : MethodName := ⟨RX6, "eject", "(II)J"⟩
abbrev cX6_share : ByteArray := prog_1_method_4_code
def yX6_share : MethodName := ⟨RX6, "share", "(III)J"⟩
abbrev cX6_size : ByteArray := prog_1_method_5_code
def yX6_size : MethodName := ⟨RX6, "size", "(II)J"⟩
abbrev cX6_read : ByteArray := prog_1_method_6_code
def yX6_read : MethodName := ⟨RX6, "read", "(III)J"⟩
abbrev cX6_write : ByteArray := prog_1_method_7_code
def yX6_write : MethodName := ⟨RX6, "write", "(IIII)J"⟩
abbrev cX6_nudge : ByteArray := prog_1_method_8_code
def yX6_nudge : MethodName := ⟨RX6, "nudge", "(IIIII)J"⟩
abbrev cX6_tick : ByteArray := prog_1_method_9_code
def yX6_tick : MethodName := ⟨RX6, "tick", "(IIIZ)J"⟩
abbrev cX6_blend : ByteArray := prog_1_method_10_code
def yX6_blend : MethodName := ⟨RX6, "blend", "(IIIIIIZ)J"⟩
abbrev cX6_hang : ByteArray := prog_1_method_11_code
def yX6_hang : MethodName := ⟨RX6, "hang", "(III)J"⟩
abbrev cX6_pin : ByteArray := prog_1_method_12_code
def yX6_pin : MethodName := ⟨RX6, "pin", "(III)J"⟩
abbrev cX6_peel : ByteArray := prog_1_method_13_code
def yX6_peel : MethodName := ⟨RX6, "peel", "(III)J"⟩
abbrev cX6_spot : ByteArray := prog_1_method_14_code
def yX6_spot : MethodName := ⟨RX6, "spot", "(III)J"⟩
abbrev cX6_paint : ByteArray := prog_1_method_15_code
def yX6_paint : MethodName := ⟨RX6, "paint", "(IIII)J"⟩
abbrev cX6_span : ByteArray := prog_1_method_16_code
def yX6_span : MethodName := ⟨RX6, "span", "(II)J"⟩
abbrev cX6_chart : ByteArray := prog_1_method_17_code
def yX6_chart : MethodName := ⟨RX6, "chart", "(II)J"⟩
abbrev cX6_note : ByteArray := prog_1_method_18_code
def yX6_note : MethodName := ⟨RX6, "note", "(III)J"⟩
abbrev cX6_tally : ByteArray := prog_1_method_19_code
def yX6_tally : MethodName := ⟨RX6, "tally", "(I)I"⟩
abbrev cX6_refuse : ByteArray := prog_1_method_20_code
def yX6_refuse : MethodName := ⟨RX6, "refuse", "(J)J"⟩
abbrev cX6_isDeck : ByteArray := prog_1_method_21_code
def yX6_isDeck : MethodName := ⟨RX6, "isDeck", "(I)Z"⟩
abbrev cX6_isSort : ByteArray := prog_1_method_22_code
def yX6_isSort : MethodName := ⟨RX6, "isSort", "(I)Z"⟩
abbrev cX6_knowsHow : ByteArray := prog_1_method_23_code
def yX6_knowsHow : MethodName := ⟨RX6, "knowsHow", "(II)Z"⟩
abbrev cX6_goTogether : ByteArray := prog_1_method_24_code
def yX6_goTogether : MethodName := ⟨RX6, "goTogether", "(II)Z"⟩
abbrev cX6_howToBlend : ByteArray := prog_1_method_25_code
def yX6_howToBlend : MethodName := ⟨RX6, "howToBlend", "(IZ)I"⟩
abbrev cX6_blendFloats : ByteArray := prog_1_method_26_code
def yX6_blendFloats : MethodName := ⟨RX6, "blendFloats", "(LReelBarn$Reel;IFZ)V"⟩
abbrev cX6_reelOn : ByteArray := prog_1_method_27_code
def yX6_reelOn : MethodName := ⟨RX6, "reelOn", "(II)LReelBarn$Reel;"⟩
abbrev cX6_carry : ByteArray := prog_1_method_28_code
def yX6_carry : MethodName := ⟨RX6, "carry", "(IILReelBarn$Reel;)V"⟩
abbrev cX6_oneIfThere : ByteArray := prog_1_method_29_code
def yX6_oneIfThere : MethodName := ⟨RX6, "oneIfThere", "(LReelBarn$Reel;)J"⟩
abbrev cX6_reelFault : ByteArray := prog_1_method_30_code
def yX6_reelFault : MethodName := ⟨RX6, "reelFault", "(II)J"⟩
abbrev cX6_placeFault : ByteArray := prog_1_method_31_code
def yX6_placeFault : MethodName := ⟨RX6, "placeFault", "(III)J"⟩
abbrev cX6_wallFault : ByteArray := prog_1_method_32_code
def yX6_wallFault : MethodName := ⟨RX6, "wallFault", "(I)J"⟩
abbrev cX6_rowFault : ByteArray := prog_1_method_33_code
def yX6_rowFault : MethodName := ⟨RX6, "rowFault", "(II)J"⟩
abbrev cX6_wallReelFault : ByteArray := prog_1_method_34_code
def yX6_wallReelFault : MethodName := ⟨RX6, "wallReelFault", "(II)J"⟩
abbrev cX6_wallPlaceFault : ByteArray := prog_1_method_35_code
def yX6_wallPlaceFault : MethodName := ⟨RX6, "wallPlaceFault", "(III)J"⟩
abbrev cX6_gridFault : ByteArray := prog_1_method_36_code
def yX6_gridFault : MethodName := ⟨RX6, "gridFault", "(II)J"⟩
abbrev cX6_newReel : ByteArray := prog_1_method_37_code
def yX6_newReel : MethodName := ⟨RX6, "newReel", "(II)LReelBarn$Reel;"⟩
abbrev cX6_newWall : ByteArray := prog_1_method_38_code
def yX6_newWall : MethodName := ⟨RX6, "newWall", "(III)LReelBarn$Wall;"⟩
def RX7 : String := "ReelBarnModel"
def TX7 : u_T := fun k => match k with
  | 0 => ("ReelBarnModel", "carried", "[I", true)
  | 1 => ("ReelBarnModel", "rowsOf", "[I", true)
  | 2 => ("ReelBarnModel", "wall", "[I", true)
  | 3 => ("ReelBarnModel", "sizes", "[I", true)
  | 4 => ("ReelBarnModel", "whole", "[I", true)
  | 5 => ("ReelBarnModel", "level", "[F", true)
  | 6 => ("ReelBarnModel", "isUsed", "[Z", true)
  | 7 => ("ReelBarnModel", "chartRows", "I", false)
  | 8 => ("ReelBarnModel", "chartColumns", "I", false)
  | 9 => ("ReelBarnModel", "charted", "[I", true)
  | _ => ("ReelBarnModel", "refused", "[I", true)
def tyX7 : Nat → FieldType := fun k => match k with
  | 0 => .array .int
  | 1 => .array .int
  | 2 => .array .int
  | 3 => .array .int
  | 4 => .array .int
  | 5 => .array .float
  | 6 => .array .boolean
  | 7 => .int
  | 8 => .int
  | 9 => .array .int
  | _ => .array .int
abbrev wsX70 : List Cond := u_ws RX7 TX7 11
theorem nmX7 : ∀ a, a < 11 → ∀ b, b < 11 → a ≠ b → (TX7 a).2.1 ≠ (TX7 b).2.1 := by decide +kernel
theorem tyX7_ok : ∀ k, k < 11 → parseFieldDescriptor (TX7 k).2.2.1 = some (tyX7 k) := by decide +kernel
abbrev cX7_init : ByteArray := prog_9_method_1_code
def yX7_init : MethodName := ⟨RX7, "<init>", "()V"⟩
abbrev cX7_refuse : ByteArray := prog_9_method_2_code
def yX7_refuse : MethodName := ⟨RX7, "refuse", "(J)J"⟩
abbrev cX7_isFour : ByteArray := prog_9_method_3_code
def yX7_isFour : MethodName := ⟨RX7, "isFour", "(I)Z"⟩
abbrev cX7_reel : ByteArray := prog_9_method_4_code
def yX7_reel : MethodName := ⟨RX7, "reel", "(I)I"⟩
abbrev cX7_told : ByteArray := prog_9_method_5_code
def yX7_told : MethodName := ⟨RX7, "told", "(III)J"⟩
abbrev cX7_held : ByteArray := prog_9_method_6_code
def yX7_held : MethodName := ⟨RX7, "held", "(F)F"⟩
abbrev cX7_eighth : ByteArray := prog_9_method_7_code
def yX7_eighth : MethodName := ⟨RX7, "eighth", "(I)F"⟩
abbrev cX7_fill : ByteArray := prog_9_method_8_code
def yX7_fill : MethodName := ⟨RX7, "fill", "(IIII)V"⟩
abbrev cX7_mount : ByteArray := prog_9_method_9_code
def yX7_mount : MethodName := ⟨RX7, "mount", "(III)J"⟩
abbrev cX7_eject : ByteArray := prog_9_method_10_code
def yX7_eject : MethodName := ⟨RX7, "eject", "(II)J"⟩
abbrev cX7_share : ByteArray := prog_9_method_11_code
def yX7_share : MethodName := ⟨RX7, "share", "(III)J"⟩
abbrev cX7_size : ByteArray := prog_9_method_12_code
def yX7_size : MethodName := ⟨RX7, "size", "(II)J"⟩
abbrev cX7_against : ByteArray := prog_9_method_13_code
def yX7_against : MethodName := ⟨RX7, "against", "(II)J"⟩
abbrev cX7_read : ByteArray := prog_9_method_14_code
def yX7_read : MethodName := ⟨RX7, "read", "(III)J"⟩
abbrev cX7_write : ByteArray := prog_9_method_15_code
def yX7_write : MethodName := ⟨RX7, "write", "(IIII)J"⟩
abbrev cX7_worked : ByteArray := prog_9_method_16_code
def yX7_worked : MethodName := ⟨RX7, "worked", "(III)I"⟩
abbrev cX7_nudge : ByteArray := prog_9_method_17_code
def yX7_nudge : MethodName := ⟨RX7, "nudge", "(IIIII)J"⟩
abbrev cX7_tick : ByteArray := prog_9_method_18_code
def yX7_tick : MethodName := ⟨RX7, "tick", "(IIIZ)J"⟩
abbrev cX7_blend : ByteArray := prog_9_method_19_code
def yX7_blend : MethodName := ⟨RX7, "blend", "(IIIIIIZ)J"⟩
abbrev cX7_hang : ByteArray := prog_9_method_20_code
def yX7_hang : MethodName := ⟨RX7, "hang", "(III)J"⟩
abbrev cX7_againstRow : ByteArray := prog_9_method_21_code
def yX7_againstRow : MethodName := ⟨RX7, "againstRow", "(II)J"⟩
abbrev cX7_pin : ByteArray := prog_9_method_22_code
def yX7_pin : MethodName := ⟨RX7, "pin", "(III)J"⟩
abbrev cX7_peel : ByteArray := prog_9_method_23_code
def yX7_peel : MethodName := ⟨RX7, "peel", "(III)J"⟩
abbrev cX7_againstPlace : ByteArray := prog_9_method_24_code
def yX7_againstPlace : MethodName := ⟨RX7, "againstPlace", "(III)J"⟩
abbrev cX7_spot : ByteArray := prog_9_method_25_code
def yX7_spot : MethodName := ⟨RX7, "spot", "(III)J"⟩
abbrev cX7_paint : ByteArray := prog_9_method_26_code
def yX7_paint : MethodName := ⟨RX7, "paint", "(IIII)J"⟩
abbrev cX7_span : ByteArray := prog_9_method_27_code
def yX7_span : MethodName := ⟨RX7, "span", "(II)J"⟩
abbrev cX7_chart : ByteArray := prog_9_method_28_code
def yX7_chart : MethodName := ⟨RX7, "chart", "(II)J"⟩
abbrev cX7_note : ByteArray := prog_9_method_29_code
def yX7_note : MethodName := ⟨RX7, "note", "(III)J"⟩
abbrev cX7_tally : ByteArray := prog_9_method_30_code
def yX7_tally : MethodName := ⟨RX7, "tally", "(I)I"⟩
def RL : String := "ReelBarnLaw"
abbrev cL_law : ByteArray := code
def yL_law : MethodName := ⟨RL, "law", "([I)Z"⟩
def wsX3_init : List Cond := .code yX3_init cX3_init 1 none :: ([.methodLink RX3 3 objectInit, .instanceMethod objectInit, .code objectInit ⟨#[0xb1]⟩ 1 none])
def wsX0_init : List Cond := .code yX0_init cX0_init 2 none :: ([.arrayClass .float, .fieldLink RX0 9 "ReelBarn$FaderReel" "faders" "[F", .instanceMethod yX3_init, .initialized RX3, .code yX3_init cX3_init 1 none, .methodLink RX3 3 objectInit, .instanceMethod objectInit, .code objectInit ⟨#[0xb1]⟩ 1 none] ++ wsX00)
def wsX0_places : List Cond := .code yX0_places cX0_places 1 (some .int) :: ([.fieldLink RX0 9 "ReelBarn$FaderReel" "faders" "[F"] ++ wsX00)
def wsX0_told : List Cond := .code yX0_told cX0_told 2 (some .int) :: ([.fieldLink RX0 9 "ReelBarn$FaderReel" "faders" "[F", .constantFloat RX0 15 (1090519040)] ++ wsX00)
def wsX0_levelOf : List Cond := .code yX0_levelOf cX0_levelOf 1 (some .float) :: ([.constantFloat RX0 15 (1090519040)])
def wsX0_bounded : List Cond := .code yX0_bounded cX0_bounded 1 (some .float) :: ([.constantFloat RX0 28 (1232348160), .constantFloat RX0 29 (3379831808)])
def wsX0_putLevel : List Cond := .code yX0_putLevel cX0_putLevel 3 none :: ([.fieldLink RX0 9 "ReelBarn$FaderReel" "faders" "[F", .methodLink RX0 24 yX0_bounded, .static yX0_bounded, .initialized RX0, .code yX0_bounded cX0_bounded 1 (some .float), .constantFloat RX0 28 (1232348160), .constantFloat RX0 29 (3379831808)] ++ wsX00)
def wsX0_put : List Cond := .code yX0_put cX0_put 3 none :: ([.methodLink RX0 16 yX0_levelOf, .static yX0_levelOf, .initialized RX0, .code yX0_levelOf cX0_levelOf 1 (some .float), .constantFloat RX0 15 (1090519040), .methodLink RX0 20 yX0_putLevel, .instanceMethod yX0_putLevel, .selects RX0 yX0_putLevel yX0_putLevel, .code yX0_putLevel cX0_putLevel 3 none, .fieldLink RX0 9 "ReelBarn$FaderReel" "faders" "[F", .methodLink RX0 24 yX0_bounded, .static yX0_bounded, .code yX0_bounded cX0_bounded 1 (some .float), .constantFloat RX0 28 (1232348160), .constantFloat RX0 29 (3379831808)] ++ wsX00)
def wsX0_change : List Cond := .code yX0_change cX0_change 5 none :: ([.fieldLink RX0 9 "ReelBarn$FaderReel" "faders" "[F", .methodLink RX0 16 yX0_levelOf, .static yX0_levelOf, .initialized RX0, .code yX0_levelOf cX0_levelOf 1 (some .float), .constantFloat RX0 15 (1090519040), .methodLink RX0 20 yX0_putLevel, .instanceMethod yX0_putLevel, .selects RX0 yX0_putLevel yX0_putLevel, .code yX0_putLevel cX0_putLevel 3 none, .methodLink RX0 24 yX0_bounded, .static yX0_bounded, .code yX0_bounded cX0_bounded 1 (some .float), .constantFloat RX0 28 (1232348160), .constantFloat RX0 29 (3379831808)] ++ wsX00)
def wsX0_stepUp : List Cond := .code yX0_stepUp cX0_stepUp 2 none :: ([.fieldLink RX0 9 "ReelBarn$FaderReel" "faders" "[F", .methodLink RX0 20 yX0_putLevel, .instanceMethod yX0_putLevel, .selects RX0 yX0_putLevel yX0_putLevel, .initialized RX0, .code yX0_putLevel cX0_putLevel 3 none, .methodLink RX0 24 yX0_bounded, .static yX0_bounded, .code yX0_bounded cX0_bounded 1 (some .float), .constantFloat RX0 28 (1232348160), .constantFloat RX0 29 (3379831808)] ++ wsX00)
def wsX0_level : List Cond := .code yX0_level cX0_level 2 (some .float) :: ([.fieldLink RX0 9 "ReelBarn$FaderReel" "faders" "[F"] ++ wsX00)
def wsX1_init : List Cond := .code yX1_init cX1_init 2 none :: ([.arrayClass .boolean, .fieldLink RX1 7 "ReelBarn$LampReel" "lamps" "[Z", .instanceMethod yX3_init, .initialized RX3, .code yX3_init cX3_init 1 none, .methodLink RX3 3 objectInit, .instanceMethod objectInit, .code objectInit ⟨#[0xb1]⟩ 1 none] ++ wsX10)
def wsX1_places : List Cond := .code yX1_places cX1_places 1 (some .int) :: ([.fieldLink RX1 7 "ReelBarn$LampReel" "lamps" "[Z"] ++ wsX10)
def wsX1_told : List Cond := .code yX1_told cX1_told 2 (some .int) :: ([.fieldLink RX1 7 "ReelBarn$LampReel" "lamps" "[Z"] ++ wsX10)
def wsX1_put : List Cond := .code yX1_put cX1_put 3 none :: ([.fieldLink RX1 7 "ReelBarn$LampReel" "lamps" "[Z"] ++ wsX10)
def wsX2_init : List Cond := .code yX2_init cX2_init 2 none :: ([.arrayClass .char, .fieldLink RX2 7 "ReelBarn$LetterReel" "letters" "[C", .instanceMethod yX3_init, .initialized RX3, .code yX3_init cX3_init 1 none, .methodLink RX3 3 objectInit, .instanceMethod objectInit, .code objectInit ⟨#[0xb1]⟩ 1 none] ++ wsX20)
def wsX2_places : List Cond := .code yX2_places cX2_places 1 (some .int) :: ([.fieldLink RX2 7 "ReelBarn$LetterReel" "letters" "[C"] ++ wsX20)
def wsX2_told : List Cond := .code yX2_told cX2_told 2 (some .int) :: ([.fieldLink RX2 7 "ReelBarn$LetterReel" "letters" "[C"] ++ wsX20)
def wsX2_put : List Cond := .code yX2_put cX2_put 3 none :: ([.fieldLink RX2 7 "ReelBarn$LetterReel" "letters" "[C"] ++ wsX20)
def wsX5_places : List Cond := .code yX5_places cX5_places 1 (some .int) :: ([.fieldLink RX5 7 "ReelBarn$WaveReel" "waves" "[S"] ++ wsX50)
def wsX3_has : List Cond := .code yX3_has cX3_has 2 (some .boolean) :: ([.methodLink RX3 9 ⟨"ReelBarn$Reel", "places", "()I"⟩, .sameMethod "ReelBarn$Reel" "ReelBarn$Reel" "places" "()I", .selects RX0 ⟨"ReelBarn$Reel", "places", "()I"⟩ yX0_places, .instanceMethod yX0_places, .initialized RX0, .code yX0_places cX0_places 1 (some .int), .fieldLink RX0 9 "ReelBarn$FaderReel" "faders" "[F", .selects RX1 ⟨"ReelBarn$Reel", "places", "()I"⟩ yX1_places, .instanceMethod yX1_places, .initialized RX1, .code yX1_places cX1_places 1 (some .int), .fieldLink RX1 7 "ReelBarn$LampReel" "lamps" "[Z", .selects RX2 ⟨"ReelBarn$Reel", "places", "()I"⟩ yX2_places, .instanceMethod yX2_places, .initialized RX2, .code yX2_places cX2_places 1 (some .int), .fieldLink RX2 7 "ReelBarn$LetterReel" "letters" "[C", .selects RX5 ⟨"ReelBarn$Reel", "places", "()I"⟩ yX5_places, .instanceMethod yX5_places, .initialized RX5, .code yX5_places cX5_places 1 (some .int), .fieldLink RX5 7 "ReelBarn$WaveReel" "waves" "[S"] ++ wsX00 ++ wsX10 ++ wsX20 ++ wsX50)
def wsX5_told : List Cond := .code yX5_told cX5_told 2 (some .int) :: ([.fieldLink RX5 7 "ReelBarn$WaveReel" "waves" "[S"] ++ wsX50)
def wsX3_reckon : List Cond := .code yX3_reckon cX3_reckon 3 (some .int) :: ([])
def wsX5_put : List Cond := .code yX5_put cX5_put 3 none :: ([.fieldLink RX5 7 "ReelBarn$WaveReel" "waves" "[S"] ++ wsX50)
def wsX3_change_r1 : List Cond := [Cond.methodLink RX3 15 ⟨"ReelBarn$Reel", "told", "(I)I"⟩, Cond.sameMethod "ReelBarn$Reel" "ReelBarn$Reel" "told" "(I)I", Cond.selects RX0 ⟨"ReelBarn$Reel", "told", "(I)I"⟩ yX0_told, Cond.instanceMethod yX0_told, Cond.initialized RX0, Cond.code yX0_told cX0_told 2 (some .int), Cond.fieldLink RX0 9 "ReelBarn$FaderReel" "faders" "[F", Cond.constantFloat RX0 15 (1090519040), Cond.selects RX1 ⟨"ReelBarn$Reel", "told", "(I)I"⟩ yX1_told, Cond.instanceMethod yX1_told, Cond.initialized RX1, Cond.code yX1_told cX1_told 2 (some .int), Cond.fieldLink RX1 7 "ReelBarn$LampReel" "lamps" "[Z", Cond.selects RX2 ⟨"ReelBarn$Reel", "told", "(I)I"⟩ yX2_told, Cond.instanceMethod yX2_told, Cond.initialized RX2, Cond.code yX2_told cX2_told 2 (some .int), Cond.fieldLink RX2 7 "ReelBarn$LetterReel" "letters" "[C", Cond.selects RX5 ⟨"ReelBarn$Reel", "told", "(I)I"⟩ yX5_told, Cond.instanceMethod yX5_told, Cond.initialized RX5, Cond.code yX5_told cX5_told 2 (some .int), Cond.fieldLink RX5 7 "ReelBarn$WaveReel" "waves" "[S", Cond.methodLink RX3 19 yX3_reckon]
def wsX3_change_r2 : List Cond := [Cond.static yX3_reckon, Cond.initialized RX3, Cond.code yX3_reckon cX3_reckon 3 (some .int), Cond.methodLink RX3 23 ⟨"ReelBarn$Reel", "put", "(II)V"⟩, Cond.sameMethod "ReelBarn$Reel" "ReelBarn$Reel" "put" "(II)V", Cond.selects RX0 ⟨"ReelBarn$Reel", "put", "(II)V"⟩ yX0_put, Cond.instanceMethod yX0_put, Cond.code yX0_put cX0_put 3 none, Cond.methodLink RX0 16 yX0_levelOf, Cond.static yX0_levelOf, Cond.code yX0_levelOf cX0_levelOf 1 (some .float), Cond.methodLink RX0 20 yX0_putLevel, Cond.instanceMethod yX0_putLevel, Cond.selects RX0 yX0_putLevel yX0_putLevel, Cond.code yX0_putLevel cX0_putLevel 3 none, Cond.methodLink RX0 24 yX0_bounded, Cond.static yX0_bounded, Cond.code yX0_bounded cX0_bounded 1 (some .float), Cond.constantFloat RX0 28 (1232348160), Cond.constantFloat RX0 29 (3379831808), Cond.selects RX1 ⟨"ReelBarn$Reel", "put", "(II)V"⟩ yX1_put, Cond.instanceMethod yX1_put, Cond.code yX1_put cX1_put 3 none, Cond.selects RX2 ⟨"ReelBarn$Reel", "put", "(II)V"⟩ yX2_put]
def wsX3_change_r3 : List Cond := [Cond.instanceMethod yX2_put, Cond.code yX2_put cX2_put 3 none, Cond.selects RX5 ⟨"ReelBarn$Reel", "put", "(II)V"⟩ yX5_put, Cond.instanceMethod yX5_put, Cond.code yX5_put cX5_put 3 none]
def wsX3_change : List Cond := .code yX3_change cX3_change 4 none :: ((wsX3_change_r1 ++ (wsX3_change_r2 ++ wsX3_change_r3)) ++ wsX00 ++ wsX10 ++ wsX20 ++ wsX50)
def wsX3_stepUp_r1 : List Cond := [Cond.methodLink RX3 15 ⟨"ReelBarn$Reel", "told", "(I)I"⟩, Cond.sameMethod "ReelBarn$Reel" "ReelBarn$Reel" "told" "(I)I", Cond.selects RX0 ⟨"ReelBarn$Reel", "told", "(I)I"⟩ yX0_told, Cond.instanceMethod yX0_told, Cond.initialized RX0, Cond.code yX0_told cX0_told 2 (some .int), Cond.fieldLink RX0 9 "ReelBarn$FaderReel" "faders" "[F", Cond.constantFloat RX0 15 (1090519040), Cond.selects RX1 ⟨"ReelBarn$Reel", "told", "(I)I"⟩ yX1_told, Cond.instanceMethod yX1_told, Cond.initialized RX1, Cond.code yX1_told cX1_told 2 (some .int), Cond.fieldLink RX1 7 "ReelBarn$LampReel" "lamps" "[Z", Cond.selects RX2 ⟨"ReelBarn$Reel", "told", "(I)I"⟩ yX2_told, Cond.instanceMethod yX2_told, Cond.initialized RX2, Cond.code yX2_told cX2_told 2 (some .int), Cond.fieldLink RX2 7 "ReelBarn$LetterReel" "letters" "[C", Cond.selects RX5 ⟨"ReelBarn$Reel", "told", "(I)I"⟩ yX5_told, Cond.instanceMethod yX5_told, Cond.initialized RX5, Cond.code yX5_told cX5_told 2 (some .int), Cond.fieldLink RX5 7 "ReelBarn$WaveReel" "waves" "[S", Cond.methodLink RX3 23 ⟨"ReelBarn$Reel", "put", "(II)V"⟩]
def wsX3_stepUp_r2 : List Cond := [Cond.sameMethod "ReelBarn$Reel" "ReelBarn$Reel" "put" "(II)V", Cond.selects RX0 ⟨"ReelBarn$Reel", "put", "(II)V"⟩ yX0_put, Cond.instanceMethod yX0_put, Cond.code yX0_put cX0_put 3 none, Cond.methodLink RX0 16 yX0_levelOf, Cond.static yX0_levelOf, Cond.code yX0_levelOf cX0_levelOf 1 (some .float), Cond.methodLink RX0 20 yX0_putLevel, Cond.instanceMethod yX0_putLevel, Cond.selects RX0 yX0_putLevel yX0_putLevel, Cond.code yX0_putLevel cX0_putLevel 3 none, Cond.methodLink RX0 24 yX0_bounded, Cond.static yX0_bounded, Cond.code yX0_bounded cX0_bounded 1 (some .float), Cond.constantFloat RX0 28 (1232348160), Cond.constantFloat RX0 29 (3379831808), Cond.selects RX1 ⟨"ReelBarn$Reel", "put", "(II)V"⟩ yX1_put, Cond.instanceMethod yX1_put, Cond.code yX1_put cX1_put 3 none, Cond.selects RX2 ⟨"ReelBarn$Reel", "put", "(II)V"⟩ yX2_put, Cond.instanceMethod yX2_put, Cond.code yX2_put cX2_put 3 none, Cond.selects RX5 ⟨"ReelBarn$Reel", "put", "(II)V"⟩ yX5_put, Cond.instanceMethod yX5_put]
def wsX3_stepUp_r3 : List Cond := [Cond.code yX5_put cX5_put 3 none]
def wsX3_stepUp : List Cond := .code yX3_stepUp cX3_stepUp 2 none :: ((wsX3_stepUp_r1 ++ (wsX3_stepUp_r2 ++ wsX3_stepUp_r3)) ++ wsX00 ++ wsX10 ++ wsX20 ++ wsX50)
def wsX3_level : List Cond := .code yX3_level cX3_level 2 (some .float) :: ([.methodLink RX3 15 ⟨"ReelBarn$Reel", "told", "(I)I"⟩, .sameMethod "ReelBarn$Reel" "ReelBarn$Reel" "told" "(I)I", .selects RX0 ⟨"ReelBarn$Reel", "told", "(I)I"⟩ yX0_told, .instanceMethod yX0_told, .initialized RX0, .code yX0_told cX0_told 2 (some .int), .fieldLink RX0 9 "ReelBarn$FaderReel" "faders" "[F", .constantFloat RX0 15 (1090519040), .selects RX1 ⟨"ReelBarn$Reel", "told", "(I)I"⟩ yX1_told, .instanceMethod yX1_told, .initialized RX1, .code yX1_told cX1_told 2 (some .int), .fieldLink RX1 7 "ReelBarn$LampReel" "lamps" "[Z", .selects RX2 ⟨"ReelBarn$Reel", "told", "(I)I"⟩ yX2_told, .instanceMethod yX2_told, .initialized RX2, .code yX2_told cX2_told 2 (some .int), .fieldLink RX2 7 "ReelBarn$LetterReel" "letters" "[C", .selects RX5 ⟨"ReelBarn$Reel", "told", "(I)I"⟩ yX5_told, .instanceMethod yX5_told, .initialized RX5, .code yX5_told cX5_told 2 (some .int), .fieldLink RX5 7 "ReelBarn$WaveReel" "waves" "[S"] ++ wsX00 ++ wsX10 ++ wsX20 ++ wsX50)
def wsX3_putLevel_r1 : List Cond := [Cond.methodLink RX3 23 ⟨"ReelBarn$Reel", "put", "(II)V"⟩, Cond.sameMethod "ReelBarn$Reel" "ReelBarn$Reel" "put" "(II)V", Cond.selects RX0 ⟨"ReelBarn$Reel", "put", "(II)V"⟩ yX0_put, Cond.instanceMethod yX0_put, Cond.initialized RX0, Cond.code yX0_put cX0_put 3 none, Cond.methodLink RX0 16 yX0_levelOf, Cond.static yX0_levelOf, Cond.code yX0_levelOf cX0_levelOf 1 (some .float), Cond.constantFloat RX0 15 (1090519040), Cond.methodLink RX0 20 yX0_putLevel, Cond.instanceMethod yX0_putLevel, Cond.selects RX0 yX0_putLevel yX0_putLevel, Cond.code yX0_putLevel cX0_putLevel 3 none, Cond.fieldLink RX0 9 "ReelBarn$FaderReel" "faders" "[F", Cond.methodLink RX0 24 yX0_bounded, Cond.static yX0_bounded, Cond.code yX0_bounded cX0_bounded 1 (some .float), Cond.constantFloat RX0 28 (1232348160), Cond.constantFloat RX0 29 (3379831808), Cond.selects RX1 ⟨"ReelBarn$Reel", "put", "(II)V"⟩ yX1_put, Cond.instanceMethod yX1_put, Cond.initialized RX1, Cond.code yX1_put cX1_put 3 none]
def wsX3_putLevel_r2 : List Cond := [Cond.fieldLink RX1 7 "ReelBarn$LampReel" "lamps" "[Z", Cond.selects RX2 ⟨"ReelBarn$Reel", "put", "(II)V"⟩ yX2_put, Cond.instanceMethod yX2_put, Cond.initialized RX2, Cond.code yX2_put cX2_put 3 none, Cond.fieldLink RX2 7 "ReelBarn$LetterReel" "letters" "[C", Cond.selects RX5 ⟨"ReelBarn$Reel", "put", "(II)V"⟩ yX5_put, Cond.instanceMethod yX5_put, Cond.initialized RX5, Cond.code yX5_put cX5_put 3 none, Cond.fieldLink RX5 7 "ReelBarn$WaveReel" "waves" "[S"]
def wsX3_putLevel : List Cond := .code yX3_putLevel cX3_putLevel 3 none :: ((wsX3_putLevel_r1 ++ wsX3_putLevel_r2) ++ wsX00 ++ wsX10 ++ wsX20 ++ wsX50)
def wsX4_init : List Cond := .code yX4_init cX4_init 2 none :: ([.methodLink RX4 1 objectInit, .instanceMethod objectInit, .code objectInit ⟨#[0xb1]⟩ 1 none, .classLink RX4 7 RX3, .fieldLink RX4 9 "ReelBarn$Wall" "rows" "[LReelBarn$Reel;"] ++ wsX40)
def wsX5_init : List Cond := .code yX5_init cX5_init 2 none :: ([.arrayClass .short, .fieldLink RX5 7 "ReelBarn$WaveReel" "waves" "[S", .instanceMethod yX3_init, .initialized RX3, .code yX3_init cX3_init 1 none, .methodLink RX3 3 objectInit, .instanceMethod objectInit, .code objectInit ⟨#[0xb1]⟩ 1 none] ++ wsX50)
def wsX6_init : List Cond := .code yX6_init cX6_init 1 none :: ([.methodLink RX6 1 objectInit, .instanceMethod objectInit, .code objectInit ⟨#[0xb1]⟩ 1 none, .classLink RX6 9 RX3, .fieldLink RX6 11 "ReelBarn" "carried" "[LReelBarn$Reel;", .classLink RX6 15 RX4, .fieldLink RX6 17 "ReelBarn" "walls" "[LReelBarn$Wall;", .arrayClass .int, .fieldLink RX6 21 "ReelBarn" "refusals" "[I", .fieldLink RX6 25 "ReelBarn" "chartRows" "[[I"] ++ wsX60)
def wsX6_isDeck : List Cond := .code yX6_isDeck cX6_isDeck 1 (some .boolean) :: ([])
def wsX6_isSort : List Cond := .code yX6_isSort cX6_isSort 1 (some .boolean) :: ([])
def wsX6_refuse : List Cond := .code yX6_refuse cX6_refuse 3 (some .long) :: ([.fieldLink RX6 21 "ReelBarn" "refusals" "[I"] ++ wsX60)
def wsX6_newReel_r1 : List Cond := [Cond.classLink RX6 147 RX2, Cond.instantiable RX2 1, Cond.initialized RX2, Cond.classLink RX6 151 RX5, Cond.instantiable RX5 1, Cond.initialized RX5, Cond.classLink RX6 154 RX0, Cond.instantiable RX0 1, Cond.initialized RX0, Cond.classLink RX6 157 RX1, Cond.instantiable RX1 1, Cond.initialized RX1, Cond.methodLink RX6 149 yX2_init, Cond.instanceMethod yX2_init, Cond.code yX2_init cX2_init 2 none, Cond.arrayClass .char, Cond.fieldLink RX2 7 "ReelBarn$LetterReel" "letters" "[C", Cond.instanceMethod yX3_init, Cond.initialized RX3, Cond.code yX3_init cX3_init 1 none, Cond.methodLink RX3 3 objectInit, Cond.instanceMethod objectInit, Cond.code objectInit ⟨#[0xb1]⟩ 1 none, Cond.methodLink RX6 153 yX5_init]
def wsX6_newReel_r2 : List Cond := [Cond.instanceMethod yX5_init, Cond.code yX5_init cX5_init 2 none, Cond.arrayClass .short, Cond.fieldLink RX5 7 "ReelBarn$WaveReel" "waves" "[S", Cond.methodLink RX6 156 yX0_init, Cond.instanceMethod yX0_init, Cond.code yX0_init cX0_init 2 none, Cond.arrayClass .float, Cond.fieldLink RX0 9 "ReelBarn$FaderReel" "faders" "[F", Cond.methodLink RX6 159 yX1_init, Cond.instanceMethod yX1_init, Cond.code yX1_init cX1_init 2 none, Cond.arrayClass .boolean, Cond.fieldLink RX1 7 "ReelBarn$LampReel" "lamps" "[Z"]
def wsX6_newReel : List Cond := .code yX6_newReel cX6_newReel 2 (some (.object "ReelBarn$Reel")) :: ((wsX6_newReel_r1 ++ wsX6_newReel_r2) ++ wsX20 ++ wsX50 ++ wsX00 ++ wsX10)
def wsX6_carry : List Cond := .code yX6_carry cX6_carry 4 none :: ([.fieldLink RX6 11 "ReelBarn" "carried" "[LReelBarn$Reel;"] ++ wsX60)
def wsX6_mount_r1 : List Cond := [Cond.constantLong RX6 36 (1099511627776), Cond.constantLong RX6 42 (5497558138880), Cond.constantLong RX6 44 (4398046511104), Cond.methodLink RX6 29 yX6_isDeck, Cond.static yX6_isDeck, Cond.initialized RX6, Cond.code yX6_isDeck cX6_isDeck 1 (some .boolean), Cond.methodLink RX6 33 yX6_isSort, Cond.static yX6_isSort, Cond.code yX6_isSort cX6_isSort 1 (some .boolean), Cond.methodLink RX6 38 yX6_refuse, Cond.instanceMethod yX6_refuse, Cond.selects RX6 yX6_refuse yX6_refuse, Cond.code yX6_refuse cX6_refuse 3 (some .long), Cond.fieldLink RX6 21 "ReelBarn" "refusals" "[I", Cond.methodLink RX6 46 yX6_newReel, Cond.static yX6_newReel, Cond.code yX6_newReel cX6_newReel 2 (some (.object "ReelBarn$Reel")), Cond.classLink RX6 147 RX2, Cond.instantiable RX2 1, Cond.initialized RX2, Cond.classLink RX6 151 RX5, Cond.instantiable RX5 1, Cond.initialized RX5]
def wsX6_mount_r2 : List Cond := [Cond.classLink RX6 154 RX0, Cond.instantiable RX0 1, Cond.initialized RX0, Cond.classLink RX6 157 RX1, Cond.instantiable RX1 1, Cond.initialized RX1, Cond.methodLink RX6 149 yX2_init, Cond.instanceMethod yX2_init, Cond.code yX2_init cX2_init 2 none, Cond.arrayClass .char, Cond.fieldLink RX2 7 "ReelBarn$LetterReel" "letters" "[C", Cond.instanceMethod yX3_init, Cond.initialized RX3, Cond.code yX3_init cX3_init 1 none, Cond.methodLink RX3 3 objectInit, Cond.instanceMethod objectInit, Cond.code objectInit ⟨#[0xb1]⟩ 1 none, Cond.methodLink RX6 153 yX5_init, Cond.instanceMethod yX5_init, Cond.code yX5_init cX5_init 2 none, Cond.arrayClass .short, Cond.fieldLink RX5 7 "ReelBarn$WaveReel" "waves" "[S", Cond.methodLink RX6 156 yX0_init, Cond.instanceMethod yX0_init]
def wsX6_mount_r3 : List Cond := [Cond.code yX0_init cX0_init 2 none, Cond.arrayClass .float, Cond.fieldLink RX0 9 "ReelBarn$FaderReel" "faders" "[F", Cond.methodLink RX6 159 yX1_init, Cond.instanceMethod yX1_init, Cond.code yX1_init cX1_init 2 none, Cond.arrayClass .boolean, Cond.fieldLink RX1 7 "ReelBarn$LampReel" "lamps" "[Z", Cond.methodLink RX6 50 yX6_carry, Cond.instanceMethod yX6_carry, Cond.selects RX6 yX6_carry yX6_carry, Cond.code yX6_carry cX6_carry 4 none, Cond.fieldLink RX6 11 "ReelBarn" "carried" "[LReelBarn$Reel;"]
def wsX6_mount : List Cond := .code yX6_mount cX6_mount 4 (some .long) :: ((wsX6_mount_r1 ++ (wsX6_mount_r2 ++ wsX6_mount_r3)) ++ wsX60 ++ wsX20 ++ wsX50 ++ wsX00 ++ wsX10)
def wsX6_reelOn : List Cond := .code yX6_reelOn cX6_reelOn 3 (some (.object "ReelBarn$Reel")) :: ([.fieldLink RX6 11 "ReelBarn" "carried" "[LReelBarn$Reel;"] ++ wsX60)
def wsX6_reelFault : List Cond := .code yX6_reelFault cX6_reelFault 3 (some .long) :: ([.constantLong RX6 36 (1099511627776), .constantLong RX6 134 (2199023255552), .methodLink RX6 29 yX6_isDeck, .static yX6_isDeck, .initialized RX6, .code yX6_isDeck cX6_isDeck 1 (some .boolean), .methodLink RX6 33 yX6_isSort, .static yX6_isSort, .code yX6_isSort cX6_isSort 1 (some .boolean), .methodLink RX6 58 yX6_reelOn, .instanceMethod yX6_reelOn, .selects RX6 yX6_reelOn yX6_reelOn, .code yX6_reelOn cX6_reelOn 3 (some (.object "ReelBarn$Reel")), .fieldLink RX6 11 "ReelBarn" "carried" "[LReelBarn$Reel;"] ++ wsX60)
def wsX6_eject_r1 : List Cond := [Cond.methodLink RX6 54 yX6_reelFault, Cond.instanceMethod yX6_reelFault, Cond.selects RX6 yX6_reelFault yX6_reelFault, Cond.initialized RX6, Cond.code yX6_reelFault cX6_reelFault 3 (some .long), Cond.constantLong RX6 36 (1099511627776), Cond.constantLong RX6 134 (2199023255552), Cond.methodLink RX6 29 yX6_isDeck, Cond.static yX6_isDeck, Cond.code yX6_isDeck cX6_isDeck 1 (some .boolean), Cond.methodLink RX6 33 yX6_isSort, Cond.static yX6_isSort, Cond.code yX6_isSort cX6_isSort 1 (some .boolean), Cond.methodLink RX6 58 yX6_reelOn, Cond.instanceMethod yX6_reelOn, Cond.selects RX6 yX6_reelOn yX6_reelOn, Cond.code yX6_reelOn cX6_reelOn 3 (some (.object "ReelBarn$Reel")), Cond.fieldLink RX6 11 "ReelBarn" "carried" "[LReelBarn$Reel;", Cond.methodLink RX6 38 yX6_refuse, Cond.instanceMethod yX6_refuse, Cond.selects RX6 yX6_refuse yX6_refuse, Cond.code yX6_refuse cX6_refuse 3 (some .long), Cond.fieldLink RX6 21 "ReelBarn" "refusals" "[I", Cond.methodLink RX6 61 ⟨"ReelBarn$Reel", "places", "()I"⟩]
def wsX6_eject_r2 : List Cond := [Cond.sameMethod "ReelBarn$Reel" "ReelBarn$Reel" "places" "()I", Cond.selects RX0 ⟨"ReelBarn$Reel", "places", "()I"⟩ yX0_places, Cond.instanceMethod yX0_places, Cond.initialized RX0, Cond.code yX0_places cX0_places 1 (some .int), Cond.fieldLink RX0 9 "ReelBarn$FaderReel" "faders" "[F", Cond.selects RX1 ⟨"ReelBarn$Reel", "places", "()I"⟩ yX1_places, Cond.instanceMethod yX1_places, Cond.initialized RX1, Cond.code yX1_places cX1_places 1 (some .int), Cond.fieldLink RX1 7 "ReelBarn$LampReel" "lamps" "[Z", Cond.selects RX2 ⟨"ReelBarn$Reel", "places", "()I"⟩ yX2_places, Cond.instanceMethod yX2_places, Cond.initialized RX2, Cond.code yX2_places cX2_places 1 (some .int), Cond.fieldLink RX2 7 "ReelBarn$LetterReel" "letters" "[C", Cond.selects RX5 ⟨"ReelBarn$Reel", "places", "()I"⟩ yX5_places, Cond.instanceMethod yX5_places, Cond.initialized RX5, Cond.code yX5_places cX5_places 1 (some .int), Cond.fieldLink RX5 7 "ReelBarn$WaveReel" "waves" "[S", Cond.methodLink RX6 50 yX6_carry, Cond.instanceMethod yX6_carry, Cond.selects RX6 yX6_carry yX6_carry]
def wsX6_eject_r3 : List Cond := [Cond.code yX6_carry cX6_carry 4 none]
def wsX6_eject : List Cond := .code yX6_eject cX6_eject 6 (some .long) :: ((wsX6_eject_r1 ++ (wsX6_eject_r2 ++ wsX6_eject_r3)) ++ wsX60 ++ wsX00 ++ wsX10 ++ wsX20 ++ wsX50)
def wsX6_oneIfThere : List Cond := .code yX6_oneIfThere cX6_oneIfThere 1 (some .long) :: ([])
def wsX6_share_r1 : List Cond := [Cond.constantLong RX6 36 (1099511627776), Cond.methodLink RX6 29 yX6_isDeck, Cond.static yX6_isDeck, Cond.initialized RX6, Cond.code yX6_isDeck cX6_isDeck 1 (some .boolean), Cond.methodLink RX6 33 yX6_isSort, Cond.static yX6_isSort, Cond.code yX6_isSort cX6_isSort 1 (some .boolean), Cond.methodLink RX6 38 yX6_refuse, Cond.instanceMethod yX6_refuse, Cond.selects RX6 yX6_refuse yX6_refuse, Cond.code yX6_refuse cX6_refuse 3 (some .long), Cond.fieldLink RX6 21 "ReelBarn" "refusals" "[I", Cond.methodLink RX6 58 yX6_reelOn, Cond.instanceMethod yX6_reelOn, Cond.selects RX6 yX6_reelOn yX6_reelOn, Cond.code yX6_reelOn cX6_reelOn 3 (some (.object "ReelBarn$Reel")), Cond.fieldLink RX6 11 "ReelBarn" "carried" "[LReelBarn$Reel;", Cond.methodLink RX6 50 yX6_carry, Cond.instanceMethod yX6_carry, Cond.selects RX6 yX6_carry yX6_carry, Cond.code yX6_carry cX6_carry 4 none, Cond.methodLink RX6 65 yX6_oneIfThere, Cond.static yX6_oneIfThere]
def wsX6_share_r2 : List Cond := [Cond.code yX6_oneIfThere cX6_oneIfThere 1 (some .long)]
def wsX6_share : List Cond := .code yX6_share cX6_share 5 (some .long) :: ((wsX6_share_r1 ++ wsX6_share_r2) ++ wsX60)
def wsX6_size_r1 : List Cond := [Cond.methodLink RX6 54 yX6_reelFault, Cond.instanceMethod yX6_reelFault, Cond.selects RX6 yX6_reelFault yX6_reelFault, Cond.initialized RX6, Cond.code yX6_reelFault cX6_reelFault 3 (some .long), Cond.constantLong RX6 36 (1099511627776), Cond.constantLong RX6 134 (2199023255552), Cond.methodLink RX6 29 yX6_isDeck, Cond.static yX6_isDeck, Cond.code yX6_isDeck cX6_isDeck 1 (some .boolean), Cond.methodLink RX6 33 yX6_isSort, Cond.static yX6_isSort, Cond.code yX6_isSort cX6_isSort 1 (some .boolean), Cond.methodLink RX6 58 yX6_reelOn, Cond.instanceMethod yX6_reelOn, Cond.selects RX6 yX6_reelOn yX6_reelOn, Cond.code yX6_reelOn cX6_reelOn 3 (some (.object "ReelBarn$Reel")), Cond.fieldLink RX6 11 "ReelBarn" "carried" "[LReelBarn$Reel;", Cond.methodLink RX6 38 yX6_refuse, Cond.instanceMethod yX6_refuse, Cond.selects RX6 yX6_refuse yX6_refuse, Cond.code yX6_refuse cX6_refuse 3 (some .long), Cond.fieldLink RX6 21 "ReelBarn" "refusals" "[I", Cond.methodLink RX6 61 ⟨"ReelBarn$Reel", "places", "()I"⟩]
def wsX6_size_r2 : List Cond := [Cond.sameMethod "ReelBarn$Reel" "ReelBarn$Reel" "places" "()I", Cond.selects RX0 ⟨"ReelBarn$Reel", "places", "()I"⟩ yX0_places, Cond.instanceMethod yX0_places, Cond.initialized RX0, Cond.code yX0_places cX0_places 1 (some .int), Cond.fieldLink RX0 9 "ReelBarn$FaderReel" "faders" "[F", Cond.selects RX1 ⟨"ReelBarn$Reel", "places", "()I"⟩ yX1_places, Cond.instanceMethod yX1_places, Cond.initialized RX1, Cond.code yX1_places cX1_places 1 (some .int), Cond.fieldLink RX1 7 "ReelBarn$LampReel" "lamps" "[Z", Cond.selects RX2 ⟨"ReelBarn$Reel", "places", "()I"⟩ yX2_places, Cond.instanceMethod yX2_places, Cond.initialized RX2, Cond.code yX2_places cX2_places 1 (some .int), Cond.fieldLink RX2 7 "ReelBarn$LetterReel" "letters" "[C", Cond.selects RX5 ⟨"ReelBarn$Reel", "places", "()I"⟩ yX5_places, Cond.instanceMethod yX5_places, Cond.initialized RX5, Cond.code yX5_places cX5_places 1 (some .int), Cond.fieldLink RX5 7 "ReelBarn$WaveReel" "waves" "[S"]
def wsX6_size : List Cond := .code yX6_size cX6_size 5 (some .long) :: ((wsX6_size_r1 ++ wsX6_size_r2) ++ wsX60 ++ wsX00 ++ wsX10 ++ wsX20 ++ wsX50)
def wsX6_placeFault_r1 : List Cond := [Cond.constantLong RX6 136 (3298534883328), Cond.methodLink RX6 54 yX6_reelFault, Cond.instanceMethod yX6_reelFault, Cond.selects RX6 yX6_reelFault yX6_reelFault, Cond.initialized RX6, Cond.code yX6_reelFault cX6_reelFault 3 (some .long), Cond.constantLong RX6 36 (1099511627776), Cond.constantLong RX6 134 (2199023255552), Cond.methodLink RX6 29 yX6_isDeck, Cond.static yX6_isDeck, Cond.code yX6_isDeck cX6_isDeck 1 (some .boolean), Cond.methodLink RX6 33 yX6_isSort, Cond.static yX6_isSort, Cond.code yX6_isSort cX6_isSort 1 (some .boolean), Cond.methodLink RX6 58 yX6_reelOn, Cond.instanceMethod yX6_reelOn, Cond.selects RX6 yX6_reelOn yX6_reelOn, Cond.code yX6_reelOn cX6_reelOn 3 (some (.object "ReelBarn$Reel")), Cond.fieldLink RX6 11 "ReelBarn" "carried" "[LReelBarn$Reel;", Cond.methodLink RX6 142 ⟨"ReelBarn$Reel", "has", "(I)Z"⟩, Cond.sameMethod "ReelBarn$Reel" "ReelBarn$Reel" "has" "(I)Z", Cond.selects RX0 ⟨"ReelBarn$Reel", "has", "(I)Z"⟩ yX3_has, Cond.instanceMethod yX3_has, Cond.initialized RX3]
def wsX6_placeFault_r2 : List Cond := [Cond.code yX3_has cX3_has 2 (some .boolean), Cond.methodLink RX3 9 ⟨"ReelBarn$Reel", "places", "()I"⟩, Cond.sameMethod "ReelBarn$Reel" "ReelBarn$Reel" "places" "()I", Cond.selects RX0 ⟨"ReelBarn$Reel", "places", "()I"⟩ yX0_places, Cond.instanceMethod yX0_places, Cond.initialized RX0, Cond.code yX0_places cX0_places 1 (some .int), Cond.fieldLink RX0 9 "ReelBarn$FaderReel" "faders" "[F", Cond.selects RX1 ⟨"ReelBarn$Reel", "places", "()I"⟩ yX1_places, Cond.instanceMethod yX1_places, Cond.initialized RX1, Cond.code yX1_places cX1_places 1 (some .int), Cond.fieldLink RX1 7 "ReelBarn$LampReel" "lamps" "[Z", Cond.selects RX2 ⟨"ReelBarn$Reel", "places", "()I"⟩ yX2_places, Cond.instanceMethod yX2_places, Cond.initialized RX2, Cond.code yX2_places cX2_places 1 (some .int), Cond.fieldLink RX2 7 "ReelBarn$LetterReel" "letters" "[C", Cond.selects RX5 ⟨"ReelBarn$Reel", "places", "()I"⟩ yX5_places, Cond.instanceMethod yX5_places, Cond.initialized RX5, Cond.code yX5_places cX5_places 1 (some .int), Cond.fieldLink RX5 7 "ReelBarn$WaveReel" "waves" "[S", Cond.selects RX1 ⟨"ReelBarn$Reel", "has", "(I)Z"⟩ yX3_has]
def wsX6_placeFault_r3 : List Cond := [Cond.selects RX2 ⟨"ReelBarn$Reel", "has", "(I)Z"⟩ yX3_has, Cond.selects RX5 ⟨"ReelBarn$Reel", "has", "(I)Z"⟩ yX3_has]
def wsX6_placeFault : List Cond := .code yX6_placeFault cX6_placeFault 6 (some .long) :: ((wsX6_placeFault_r1 ++ (wsX6_placeFault_r2 ++ wsX6_placeFault_r3)) ++ wsX60 ++ wsX00 ++ wsX10 ++ wsX20 ++ wsX50)
def wsX6_read_r1 : List Cond := [Cond.methodLink RX6 69 yX6_placeFault, Cond.instanceMethod yX6_placeFault, Cond.selects RX6 yX6_placeFault yX6_placeFault, Cond.initialized RX6, Cond.code yX6_placeFault cX6_placeFault 6 (some .long), Cond.constantLong RX6 136 (3298534883328), Cond.methodLink RX6 54 yX6_reelFault, Cond.instanceMethod yX6_reelFault, Cond.selects RX6 yX6_reelFault yX6_reelFault, Cond.code yX6_reelFault cX6_reelFault 3 (some .long), Cond.constantLong RX6 36 (1099511627776), Cond.constantLong RX6 134 (2199023255552), Cond.methodLink RX6 29 yX6_isDeck, Cond.static yX6_isDeck, Cond.code yX6_isDeck cX6_isDeck 1 (some .boolean), Cond.methodLink RX6 33 yX6_isSort, Cond.static yX6_isSort, Cond.code yX6_isSort cX6_isSort 1 (some .boolean), Cond.methodLink RX6 58 yX6_reelOn, Cond.instanceMethod yX6_reelOn, Cond.selects RX6 yX6_reelOn yX6_reelOn, Cond.code yX6_reelOn cX6_reelOn 3 (some (.object "ReelBarn$Reel")), Cond.fieldLink RX6 11 "ReelBarn" "carried" "[LReelBarn$Reel;", Cond.methodLink RX6 142 ⟨"ReelBarn$Reel", "has", "(I)Z"⟩]
def wsX6_read_r2 : List Cond := [Cond.sameMethod "ReelBarn$Reel" "ReelBarn$Reel" "has" "(I)Z", Cond.selects RX0 ⟨"ReelBarn$Reel", "has", "(I)Z"⟩ yX3_has, Cond.instanceMethod yX3_has, Cond.initialized RX3, Cond.code yX3_has cX3_has 2 (some .boolean), Cond.methodLink RX3 9 ⟨"ReelBarn$Reel", "places", "()I"⟩, Cond.sameMethod "ReelBarn$Reel" "ReelBarn$Reel" "places" "()I", Cond.selects RX0 ⟨"ReelBarn$Reel", "places", "()I"⟩ yX0_places, Cond.instanceMethod yX0_places, Cond.initialized RX0, Cond.code yX0_places cX0_places 1 (some .int), Cond.fieldLink RX0 9 "ReelBarn$FaderReel" "faders" "[F", Cond.selects RX1 ⟨"ReelBarn$Reel", "places", "()I"⟩ yX1_places, Cond.instanceMethod yX1_places, Cond.initialized RX1, Cond.code yX1_places cX1_places 1 (some .int), Cond.fieldLink RX1 7 "ReelBarn$LampReel" "lamps" "[Z", Cond.selects RX2 ⟨"ReelBarn$Reel", "places", "()I"⟩ yX2_places, Cond.instanceMethod yX2_places, Cond.initialized RX2, Cond.code yX2_places cX2_places 1 (some .int), Cond.fieldLink RX2 7 "ReelBarn$LetterReel" "letters" "[C", Cond.selects RX5 ⟨"ReelBarn$Reel", "places", "()I"⟩ yX5_places, Cond.instanceMethod yX5_places]
def wsX6_read_r3 : List Cond := [Cond.initialized RX5, Cond.code yX5_places cX5_places 1 (some .int), Cond.fieldLink RX5 7 "ReelBarn$WaveReel" "waves" "[S", Cond.selects RX1 ⟨"ReelBarn$Reel", "has", "(I)Z"⟩ yX3_has, Cond.selects RX2 ⟨"ReelBarn$Reel", "has", "(I)Z"⟩ yX3_has, Cond.selects RX5 ⟨"ReelBarn$Reel", "has", "(I)Z"⟩ yX3_has, Cond.methodLink RX6 38 yX6_refuse, Cond.instanceMethod yX6_refuse, Cond.selects RX6 yX6_refuse yX6_refuse, Cond.code yX6_refuse cX6_refuse 3 (some .long), Cond.fieldLink RX6 21 "ReelBarn" "refusals" "[I", Cond.methodLink RX6 73 ⟨"ReelBarn$Reel", "told", "(I)I"⟩, Cond.sameMethod "ReelBarn$Reel" "ReelBarn$Reel" "told" "(I)I", Cond.selects RX0 ⟨"ReelBarn$Reel", "told", "(I)I"⟩ yX0_told, Cond.instanceMethod yX0_told, Cond.code yX0_told cX0_told 2 (some .int), Cond.constantFloat RX0 15 (1090519040), Cond.selects RX1 ⟨"ReelBarn$Reel", "told", "(I)I"⟩ yX1_told, Cond.instanceMethod yX1_told, Cond.code yX1_told cX1_told 2 (some .int), Cond.selects RX2 ⟨"ReelBarn$Reel", "told", "(I)I"⟩ yX2_told, Cond.instanceMethod yX2_told, Cond.code yX2_told cX2_told 2 (some .int), Cond.selects RX5 ⟨"ReelBarn$Reel", "told", "(I)I"⟩ yX5_told]
def wsX6_read_r4 : List Cond := [Cond.instanceMethod yX5_told, Cond.code yX5_told cX5_told 2 (some .int)]
def wsX6_read : List Cond := .code yX6_read cX6_read 6 (some .long) :: ((wsX6_read_r1 ++ (wsX6_read_r2 ++ (wsX6_read_r3 ++ wsX6_read_r4))) ++ wsX60 ++ wsX00 ++ wsX10 ++ wsX20 ++ wsX50)
def wsX6_write_r1 : List Cond := [Cond.methodLink RX6 69 yX6_placeFault, Cond.instanceMethod yX6_placeFault, Cond.selects RX6 yX6_placeFault yX6_placeFault, Cond.initialized RX6, Cond.code yX6_placeFault cX6_placeFault 6 (some .long), Cond.constantLong RX6 136 (3298534883328), Cond.methodLink RX6 54 yX6_reelFault, Cond.instanceMethod yX6_reelFault, Cond.selects RX6 yX6_reelFault yX6_reelFault, Cond.code yX6_reelFault cX6_reelFault 3 (some .long), Cond.constantLong RX6 36 (1099511627776), Cond.constantLong RX6 134 (2199023255552), Cond.methodLink RX6 29 yX6_isDeck, Cond.static yX6_isDeck, Cond.code yX6_isDeck cX6_isDeck 1 (some .boolean), Cond.methodLink RX6 33 yX6_isSort, Cond.static yX6_isSort, Cond.code yX6_isSort cX6_isSort 1 (some .boolean), Cond.methodLink RX6 58 yX6_reelOn, Cond.instanceMethod yX6_reelOn, Cond.selects RX6 yX6_reelOn yX6_reelOn, Cond.code yX6_reelOn cX6_reelOn 3 (some (.object "ReelBarn$Reel")), Cond.fieldLink RX6 11 "ReelBarn" "carried" "[LReelBarn$Reel;", Cond.methodLink RX6 142 ⟨"ReelBarn$Reel", "has", "(I)Z"⟩]
def wsX6_write_r2 : List Cond := [Cond.sameMethod "ReelBarn$Reel" "ReelBarn$Reel" "has" "(I)Z", Cond.selects RX0 ⟨"ReelBarn$Reel", "has", "(I)Z"⟩ yX3_has, Cond.instanceMethod yX3_has, Cond.initialized RX3, Cond.code yX3_has cX3_has 2 (some .boolean), Cond.methodLink RX3 9 ⟨"ReelBarn$Reel", "places", "()I"⟩, Cond.sameMethod "ReelBarn$Reel" "ReelBarn$Reel" "places" "()I", Cond.selects RX0 ⟨"ReelBarn$Reel", "places", "()I"⟩ yX0_places, Cond.instanceMethod yX0_places, Cond.initialized RX0, Cond.code yX0_places cX0_places 1 (some .int), Cond.fieldLink RX0 9 "ReelBarn$FaderReel" "faders" "[F", Cond.selects RX1 ⟨"ReelBarn$Reel", "places", "()I"⟩ yX1_places, Cond.instanceMethod yX1_places, Cond.initialized RX1, Cond.code yX1_places cX1_places 1 (some .int), Cond.fieldLink RX1 7 "ReelBarn$LampReel" "lamps" "[Z", Cond.selects RX2 ⟨"ReelBarn$Reel", "places", "()I"⟩ yX2_places, Cond.instanceMethod yX2_places, Cond.initialized RX2, Cond.code yX2_places cX2_places 1 (some .int), Cond.fieldLink RX2 7 "ReelBarn$LetterReel" "letters" "[C", Cond.selects RX5 ⟨"ReelBarn$Reel", "places", "()I"⟩ yX5_places, Cond.instanceMethod yX5_places]
def wsX6_write_r3 : List Cond := [Cond.initialized RX5, Cond.code yX5_places cX5_places 1 (some .int), Cond.fieldLink RX5 7 "ReelBarn$WaveReel" "waves" "[S", Cond.selects RX1 ⟨"ReelBarn$Reel", "has", "(I)Z"⟩ yX3_has, Cond.selects RX2 ⟨"ReelBarn$Reel", "has", "(I)Z"⟩ yX3_has, Cond.selects RX5 ⟨"ReelBarn$Reel", "has", "(I)Z"⟩ yX3_has, Cond.methodLink RX6 38 yX6_refuse, Cond.instanceMethod yX6_refuse, Cond.selects RX6 yX6_refuse yX6_refuse, Cond.code yX6_refuse cX6_refuse 3 (some .long), Cond.fieldLink RX6 21 "ReelBarn" "refusals" "[I", Cond.methodLink RX6 77 ⟨"ReelBarn$Reel", "put", "(II)V"⟩, Cond.sameMethod "ReelBarn$Reel" "ReelBarn$Reel" "put" "(II)V", Cond.selects RX0 ⟨"ReelBarn$Reel", "put", "(II)V"⟩ yX0_put, Cond.instanceMethod yX0_put, Cond.code yX0_put cX0_put 3 none, Cond.methodLink RX0 16 yX0_levelOf, Cond.static yX0_levelOf, Cond.code yX0_levelOf cX0_levelOf 1 (some .float), Cond.constantFloat RX0 15 (1090519040), Cond.methodLink RX0 20 yX0_putLevel, Cond.instanceMethod yX0_putLevel, Cond.selects RX0 yX0_putLevel yX0_putLevel, Cond.code yX0_putLevel cX0_putLevel 3 none]
def wsX6_write_r4 : List Cond := [Cond.methodLink RX0 24 yX0_bounded, Cond.static yX0_bounded, Cond.code yX0_bounded cX0_bounded 1 (some .float), Cond.constantFloat RX0 28 (1232348160), Cond.constantFloat RX0 29 (3379831808), Cond.selects RX1 ⟨"ReelBarn$Reel", "put", "(II)V"⟩ yX1_put, Cond.instanceMethod yX1_put, Cond.code yX1_put cX1_put 3 none, Cond.selects RX2 ⟨"ReelBarn$Reel", "put", "(II)V"⟩ yX2_put, Cond.instanceMethod yX2_put, Cond.code yX2_put cX2_put 3 none, Cond.selects RX5 ⟨"ReelBarn$Reel", "put", "(II)V"⟩ yX5_put, Cond.instanceMethod yX5_put, Cond.code yX5_put cX5_put 3 none, Cond.methodLink RX6 73 ⟨"ReelBarn$Reel", "told", "(I)I"⟩, Cond.sameMethod "ReelBarn$Reel" "ReelBarn$Reel" "told" "(I)I", Cond.selects RX0 ⟨"ReelBarn$Reel", "told", "(I)I"⟩ yX0_told, Cond.instanceMethod yX0_told, Cond.code yX0_told cX0_told 2 (some .int), Cond.selects RX1 ⟨"ReelBarn$Reel", "told", "(I)I"⟩ yX1_told, Cond.instanceMethod yX1_told, Cond.code yX1_told cX1_told 2 (some .int), Cond.selects RX2 ⟨"ReelBarn$Reel", "told", "(I)I"⟩ yX2_told, Cond.instanceMethod yX2_told]
def wsX6_write_r5 : List Cond := [Cond.code yX2_told cX2_told 2 (some .int), Cond.selects RX5 ⟨"ReelBarn$Reel", "told", "(I)I"⟩ yX5_told, Cond.instanceMethod yX5_told, Cond.code yX5_told cX5_told 2 (some .int)]
def wsX6_write : List Cond := .code yX6_write cX6_write 8 (some .long) :: ((wsX6_write_r1 ++ (wsX6_write_r2 ++ (wsX6_write_r3 ++ (wsX6_write_r4 ++ wsX6_write_r5)))) ++ wsX60 ++ wsX00 ++ wsX10 ++ wsX20 ++ wsX50)
def wsX6_knowsHow : List Cond := .code yX6_knowsHow cX6_knowsHow 2 (some .boolean) :: ([])
def wsX6_nudge_r1 : List Cond := [Cond.constantLong RX6 36 (1099511627776), Cond.constantLong RX6 85 (6597069766656), Cond.methodLink RX6 81 yX6_knowsHow, Cond.static yX6_knowsHow, Cond.initialized RX6, Cond.code yX6_knowsHow cX6_knowsHow 2 (some .boolean), Cond.methodLink RX6 38 yX6_refuse, Cond.instanceMethod yX6_refuse, Cond.selects RX6 yX6_refuse yX6_refuse, Cond.code yX6_refuse cX6_refuse 3 (some .long), Cond.fieldLink RX6 21 "ReelBarn" "refusals" "[I", Cond.methodLink RX6 69 yX6_placeFault, Cond.instanceMethod yX6_placeFault, Cond.selects RX6 yX6_placeFault yX6_placeFault, Cond.code yX6_placeFault cX6_placeFault 6 (some .long), Cond.constantLong RX6 136 (3298534883328), Cond.methodLink RX6 54 yX6_reelFault, Cond.instanceMethod yX6_reelFault, Cond.selects RX6 yX6_reelFault yX6_reelFault, Cond.code yX6_reelFault cX6_reelFault 3 (some .long), Cond.constantLong RX6 134 (2199023255552), Cond.methodLink RX6 29 yX6_isDeck, Cond.static yX6_isDeck, Cond.code yX6_isDeck cX6_isDeck 1 (some .boolean)]
def wsX6_nudge_r2 : List Cond := [Cond.methodLink RX6 33 yX6_isSort, Cond.static yX6_isSort, Cond.code yX6_isSort cX6_isSort 1 (some .boolean), Cond.methodLink RX6 58 yX6_reelOn, Cond.instanceMethod yX6_reelOn, Cond.selects RX6 yX6_reelOn yX6_reelOn, Cond.code yX6_reelOn cX6_reelOn 3 (some (.object "ReelBarn$Reel")), Cond.fieldLink RX6 11 "ReelBarn" "carried" "[LReelBarn$Reel;", Cond.methodLink RX6 142 ⟨"ReelBarn$Reel", "has", "(I)Z"⟩, Cond.sameMethod "ReelBarn$Reel" "ReelBarn$Reel" "has" "(I)Z", Cond.selects RX0 ⟨"ReelBarn$Reel", "has", "(I)Z"⟩ yX3_has, Cond.instanceMethod yX3_has, Cond.initialized RX3, Cond.code yX3_has cX3_has 2 (some .boolean), Cond.methodLink RX3 9 ⟨"ReelBarn$Reel", "places", "()I"⟩, Cond.sameMethod "ReelBarn$Reel" "ReelBarn$Reel" "places" "()I", Cond.selects RX0 ⟨"ReelBarn$Reel", "places", "()I"⟩ yX0_places, Cond.instanceMethod yX0_places, Cond.initialized RX0, Cond.code yX0_places cX0_places 1 (some .int), Cond.fieldLink RX0 9 "ReelBarn$FaderReel" "faders" "[F", Cond.selects RX1 ⟨"ReelBarn$Reel", "places", "()I"⟩ yX1_places, Cond.instanceMethod yX1_places, Cond.initialized RX1]
def wsX6_nudge_r3 : List Cond := [Cond.code yX1_places cX1_places 1 (some .int), Cond.fieldLink RX1 7 "ReelBarn$LampReel" "lamps" "[Z", Cond.selects RX2 ⟨"ReelBarn$Reel", "places", "()I"⟩ yX2_places, Cond.instanceMethod yX2_places, Cond.initialized RX2, Cond.code yX2_places cX2_places 1 (some .int), Cond.fieldLink RX2 7 "ReelBarn$LetterReel" "letters" "[C", Cond.selects RX5 ⟨"ReelBarn$Reel", "places", "()I"⟩ yX5_places, Cond.instanceMethod yX5_places, Cond.initialized RX5, Cond.code yX5_places cX5_places 1 (some .int), Cond.fieldLink RX5 7 "ReelBarn$WaveReel" "waves" "[S", Cond.selects RX1 ⟨"ReelBarn$Reel", "has", "(I)Z"⟩ yX3_has, Cond.selects RX2 ⟨"ReelBarn$Reel", "has", "(I)Z"⟩ yX3_has, Cond.selects RX5 ⟨"ReelBarn$Reel", "has", "(I)Z"⟩ yX3_has, Cond.methodLink RX6 87 ⟨"ReelBarn$Reel", "change", "(III)V"⟩, Cond.sameMethod "ReelBarn$Reel" "ReelBarn$Reel" "change" "(III)V", Cond.instanceMethod ⟨"ReelBarn$Reel", "change", "(III)V"⟩, Cond.selects RX0 ⟨"ReelBarn$Reel", "change", "(III)V"⟩ yX0_change, Cond.instanceMethod yX0_change, Cond.code yX0_change cX0_change 5 none, Cond.methodLink RX0 16 yX0_levelOf, Cond.static yX0_levelOf, Cond.code yX0_levelOf cX0_levelOf 1 (some .float)]
def wsX6_nudge_r4 : List Cond := [Cond.constantFloat RX0 15 (1090519040), Cond.methodLink RX0 20 yX0_putLevel, Cond.instanceMethod yX0_putLevel, Cond.selects RX0 yX0_putLevel yX0_putLevel, Cond.code yX0_putLevel cX0_putLevel 3 none, Cond.methodLink RX0 24 yX0_bounded, Cond.static yX0_bounded, Cond.code yX0_bounded cX0_bounded 1 (some .float), Cond.constantFloat RX0 28 (1232348160), Cond.constantFloat RX0 29 (3379831808), Cond.code yX3_change cX3_change 4 none, Cond.selects RX1 ⟨"ReelBarn$Reel", "change", "(III)V"⟩ yX3_change, Cond.instanceMethod yX3_change, Cond.methodLink RX3 15 ⟨"ReelBarn$Reel", "told", "(I)I"⟩, Cond.sameMethod "ReelBarn$Reel" "ReelBarn$Reel" "told" "(I)I", Cond.selects RX0 ⟨"ReelBarn$Reel", "told", "(I)I"⟩ yX0_told, Cond.instanceMethod yX0_told, Cond.code yX0_told cX0_told 2 (some .int), Cond.selects RX1 ⟨"ReelBarn$Reel", "told", "(I)I"⟩ yX1_told, Cond.instanceMethod yX1_told, Cond.code yX1_told cX1_told 2 (some .int), Cond.selects RX2 ⟨"ReelBarn$Reel", "told", "(I)I"⟩ yX2_told, Cond.instanceMethod yX2_told, Cond.code yX2_told cX2_told 2 (some .int)]
def wsX6_nudge_r5 : List Cond := [Cond.selects RX5 ⟨"ReelBarn$Reel", "told", "(I)I"⟩ yX5_told, Cond.instanceMethod yX5_told, Cond.code yX5_told cX5_told 2 (some .int), Cond.methodLink RX3 19 yX3_reckon, Cond.static yX3_reckon, Cond.code yX3_reckon cX3_reckon 3 (some .int), Cond.methodLink RX3 23 ⟨"ReelBarn$Reel", "put", "(II)V"⟩, Cond.sameMethod "ReelBarn$Reel" "ReelBarn$Reel" "put" "(II)V", Cond.selects RX0 ⟨"ReelBarn$Reel", "put", "(II)V"⟩ yX0_put, Cond.instanceMethod yX0_put, Cond.code yX0_put cX0_put 3 none, Cond.selects RX1 ⟨"ReelBarn$Reel", "put", "(II)V"⟩ yX1_put, Cond.instanceMethod yX1_put, Cond.code yX1_put cX1_put 3 none, Cond.selects RX2 ⟨"ReelBarn$Reel", "put", "(II)V"⟩ yX2_put, Cond.instanceMethod yX2_put, Cond.code yX2_put cX2_put 3 none, Cond.selects RX5 ⟨"ReelBarn$Reel", "put", "(II)V"⟩ yX5_put, Cond.instanceMethod yX5_put, Cond.code yX5_put cX5_put 3 none, Cond.selects RX2 ⟨"ReelBarn$Reel", "change", "(III)V"⟩ yX3_change, Cond.selects RX5 ⟨"ReelBarn$Reel", "change", "(III)V"⟩ yX3_change, Cond.methodLink RX6 73 ⟨"ReelBarn$Reel", "told", "(I)I"⟩]
def wsX6_nudge : List Cond := .code yX6_nudge cX6_nudge 9 (some .long) :: ((wsX6_nudge_r1 ++ (wsX6_nudge_r2 ++ (wsX6_nudge_r3 ++ (wsX6_nudge_r4 ++ wsX6_nudge_r5)))) ++ wsX60 ++ wsX00 ++ wsX10 ++ wsX20 ++ wsX50)
def wsX6_tick_r1 : List Cond := [Cond.constantLong RX6 36 (1099511627776), Cond.methodLink RX6 38 yX6_refuse, Cond.instanceMethod yX6_refuse, Cond.selects RX6 yX6_refuse yX6_refuse, Cond.initialized RX6, Cond.code yX6_refuse cX6_refuse 3 (some .long), Cond.fieldLink RX6 21 "ReelBarn" "refusals" "[I", Cond.methodLink RX6 69 yX6_placeFault, Cond.instanceMethod yX6_placeFault, Cond.selects RX6 yX6_placeFault yX6_placeFault, Cond.code yX6_placeFault cX6_placeFault 6 (some .long), Cond.constantLong RX6 136 (3298534883328), Cond.methodLink RX6 54 yX6_reelFault, Cond.instanceMethod yX6_reelFault, Cond.selects RX6 yX6_reelFault yX6_reelFault, Cond.code yX6_reelFault cX6_reelFault 3 (some .long), Cond.constantLong RX6 134 (2199023255552), Cond.methodLink RX6 29 yX6_isDeck, Cond.static yX6_isDeck, Cond.code yX6_isDeck cX6_isDeck 1 (some .boolean), Cond.methodLink RX6 33 yX6_isSort, Cond.static yX6_isSort, Cond.code yX6_isSort cX6_isSort 1 (some .boolean), Cond.methodLink RX6 58 yX6_reelOn]
def wsX6_tick_r2 : List Cond := [Cond.instanceMethod yX6_reelOn, Cond.selects RX6 yX6_reelOn yX6_reelOn, Cond.code yX6_reelOn cX6_reelOn 3 (some (.object "ReelBarn$Reel")), Cond.fieldLink RX6 11 "ReelBarn" "carried" "[LReelBarn$Reel;", Cond.methodLink RX6 142 ⟨"ReelBarn$Reel", "has", "(I)Z"⟩, Cond.sameMethod "ReelBarn$Reel" "ReelBarn$Reel" "has" "(I)Z", Cond.selects RX0 ⟨"ReelBarn$Reel", "has", "(I)Z"⟩ yX3_has, Cond.instanceMethod yX3_has, Cond.initialized RX3, Cond.code yX3_has cX3_has 2 (some .boolean), Cond.methodLink RX3 9 ⟨"ReelBarn$Reel", "places", "()I"⟩, Cond.sameMethod "ReelBarn$Reel" "ReelBarn$Reel" "places" "()I", Cond.selects RX0 ⟨"ReelBarn$Reel", "places", "()I"⟩ yX0_places, Cond.instanceMethod yX0_places, Cond.initialized RX0, Cond.code yX0_places cX0_places 1 (some .int), Cond.fieldLink RX0 9 "ReelBarn$FaderReel" "faders" "[F", Cond.selects RX1 ⟨"ReelBarn$Reel", "places", "()I"⟩ yX1_places, Cond.instanceMethod yX1_places, Cond.initialized RX1, Cond.code yX1_places cX1_places 1 (some .int), Cond.fieldLink RX1 7 "ReelBarn$LampReel" "lamps" "[Z", Cond.selects RX2 ⟨"ReelBarn$Reel", "places", "()I"⟩ yX2_places, Cond.instanceMethod yX2_places]
def wsX6_tick_r3 : List Cond := [Cond.initialized RX2, Cond.code yX2_places cX2_places 1 (some .int), Cond.fieldLink RX2 7 "ReelBarn$LetterReel" "letters" "[C", Cond.selects RX5 ⟨"ReelBarn$Reel", "places", "()I"⟩ yX5_places, Cond.instanceMethod yX5_places, Cond.initialized RX5, Cond.code yX5_places cX5_places 1 (some .int), Cond.fieldLink RX5 7 "ReelBarn$WaveReel" "waves" "[S", Cond.selects RX1 ⟨"ReelBarn$Reel", "has", "(I)Z"⟩ yX3_has, Cond.selects RX2 ⟨"ReelBarn$Reel", "has", "(I)Z"⟩ yX3_has, Cond.selects RX5 ⟨"ReelBarn$Reel", "has", "(I)Z"⟩ yX3_has, Cond.methodLink RX6 73 ⟨"ReelBarn$Reel", "told", "(I)I"⟩, Cond.sameMethod "ReelBarn$Reel" "ReelBarn$Reel" "told" "(I)I", Cond.selects RX0 ⟨"ReelBarn$Reel", "told", "(I)I"⟩ yX0_told, Cond.instanceMethod yX0_told, Cond.code yX0_told cX0_told 2 (some .int), Cond.constantFloat RX0 15 (1090519040), Cond.selects RX1 ⟨"ReelBarn$Reel", "told", "(I)I"⟩ yX1_told, Cond.instanceMethod yX1_told, Cond.code yX1_told cX1_told 2 (some .int), Cond.selects RX2 ⟨"ReelBarn$Reel", "told", "(I)I"⟩ yX2_told, Cond.instanceMethod yX2_told, Cond.code yX2_told cX2_told 2 (some .int), Cond.selects RX5 ⟨"ReelBarn$Reel", "told", "(I)I"⟩ yX5_told]
def wsX6_tick_r4 : List Cond := [Cond.instanceMethod yX5_told, Cond.code yX5_told cX5_told 2 (some .int), Cond.methodLink RX6 91 ⟨"ReelBarn$Reel", "stepUp", "(I)V"⟩, Cond.sameMethod "ReelBarn$Reel" "ReelBarn$Reel" "stepUp" "(I)V", Cond.instanceMethod ⟨"ReelBarn$Reel", "stepUp", "(I)V"⟩, Cond.selects RX0 ⟨"ReelBarn$Reel", "stepUp", "(I)V"⟩ yX0_stepUp, Cond.instanceMethod yX0_stepUp, Cond.code yX0_stepUp cX0_stepUp 2 none, Cond.methodLink RX0 20 yX0_putLevel, Cond.instanceMethod yX0_putLevel, Cond.selects RX0 yX0_putLevel yX0_putLevel, Cond.code yX0_putLevel cX0_putLevel 3 none, Cond.methodLink RX0 24 yX0_bounded, Cond.static yX0_bounded, Cond.code yX0_bounded cX0_bounded 1 (some .float), Cond.constantFloat RX0 28 (1232348160), Cond.constantFloat RX0 29 (3379831808), Cond.code yX3_stepUp cX3_stepUp 2 none, Cond.selects RX1 ⟨"ReelBarn$Reel", "stepUp", "(I)V"⟩ yX3_stepUp, Cond.instanceMethod yX3_stepUp, Cond.methodLink RX3 15 ⟨"ReelBarn$Reel", "told", "(I)I"⟩, Cond.methodLink RX3 23 ⟨"ReelBarn$Reel", "put", "(II)V"⟩, Cond.sameMethod "ReelBarn$Reel" "ReelBarn$Reel" "put" "(II)V", Cond.selects RX0 ⟨"ReelBarn$Reel", "put", "(II)V"⟩ yX0_put]
def wsX6_tick_r5 : List Cond := [Cond.instanceMethod yX0_put, Cond.code yX0_put cX0_put 3 none, Cond.methodLink RX0 16 yX0_levelOf, Cond.static yX0_levelOf, Cond.code yX0_levelOf cX0_levelOf 1 (some .float), Cond.selects RX1 ⟨"ReelBarn$Reel", "put", "(II)V"⟩ yX1_put, Cond.instanceMethod yX1_put, Cond.code yX1_put cX1_put 3 none, Cond.selects RX2 ⟨"ReelBarn$Reel", "put", "(II)V"⟩ yX2_put, Cond.instanceMethod yX2_put, Cond.code yX2_put cX2_put 3 none, Cond.selects RX5 ⟨"ReelBarn$Reel", "put", "(II)V"⟩ yX5_put, Cond.instanceMethod yX5_put, Cond.code yX5_put cX5_put 3 none, Cond.selects RX2 ⟨"ReelBarn$Reel", "stepUp", "(I)V"⟩ yX3_stepUp, Cond.selects RX5 ⟨"ReelBarn$Reel", "stepUp", "(I)V"⟩ yX3_stepUp]
def wsX6_tick : List Cond := .code yX6_tick cX6_tick 9 (some .long) :: ((wsX6_tick_r1 ++ (wsX6_tick_r2 ++ (wsX6_tick_r3 ++ (wsX6_tick_r4 ++ wsX6_tick_r5)))) ++ wsX60 ++ wsX00 ++ wsX10 ++ wsX20 ++ wsX50)
def wsX6_goTogether : List Cond := .code yX6_goTogether cX6_goTogether 2 (some .boolean) :: ([])
def wsX6_blendFloats_r1 : List Cond := [Cond.methodLink RX6 98 ⟨"ReelBarn$Reel", "level", "(I)F"⟩, Cond.sameMethod "ReelBarn$Reel" "ReelBarn$Reel" "level" "(I)F", Cond.instanceMethod ⟨"ReelBarn$Reel", "level", "(I)F"⟩, Cond.selects RX0 ⟨"ReelBarn$Reel", "level", "(I)F"⟩ yX0_level, Cond.instanceMethod yX0_level, Cond.initialized RX0, Cond.code yX0_level cX0_level 2 (some .float), Cond.fieldLink RX0 9 "ReelBarn$FaderReel" "faders" "[F", Cond.code yX3_level cX3_level 2 (some .float), Cond.selects RX1 ⟨"ReelBarn$Reel", "level", "(I)F"⟩ yX3_level, Cond.instanceMethod yX3_level, Cond.initialized RX3, Cond.methodLink RX3 15 ⟨"ReelBarn$Reel", "told", "(I)I"⟩, Cond.sameMethod "ReelBarn$Reel" "ReelBarn$Reel" "told" "(I)I", Cond.selects RX0 ⟨"ReelBarn$Reel", "told", "(I)I"⟩ yX0_told, Cond.instanceMethod yX0_told, Cond.code yX0_told cX0_told 2 (some .int), Cond.constantFloat RX0 15 (1090519040), Cond.selects RX1 ⟨"ReelBarn$Reel", "told", "(I)I"⟩ yX1_told, Cond.instanceMethod yX1_told, Cond.initialized RX1, Cond.code yX1_told cX1_told 2 (some .int), Cond.fieldLink RX1 7 "ReelBarn$LampReel" "lamps" "[Z", Cond.selects RX2 ⟨"ReelBarn$Reel", "told", "(I)I"⟩ yX2_told]
def wsX6_blendFloats_r2 : List Cond := [Cond.instanceMethod yX2_told, Cond.initialized RX2, Cond.code yX2_told cX2_told 2 (some .int), Cond.fieldLink RX2 7 "ReelBarn$LetterReel" "letters" "[C", Cond.selects RX5 ⟨"ReelBarn$Reel", "told", "(I)I"⟩ yX5_told, Cond.instanceMethod yX5_told, Cond.initialized RX5, Cond.code yX5_told cX5_told 2 (some .int), Cond.fieldLink RX5 7 "ReelBarn$WaveReel" "waves" "[S", Cond.selects RX2 ⟨"ReelBarn$Reel", "level", "(I)F"⟩ yX3_level, Cond.selects RX5 ⟨"ReelBarn$Reel", "level", "(I)F"⟩ yX3_level, Cond.methodLink RX6 138 ⟨"ReelBarn$Reel", "putLevel", "(IF)V"⟩, Cond.sameMethod "ReelBarn$Reel" "ReelBarn$Reel" "putLevel" "(IF)V", Cond.instanceMethod ⟨"ReelBarn$Reel", "putLevel", "(IF)V"⟩, Cond.selects RX0 ⟨"ReelBarn$Reel", "putLevel", "(IF)V"⟩ yX0_putLevel, Cond.instanceMethod yX0_putLevel, Cond.code yX0_putLevel cX0_putLevel 3 none, Cond.methodLink RX0 24 yX0_bounded, Cond.static yX0_bounded, Cond.code yX0_bounded cX0_bounded 1 (some .float), Cond.constantFloat RX0 28 (1232348160), Cond.constantFloat RX0 29 (3379831808), Cond.code yX3_putLevel cX3_putLevel 3 none, Cond.selects RX1 ⟨"ReelBarn$Reel", "putLevel", "(IF)V"⟩ yX3_putLevel]
def wsX6_blendFloats_r3 : List Cond := [Cond.instanceMethod yX3_putLevel, Cond.methodLink RX3 23 ⟨"ReelBarn$Reel", "put", "(II)V"⟩, Cond.sameMethod "ReelBarn$Reel" "ReelBarn$Reel" "put" "(II)V", Cond.selects RX0 ⟨"ReelBarn$Reel", "put", "(II)V"⟩ yX0_put, Cond.instanceMethod yX0_put, Cond.code yX0_put cX0_put 3 none, Cond.methodLink RX0 16 yX0_levelOf, Cond.static yX0_levelOf, Cond.code yX0_levelOf cX0_levelOf 1 (some .float), Cond.methodLink RX0 20 yX0_putLevel, Cond.selects RX0 yX0_putLevel yX0_putLevel, Cond.selects RX1 ⟨"ReelBarn$Reel", "put", "(II)V"⟩ yX1_put, Cond.instanceMethod yX1_put, Cond.code yX1_put cX1_put 3 none, Cond.selects RX2 ⟨"ReelBarn$Reel", "put", "(II)V"⟩ yX2_put, Cond.instanceMethod yX2_put, Cond.code yX2_put cX2_put 3 none, Cond.selects RX5 ⟨"ReelBarn$Reel", "put", "(II)V"⟩ yX5_put, Cond.instanceMethod yX5_put, Cond.code yX5_put cX5_put 3 none, Cond.selects RX2 ⟨"ReelBarn$Reel", "putLevel", "(IF)V"⟩ yX3_putLevel, Cond.selects RX5 ⟨"ReelBarn$Reel", "putLevel", "(IF)V"⟩ yX3_putLevel]
def wsX6_blendFloats : List Cond := .code yX6_blendFloats cX6_blendFloats 5 none :: ((wsX6_blendFloats_r1 ++ (wsX6_blendFloats_r2 ++ wsX6_blendFloats_r3)) ++ wsX00 ++ wsX10 ++ wsX20 ++ wsX50)
def wsX6_howToBlend : List Cond := .code yX6_howToBlend cX6_howToBlend 2 (some .int) :: ([])
def wsX6_blend_r1 : List Cond := [Cond.constantLong RX6 36 (1099511627776), Cond.methodLink RX6 29 yX6_isDeck, Cond.static yX6_isDeck, Cond.initialized RX6, Cond.code yX6_isDeck cX6_isDeck 1 (some .boolean), Cond.methodLink RX6 33 yX6_isSort, Cond.static yX6_isSort, Cond.code yX6_isSort cX6_isSort 1 (some .boolean), Cond.methodLink RX6 95 yX6_goTogether, Cond.static yX6_goTogether, Cond.code yX6_goTogether cX6_goTogether 2 (some .boolean), Cond.methodLink RX6 38 yX6_refuse, Cond.instanceMethod yX6_refuse, Cond.selects RX6 yX6_refuse yX6_refuse, Cond.code yX6_refuse cX6_refuse 3 (some .long), Cond.fieldLink RX6 21 "ReelBarn" "refusals" "[I", Cond.methodLink RX6 69 yX6_placeFault, Cond.instanceMethod yX6_placeFault, Cond.selects RX6 yX6_placeFault yX6_placeFault, Cond.code yX6_placeFault cX6_placeFault 6 (some .long), Cond.constantLong RX6 136 (3298534883328), Cond.methodLink RX6 54 yX6_reelFault, Cond.instanceMethod yX6_reelFault, Cond.selects RX6 yX6_reelFault yX6_reelFault]
def wsX6_blend_r2 : List Cond := [Cond.code yX6_reelFault cX6_reelFault 3 (some .long), Cond.constantLong RX6 134 (2199023255552), Cond.methodLink RX6 58 yX6_reelOn, Cond.instanceMethod yX6_reelOn, Cond.selects RX6 yX6_reelOn yX6_reelOn, Cond.code yX6_reelOn cX6_reelOn 3 (some (.object "ReelBarn$Reel")), Cond.fieldLink RX6 11 "ReelBarn" "carried" "[LReelBarn$Reel;", Cond.methodLink RX6 142 ⟨"ReelBarn$Reel", "has", "(I)Z"⟩, Cond.sameMethod "ReelBarn$Reel" "ReelBarn$Reel" "has" "(I)Z", Cond.selects RX0 ⟨"ReelBarn$Reel", "has", "(I)Z"⟩ yX3_has, Cond.instanceMethod yX3_has, Cond.initialized RX3, Cond.code yX3_has cX3_has 2 (some .boolean), Cond.methodLink RX3 9 ⟨"ReelBarn$Reel", "places", "()I"⟩, Cond.sameMethod "ReelBarn$Reel" "ReelBarn$Reel" "places" "()I", Cond.selects RX0 ⟨"ReelBarn$Reel", "places", "()I"⟩ yX0_places, Cond.instanceMethod yX0_places, Cond.initialized RX0, Cond.code yX0_places cX0_places 1 (some .int), Cond.fieldLink RX0 9 "ReelBarn$FaderReel" "faders" "[F", Cond.selects RX1 ⟨"ReelBarn$Reel", "places", "()I"⟩ yX1_places, Cond.instanceMethod yX1_places, Cond.initialized RX1, Cond.code yX1_places cX1_places 1 (some .int)]
def wsX6_blend_r3 : List Cond := [Cond.fieldLink RX1 7 "ReelBarn$LampReel" "lamps" "[Z", Cond.selects RX2 ⟨"ReelBarn$Reel", "places", "()I"⟩ yX2_places, Cond.instanceMethod yX2_places, Cond.initialized RX2, Cond.code yX2_places cX2_places 1 (some .int), Cond.fieldLink RX2 7 "ReelBarn$LetterReel" "letters" "[C", Cond.selects RX5 ⟨"ReelBarn$Reel", "places", "()I"⟩ yX5_places, Cond.instanceMethod yX5_places, Cond.initialized RX5, Cond.code yX5_places cX5_places 1 (some .int), Cond.fieldLink RX5 7 "ReelBarn$WaveReel" "waves" "[S", Cond.selects RX1 ⟨"ReelBarn$Reel", "has", "(I)Z"⟩ yX3_has, Cond.selects RX2 ⟨"ReelBarn$Reel", "has", "(I)Z"⟩ yX3_has, Cond.selects RX5 ⟨"ReelBarn$Reel", "has", "(I)Z"⟩ yX3_has, Cond.methodLink RX6 98 ⟨"ReelBarn$Reel", "level", "(I)F"⟩, Cond.sameMethod "ReelBarn$Reel" "ReelBarn$Reel" "level" "(I)F", Cond.instanceMethod ⟨"ReelBarn$Reel", "level", "(I)F"⟩, Cond.selects RX0 ⟨"ReelBarn$Reel", "level", "(I)F"⟩ yX0_level, Cond.instanceMethod yX0_level, Cond.code yX0_level cX0_level 2 (some .float), Cond.code yX3_level cX3_level 2 (some .float), Cond.selects RX1 ⟨"ReelBarn$Reel", "level", "(I)F"⟩ yX3_level, Cond.instanceMethod yX3_level, Cond.methodLink RX3 15 ⟨"ReelBarn$Reel", "told", "(I)I"⟩]
def wsX6_blend_r4 : List Cond := [Cond.sameMethod "ReelBarn$Reel" "ReelBarn$Reel" "told" "(I)I", Cond.selects RX0 ⟨"ReelBarn$Reel", "told", "(I)I"⟩ yX0_told, Cond.instanceMethod yX0_told, Cond.code yX0_told cX0_told 2 (some .int), Cond.constantFloat RX0 15 (1090519040), Cond.selects RX1 ⟨"ReelBarn$Reel", "told", "(I)I"⟩ yX1_told, Cond.instanceMethod yX1_told, Cond.code yX1_told cX1_told 2 (some .int), Cond.selects RX2 ⟨"ReelBarn$Reel", "told", "(I)I"⟩ yX2_told, Cond.instanceMethod yX2_told, Cond.code yX2_told cX2_told 2 (some .int), Cond.selects RX5 ⟨"ReelBarn$Reel", "told", "(I)I"⟩ yX5_told, Cond.instanceMethod yX5_told, Cond.code yX5_told cX5_told 2 (some .int), Cond.selects RX2 ⟨"ReelBarn$Reel", "level", "(I)F"⟩ yX3_level, Cond.selects RX5 ⟨"ReelBarn$Reel", "level", "(I)F"⟩ yX3_level, Cond.methodLink RX6 102 yX6_blendFloats, Cond.static yX6_blendFloats, Cond.code yX6_blendFloats cX6_blendFloats 5 none, Cond.methodLink RX6 138 ⟨"ReelBarn$Reel", "putLevel", "(IF)V"⟩, Cond.sameMethod "ReelBarn$Reel" "ReelBarn$Reel" "putLevel" "(IF)V", Cond.instanceMethod ⟨"ReelBarn$Reel", "putLevel", "(IF)V"⟩, Cond.selects RX0 ⟨"ReelBarn$Reel", "putLevel", "(IF)V"⟩ yX0_putLevel, Cond.instanceMethod yX0_putLevel]
def wsX6_blend_r5 : List Cond := [Cond.code yX0_putLevel cX0_putLevel 3 none, Cond.methodLink RX0 24 yX0_bounded, Cond.static yX0_bounded, Cond.code yX0_bounded cX0_bounded 1 (some .float), Cond.constantFloat RX0 28 (1232348160), Cond.constantFloat RX0 29 (3379831808), Cond.code yX3_putLevel cX3_putLevel 3 none, Cond.selects RX1 ⟨"ReelBarn$Reel", "putLevel", "(IF)V"⟩ yX3_putLevel, Cond.instanceMethod yX3_putLevel, Cond.methodLink RX3 23 ⟨"ReelBarn$Reel", "put", "(II)V"⟩, Cond.sameMethod "ReelBarn$Reel" "ReelBarn$Reel" "put" "(II)V", Cond.selects RX0 ⟨"ReelBarn$Reel", "put", "(II)V"⟩ yX0_put, Cond.instanceMethod yX0_put, Cond.code yX0_put cX0_put 3 none, Cond.methodLink RX0 16 yX0_levelOf, Cond.static yX0_levelOf, Cond.code yX0_levelOf cX0_levelOf 1 (some .float), Cond.methodLink RX0 20 yX0_putLevel, Cond.selects RX0 yX0_putLevel yX0_putLevel, Cond.selects RX1 ⟨"ReelBarn$Reel", "put", "(II)V"⟩ yX1_put, Cond.instanceMethod yX1_put, Cond.code yX1_put cX1_put 3 none, Cond.selects RX2 ⟨"ReelBarn$Reel", "put", "(II)V"⟩ yX2_put, Cond.instanceMethod yX2_put]
def wsX6_blend_r6 : List Cond := [Cond.code yX2_put cX2_put 3 none, Cond.selects RX5 ⟨"ReelBarn$Reel", "put", "(II)V"⟩ yX5_put, Cond.instanceMethod yX5_put, Cond.code yX5_put cX5_put 3 none, Cond.selects RX2 ⟨"ReelBarn$Reel", "putLevel", "(IF)V"⟩ yX3_putLevel, Cond.selects RX5 ⟨"ReelBarn$Reel", "putLevel", "(IF)V"⟩ yX3_putLevel, Cond.methodLink RX6 106 yX6_howToBlend, Cond.static yX6_howToBlend, Cond.code yX6_howToBlend cX6_howToBlend 2 (some .int), Cond.methodLink RX6 73 ⟨"ReelBarn$Reel", "told", "(I)I"⟩, Cond.methodLink RX6 87 ⟨"ReelBarn$Reel", "change", "(III)V"⟩, Cond.sameMethod "ReelBarn$Reel" "ReelBarn$Reel" "change" "(III)V", Cond.instanceMethod ⟨"ReelBarn$Reel", "change", "(III)V"⟩, Cond.selects RX0 ⟨"ReelBarn$Reel", "change", "(III)V"⟩ yX0_change, Cond.instanceMethod yX0_change, Cond.code yX0_change cX0_change 5 none, Cond.code yX3_change cX3_change 4 none, Cond.selects RX1 ⟨"ReelBarn$Reel", "change", "(III)V"⟩ yX3_change, Cond.instanceMethod yX3_change, Cond.methodLink RX3 19 yX3_reckon, Cond.static yX3_reckon, Cond.code yX3_reckon cX3_reckon 3 (some .int), Cond.selects RX2 ⟨"ReelBarn$Reel", "change", "(III)V"⟩ yX3_change, Cond.selects RX5 ⟨"ReelBarn$Reel", "change", "(III)V"⟩ yX3_change]
def wsX6_blend : List Cond := .code yX6_blend cX6_blend 12 (some .long) :: ((wsX6_blend_r1 ++ (wsX6_blend_r2 ++ (wsX6_blend_r3 ++ (wsX6_blend_r4 ++ (wsX6_blend_r5 ++ wsX6_blend_r6))))) ++ wsX60 ++ wsX00 ++ wsX10 ++ wsX20 ++ wsX50)
def wsX6_gridFault : List Cond := .code yX6_gridFault cX6_gridFault 2 (some .long) :: ([.constantLong RX6 42 (5497558138880), .constantLong RX6 44 (4398046511104)])
def wsX6_newWall_r1 : List Cond := [Cond.classLink RX6 15 RX4, Cond.instantiable RX4 1, Cond.initialized RX4, Cond.fieldLink RX6 120 "ReelBarn$Wall" "rows" "[LReelBarn$Reel;", Cond.methodLink RX6 160 yX4_init, Cond.instanceMethod yX4_init, Cond.code yX4_init cX4_init 2 none, Cond.methodLink RX4 1 objectInit, Cond.instanceMethod objectInit, Cond.code objectInit ⟨#[0xb1]⟩ 1 none, Cond.classLink RX4 7 RX3, Cond.fieldLink RX4 9 "ReelBarn$Wall" "rows" "[LReelBarn$Reel;", Cond.methodLink RX6 46 yX6_newReel, Cond.static yX6_newReel, Cond.initialized RX6, Cond.code yX6_newReel cX6_newReel 2 (some (.object "ReelBarn$Reel")), Cond.classLink RX6 147 RX2, Cond.instantiable RX2 1, Cond.initialized RX2, Cond.classLink RX6 151 RX5, Cond.instantiable RX5 1, Cond.initialized RX5, Cond.classLink RX6 154 RX0, Cond.instantiable RX0 1]
def wsX6_newWall_r2 : List Cond := [Cond.initialized RX0, Cond.classLink RX6 157 RX1, Cond.instantiable RX1 1, Cond.initialized RX1, Cond.methodLink RX6 149 yX2_init, Cond.instanceMethod yX2_init, Cond.code yX2_init cX2_init 2 none, Cond.arrayClass .char, Cond.fieldLink RX2 7 "ReelBarn$LetterReel" "letters" "[C", Cond.instanceMethod yX3_init, Cond.initialized RX3, Cond.code yX3_init cX3_init 1 none, Cond.methodLink RX3 3 objectInit, Cond.methodLink RX6 153 yX5_init, Cond.instanceMethod yX5_init, Cond.code yX5_init cX5_init 2 none, Cond.arrayClass .short, Cond.fieldLink RX5 7 "ReelBarn$WaveReel" "waves" "[S", Cond.methodLink RX6 156 yX0_init, Cond.instanceMethod yX0_init, Cond.code yX0_init cX0_init 2 none, Cond.arrayClass .float, Cond.fieldLink RX0 9 "ReelBarn$FaderReel" "faders" "[F", Cond.methodLink RX6 159 yX1_init]
def wsX6_newWall_r3 : List Cond := [Cond.instanceMethod yX1_init, Cond.code yX1_init cX1_init 2 none, Cond.arrayClass .boolean, Cond.fieldLink RX1 7 "ReelBarn$LampReel" "lamps" "[Z"]
def wsX6_newWall : List Cond := .code yX6_newWall cX6_newWall 5 (some (.object "ReelBarn$Wall")) :: ((wsX6_newWall_r1 ++ (wsX6_newWall_r2 ++ wsX6_newWall_r3)) ++ wsX40 ++ wsX20 ++ wsX50 ++ wsX00 ++ wsX10)
def wsX6_hang_r1 : List Cond := [Cond.constantLong RX6 36 (1099511627776), Cond.fieldLink RX6 17 "ReelBarn" "walls" "[LReelBarn$Wall;", Cond.methodLink RX6 33 yX6_isSort, Cond.static yX6_isSort, Cond.initialized RX6, Cond.code yX6_isSort cX6_isSort 1 (some .boolean), Cond.methodLink RX6 38 yX6_refuse, Cond.instanceMethod yX6_refuse, Cond.selects RX6 yX6_refuse yX6_refuse, Cond.code yX6_refuse cX6_refuse 3 (some .long), Cond.fieldLink RX6 21 "ReelBarn" "refusals" "[I", Cond.methodLink RX6 110 yX6_gridFault, Cond.static yX6_gridFault, Cond.code yX6_gridFault cX6_gridFault 2 (some .long), Cond.constantLong RX6 42 (5497558138880), Cond.constantLong RX6 44 (4398046511104), Cond.methodLink RX6 113 yX6_newWall, Cond.static yX6_newWall, Cond.code yX6_newWall cX6_newWall 5 (some (.object "ReelBarn$Wall")), Cond.classLink RX6 15 RX4, Cond.instantiable RX4 1, Cond.initialized RX4, Cond.fieldLink RX6 120 "ReelBarn$Wall" "rows" "[LReelBarn$Reel;", Cond.methodLink RX6 160 yX4_init]
def wsX6_hang_r2 : List Cond := [Cond.instanceMethod yX4_init, Cond.code yX4_init cX4_init 2 none, Cond.methodLink RX4 1 objectInit, Cond.instanceMethod objectInit, Cond.code objectInit ⟨#[0xb1]⟩ 1 none, Cond.classLink RX4 7 RX3, Cond.fieldLink RX4 9 "ReelBarn$Wall" "rows" "[LReelBarn$Reel;", Cond.methodLink RX6 46 yX6_newReel, Cond.static yX6_newReel, Cond.code yX6_newReel cX6_newReel 2 (some (.object "ReelBarn$Reel")), Cond.classLink RX6 147 RX2, Cond.instantiable RX2 1, Cond.initialized RX2, Cond.classLink RX6 151 RX5, Cond.instantiable RX5 1, Cond.initialized RX5, Cond.classLink RX6 154 RX0, Cond.instantiable RX0 1, Cond.initialized RX0, Cond.classLink RX6 157 RX1, Cond.instantiable RX1 1, Cond.initialized RX1, Cond.methodLink RX6 149 yX2_init, Cond.instanceMethod yX2_init]
def wsX6_hang_r3 : List Cond := [Cond.code yX2_init cX2_init 2 none, Cond.arrayClass .char, Cond.fieldLink RX2 7 "ReelBarn$LetterReel" "letters" "[C", Cond.instanceMethod yX3_init, Cond.initialized RX3, Cond.code yX3_init cX3_init 1 none, Cond.methodLink RX3 3 objectInit, Cond.methodLink RX6 153 yX5_init, Cond.instanceMethod yX5_init, Cond.code yX5_init cX5_init 2 none, Cond.arrayClass .short, Cond.fieldLink RX5 7 "ReelBarn$WaveReel" "waves" "[S", Cond.methodLink RX6 156 yX0_init, Cond.instanceMethod yX0_init, Cond.code yX0_init cX0_init 2 none, Cond.arrayClass .float, Cond.fieldLink RX0 9 "ReelBarn$FaderReel" "faders" "[F", Cond.methodLink RX6 159 yX1_init, Cond.instanceMethod yX1_init, Cond.code yX1_init cX1_init 2 none, Cond.arrayClass .boolean, Cond.fieldLink RX1 7 "ReelBarn$LampReel" "lamps" "[Z"]
def wsX6_hang : List Cond := .code yX6_hang cX6_hang 6 (some .long) :: ((wsX6_hang_r1 ++ (wsX6_hang_r2 ++ wsX6_hang_r3)) ++ wsX60 ++ wsX40 ++ wsX20 ++ wsX50 ++ wsX00 ++ wsX10)
def wsX6_wallFault : List Cond := .code yX6_wallFault cX6_wallFault 2 (some .long) :: ([.constantLong RX6 36 (1099511627776), .fieldLink RX6 17 "ReelBarn" "walls" "[LReelBarn$Wall;", .constantLong RX6 134 (2199023255552), .methodLink RX6 33 yX6_isSort, .static yX6_isSort, .initialized RX6, .code yX6_isSort cX6_isSort 1 (some .boolean)] ++ wsX60)
def wsX6_rowFault : List Cond := .code yX6_rowFault cX6_rowFault 5 (some .long) :: ([.fieldLink RX6 17 "ReelBarn" "walls" "[LReelBarn$Wall;", .fieldLink RX6 120 "ReelBarn$Wall" "rows" "[LReelBarn$Reel;", .constantLong RX6 136 (3298534883328), .methodLink RX6 126 yX6_wallFault, .instanceMethod yX6_wallFault, .selects RX6 yX6_wallFault yX6_wallFault, .initialized RX6, .code yX6_wallFault cX6_wallFault 2 (some .long), .constantLong RX6 36 (1099511627776), .constantLong RX6 134 (2199023255552), .methodLink RX6 33 yX6_isSort, .static yX6_isSort, .code yX6_isSort cX6_isSort 1 (some .boolean)] ++ wsX60 ++ wsX40)
def wsX6_pin_r1 : List Cond := [Cond.constantLong RX6 36 (1099511627776), Cond.fieldLink RX6 17 "ReelBarn" "walls" "[LReelBarn$Wall;", Cond.fieldLink RX6 120 "ReelBarn$Wall" "rows" "[LReelBarn$Reel;", Cond.methodLink RX6 29 yX6_isDeck, Cond.static yX6_isDeck, Cond.initialized RX6, Cond.code yX6_isDeck cX6_isDeck 1 (some .boolean), Cond.methodLink RX6 38 yX6_refuse, Cond.instanceMethod yX6_refuse, Cond.selects RX6 yX6_refuse yX6_refuse, Cond.code yX6_refuse cX6_refuse 3 (some .long), Cond.fieldLink RX6 21 "ReelBarn" "refusals" "[I", Cond.methodLink RX6 117 yX6_rowFault, Cond.instanceMethod yX6_rowFault, Cond.selects RX6 yX6_rowFault yX6_rowFault, Cond.code yX6_rowFault cX6_rowFault 5 (some .long), Cond.constantLong RX6 136 (3298534883328), Cond.methodLink RX6 126 yX6_wallFault, Cond.instanceMethod yX6_wallFault, Cond.selects RX6 yX6_wallFault yX6_wallFault, Cond.code yX6_wallFault cX6_wallFault 2 (some .long), Cond.constantLong RX6 134 (2199023255552), Cond.methodLink RX6 33 yX6_isSort, Cond.static yX6_isSort]
def wsX6_pin_r2 : List Cond := [Cond.code yX6_isSort cX6_isSort 1 (some .boolean), Cond.methodLink RX6 58 yX6_reelOn, Cond.instanceMethod yX6_reelOn, Cond.selects RX6 yX6_reelOn yX6_reelOn, Cond.code yX6_reelOn cX6_reelOn 3 (some (.object "ReelBarn$Reel")), Cond.fieldLink RX6 11 "ReelBarn" "carried" "[LReelBarn$Reel;", Cond.methodLink RX6 65 yX6_oneIfThere, Cond.static yX6_oneIfThere, Cond.code yX6_oneIfThere cX6_oneIfThere 1 (some .long)]
def wsX6_pin : List Cond := .code yX6_pin cX6_pin 7 (some .long) :: ((wsX6_pin_r1 ++ wsX6_pin_r2) ++ wsX60 ++ wsX40)
def wsX6_peel_r1 : List Cond := [Cond.constantLong RX6 36 (1099511627776), Cond.fieldLink RX6 17 "ReelBarn" "walls" "[LReelBarn$Wall;", Cond.fieldLink RX6 120 "ReelBarn$Wall" "rows" "[LReelBarn$Reel;", Cond.methodLink RX6 29 yX6_isDeck, Cond.static yX6_isDeck, Cond.initialized RX6, Cond.code yX6_isDeck cX6_isDeck 1 (some .boolean), Cond.methodLink RX6 38 yX6_refuse, Cond.instanceMethod yX6_refuse, Cond.selects RX6 yX6_refuse yX6_refuse, Cond.code yX6_refuse cX6_refuse 3 (some .long), Cond.fieldLink RX6 21 "ReelBarn" "refusals" "[I", Cond.methodLink RX6 117 yX6_rowFault, Cond.instanceMethod yX6_rowFault, Cond.selects RX6 yX6_rowFault yX6_rowFault, Cond.code yX6_rowFault cX6_rowFault 5 (some .long), Cond.constantLong RX6 136 (3298534883328), Cond.methodLink RX6 126 yX6_wallFault, Cond.instanceMethod yX6_wallFault, Cond.selects RX6 yX6_wallFault yX6_wallFault, Cond.code yX6_wallFault cX6_wallFault 2 (some .long), Cond.constantLong RX6 134 (2199023255552), Cond.methodLink RX6 33 yX6_isSort, Cond.static yX6_isSort]
def wsX6_peel_r2 : List Cond := [Cond.code yX6_isSort cX6_isSort 1 (some .boolean), Cond.methodLink RX6 50 yX6_carry, Cond.instanceMethod yX6_carry, Cond.selects RX6 yX6_carry yX6_carry, Cond.code yX6_carry cX6_carry 4 none, Cond.fieldLink RX6 11 "ReelBarn" "carried" "[LReelBarn$Reel;", Cond.methodLink RX6 65 yX6_oneIfThere, Cond.static yX6_oneIfThere, Cond.code yX6_oneIfThere cX6_oneIfThere 1 (some .long)]
def wsX6_peel : List Cond := .code yX6_peel cX6_peel 7 (some .long) :: ((wsX6_peel_r1 ++ wsX6_peel_r2) ++ wsX60 ++ wsX40)
def wsX6_wallReelFault : List Cond := .code yX6_wallReelFault cX6_wallReelFault 5 (some .long) :: ([.fieldLink RX6 17 "ReelBarn" "walls" "[LReelBarn$Wall;", .fieldLink RX6 120 "ReelBarn$Wall" "rows" "[LReelBarn$Reel;", .constantLong RX6 145 (7696581394432), .methodLink RX6 117 yX6_rowFault, .instanceMethod yX6_rowFault, .selects RX6 yX6_rowFault yX6_rowFault, .initialized RX6, .code yX6_rowFault cX6_rowFault 5 (some .long), .constantLong RX6 136 (3298534883328), .methodLink RX6 126 yX6_wallFault, .instanceMethod yX6_wallFault, .selects RX6 yX6_wallFault yX6_wallFault, .code yX6_wallFault cX6_wallFault 2 (some .long), .constantLong RX6 36 (1099511627776), .constantLong RX6 134 (2199023255552), .methodLink RX6 33 yX6_isSort, .static yX6_isSort, .code yX6_isSort cX6_isSort 1 (some .boolean)] ++ wsX60 ++ wsX40)
def wsX6_wallPlaceFault_r1 : List Cond := [Cond.fieldLink RX6 17 "ReelBarn" "walls" "[LReelBarn$Wall;", Cond.fieldLink RX6 120 "ReelBarn$Wall" "rows" "[LReelBarn$Reel;", Cond.constantLong RX6 136 (3298534883328), Cond.methodLink RX6 130 yX6_wallReelFault, Cond.instanceMethod yX6_wallReelFault, Cond.selects RX6 yX6_wallReelFault yX6_wallReelFault, Cond.initialized RX6, Cond.code yX6_wallReelFault cX6_wallReelFault 5 (some .long), Cond.constantLong RX6 145 (7696581394432), Cond.methodLink RX6 117 yX6_rowFault, Cond.instanceMethod yX6_rowFault, Cond.selects RX6 yX6_rowFault yX6_rowFault, Cond.code yX6_rowFault cX6_rowFault 5 (some .long), Cond.methodLink RX6 126 yX6_wallFault, Cond.instanceMethod yX6_wallFault, Cond.selects RX6 yX6_wallFault yX6_wallFault, Cond.code yX6_wallFault cX6_wallFault 2 (some .long), Cond.constantLong RX6 36 (1099511627776), Cond.constantLong RX6 134 (2199023255552), Cond.methodLink RX6 33 yX6_isSort, Cond.static yX6_isSort, Cond.code yX6_isSort cX6_isSort 1 (some .boolean), Cond.methodLink RX6 142 ⟨"ReelBarn$Reel", "has", "(I)Z"⟩, Cond.sameMethod "ReelBarn$Reel" "ReelBarn$Reel" "has" "(I)Z"]
def wsX6_wallPlaceFault_r2 : List Cond := [Cond.selects RX0 ⟨"ReelBarn$Reel", "has", "(I)Z"⟩ yX3_has, Cond.instanceMethod yX3_has, Cond.initialized RX3, Cond.code yX3_has cX3_has 2 (some .boolean), Cond.methodLink RX3 9 ⟨"ReelBarn$Reel", "places", "()I"⟩, Cond.sameMethod "ReelBarn$Reel" "ReelBarn$Reel" "places" "()I", Cond.selects RX0 ⟨"ReelBarn$Reel", "places", "()I"⟩ yX0_places, Cond.instanceMethod yX0_places, Cond.initialized RX0, Cond.code yX0_places cX0_places 1 (some .int), Cond.fieldLink RX0 9 "ReelBarn$FaderReel" "faders" "[F", Cond.selects RX1 ⟨"ReelBarn$Reel", "places", "()I"⟩ yX1_places, Cond.instanceMethod yX1_places, Cond.initialized RX1, Cond.code yX1_places cX1_places 1 (some .int), Cond.fieldLink RX1 7 "ReelBarn$LampReel" "lamps" "[Z", Cond.selects RX2 ⟨"ReelBarn$Reel", "places", "()I"⟩ yX2_places, Cond.instanceMethod yX2_places, Cond.initialized RX2, Cond.code yX2_places cX2_places 1 (some .int), Cond.fieldLink RX2 7 "ReelBarn$LetterReel" "letters" "[C", Cond.selects RX5 ⟨"ReelBarn$Reel", "places", "()I"⟩ yX5_places, Cond.instanceMethod yX5_places, Cond.initialized RX5]
def wsX6_wallPlaceFault_r3 : List Cond := [Cond.code yX5_places cX5_places 1 (some .int), Cond.fieldLink RX5 7 "ReelBarn$WaveReel" "waves" "[S", Cond.selects RX1 ⟨"ReelBarn$Reel", "has", "(I)Z"⟩ yX3_has, Cond.selects RX2 ⟨"ReelBarn$Reel", "has", "(I)Z"⟩ yX3_has, Cond.selects RX5 ⟨"ReelBarn$Reel", "has", "(I)Z"⟩ yX3_has]
def wsX6_wallPlaceFault : List Cond := .code yX6_wallPlaceFault cX6_wallPlaceFault 6 (some .long) :: ((wsX6_wallPlaceFault_r1 ++ (wsX6_wallPlaceFault_r2 ++ wsX6_wallPlaceFault_r3)) ++ wsX60 ++ wsX40 ++ wsX00 ++ wsX10 ++ wsX20 ++ wsX50)
def wsX6_spot_r1 : List Cond := [Cond.fieldLink RX6 17 "ReelBarn" "walls" "[LReelBarn$Wall;", Cond.fieldLink RX6 120 "ReelBarn$Wall" "rows" "[LReelBarn$Reel;", Cond.methodLink RX6 123 yX6_wallPlaceFault, Cond.instanceMethod yX6_wallPlaceFault, Cond.selects RX6 yX6_wallPlaceFault yX6_wallPlaceFault, Cond.initialized RX6, Cond.code yX6_wallPlaceFault cX6_wallPlaceFault 6 (some .long), Cond.constantLong RX6 136 (3298534883328), Cond.methodLink RX6 130 yX6_wallReelFault, Cond.instanceMethod yX6_wallReelFault, Cond.selects RX6 yX6_wallReelFault yX6_wallReelFault, Cond.code yX6_wallReelFault cX6_wallReelFault 5 (some .long), Cond.constantLong RX6 145 (7696581394432), Cond.methodLink RX6 117 yX6_rowFault, Cond.instanceMethod yX6_rowFault, Cond.selects RX6 yX6_rowFault yX6_rowFault, Cond.code yX6_rowFault cX6_rowFault 5 (some .long), Cond.methodLink RX6 126 yX6_wallFault, Cond.instanceMethod yX6_wallFault, Cond.selects RX6 yX6_wallFault yX6_wallFault, Cond.code yX6_wallFault cX6_wallFault 2 (some .long), Cond.constantLong RX6 36 (1099511627776), Cond.constantLong RX6 134 (2199023255552), Cond.methodLink RX6 33 yX6_isSort]
def wsX6_spot_r2 : List Cond := [Cond.static yX6_isSort, Cond.code yX6_isSort cX6_isSort 1 (some .boolean), Cond.methodLink RX6 142 ⟨"ReelBarn$Reel", "has", "(I)Z"⟩, Cond.sameMethod "ReelBarn$Reel" "ReelBarn$Reel" "has" "(I)Z", Cond.selects RX0 ⟨"ReelBarn$Reel", "has", "(I)Z"⟩ yX3_has, Cond.instanceMethod yX3_has, Cond.initialized RX3, Cond.code yX3_has cX3_has 2 (some .boolean), Cond.methodLink RX3 9 ⟨"ReelBarn$Reel", "places", "()I"⟩, Cond.sameMethod "ReelBarn$Reel" "ReelBarn$Reel" "places" "()I", Cond.selects RX0 ⟨"ReelBarn$Reel", "places", "()I"⟩ yX0_places, Cond.instanceMethod yX0_places, Cond.initialized RX0, Cond.code yX0_places cX0_places 1 (some .int), Cond.fieldLink RX0 9 "ReelBarn$FaderReel" "faders" "[F", Cond.selects RX1 ⟨"ReelBarn$Reel", "places", "()I"⟩ yX1_places, Cond.instanceMethod yX1_places, Cond.initialized RX1, Cond.code yX1_places cX1_places 1 (some .int), Cond.fieldLink RX1 7 "ReelBarn$LampReel" "lamps" "[Z", Cond.selects RX2 ⟨"ReelBarn$Reel", "places", "()I"⟩ yX2_places, Cond.instanceMethod yX2_places, Cond.initialized RX2, Cond.code yX2_places cX2_places 1 (some .int)]
def wsX6_spot_r3 : List Cond := [Cond.fieldLink RX2 7 "ReelBarn$LetterReel" "letters" "[C", Cond.selects RX5 ⟨"ReelBarn$Reel", "places", "()I"⟩ yX5_places, Cond.instanceMethod yX5_places, Cond.initialized RX5, Cond.code yX5_places cX5_places 1 (some .int), Cond.fieldLink RX5 7 "ReelBarn$WaveReel" "waves" "[S", Cond.selects RX1 ⟨"ReelBarn$Reel", "has", "(I)Z"⟩ yX3_has, Cond.selects RX2 ⟨"ReelBarn$Reel", "has", "(I)Z"⟩ yX3_has, Cond.selects RX5 ⟨"ReelBarn$Reel", "has", "(I)Z"⟩ yX3_has, Cond.methodLink RX6 38 yX6_refuse, Cond.instanceMethod yX6_refuse, Cond.selects RX6 yX6_refuse yX6_refuse, Cond.code yX6_refuse cX6_refuse 3 (some .long), Cond.fieldLink RX6 21 "ReelBarn" "refusals" "[I", Cond.methodLink RX6 73 ⟨"ReelBarn$Reel", "told", "(I)I"⟩, Cond.sameMethod "ReelBarn$Reel" "ReelBarn$Reel" "told" "(I)I", Cond.selects RX0 ⟨"ReelBarn$Reel", "told", "(I)I"⟩ yX0_told, Cond.instanceMethod yX0_told, Cond.code yX0_told cX0_told 2 (some .int), Cond.constantFloat RX0 15 (1090519040), Cond.selects RX1 ⟨"ReelBarn$Reel", "told", "(I)I"⟩ yX1_told, Cond.instanceMethod yX1_told, Cond.code yX1_told cX1_told 2 (some .int), Cond.selects RX2 ⟨"ReelBarn$Reel", "told", "(I)I"⟩ yX2_told]
def wsX6_spot_r4 : List Cond := [Cond.instanceMethod yX2_told, Cond.code yX2_told cX2_told 2 (some .int), Cond.selects RX5 ⟨"ReelBarn$Reel", "told", "(I)I"⟩ yX5_told, Cond.instanceMethod yX5_told, Cond.code yX5_told cX5_told 2 (some .int)]
def wsX6_spot : List Cond := .code yX6_spot cX6_spot 6 (some .long) :: ((wsX6_spot_r1 ++ (wsX6_spot_r2 ++ (wsX6_spot_r3 ++ wsX6_spot_r4))) ++ wsX60 ++ wsX40 ++ wsX00 ++ wsX10 ++ wsX20 ++ wsX50)
def wsX6_paint_r1 : List Cond := [Cond.fieldLink RX6 17 "ReelBarn" "walls" "[LReelBarn$Wall;", Cond.fieldLink RX6 120 "ReelBarn$Wall" "rows" "[LReelBarn$Reel;", Cond.methodLink RX6 123 yX6_wallPlaceFault, Cond.instanceMethod yX6_wallPlaceFault, Cond.selects RX6 yX6_wallPlaceFault yX6_wallPlaceFault, Cond.initialized RX6, Cond.code yX6_wallPlaceFault cX6_wallPlaceFault 6 (some .long), Cond.constantLong RX6 136 (3298534883328), Cond.methodLink RX6 130 yX6_wallReelFault, Cond.instanceMethod yX6_wallReelFault, Cond.selects RX6 yX6_wallReelFault yX6_wallReelFault, Cond.code yX6_wallReelFault cX6_wallReelFault 5 (some .long), Cond.constantLong RX6 145 (7696581394432), Cond.methodLink RX6 117 yX6_rowFault, Cond.instanceMethod yX6_rowFault, Cond.selects RX6 yX6_rowFault yX6_rowFault, Cond.code yX6_rowFault cX6_rowFault 5 (some .long), Cond.methodLink RX6 126 yX6_wallFault, Cond.instanceMethod yX6_wallFault, Cond.selects RX6 yX6_wallFault yX6_wallFault, Cond.code yX6_wallFault cX6_wallFault 2 (some .long), Cond.constantLong RX6 36 (1099511627776), Cond.constantLong RX6 134 (2199023255552), Cond.methodLink RX6 33 yX6_isSort]
def wsX6_paint_r2 : List Cond := [Cond.static yX6_isSort, Cond.code yX6_isSort cX6_isSort 1 (some .boolean), Cond.methodLink RX6 142 ⟨"ReelBarn$Reel", "has", "(I)Z"⟩, Cond.sameMethod "ReelBarn$Reel" "ReelBarn$Reel" "has" "(I)Z", Cond.selects RX0 ⟨"ReelBarn$Reel", "has", "(I)Z"⟩ yX3_has, Cond.instanceMethod yX3_has, Cond.initialized RX3, Cond.code yX3_has cX3_has 2 (some .boolean), Cond.methodLink RX3 9 ⟨"ReelBarn$Reel", "places", "()I"⟩, Cond.sameMethod "ReelBarn$Reel" "ReelBarn$Reel" "places" "()I", Cond.selects RX0 ⟨"ReelBarn$Reel", "places", "()I"⟩ yX0_places, Cond.instanceMethod yX0_places, Cond.initialized RX0, Cond.code yX0_places cX0_places 1 (some .int), Cond.fieldLink RX0 9 "ReelBarn$FaderReel" "faders" "[F", Cond.selects RX1 ⟨"ReelBarn$Reel", "places", "()I"⟩ yX1_places, Cond.instanceMethod yX1_places, Cond.initialized RX1, Cond.code yX1_places cX1_places 1 (some .int), Cond.fieldLink RX1 7 "ReelBarn$LampReel" "lamps" "[Z", Cond.selects RX2 ⟨"ReelBarn$Reel", "places", "()I"⟩ yX2_places, Cond.instanceMethod yX2_places, Cond.initialized RX2, Cond.code yX2_places cX2_places 1 (some .int)]
def wsX6_paint_r3 : List Cond := [Cond.fieldLink RX2 7 "ReelBarn$LetterReel" "letters" "[C", Cond.selects RX5 ⟨"ReelBarn$Reel", "places", "()I"⟩ yX5_places, Cond.instanceMethod yX5_places, Cond.initialized RX5, Cond.code yX5_places cX5_places 1 (some .int), Cond.fieldLink RX5 7 "ReelBarn$WaveReel" "waves" "[S", Cond.selects RX1 ⟨"ReelBarn$Reel", "has", "(I)Z"⟩ yX3_has, Cond.selects RX2 ⟨"ReelBarn$Reel", "has", "(I)Z"⟩ yX3_has, Cond.selects RX5 ⟨"ReelBarn$Reel", "has", "(I)Z"⟩ yX3_has, Cond.methodLink RX6 38 yX6_refuse, Cond.instanceMethod yX6_refuse, Cond.selects RX6 yX6_refuse yX6_refuse, Cond.code yX6_refuse cX6_refuse 3 (some .long), Cond.fieldLink RX6 21 "ReelBarn" "refusals" "[I", Cond.methodLink RX6 77 ⟨"ReelBarn$Reel", "put", "(II)V"⟩, Cond.sameMethod "ReelBarn$Reel" "ReelBarn$Reel" "put" "(II)V", Cond.selects RX0 ⟨"ReelBarn$Reel", "put", "(II)V"⟩ yX0_put, Cond.instanceMethod yX0_put, Cond.code yX0_put cX0_put 3 none, Cond.methodLink RX0 16 yX0_levelOf, Cond.static yX0_levelOf, Cond.code yX0_levelOf cX0_levelOf 1 (some .float), Cond.constantFloat RX0 15 (1090519040), Cond.methodLink RX0 20 yX0_putLevel]
def wsX6_paint_r4 : List Cond := [Cond.instanceMethod yX0_putLevel, Cond.selects RX0 yX0_putLevel yX0_putLevel, Cond.code yX0_putLevel cX0_putLevel 3 none, Cond.methodLink RX0 24 yX0_bounded, Cond.static yX0_bounded, Cond.code yX0_bounded cX0_bounded 1 (some .float), Cond.constantFloat RX0 28 (1232348160), Cond.constantFloat RX0 29 (3379831808), Cond.selects RX1 ⟨"ReelBarn$Reel", "put", "(II)V"⟩ yX1_put, Cond.instanceMethod yX1_put, Cond.code yX1_put cX1_put 3 none, Cond.selects RX2 ⟨"ReelBarn$Reel", "put", "(II)V"⟩ yX2_put, Cond.instanceMethod yX2_put, Cond.code yX2_put cX2_put 3 none, Cond.selects RX5 ⟨"ReelBarn$Reel", "put", "(II)V"⟩ yX5_put, Cond.instanceMethod yX5_put, Cond.code yX5_put cX5_put 3 none, Cond.methodLink RX6 73 ⟨"ReelBarn$Reel", "told", "(I)I"⟩, Cond.sameMethod "ReelBarn$Reel" "ReelBarn$Reel" "told" "(I)I", Cond.selects RX0 ⟨"ReelBarn$Reel", "told", "(I)I"⟩ yX0_told, Cond.instanceMethod yX0_told, Cond.code yX0_told cX0_told 2 (some .int), Cond.selects RX1 ⟨"ReelBarn$Reel", "told", "(I)I"⟩ yX1_told, Cond.instanceMethod yX1_told]
def wsX6_paint_r5 : List Cond := [Cond.code yX1_told cX1_told 2 (some .int), Cond.selects RX2 ⟨"ReelBarn$Reel", "told", "(I)I"⟩ yX2_told, Cond.instanceMethod yX2_told, Cond.code yX2_told cX2_told 2 (some .int), Cond.selects RX5 ⟨"ReelBarn$Reel", "told", "(I)I"⟩ yX5_told, Cond.instanceMethod yX5_told, Cond.code yX5_told cX5_told 2 (some .int)]
def wsX6_paint : List Cond := .code yX6_paint cX6_paint 8 (some .long) :: ((wsX6_paint_r1 ++ (wsX6_paint_r2 ++ (wsX6_paint_r3 ++ (wsX6_paint_r4 ++ wsX6_paint_r5)))) ++ wsX60 ++ wsX40 ++ wsX00 ++ wsX10 ++ wsX20 ++ wsX50)
def wsX6_span_r1 : List Cond := [Cond.fieldLink RX6 17 "ReelBarn" "walls" "[LReelBarn$Wall;", Cond.fieldLink RX6 120 "ReelBarn$Wall" "rows" "[LReelBarn$Reel;", Cond.methodLink RX6 126 yX6_wallFault, Cond.instanceMethod yX6_wallFault, Cond.selects RX6 yX6_wallFault yX6_wallFault, Cond.initialized RX6, Cond.code yX6_wallFault cX6_wallFault 2 (some .long), Cond.constantLong RX6 36 (1099511627776), Cond.constantLong RX6 134 (2199023255552), Cond.methodLink RX6 33 yX6_isSort, Cond.static yX6_isSort, Cond.code yX6_isSort cX6_isSort 1 (some .boolean), Cond.methodLink RX6 130 yX6_wallReelFault, Cond.instanceMethod yX6_wallReelFault, Cond.selects RX6 yX6_wallReelFault yX6_wallReelFault, Cond.code yX6_wallReelFault cX6_wallReelFault 5 (some .long), Cond.constantLong RX6 145 (7696581394432), Cond.methodLink RX6 117 yX6_rowFault, Cond.instanceMethod yX6_rowFault, Cond.selects RX6 yX6_rowFault yX6_rowFault, Cond.code yX6_rowFault cX6_rowFault 5 (some .long), Cond.constantLong RX6 136 (3298534883328), Cond.methodLink RX6 38 yX6_refuse, Cond.instanceMethod yX6_refuse]
def wsX6_span_r2 : List Cond := [Cond.selects RX6 yX6_refuse yX6_refuse, Cond.code yX6_refuse cX6_refuse 3 (some .long), Cond.fieldLink RX6 21 "ReelBarn" "refusals" "[I", Cond.methodLink RX6 61 ⟨"ReelBarn$Reel", "places", "()I"⟩, Cond.sameMethod "ReelBarn$Reel" "ReelBarn$Reel" "places" "()I", Cond.selects RX0 ⟨"ReelBarn$Reel", "places", "()I"⟩ yX0_places, Cond.instanceMethod yX0_places, Cond.initialized RX0, Cond.code yX0_places cX0_places 1 (some .int), Cond.fieldLink RX0 9 "ReelBarn$FaderReel" "faders" "[F", Cond.selects RX1 ⟨"ReelBarn$Reel", "places", "()I"⟩ yX1_places, Cond.instanceMethod yX1_places, Cond.initialized RX1, Cond.code yX1_places cX1_places 1 (some .int), Cond.fieldLink RX1 7 "ReelBarn$LampReel" "lamps" "[Z", Cond.selects RX2 ⟨"ReelBarn$Reel", "places", "()I"⟩ yX2_places, Cond.instanceMethod yX2_places, Cond.initialized RX2, Cond.code yX2_places cX2_places 1 (some .int), Cond.fieldLink RX2 7 "ReelBarn$LetterReel" "letters" "[C", Cond.selects RX5 ⟨"ReelBarn$Reel", "places", "()I"⟩ yX5_places, Cond.instanceMethod yX5_places, Cond.initialized RX5, Cond.code yX5_places cX5_places 1 (some .int)]
def wsX6_span_r3 : List Cond := [Cond.fieldLink RX5 7 "ReelBarn$WaveReel" "waves" "[S"]
def wsX6_span : List Cond := .code yX6_span cX6_span 6 (some .long) :: ((wsX6_span_r1 ++ (wsX6_span_r2 ++ wsX6_span_r3)) ++ wsX60 ++ wsX40 ++ wsX00 ++ wsX10 ++ wsX20 ++ wsX50)
def wsX6_chart : List Cond := .code yX6_chart cX6_chart 5 (some .long) :: ([.classLink RX6 133 "[[I", .arrayClass .int, .fieldLink RX6 25 "ReelBarn" "chartRows" "[[I", .methodLink RX6 110 yX6_gridFault, .static yX6_gridFault, .initialized RX6, .code yX6_gridFault cX6_gridFault 2 (some .long), .constantLong RX6 42 (5497558138880), .constantLong RX6 44 (4398046511104), .methodLink RX6 38 yX6_refuse, .instanceMethod yX6_refuse, .selects RX6 yX6_refuse yX6_refuse, .code yX6_refuse cX6_refuse 3 (some .long), .fieldLink RX6 21 "ReelBarn" "refusals" "[I"] ++ wsX60)
def wsX6_note : List Cond := .code yX6_note cX6_note 5 (some .long) :: ([.fieldLink RX6 25 "ReelBarn" "chartRows" "[[I", .constantLong RX6 134 (2199023255552), .constantLong RX6 136 (3298534883328), .methodLink RX6 38 yX6_refuse, .instanceMethod yX6_refuse, .selects RX6 yX6_refuse yX6_refuse, .initialized RX6, .code yX6_refuse cX6_refuse 3 (some .long), .fieldLink RX6 21 "ReelBarn" "refusals" "[I"] ++ wsX60)
def wsX6_tally : List Cond := .code yX6_tally cX6_tally 2 (some .int) :: ([.fieldLink RX6 21 "ReelBarn" "refusals" "[I"] ++ wsX60)
def wsX7_init : List Cond := .code yX7_init cX7_init 2 none :: ([.methodLink RX7 1 objectInit, .instanceMethod objectInit, .code objectInit ⟨#[0xb1]⟩ 1 none, .arrayClass .int, .fieldLink RX7 7 "ReelBarnModel" "carried" "[I", .fieldLink RX7 13 "ReelBarnModel" "rowsOf" "[I", .fieldLink RX7 16 "ReelBarnModel" "wall" "[I", .fieldLink RX7 19 "ReelBarnModel" "sizes" "[I", .fieldLink RX7 22 "ReelBarnModel" "whole" "[I", .arrayClass .float, .fieldLink RX7 25 "ReelBarnModel" "level" "[F", .arrayClass .boolean, .fieldLink RX7 29 "ReelBarnModel" "isUsed" "[Z", .fieldLink RX7 33 "ReelBarnModel" "chartRows" "I", .fieldLink RX7 37 "ReelBarnModel" "charted" "[I", .fieldLink RX7 40 "ReelBarnModel" "refused" "[I"] ++ wsX70)
def wsX7_refuse : List Cond := .code yX7_refuse cX7_refuse 3 (some .long) :: ([.fieldLink RX7 40 "ReelBarnModel" "refused" "[I"] ++ wsX70)
def wsX7_isFour : List Cond := .code yX7_isFour cX7_isFour 1 (some .boolean) :: ([])
def wsX7_reel : List Cond := .code yX7_reel cX7_reel 4 (some .int) :: ([.fieldLink RX7 29 "ReelBarnModel" "isUsed" "[Z", .fieldLink RX7 7 "ReelBarnModel" "carried" "[I", .fieldLink RX7 16 "ReelBarnModel" "wall" "[I", .fieldLink RX7 19 "ReelBarnModel" "sizes" "[I", .fieldLink RX7 22 "ReelBarnModel" "whole" "[I", .fieldLink RX7 25 "ReelBarnModel" "level" "[F"] ++ wsX70)
def wsX7_told : List Cond := .code yX7_told cX7_told 4 (some .long) :: ([.fieldLink RX7 25 "ReelBarnModel" "level" "[F", .constantFloat RX7 43 (1090519040), .fieldLink RX7 22 "ReelBarnModel" "whole" "[I"] ++ wsX70)
def wsX7_held : List Cond := .code yX7_held cX7_held 1 (some .float) :: ([.constantFloat RX7 44 (1232348160), .constantFloat RX7 45 (3379831808)])
def wsX7_eighth : List Cond := .code yX7_eighth cX7_eighth 1 (some .float) :: ([.constantFloat RX7 43 (1090519040)])
def wsX7_fill : List Cond := .code yX7_fill cX7_fill 6 none :: ([.fieldLink RX7 22 "ReelBarnModel" "whole" "[I", .constant RX7 46 (65535), .fieldLink RX7 25 "ReelBarnModel" "level" "[F", .methodLink RX7 47 yX7_eighth, .static yX7_eighth, .initialized RX7, .code yX7_eighth cX7_eighth 1 (some .float), .constantFloat RX7 43 (1090519040), .methodLink RX7 51 yX7_held, .static yX7_held, .code yX7_held cX7_held 1 (some .float), .constantFloat RX7 44 (1232348160), .constantFloat RX7 45 (3379831808)] ++ wsX70)
def wsX7_mount : List Cond := .code yX7_mount cX7_mount 4 (some .long) :: ([.constantLong RX7 59 (1099511627776), .constantLong RX7 65 (5497558138880), .constantLong RX7 67 (4398046511104), .fieldLink RX7 7 "ReelBarnModel" "carried" "[I", .methodLink RX7 55 yX7_isFour, .static yX7_isFour, .initialized RX7, .code yX7_isFour cX7_isFour 1 (some .boolean), .methodLink RX7 61 yX7_refuse, .instanceMethod yX7_refuse, .selects RX7 yX7_refuse yX7_refuse, .code yX7_refuse cX7_refuse 3 (some .long), .fieldLink RX7 40 "ReelBarnModel" "refused" "[I", .methodLink RX7 69 yX7_reel, .instanceMethod yX7_reel, .selects RX7 yX7_reel yX7_reel, .code yX7_reel cX7_reel 4 (some .int), .fieldLink RX7 29 "ReelBarnModel" "isUsed" "[Z", .fieldLink RX7 16 "ReelBarnModel" "wall" "[I", .fieldLink RX7 19 "ReelBarnModel" "sizes" "[I", .fieldLink RX7 22 "ReelBarnModel" "whole" "[I", .fieldLink RX7 25 "ReelBarnModel" "level" "[F"] ++ wsX70)
def wsX7_eject : List Cond := .code yX7_eject cX7_eject 4 (some .long) :: ([.constantLong RX7 59 (1099511627776), .fieldLink RX7 7 "ReelBarnModel" "carried" "[I", .constantLong RX7 73 (2199023255552), .fieldLink RX7 19 "ReelBarnModel" "sizes" "[I", .methodLink RX7 55 yX7_isFour, .static yX7_isFour, .initialized RX7, .code yX7_isFour cX7_isFour 1 (some .boolean), .methodLink RX7 61 yX7_refuse, .instanceMethod yX7_refuse, .selects RX7 yX7_refuse yX7_refuse, .code yX7_refuse cX7_refuse 3 (some .long), .fieldLink RX7 40 "ReelBarnModel" "refused" "[I"] ++ wsX70)
def wsX7_share : List Cond := .code yX7_share cX7_share 4 (some .long) :: ([.constantLong RX7 59 (1099511627776), .fieldLink RX7 7 "ReelBarnModel" "carried" "[I", .methodLink RX7 55 yX7_isFour, .static yX7_isFour, .initialized RX7, .code yX7_isFour cX7_isFour 1 (some .boolean), .methodLink RX7 61 yX7_refuse, .instanceMethod yX7_refuse, .selects RX7 yX7_refuse yX7_refuse, .code yX7_refuse cX7_refuse 3 (some .long), .fieldLink RX7 40 "ReelBarnModel" "refused" "[I"] ++ wsX70)
def wsX7_size : List Cond := .code yX7_size cX7_size 4 (some .long) :: ([.constantLong RX7 59 (1099511627776), .fieldLink RX7 7 "ReelBarnModel" "carried" "[I", .constantLong RX7 73 (2199023255552), .fieldLink RX7 19 "ReelBarnModel" "sizes" "[I", .methodLink RX7 55 yX7_isFour, .static yX7_isFour, .initialized RX7, .code yX7_isFour cX7_isFour 1 (some .boolean), .methodLink RX7 61 yX7_refuse, .instanceMethod yX7_refuse, .selects RX7 yX7_refuse yX7_refuse, .code yX7_refuse cX7_refuse 3 (some .long), .fieldLink RX7 40 "ReelBarnModel" "refused" "[I"] ++ wsX70)
def wsX7_against : List Cond := .code yX7_against cX7_against 3 (some .long) :: ([.constantLong RX7 73 (2199023255552), .fieldLink RX7 19 "ReelBarnModel" "sizes" "[I", .constantLong RX7 75 (3298534883328)] ++ wsX70)
def wsX7_read_r1 : List Cond := [Cond.constantLong RX7 59 (1099511627776), Cond.fieldLink RX7 7 "ReelBarnModel" "carried" "[I", Cond.methodLink RX7 55 yX7_isFour, Cond.static yX7_isFour, Cond.initialized RX7, Cond.code yX7_isFour cX7_isFour 1 (some .boolean), Cond.methodLink RX7 61 yX7_refuse, Cond.instanceMethod yX7_refuse, Cond.selects RX7 yX7_refuse yX7_refuse, Cond.code yX7_refuse cX7_refuse 3 (some .long), Cond.fieldLink RX7 40 "ReelBarnModel" "refused" "[I", Cond.methodLink RX7 77 yX7_against, Cond.instanceMethod yX7_against, Cond.selects RX7 yX7_against yX7_against, Cond.code yX7_against cX7_against 3 (some .long), Cond.constantLong RX7 73 (2199023255552), Cond.fieldLink RX7 19 "ReelBarnModel" "sizes" "[I", Cond.constantLong RX7 75 (3298534883328), Cond.methodLink RX7 81 yX7_told, Cond.instanceMethod yX7_told, Cond.selects RX7 yX7_told yX7_told, Cond.code yX7_told cX7_told 4 (some .long), Cond.fieldLink RX7 25 "ReelBarnModel" "level" "[F", Cond.constantFloat RX7 43 (1090519040)]
def wsX7_read_r2 : List Cond := [Cond.fieldLink RX7 22 "ReelBarnModel" "whole" "[I"]
def wsX7_read : List Cond := .code yX7_read cX7_read 7 (some .long) :: ((wsX7_read_r1 ++ wsX7_read_r2) ++ wsX70)
def wsX7_write_r1 : List Cond := [Cond.constantLong RX7 59 (1099511627776), Cond.fieldLink RX7 7 "ReelBarnModel" "carried" "[I", Cond.methodLink RX7 55 yX7_isFour, Cond.static yX7_isFour, Cond.initialized RX7, Cond.code yX7_isFour cX7_isFour 1 (some .boolean), Cond.methodLink RX7 61 yX7_refuse, Cond.instanceMethod yX7_refuse, Cond.selects RX7 yX7_refuse yX7_refuse, Cond.code yX7_refuse cX7_refuse 3 (some .long), Cond.fieldLink RX7 40 "ReelBarnModel" "refused" "[I", Cond.methodLink RX7 77 yX7_against, Cond.instanceMethod yX7_against, Cond.selects RX7 yX7_against yX7_against, Cond.code yX7_against cX7_against 3 (some .long), Cond.constantLong RX7 73 (2199023255552), Cond.fieldLink RX7 19 "ReelBarnModel" "sizes" "[I", Cond.constantLong RX7 75 (3298534883328), Cond.methodLink RX7 85 yX7_fill, Cond.instanceMethod yX7_fill, Cond.selects RX7 yX7_fill yX7_fill, Cond.code yX7_fill cX7_fill 6 none, Cond.fieldLink RX7 22 "ReelBarnModel" "whole" "[I", Cond.constant RX7 46 (65535)]
def wsX7_write_r2 : List Cond := [Cond.fieldLink RX7 25 "ReelBarnModel" "level" "[F", Cond.methodLink RX7 47 yX7_eighth, Cond.static yX7_eighth, Cond.code yX7_eighth cX7_eighth 1 (some .float), Cond.constantFloat RX7 43 (1090519040), Cond.methodLink RX7 51 yX7_held, Cond.static yX7_held, Cond.code yX7_held cX7_held 1 (some .float), Cond.constantFloat RX7 44 (1232348160), Cond.constantFloat RX7 45 (3379831808), Cond.methodLink RX7 81 yX7_told, Cond.instanceMethod yX7_told, Cond.selects RX7 yX7_told yX7_told, Cond.code yX7_told cX7_told 4 (some .long)]
def wsX7_write : List Cond := .code yX7_write cX7_write 8 (some .long) :: ((wsX7_write_r1 ++ wsX7_write_r2) ++ wsX70)
def wsX7_worked : List Cond := .code yX7_worked cX7_worked 3 (some .int) :: ([])
def wsX7_nudge_r1 : List Cond := [Cond.constantLong RX7 59 (1099511627776), Cond.fieldLink RX7 7 "ReelBarnModel" "carried" "[I", Cond.constantLong RX7 89 (6597069766656), Cond.fieldLink RX7 25 "ReelBarnModel" "level" "[F", Cond.fieldLink RX7 22 "ReelBarnModel" "whole" "[I", Cond.methodLink RX7 55 yX7_isFour, Cond.static yX7_isFour, Cond.initialized RX7, Cond.code yX7_isFour cX7_isFour 1 (some .boolean), Cond.methodLink RX7 61 yX7_refuse, Cond.instanceMethod yX7_refuse, Cond.selects RX7 yX7_refuse yX7_refuse, Cond.code yX7_refuse cX7_refuse 3 (some .long), Cond.fieldLink RX7 40 "ReelBarnModel" "refused" "[I", Cond.methodLink RX7 77 yX7_against, Cond.instanceMethod yX7_against, Cond.selects RX7 yX7_against yX7_against, Cond.code yX7_against cX7_against 3 (some .long), Cond.constantLong RX7 73 (2199023255552), Cond.fieldLink RX7 19 "ReelBarnModel" "sizes" "[I", Cond.constantLong RX7 75 (3298534883328), Cond.methodLink RX7 47 yX7_eighth, Cond.static yX7_eighth, Cond.code yX7_eighth cX7_eighth 1 (some .float)]
def wsX7_nudge_r2 : List Cond := [Cond.constantFloat RX7 43 (1090519040), Cond.methodLink RX7 51 yX7_held, Cond.static yX7_held, Cond.code yX7_held cX7_held 1 (some .float), Cond.constantFloat RX7 44 (1232348160), Cond.constantFloat RX7 45 (3379831808), Cond.methodLink RX7 91 yX7_worked, Cond.static yX7_worked, Cond.code yX7_worked cX7_worked 3 (some .int), Cond.methodLink RX7 85 yX7_fill, Cond.instanceMethod yX7_fill, Cond.selects RX7 yX7_fill yX7_fill, Cond.code yX7_fill cX7_fill 6 none, Cond.constant RX7 46 (65535), Cond.methodLink RX7 81 yX7_told, Cond.instanceMethod yX7_told, Cond.selects RX7 yX7_told yX7_told, Cond.code yX7_told cX7_told 4 (some .long)]
def wsX7_nudge : List Cond := .code yX7_nudge cX7_nudge 11 (some .long) :: ((wsX7_nudge_r1 ++ wsX7_nudge_r2) ++ wsX70)
def wsX7_tick_r1 : List Cond := [Cond.constantLong RX7 59 (1099511627776), Cond.fieldLink RX7 7 "ReelBarnModel" "carried" "[I", Cond.fieldLink RX7 25 "ReelBarnModel" "level" "[F", Cond.fieldLink RX7 22 "ReelBarnModel" "whole" "[I", Cond.methodLink RX7 55 yX7_isFour, Cond.static yX7_isFour, Cond.initialized RX7, Cond.code yX7_isFour cX7_isFour 1 (some .boolean), Cond.methodLink RX7 61 yX7_refuse, Cond.instanceMethod yX7_refuse, Cond.selects RX7 yX7_refuse yX7_refuse, Cond.code yX7_refuse cX7_refuse 3 (some .long), Cond.fieldLink RX7 40 "ReelBarnModel" "refused" "[I", Cond.methodLink RX7 77 yX7_against, Cond.instanceMethod yX7_against, Cond.selects RX7 yX7_against yX7_against, Cond.code yX7_against cX7_against 3 (some .long), Cond.constantLong RX7 73 (2199023255552), Cond.fieldLink RX7 19 "ReelBarnModel" "sizes" "[I", Cond.constantLong RX7 75 (3298534883328), Cond.methodLink RX7 81 yX7_told, Cond.instanceMethod yX7_told, Cond.selects RX7 yX7_told yX7_told, Cond.code yX7_told cX7_told 4 (some .long)]
def wsX7_tick_r2 : List Cond := [Cond.constantFloat RX7 43 (1090519040), Cond.methodLink RX7 51 yX7_held, Cond.static yX7_held, Cond.code yX7_held cX7_held 1 (some .float), Cond.constantFloat RX7 44 (1232348160), Cond.constantFloat RX7 45 (3379831808), Cond.methodLink RX7 85 yX7_fill, Cond.instanceMethod yX7_fill, Cond.selects RX7 yX7_fill yX7_fill, Cond.code yX7_fill cX7_fill 6 none, Cond.constant RX7 46 (65535), Cond.methodLink RX7 47 yX7_eighth, Cond.static yX7_eighth, Cond.code yX7_eighth cX7_eighth 1 (some .float)]
def wsX7_tick : List Cond := .code yX7_tick cX7_tick 11 (some .long) :: ((wsX7_tick_r1 ++ wsX7_tick_r2) ++ wsX70)
def wsX7_blend_r1 : List Cond := [Cond.constantLong RX7 59 (1099511627776), Cond.fieldLink RX7 7 "ReelBarnModel" "carried" "[I", Cond.fieldLink RX7 22 "ReelBarnModel" "whole" "[I", Cond.fieldLink RX7 25 "ReelBarnModel" "level" "[F", Cond.methodLink RX7 55 yX7_isFour, Cond.static yX7_isFour, Cond.initialized RX7, Cond.code yX7_isFour cX7_isFour 1 (some .boolean), Cond.methodLink RX7 61 yX7_refuse, Cond.instanceMethod yX7_refuse, Cond.selects RX7 yX7_refuse yX7_refuse, Cond.code yX7_refuse cX7_refuse 3 (some .long), Cond.fieldLink RX7 40 "ReelBarnModel" "refused" "[I", Cond.methodLink RX7 77 yX7_against, Cond.instanceMethod yX7_against, Cond.selects RX7 yX7_against yX7_against, Cond.code yX7_against cX7_against 3 (some .long), Cond.constantLong RX7 73 (2199023255552), Cond.fieldLink RX7 19 "ReelBarnModel" "sizes" "[I", Cond.constantLong RX7 75 (3298534883328), Cond.methodLink RX7 51 yX7_held, Cond.static yX7_held, Cond.code yX7_held cX7_held 1 (some .float), Cond.constantFloat RX7 44 (1232348160)]
def wsX7_blend_r2 : List Cond := [Cond.constantFloat RX7 45 (3379831808), Cond.methodLink RX7 85 yX7_fill, Cond.instanceMethod yX7_fill, Cond.selects RX7 yX7_fill yX7_fill, Cond.code yX7_fill cX7_fill 6 none, Cond.constant RX7 46 (65535), Cond.methodLink RX7 47 yX7_eighth, Cond.static yX7_eighth, Cond.code yX7_eighth cX7_eighth 1 (some .float), Cond.constantFloat RX7 43 (1090519040), Cond.methodLink RX7 81 yX7_told, Cond.instanceMethod yX7_told, Cond.selects RX7 yX7_told yX7_told, Cond.code yX7_told cX7_told 4 (some .long)]
def wsX7_blend : List Cond := .code yX7_blend cX7_blend 17 (some .long) :: ((wsX7_blend_r1 ++ wsX7_blend_r2) ++ wsX70)
def wsX7_hang : List Cond := .code yX7_hang cX7_hang 5 (some .long) :: ([.constantLong RX7 59 (1099511627776), .constantLong RX7 65 (5497558138880), .constantLong RX7 67 (4398046511104), .fieldLink RX7 16 "ReelBarnModel" "wall" "[I", .fieldLink RX7 13 "ReelBarnModel" "rowsOf" "[I", .methodLink RX7 55 yX7_isFour, .static yX7_isFour, .initialized RX7, .code yX7_isFour cX7_isFour 1 (some .boolean), .methodLink RX7 61 yX7_refuse, .instanceMethod yX7_refuse, .selects RX7 yX7_refuse yX7_refuse, .code yX7_refuse cX7_refuse 3 (some .long), .fieldLink RX7 40 "ReelBarnModel" "refused" "[I", .methodLink RX7 69 yX7_reel, .instanceMethod yX7_reel, .selects RX7 yX7_reel yX7_reel, .code yX7_reel cX7_reel 4 (some .int), .fieldLink RX7 29 "ReelBarnModel" "isUsed" "[Z", .fieldLink RX7 7 "ReelBarnModel" "carried" "[I", .fieldLink RX7 19 "ReelBarnModel" "sizes" "[I", .fieldLink RX7 22 "ReelBarnModel" "whole" "[I", .fieldLink RX7 25 "ReelBarnModel" "level" "[F"] ++ wsX70)
def wsX7_againstRow : List Cond := .code yX7_againstRow cX7_againstRow 3 (some .long) :: ([.fieldLink RX7 13 "ReelBarnModel" "rowsOf" "[I", .constantLong RX7 73 (2199023255552), .constantLong RX7 75 (3298534883328)] ++ wsX70)
def wsX7_pin : List Cond := .code yX7_pin cX7_pin 6 (some .long) :: ([.constantLong RX7 59 (1099511627776), .fieldLink RX7 16 "ReelBarnModel" "wall" "[I", .fieldLink RX7 7 "ReelBarnModel" "carried" "[I", .methodLink RX7 55 yX7_isFour, .static yX7_isFour, .initialized RX7, .code yX7_isFour cX7_isFour 1 (some .boolean), .methodLink RX7 61 yX7_refuse, .instanceMethod yX7_refuse, .selects RX7 yX7_refuse yX7_refuse, .code yX7_refuse cX7_refuse 3 (some .long), .fieldLink RX7 40 "ReelBarnModel" "refused" "[I", .methodLink RX7 95 yX7_againstRow, .instanceMethod yX7_againstRow, .selects RX7 yX7_againstRow yX7_againstRow, .code yX7_againstRow cX7_againstRow 3 (some .long), .fieldLink RX7 13 "ReelBarnModel" "rowsOf" "[I", .constantLong RX7 73 (2199023255552), .constantLong RX7 75 (3298534883328)] ++ wsX70)
def wsX7_peel : List Cond := .code yX7_peel cX7_peel 6 (some .long) :: ([.constantLong RX7 59 (1099511627776), .fieldLink RX7 7 "ReelBarnModel" "carried" "[I", .fieldLink RX7 16 "ReelBarnModel" "wall" "[I", .methodLink RX7 55 yX7_isFour, .static yX7_isFour, .initialized RX7, .code yX7_isFour cX7_isFour 1 (some .boolean), .methodLink RX7 61 yX7_refuse, .instanceMethod yX7_refuse, .selects RX7 yX7_refuse yX7_refuse, .code yX7_refuse cX7_refuse 3 (some .long), .fieldLink RX7 40 "ReelBarnModel" "refused" "[I", .methodLink RX7 95 yX7_againstRow, .instanceMethod yX7_againstRow, .selects RX7 yX7_againstRow yX7_againstRow, .code yX7_againstRow cX7_againstRow 3 (some .long), .fieldLink RX7 13 "ReelBarnModel" "rowsOf" "[I", .constantLong RX7 73 (2199023255552), .constantLong RX7 75 (3298534883328)] ++ wsX70)
def wsX7_againstPlace : List Cond := .code yX7_againstPlace cX7_againstPlace 7 (some .long) :: ([.fieldLink RX7 16 "ReelBarnModel" "wall" "[I", .constantLong RX7 98 (7696581394432), .fieldLink RX7 19 "ReelBarnModel" "sizes" "[I", .constantLong RX7 75 (3298534883328), .methodLink RX7 95 yX7_againstRow, .instanceMethod yX7_againstRow, .selects RX7 yX7_againstRow yX7_againstRow, .initialized RX7, .code yX7_againstRow cX7_againstRow 3 (some .long), .fieldLink RX7 13 "ReelBarnModel" "rowsOf" "[I", .constantLong RX7 73 (2199023255552)] ++ wsX70)
def wsX7_spot_r1 : List Cond := [Cond.constantLong RX7 59 (1099511627776), Cond.fieldLink RX7 16 "ReelBarnModel" "wall" "[I", Cond.methodLink RX7 55 yX7_isFour, Cond.static yX7_isFour, Cond.initialized RX7, Cond.code yX7_isFour cX7_isFour 1 (some .boolean), Cond.methodLink RX7 61 yX7_refuse, Cond.instanceMethod yX7_refuse, Cond.selects RX7 yX7_refuse yX7_refuse, Cond.code yX7_refuse cX7_refuse 3 (some .long), Cond.fieldLink RX7 40 "ReelBarnModel" "refused" "[I", Cond.methodLink RX7 100 yX7_againstPlace, Cond.instanceMethod yX7_againstPlace, Cond.selects RX7 yX7_againstPlace yX7_againstPlace, Cond.code yX7_againstPlace cX7_againstPlace 7 (some .long), Cond.constantLong RX7 98 (7696581394432), Cond.fieldLink RX7 19 "ReelBarnModel" "sizes" "[I", Cond.constantLong RX7 75 (3298534883328), Cond.methodLink RX7 95 yX7_againstRow, Cond.instanceMethod yX7_againstRow, Cond.selects RX7 yX7_againstRow yX7_againstRow, Cond.code yX7_againstRow cX7_againstRow 3 (some .long), Cond.fieldLink RX7 13 "ReelBarnModel" "rowsOf" "[I", Cond.constantLong RX7 73 (2199023255552)]
def wsX7_spot_r2 : List Cond := [Cond.methodLink RX7 81 yX7_told, Cond.instanceMethod yX7_told, Cond.selects RX7 yX7_told yX7_told, Cond.code yX7_told cX7_told 4 (some .long), Cond.fieldLink RX7 25 "ReelBarnModel" "level" "[F", Cond.constantFloat RX7 43 (1090519040), Cond.fieldLink RX7 22 "ReelBarnModel" "whole" "[I"]
def wsX7_spot : List Cond := .code yX7_spot cX7_spot 6 (some .long) :: ((wsX7_spot_r1 ++ wsX7_spot_r2) ++ wsX70)
def wsX7_paint_r1 : List Cond := [Cond.constantLong RX7 59 (1099511627776), Cond.fieldLink RX7 16 "ReelBarnModel" "wall" "[I", Cond.methodLink RX7 55 yX7_isFour, Cond.static yX7_isFour, Cond.initialized RX7, Cond.code yX7_isFour cX7_isFour 1 (some .boolean), Cond.methodLink RX7 61 yX7_refuse, Cond.instanceMethod yX7_refuse, Cond.selects RX7 yX7_refuse yX7_refuse, Cond.code yX7_refuse cX7_refuse 3 (some .long), Cond.fieldLink RX7 40 "ReelBarnModel" "refused" "[I", Cond.methodLink RX7 100 yX7_againstPlace, Cond.instanceMethod yX7_againstPlace, Cond.selects RX7 yX7_againstPlace yX7_againstPlace, Cond.code yX7_againstPlace cX7_againstPlace 7 (some .long), Cond.constantLong RX7 98 (7696581394432), Cond.fieldLink RX7 19 "ReelBarnModel" "sizes" "[I", Cond.constantLong RX7 75 (3298534883328), Cond.methodLink RX7 95 yX7_againstRow, Cond.instanceMethod yX7_againstRow, Cond.selects RX7 yX7_againstRow yX7_againstRow, Cond.code yX7_againstRow cX7_againstRow 3 (some .long), Cond.fieldLink RX7 13 "ReelBarnModel" "rowsOf" "[I", Cond.constantLong RX7 73 (2199023255552)]
def wsX7_paint_r2 : List Cond := [Cond.methodLink RX7 85 yX7_fill, Cond.instanceMethod yX7_fill, Cond.selects RX7 yX7_fill yX7_fill, Cond.code yX7_fill cX7_fill 6 none, Cond.fieldLink RX7 22 "ReelBarnModel" "whole" "[I", Cond.constant RX7 46 (65535), Cond.fieldLink RX7 25 "ReelBarnModel" "level" "[F", Cond.methodLink RX7 47 yX7_eighth, Cond.static yX7_eighth, Cond.code yX7_eighth cX7_eighth 1 (some .float), Cond.constantFloat RX7 43 (1090519040), Cond.methodLink RX7 51 yX7_held, Cond.static yX7_held, Cond.code yX7_held cX7_held 1 (some .float), Cond.constantFloat RX7 44 (1232348160), Cond.constantFloat RX7 45 (3379831808), Cond.methodLink RX7 81 yX7_told, Cond.instanceMethod yX7_told, Cond.selects RX7 yX7_told yX7_told, Cond.code yX7_told cX7_told 4 (some .long)]
def wsX7_paint : List Cond := .code yX7_paint cX7_paint 7 (some .long) :: ((wsX7_paint_r1 ++ wsX7_paint_r2) ++ wsX70)
def wsX7_span : List Cond := .code yX7_span cX7_span 6 (some .long) :: ([.constantLong RX7 59 (1099511627776), .fieldLink RX7 13 "ReelBarnModel" "rowsOf" "[I", .fieldLink RX7 16 "ReelBarnModel" "wall" "[I", .constantLong RX7 98 (7696581394432), .fieldLink RX7 19 "ReelBarnModel" "sizes" "[I", .methodLink RX7 55 yX7_isFour, .static yX7_isFour, .initialized RX7, .code yX7_isFour cX7_isFour 1 (some .boolean), .methodLink RX7 61 yX7_refuse, .instanceMethod yX7_refuse, .selects RX7 yX7_refuse yX7_refuse, .code yX7_refuse cX7_refuse 3 (some .long), .fieldLink RX7 40 "ReelBarnModel" "refused" "[I", .methodLink RX7 95 yX7_againstRow, .instanceMethod yX7_againstRow, .selects RX7 yX7_againstRow yX7_againstRow, .code yX7_againstRow cX7_againstRow 3 (some .long), .constantLong RX7 73 (2199023255552), .constantLong RX7 75 (3298534883328)] ++ wsX70)
def wsX7_chart : List Cond := .code yX7_chart cX7_chart 4 (some .long) :: ([.constantLong RX7 65 (5497558138880), .constantLong RX7 67 (4398046511104), .fieldLink RX7 33 "ReelBarnModel" "chartRows" "I", .fieldLink RX7 103 "ReelBarnModel" "chartColumns" "I", .fieldLink RX7 37 "ReelBarnModel" "charted" "[I", .methodLink RX7 61 yX7_refuse, .instanceMethod yX7_refuse, .selects RX7 yX7_refuse yX7_refuse, .initialized RX7, .code yX7_refuse cX7_refuse 3 (some .long), .fieldLink RX7 40 "ReelBarnModel" "refused" "[I"] ++ wsX70)
def wsX7_note : List Cond := .code yX7_note cX7_note 4 (some .long) :: ([.fieldLink RX7 33 "ReelBarnModel" "chartRows" "I", .constantLong RX7 73 (2199023255552), .fieldLink RX7 103 "ReelBarnModel" "chartColumns" "I", .constantLong RX7 75 (3298534883328), .fieldLink RX7 37 "ReelBarnModel" "charted" "[I", .methodLink RX7 61 yX7_refuse, .instanceMethod yX7_refuse, .selects RX7 yX7_refuse yX7_refuse, .initialized RX7, .code yX7_refuse cX7_refuse 3 (some .long), .fieldLink RX7 40 "ReelBarnModel" "refused" "[I"] ++ wsX70)
def wsX7_tally : List Cond := .code yX7_tally cX7_tally 2 (some .int) :: ([.fieldLink RX7 40 "ReelBarnModel" "refused" "[I"] ++ wsX70)
def wsL_law_r1 : List Cond := [Cond.classLink RL 7 RX6, Cond.instantiable RX6 4, Cond.initialized RX6, Cond.classLink RL 10 RX7, Cond.instantiable RX7 11, Cond.initialized RX7, Cond.methodLink RL 9 yX6_init, Cond.instanceMethod yX6_init, Cond.code yX6_init cX6_init 1 none, Cond.methodLink RX6 1 objectInit, Cond.instanceMethod objectInit, Cond.code objectInit ⟨#[0xb1]⟩ 1 none, Cond.classLink RX6 9 RX3, Cond.fieldLink RX6 11 "ReelBarn" "carried" "[LReelBarn$Reel;", Cond.classLink RX6 15 RX4, Cond.fieldLink RX6 17 "ReelBarn" "walls" "[LReelBarn$Wall;", Cond.arrayClass .int, Cond.fieldLink RX6 21 "ReelBarn" "refusals" "[I", Cond.fieldLink RX6 25 "ReelBarn" "chartRows" "[[I", Cond.methodLink RL 12 yX7_init, Cond.instanceMethod yX7_init, Cond.code yX7_init cX7_init 2 none, Cond.methodLink RX7 1 objectInit, Cond.fieldLink RX7 7 "ReelBarnModel" "carried" "[I"]
def wsL_law_r2 : List Cond := [Cond.fieldLink RX7 13 "ReelBarnModel" "rowsOf" "[I", Cond.fieldLink RX7 16 "ReelBarnModel" "wall" "[I", Cond.fieldLink RX7 19 "ReelBarnModel" "sizes" "[I", Cond.fieldLink RX7 22 "ReelBarnModel" "whole" "[I", Cond.arrayClass .float, Cond.fieldLink RX7 25 "ReelBarnModel" "level" "[F", Cond.arrayClass .boolean, Cond.fieldLink RX7 29 "ReelBarnModel" "isUsed" "[Z", Cond.fieldLink RX7 33 "ReelBarnModel" "chartRows" "I", Cond.fieldLink RX7 37 "ReelBarnModel" "charted" "[I", Cond.fieldLink RX7 40 "ReelBarnModel" "refused" "[I", Cond.methodLink RL 13 yX6_mount, Cond.instanceMethod yX6_mount, Cond.selects RX6 yX6_mount yX6_mount, Cond.code yX6_mount cX6_mount 4 (some .long), Cond.constantLong RX6 36 (1099511627776), Cond.constantLong RX6 42 (5497558138880), Cond.constantLong RX6 44 (4398046511104), Cond.methodLink RX6 29 yX6_isDeck, Cond.static yX6_isDeck, Cond.code yX6_isDeck cX6_isDeck 1 (some .boolean), Cond.methodLink RX6 33 yX6_isSort, Cond.static yX6_isSort, Cond.code yX6_isSort cX6_isSort 1 (some .boolean)]
def wsL_law_r3 : List Cond := [Cond.methodLink RX6 38 yX6_refuse, Cond.instanceMethod yX6_refuse, Cond.selects RX6 yX6_refuse yX6_refuse, Cond.code yX6_refuse cX6_refuse 3 (some .long), Cond.methodLink RX6 46 yX6_newReel, Cond.static yX6_newReel, Cond.code yX6_newReel cX6_newReel 2 (some (.object "ReelBarn$Reel")), Cond.classLink RX6 147 RX2, Cond.instantiable RX2 1, Cond.initialized RX2, Cond.classLink RX6 151 RX5, Cond.instantiable RX5 1, Cond.initialized RX5, Cond.classLink RX6 154 RX0, Cond.instantiable RX0 1, Cond.initialized RX0, Cond.classLink RX6 157 RX1, Cond.instantiable RX1 1, Cond.initialized RX1, Cond.methodLink RX6 149 yX2_init, Cond.instanceMethod yX2_init, Cond.code yX2_init cX2_init 2 none, Cond.arrayClass .char, Cond.fieldLink RX2 7 "ReelBarn$LetterReel" "letters" "[C"]
def wsL_law_r4 : List Cond := [Cond.instanceMethod yX3_init, Cond.initialized RX3, Cond.code yX3_init cX3_init 1 none, Cond.methodLink RX3 3 objectInit, Cond.methodLink RX6 153 yX5_init, Cond.instanceMethod yX5_init, Cond.code yX5_init cX5_init 2 none, Cond.arrayClass .short, Cond.fieldLink RX5 7 "ReelBarn$WaveReel" "waves" "[S", Cond.methodLink RX6 156 yX0_init, Cond.instanceMethod yX0_init, Cond.code yX0_init cX0_init 2 none, Cond.fieldLink RX0 9 "ReelBarn$FaderReel" "faders" "[F", Cond.methodLink RX6 159 yX1_init, Cond.instanceMethod yX1_init, Cond.code yX1_init cX1_init 2 none, Cond.fieldLink RX1 7 "ReelBarn$LampReel" "lamps" "[Z", Cond.methodLink RX6 50 yX6_carry, Cond.instanceMethod yX6_carry, Cond.selects RX6 yX6_carry yX6_carry, Cond.code yX6_carry cX6_carry 4 none, Cond.methodLink RL 17 yX7_mount, Cond.instanceMethod yX7_mount, Cond.selects RX7 yX7_mount yX7_mount]
def wsL_law_r5 : List Cond := [Cond.code yX7_mount cX7_mount 4 (some .long), Cond.constantLong RX7 59 (1099511627776), Cond.constantLong RX7 65 (5497558138880), Cond.constantLong RX7 67 (4398046511104), Cond.methodLink RX7 55 yX7_isFour, Cond.static yX7_isFour, Cond.code yX7_isFour cX7_isFour 1 (some .boolean), Cond.methodLink RX7 61 yX7_refuse, Cond.instanceMethod yX7_refuse, Cond.selects RX7 yX7_refuse yX7_refuse, Cond.code yX7_refuse cX7_refuse 3 (some .long), Cond.methodLink RX7 69 yX7_reel, Cond.instanceMethod yX7_reel, Cond.selects RX7 yX7_reel yX7_reel, Cond.code yX7_reel cX7_reel 4 (some .int), Cond.methodLink RL 18 yX6_eject, Cond.instanceMethod yX6_eject, Cond.selects RX6 yX6_eject yX6_eject, Cond.code yX6_eject cX6_eject 6 (some .long), Cond.methodLink RX6 54 yX6_reelFault, Cond.instanceMethod yX6_reelFault, Cond.selects RX6 yX6_reelFault yX6_reelFault, Cond.code yX6_reelFault cX6_reelFault 3 (some .long), Cond.constantLong RX6 134 (2199023255552)]
def wsL_law_r6 : List Cond := [Cond.methodLink RX6 58 yX6_reelOn, Cond.instanceMethod yX6_reelOn, Cond.selects RX6 yX6_reelOn yX6_reelOn, Cond.code yX6_reelOn cX6_reelOn 3 (some (.object "ReelBarn$Reel")), Cond.methodLink RX6 61 ⟨"ReelBarn$Reel", "places", "()I"⟩, Cond.sameMethod "ReelBarn$Reel" "ReelBarn$Reel" "places" "()I", Cond.selects RX0 ⟨"ReelBarn$Reel", "places", "()I"⟩ yX0_places, Cond.instanceMethod yX0_places, Cond.code yX0_places cX0_places 1 (some .int), Cond.selects RX1 ⟨"ReelBarn$Reel", "places", "()I"⟩ yX1_places, Cond.instanceMethod yX1_places, Cond.code yX1_places cX1_places 1 (some .int), Cond.selects RX2 ⟨"ReelBarn$Reel", "places", "()I"⟩ yX2_places, Cond.instanceMethod yX2_places, Cond.code yX2_places cX2_places 1 (some .int), Cond.selects RX5 ⟨"ReelBarn$Reel", "places", "()I"⟩ yX5_places, Cond.instanceMethod yX5_places, Cond.code yX5_places cX5_places 1 (some .int), Cond.methodLink RL 22 yX7_eject, Cond.instanceMethod yX7_eject, Cond.selects RX7 yX7_eject yX7_eject, Cond.code yX7_eject cX7_eject 4 (some .long), Cond.constantLong RX7 73 (2199023255552), Cond.methodLink RL 23 yX6_share]
def wsL_law_r7 : List Cond := [Cond.instanceMethod yX6_share, Cond.selects RX6 yX6_share yX6_share, Cond.code yX6_share cX6_share 5 (some .long), Cond.methodLink RX6 65 yX6_oneIfThere, Cond.static yX6_oneIfThere, Cond.code yX6_oneIfThere cX6_oneIfThere 1 (some .long), Cond.methodLink RL 26 yX7_share, Cond.instanceMethod yX7_share, Cond.selects RX7 yX7_share yX7_share, Cond.code yX7_share cX7_share 4 (some .long), Cond.methodLink RL 27 yX6_size, Cond.instanceMethod yX6_size, Cond.selects RX6 yX6_size yX6_size, Cond.code yX6_size cX6_size 5 (some .long), Cond.methodLink RL 30 yX7_size, Cond.instanceMethod yX7_size, Cond.selects RX7 yX7_size yX7_size, Cond.code yX7_size cX7_size 4 (some .long), Cond.methodLink RL 31 yX6_read, Cond.instanceMethod yX6_read, Cond.selects RX6 yX6_read yX6_read, Cond.code yX6_read cX6_read 6 (some .long), Cond.methodLink RX6 69 yX6_placeFault, Cond.instanceMethod yX6_placeFault]
def wsL_law_r8 : List Cond := [Cond.selects RX6 yX6_placeFault yX6_placeFault, Cond.code yX6_placeFault cX6_placeFault 6 (some .long), Cond.constantLong RX6 136 (3298534883328), Cond.methodLink RX6 142 ⟨"ReelBarn$Reel", "has", "(I)Z"⟩, Cond.sameMethod "ReelBarn$Reel" "ReelBarn$Reel" "has" "(I)Z", Cond.selects RX0 ⟨"ReelBarn$Reel", "has", "(I)Z"⟩ yX3_has, Cond.instanceMethod yX3_has, Cond.code yX3_has cX3_has 2 (some .boolean), Cond.methodLink RX3 9 ⟨"ReelBarn$Reel", "places", "()I"⟩, Cond.selects RX1 ⟨"ReelBarn$Reel", "has", "(I)Z"⟩ yX3_has, Cond.selects RX2 ⟨"ReelBarn$Reel", "has", "(I)Z"⟩ yX3_has, Cond.selects RX5 ⟨"ReelBarn$Reel", "has", "(I)Z"⟩ yX3_has, Cond.methodLink RX6 73 ⟨"ReelBarn$Reel", "told", "(I)I"⟩, Cond.sameMethod "ReelBarn$Reel" "ReelBarn$Reel" "told" "(I)I", Cond.selects RX0 ⟨"ReelBarn$Reel", "told", "(I)I"⟩ yX0_told, Cond.instanceMethod yX0_told, Cond.code yX0_told cX0_told 2 (some .int), Cond.constantFloat RX0 15 (1090519040), Cond.selects RX1 ⟨"ReelBarn$Reel", "told", "(I)I"⟩ yX1_told, Cond.instanceMethod yX1_told, Cond.code yX1_told cX1_told 2 (some .int), Cond.selects RX2 ⟨"ReelBarn$Reel", "told", "(I)I"⟩ yX2_told, Cond.instanceMethod yX2_told, Cond.code yX2_told cX2_told 2 (some .int)]
def wsL_law_r9 : List Cond := [Cond.selects RX5 ⟨"ReelBarn$Reel", "told", "(I)I"⟩ yX5_told, Cond.instanceMethod yX5_told, Cond.code yX5_told cX5_told 2 (some .int), Cond.methodLink RL 34 yX7_read, Cond.instanceMethod yX7_read, Cond.selects RX7 yX7_read yX7_read, Cond.code yX7_read cX7_read 7 (some .long), Cond.methodLink RX7 77 yX7_against, Cond.instanceMethod yX7_against, Cond.selects RX7 yX7_against yX7_against, Cond.code yX7_against cX7_against 3 (some .long), Cond.constantLong RX7 75 (3298534883328), Cond.methodLink RX7 81 yX7_told, Cond.instanceMethod yX7_told, Cond.selects RX7 yX7_told yX7_told, Cond.code yX7_told cX7_told 4 (some .long), Cond.constantFloat RX7 43 (1090519040), Cond.methodLink RL 35 yX6_write, Cond.instanceMethod yX6_write, Cond.selects RX6 yX6_write yX6_write, Cond.code yX6_write cX6_write 8 (some .long), Cond.methodLink RX6 77 ⟨"ReelBarn$Reel", "put", "(II)V"⟩, Cond.sameMethod "ReelBarn$Reel" "ReelBarn$Reel" "put" "(II)V", Cond.selects RX0 ⟨"ReelBarn$Reel", "put", "(II)V"⟩ yX0_put]
def wsL_law_r10 : List Cond := [Cond.instanceMethod yX0_put, Cond.code yX0_put cX0_put 3 none, Cond.methodLink RX0 16 yX0_levelOf, Cond.static yX0_levelOf, Cond.code yX0_levelOf cX0_levelOf 1 (some .float), Cond.methodLink RX0 20 yX0_putLevel, Cond.instanceMethod yX0_putLevel, Cond.selects RX0 yX0_putLevel yX0_putLevel, Cond.code yX0_putLevel cX0_putLevel 3 none, Cond.methodLink RX0 24 yX0_bounded, Cond.static yX0_bounded, Cond.code yX0_bounded cX0_bounded 1 (some .float), Cond.constantFloat RX0 28 (1232348160), Cond.constantFloat RX0 29 (3379831808), Cond.selects RX1 ⟨"ReelBarn$Reel", "put", "(II)V"⟩ yX1_put, Cond.instanceMethod yX1_put, Cond.code yX1_put cX1_put 3 none, Cond.selects RX2 ⟨"ReelBarn$Reel", "put", "(II)V"⟩ yX2_put, Cond.instanceMethod yX2_put, Cond.code yX2_put cX2_put 3 none, Cond.selects RX5 ⟨"ReelBarn$Reel", "put", "(II)V"⟩ yX5_put, Cond.instanceMethod yX5_put, Cond.code yX5_put cX5_put 3 none, Cond.methodLink RL 39 yX7_write]
def wsL_law_r11 : List Cond := [Cond.instanceMethod yX7_write, Cond.selects RX7 yX7_write yX7_write, Cond.code yX7_write cX7_write 8 (some .long), Cond.methodLink RX7 85 yX7_fill, Cond.instanceMethod yX7_fill, Cond.selects RX7 yX7_fill yX7_fill, Cond.code yX7_fill cX7_fill 6 none, Cond.constant RX7 46 (65535), Cond.methodLink RX7 47 yX7_eighth, Cond.static yX7_eighth, Cond.code yX7_eighth cX7_eighth 1 (some .float), Cond.methodLink RX7 51 yX7_held, Cond.static yX7_held, Cond.code yX7_held cX7_held 1 (some .float), Cond.constantFloat RX7 44 (1232348160), Cond.constantFloat RX7 45 (3379831808), Cond.methodLink RL 40 yX6_nudge, Cond.instanceMethod yX6_nudge, Cond.selects RX6 yX6_nudge yX6_nudge, Cond.code yX6_nudge cX6_nudge 9 (some .long), Cond.constantLong RX6 85 (6597069766656), Cond.methodLink RX6 81 yX6_knowsHow, Cond.static yX6_knowsHow, Cond.code yX6_knowsHow cX6_knowsHow 2 (some .boolean)]
def wsL_law_r12 : List Cond := [Cond.methodLink RX6 87 ⟨"ReelBarn$Reel", "change", "(III)V"⟩, Cond.sameMethod "ReelBarn$Reel" "ReelBarn$Reel" "change" "(III)V", Cond.instanceMethod ⟨"ReelBarn$Reel", "change", "(III)V"⟩, Cond.selects RX0 ⟨"ReelBarn$Reel", "change", "(III)V"⟩ yX0_change, Cond.instanceMethod yX0_change, Cond.code yX0_change cX0_change 5 none, Cond.code yX3_change cX3_change 4 none, Cond.selects RX1 ⟨"ReelBarn$Reel", "change", "(III)V"⟩ yX3_change, Cond.instanceMethod yX3_change, Cond.methodLink RX3 15 ⟨"ReelBarn$Reel", "told", "(I)I"⟩, Cond.methodLink RX3 19 yX3_reckon, Cond.static yX3_reckon, Cond.code yX3_reckon cX3_reckon 3 (some .int), Cond.methodLink RX3 23 ⟨"ReelBarn$Reel", "put", "(II)V"⟩, Cond.selects RX2 ⟨"ReelBarn$Reel", "change", "(III)V"⟩ yX3_change, Cond.selects RX5 ⟨"ReelBarn$Reel", "change", "(III)V"⟩ yX3_change, Cond.methodLink RL 44 yX7_nudge, Cond.instanceMethod yX7_nudge, Cond.selects RX7 yX7_nudge yX7_nudge, Cond.code yX7_nudge cX7_nudge 11 (some .long), Cond.constantLong RX7 89 (6597069766656), Cond.methodLink RX7 91 yX7_worked, Cond.static yX7_worked, Cond.code yX7_worked cX7_worked 3 (some .int)]
def wsL_law_r13 : List Cond := [Cond.methodLink RL 45 yX6_tick, Cond.instanceMethod yX6_tick, Cond.selects RX6 yX6_tick yX6_tick, Cond.code yX6_tick cX6_tick 9 (some .long), Cond.methodLink RX6 91 ⟨"ReelBarn$Reel", "stepUp", "(I)V"⟩, Cond.sameMethod "ReelBarn$Reel" "ReelBarn$Reel" "stepUp" "(I)V", Cond.instanceMethod ⟨"ReelBarn$Reel", "stepUp", "(I)V"⟩, Cond.selects RX0 ⟨"ReelBarn$Reel", "stepUp", "(I)V"⟩ yX0_stepUp, Cond.instanceMethod yX0_stepUp, Cond.code yX0_stepUp cX0_stepUp 2 none, Cond.code yX3_stepUp cX3_stepUp 2 none, Cond.selects RX1 ⟨"ReelBarn$Reel", "stepUp", "(I)V"⟩ yX3_stepUp, Cond.instanceMethod yX3_stepUp, Cond.selects RX2 ⟨"ReelBarn$Reel", "stepUp", "(I)V"⟩ yX3_stepUp, Cond.selects RX5 ⟨"ReelBarn$Reel", "stepUp", "(I)V"⟩ yX3_stepUp, Cond.methodLink RL 49 yX7_tick, Cond.instanceMethod yX7_tick, Cond.selects RX7 yX7_tick yX7_tick, Cond.code yX7_tick cX7_tick 11 (some .long), Cond.methodLink RL 50 yX6_blend, Cond.instanceMethod yX6_blend, Cond.selects RX6 yX6_blend yX6_blend, Cond.code yX6_blend cX6_blend 12 (some .long), Cond.methodLink RX6 95 yX6_goTogether]
def wsL_law_r14 : List Cond := [Cond.static yX6_goTogether, Cond.code yX6_goTogether cX6_goTogether 2 (some .boolean), Cond.methodLink RX6 98 ⟨"ReelBarn$Reel", "level", "(I)F"⟩, Cond.sameMethod "ReelBarn$Reel" "ReelBarn$Reel" "level" "(I)F", Cond.instanceMethod ⟨"ReelBarn$Reel", "level", "(I)F"⟩, Cond.selects RX0 ⟨"ReelBarn$Reel", "level", "(I)F"⟩ yX0_level, Cond.instanceMethod yX0_level, Cond.code yX0_level cX0_level 2 (some .float), Cond.code yX3_level cX3_level 2 (some .float), Cond.selects RX1 ⟨"ReelBarn$Reel", "level", "(I)F"⟩ yX3_level, Cond.instanceMethod yX3_level, Cond.selects RX2 ⟨"ReelBarn$Reel", "level", "(I)F"⟩ yX3_level, Cond.selects RX5 ⟨"ReelBarn$Reel", "level", "(I)F"⟩ yX3_level, Cond.methodLink RX6 102 yX6_blendFloats, Cond.static yX6_blendFloats, Cond.code yX6_blendFloats cX6_blendFloats 5 none, Cond.methodLink RX6 138 ⟨"ReelBarn$Reel", "putLevel", "(IF)V"⟩, Cond.sameMethod "ReelBarn$Reel" "ReelBarn$Reel" "putLevel" "(IF)V", Cond.instanceMethod ⟨"ReelBarn$Reel", "putLevel", "(IF)V"⟩, Cond.selects RX0 ⟨"ReelBarn$Reel", "putLevel", "(IF)V"⟩ yX0_putLevel, Cond.code yX3_putLevel cX3_putLevel 3 none, Cond.selects RX1 ⟨"ReelBarn$Reel", "putLevel", "(IF)V"⟩ yX3_putLevel, Cond.instanceMethod yX3_putLevel, Cond.selects RX2 ⟨"ReelBarn$Reel", "putLevel", "(IF)V"⟩ yX3_putLevel]
def wsL_law_r15 : List Cond := [Cond.selects RX5 ⟨"ReelBarn$Reel", "putLevel", "(IF)V"⟩ yX3_putLevel, Cond.methodLink RX6 106 yX6_howToBlend, Cond.static yX6_howToBlend, Cond.code yX6_howToBlend cX6_howToBlend 2 (some .int), Cond.methodLink RL 54 yX7_blend, Cond.instanceMethod yX7_blend, Cond.selects RX7 yX7_blend yX7_blend, Cond.code yX7_blend cX7_blend 17 (some .long), Cond.methodLink RL 55 yX6_hang, Cond.instanceMethod yX6_hang, Cond.selects RX6 yX6_hang yX6_hang, Cond.code yX6_hang cX6_hang 6 (some .long), Cond.methodLink RX6 110 yX6_gridFault, Cond.static yX6_gridFault, Cond.code yX6_gridFault cX6_gridFault 2 (some .long), Cond.methodLink RX6 113 yX6_newWall, Cond.static yX6_newWall, Cond.code yX6_newWall cX6_newWall 5 (some (.object "ReelBarn$Wall")), Cond.instantiable RX4 1, Cond.initialized RX4, Cond.fieldLink RX6 120 "ReelBarn$Wall" "rows" "[LReelBarn$Reel;", Cond.methodLink RX6 160 yX4_init, Cond.instanceMethod yX4_init, Cond.code yX4_init cX4_init 2 none]
def wsL_law_r16 : List Cond := [Cond.methodLink RX4 1 objectInit, Cond.classLink RX4 7 RX3, Cond.fieldLink RX4 9 "ReelBarn$Wall" "rows" "[LReelBarn$Reel;", Cond.methodLink RL 58 yX7_hang, Cond.instanceMethod yX7_hang, Cond.selects RX7 yX7_hang yX7_hang, Cond.code yX7_hang cX7_hang 5 (some .long), Cond.methodLink RL 59 yX6_pin, Cond.instanceMethod yX6_pin, Cond.selects RX6 yX6_pin yX6_pin, Cond.code yX6_pin cX6_pin 7 (some .long), Cond.methodLink RX6 117 yX6_rowFault, Cond.instanceMethod yX6_rowFault, Cond.selects RX6 yX6_rowFault yX6_rowFault, Cond.code yX6_rowFault cX6_rowFault 5 (some .long), Cond.methodLink RX6 126 yX6_wallFault, Cond.instanceMethod yX6_wallFault, Cond.selects RX6 yX6_wallFault yX6_wallFault, Cond.code yX6_wallFault cX6_wallFault 2 (some .long), Cond.methodLink RL 62 yX7_pin, Cond.instanceMethod yX7_pin, Cond.selects RX7 yX7_pin yX7_pin, Cond.code yX7_pin cX7_pin 6 (some .long), Cond.methodLink RX7 95 yX7_againstRow]
def wsL_law_r17 : List Cond := [Cond.instanceMethod yX7_againstRow, Cond.selects RX7 yX7_againstRow yX7_againstRow, Cond.code yX7_againstRow cX7_againstRow 3 (some .long), Cond.methodLink RL 63 yX6_peel, Cond.instanceMethod yX6_peel, Cond.selects RX6 yX6_peel yX6_peel, Cond.code yX6_peel cX6_peel 7 (some .long), Cond.methodLink RL 66 yX7_peel, Cond.instanceMethod yX7_peel, Cond.selects RX7 yX7_peel yX7_peel, Cond.code yX7_peel cX7_peel 6 (some .long), Cond.methodLink RL 67 yX6_spot, Cond.instanceMethod yX6_spot, Cond.selects RX6 yX6_spot yX6_spot, Cond.code yX6_spot cX6_spot 6 (some .long), Cond.methodLink RX6 123 yX6_wallPlaceFault, Cond.instanceMethod yX6_wallPlaceFault, Cond.selects RX6 yX6_wallPlaceFault yX6_wallPlaceFault, Cond.code yX6_wallPlaceFault cX6_wallPlaceFault 6 (some .long), Cond.methodLink RX6 130 yX6_wallReelFault, Cond.instanceMethod yX6_wallReelFault, Cond.selects RX6 yX6_wallReelFault yX6_wallReelFault, Cond.code yX6_wallReelFault cX6_wallReelFault 5 (some .long), Cond.constantLong RX6 145 (7696581394432)]
def wsL_law_r18 : List Cond := [Cond.methodLink RL 70 yX7_spot, Cond.instanceMethod yX7_spot, Cond.selects RX7 yX7_spot yX7_spot, Cond.code yX7_spot cX7_spot 6 (some .long), Cond.methodLink RX7 100 yX7_againstPlace, Cond.instanceMethod yX7_againstPlace, Cond.selects RX7 yX7_againstPlace yX7_againstPlace, Cond.code yX7_againstPlace cX7_againstPlace 7 (some .long), Cond.constantLong RX7 98 (7696581394432), Cond.methodLink RL 71 yX6_paint, Cond.instanceMethod yX6_paint, Cond.selects RX6 yX6_paint yX6_paint, Cond.code yX6_paint cX6_paint 8 (some .long), Cond.methodLink RL 74 yX7_paint, Cond.instanceMethod yX7_paint, Cond.selects RX7 yX7_paint yX7_paint, Cond.code yX7_paint cX7_paint 7 (some .long), Cond.methodLink RL 75 yX6_span, Cond.instanceMethod yX6_span, Cond.selects RX6 yX6_span yX6_span, Cond.code yX6_span cX6_span 6 (some .long), Cond.methodLink RL 78 yX7_span, Cond.instanceMethod yX7_span, Cond.selects RX7 yX7_span yX7_span]
def wsL_law_r19 : List Cond := [Cond.code yX7_span cX7_span 6 (some .long), Cond.methodLink RL 79 yX6_chart, Cond.instanceMethod yX6_chart, Cond.selects RX6 yX6_chart yX6_chart, Cond.code yX6_chart cX6_chart 5 (some .long), Cond.classLink RX6 133 "[[I", Cond.methodLink RL 82 yX7_chart, Cond.instanceMethod yX7_chart, Cond.selects RX7 yX7_chart yX7_chart, Cond.code yX7_chart cX7_chart 4 (some .long), Cond.fieldLink RX7 103 "ReelBarnModel" "chartColumns" "I", Cond.methodLink RL 83 yX6_note, Cond.instanceMethod yX6_note, Cond.selects RX6 yX6_note yX6_note, Cond.code yX6_note cX6_note 5 (some .long), Cond.methodLink RL 86 yX7_note, Cond.instanceMethod yX7_note, Cond.selects RX7 yX7_note yX7_note, Cond.code yX7_note cX7_note 4 (some .long), Cond.methodLink RL 87 yX6_tally, Cond.instanceMethod yX6_tally, Cond.selects RX6 yX6_tally yX6_tally, Cond.code yX6_tally cX6_tally 2 (some .int), Cond.methodLink RL 91 yX7_tally]
def wsL_law_r20 : List Cond := [Cond.instanceMethod yX7_tally, Cond.selects RX7 yX7_tally yX7_tally, Cond.code yX7_tally cX7_tally 2 (some .int)]
def wsL_law : List Cond := (wsL_law_r1 ++ (wsL_law_r2 ++ (wsL_law_r3 ++ (wsL_law_r4 ++ (wsL_law_r5 ++ (wsL_law_r6 ++ (wsL_law_r7 ++ (wsL_law_r8 ++ (wsL_law_r9 ++ (wsL_law_r10 ++ (wsL_law_r11 ++ (wsL_law_r12 ++ (wsL_law_r13 ++ (wsL_law_r14 ++ (wsL_law_r15 ++ (wsL_law_r16 ++ (wsL_law_r17 ++ (wsL_law_r18 ++ (wsL_law_r19 ++ wsL_law_r20))))))))))))))))))) ++ wsX60 ++ wsX70 ++ wsX20 ++ wsX50 ++ wsX00 ++ wsX10 ++ wsX40 ++ ([] : List Cond)
abbrev vwCl : List vw_C := [(RX0, TX0, 1), (RX1, TX1, 1), (RX2, TX2, 1), (RX4, TX4, 1), (RX5, TX5, 1), (RX6, TX6, 4), (RX7, TX7, 11)]
end
section
set_option maxRecDepth 20000 in
theorem wsL_in_r1 : ∀ w ∈ wsL_law_r1, w ∈ lw_tbl := fun w h => (goodIn_p wsL_law_r1 [29, 32, 370] (by decide +kernel) (by decide +kernel) w h).1
set_option maxRecDepth 20000 in
theorem wsL_in_r2 : ∀ w ∈ wsL_law_r2, w ∈ lw_tbl := fun w h => (goodIn_p wsL_law_r2 [54, 57, 60] (by decide +kernel) (by decide +kernel) w h).1
set_option maxRecDepth 20000 in
theorem wsL_in_r3 : ∀ w ∈ wsL_law_r3, w ∈ lw_tbl := fun w h => (goodIn_p wsL_law_r3 [65, 70, 75] (by decide +kernel) (by decide +kernel) w h).1
set_option maxRecDepth 20000 in
theorem wsL_in_r4 : ∀ w ∈ wsL_law_r4, w ∈ lw_tbl := fun w h => (goodIn_p wsL_law_r4 [78, 89, 100, 111, 121] (by decide +kernel) (by decide +kernel) w h).1
set_option maxRecDepth 20000 in
theorem wsL_in_r5 : ∀ w ∈ wsL_law_r5, w ∈ lw_tbl := fun w h => (goodIn_p wsL_law_r5 [409, 412, 417, 423, 125, 129] (by decide +kernel) (by decide +kernel) w h).1
set_option maxRecDepth 20000 in
theorem wsL_in_r6 : ∀ w ∈ wsL_law_r6, w ∈ lw_tbl := fun w h => (goodIn_p wsL_law_r6 [133, 140, 143, 146, 149, 427] (by decide +kernel) (by decide +kernel) w h).1
set_option maxRecDepth 20000 in
theorem wsL_in_r7 : ∀ w ∈ wsL_law_r7, w ∈ lw_tbl := fun w h => (goodIn_p wsL_law_r7 [153, 156, 432, 160, 436, 164] (by decide +kernel) (by decide +kernel) w h).1
end
section
set_option maxRecDepth 20000 in
theorem wsL_in_r8 : ∀ w ∈ wsL_law_r8, w ∈ lw_tbl := fun w h => (goodIn_p wsL_law_r8 [168, 176, 184, 188, 191] (by decide +kernel) (by decide +kernel) w h).1
set_option maxRecDepth 20000 in
theorem wsL_in_r9 : ∀ w ∈ wsL_law_r9, w ∈ lw_tbl := fun w h => (goodIn_p wsL_law_r9 [194, 440, 444, 449, 198] (by decide +kernel) (by decide +kernel) w h).1
set_option maxRecDepth 20000 in
theorem wsL_in_r10 : ∀ w ∈ wsL_law_r10, w ∈ lw_tbl := fun w h => (goodIn_p wsL_law_r10 [204, 207, 211, 214, 219, 222, 225] (by decide +kernel) (by decide +kernel) w h).1
set_option maxRecDepth 20000 in
theorem wsL_in_r11 : ∀ w ∈ wsL_law_r11, w ∈ lw_tbl := fun w h => (goodIn_p wsL_law_r11 [454, 458, 462, 465, 229, 232] (by decide +kernel) (by decide +kernel) w h).1
set_option maxRecDepth 20000 in
theorem wsL_in_r12 : ∀ w ∈ wsL_law_r12, w ∈ lw_tbl := fun w h => (goodIn_p wsL_law_r12 [239, 243, 247, 471, 475] (by decide +kernel) (by decide +kernel) w h).1
set_option maxRecDepth 20000 in
theorem wsL_in_r13 : ∀ w ∈ wsL_law_r13, w ∈ lw_tbl := fun w h => (goodIn_p wsL_law_r13 [252, 258, 262, 479, 266] (by decide +kernel) (by decide +kernel) w h).1
set_option maxRecDepth 20000 in
theorem wsL_in_r14 : ∀ w ∈ wsL_law_r14, w ∈ lw_tbl := fun w h => (goodIn_p wsL_law_r14 [269, 275, 279, 282, 290] (by decide +kernel) (by decide +kernel) w h).1
end
section
set_option maxRecDepth 20000 in
theorem wsL_in_r15 : ∀ w ∈ wsL_law_r15, w ∈ lw_tbl := fun w h => (goodIn_p wsL_law_r15 [293, 483, 297, 300, 303, 307] (by decide +kernel) (by decide +kernel) w h).1
set_option maxRecDepth 20000 in
theorem wsL_in_r16 : ∀ w ∈ wsL_law_r16, w ∈ lw_tbl := fun w h => (goodIn_p wsL_law_r16 [487, 318, 322, 326, 491] (by decide +kernel) (by decide +kernel) w h).1
set_option maxRecDepth 20000 in
theorem wsL_in_r17 : ∀ w ∈ wsL_law_r17, w ∈ lw_tbl := fun w h => (goodIn_p wsL_law_r17 [495, 330, 499, 334, 338, 342] (by decide +kernel) (by decide +kernel) w h).1
set_option maxRecDepth 20000 in
theorem wsL_in_r18 : ∀ w ∈ wsL_law_r18, w ∈ lw_tbl := fun w h => (goodIn_p wsL_law_r18 [503, 507, 347, 512, 351] (by decide +kernel) (by decide +kernel) w h).1
set_option maxRecDepth 20000 in
theorem wsL_in_r19 : ∀ w ∈ wsL_law_r19, w ∈ lw_tbl := fun w h => (goodIn_p wsL_law_r19 [516, 355, 520, 361, 524, 365] (by decide +kernel) (by decide +kernel) w h).1
set_option maxRecDepth 20000 in
theorem wsL_in_r20 : ∀ w ∈ wsL_law_r20, w ∈ lw_tbl := fun w h => (goodIn_p wsL_law_r20 [528] (by decide +kernel) (by decide +kernel) w h).1
set_option maxRecDepth 20000 in
theorem wsL_in_x60 : ∀ w ∈ wsX60, w ∈ lw_tbl := by decide +kernel
set_option maxRecDepth 20000 in
theorem wsL_in_x70 : ∀ w ∈ wsX70, w ∈ lw_tbl := by decide +kernel
set_option maxRecDepth 20000 in
theorem wsL_in_x20 : ∀ w ∈ wsX20, w ∈ lw_tbl := by decide +kernel
set_option maxRecDepth 20000 in
theorem wsL_in_x50 : ∀ w ∈ wsX50, w ∈ lw_tbl := by decide +kernel
set_option maxRecDepth 20000 in
theorem wsL_in_x00 : ∀ w ∈ wsX00, w ∈ lw_tbl := by decide +kernel
set_option maxRecDepth 20000 in
theorem wsL_in_x10 : ∀ w ∈ wsX10, w ∈ lw_tbl := by decide +kernel
set_option maxRecDepth 20000 in
theorem wsL_in_x40 : ∀ w ∈ wsX40, w ∈ lw_tbl := by decide +kernel
theorem zapp {a b t : List Cond} (ha : ∀ w ∈ a, w ∈ t) (hb : ∀ w ∈ b, w ∈ t) : ∀ w ∈ a ++ b, w ∈ t := fun w h => (List.mem_append.mp h).elim (ha w) (hb w)
theorem wsL_law_in : ∀ w ∈ wsL_law, w ∈ lw_tbl := (zapp (zapp (zapp (zapp (zapp (zapp (zapp (zapp (zapp wsL_in_r1 (zapp wsL_in_r2 (zapp wsL_in_r3 (zapp wsL_in_r4 (zapp wsL_in_r5 (zapp wsL_in_r6 (zapp wsL_in_r7 (zapp wsL_in_r8 (zapp wsL_in_r9 (zapp wsL_in_r10 (zapp wsL_in_r11 (zapp wsL_in_r12 (zapp wsL_in_r13 (zapp wsL_in_r14 (zapp wsL_in_r15 (zapp wsL_in_r16 (zapp wsL_in_r17 (zapp wsL_in_r18 (zapp wsL_in_r19 wsL_in_r20))))))))))))))))))) wsL_in_x60) wsL_in_x70) wsL_in_x20) wsL_in_x50) wsL_in_x00) wsL_in_x10) wsL_in_x40) (fun w h => absurd h List.not_mem_nil))
theorem inlX0 : ∀ w ∈ wsX00, w ∈ wsL_law := fun _ h => List.mem_append_left _ (List.mem_append_left _ (List.mem_append_left _ (List.mem_append_right _ h)))
theorem inX0 : ∀ w ∈ wsX00, w ∈ lw_tbl := fun w h => wsL_law_in w (inlX0 w h)
theorem inlX1 : ∀ w ∈ wsX10, w ∈ wsL_law := fun _ h => List.mem_append_left _ (List.mem_append_left _ (List.mem_append_right _ h))
theorem inX1 : ∀ w ∈ wsX10, w ∈ lw_tbl := fun w h => wsL_law_in w (inlX1 w h)
theorem inlX2 : ∀ w ∈ wsX20, w ∈ wsL_law := fun _ h => List.mem_append_left _ (List.mem_append_left _ (List.mem_append_left _ (List.mem_append_left _ (List.mem_append_left _ (List.mem_append_right _ h)))))
theorem inX2 : ∀ w ∈ wsX20, w ∈ lw_tbl := fun w h => wsL_law_in w (inlX2 w h)
theorem inX3 : ∀ w ∈ wsX30, w ∈ lw_tbl := by decide +kernel
theorem inlX4 : ∀ w ∈ wsX40, w ∈ wsL_law := fun _ h => List.mem_append_left _ (List.mem_append_right _ h)
theorem inX4 : ∀ w ∈ wsX40, w ∈ lw_tbl := fun w h => wsL_law_in w (inlX4 w h)
theorem inlX5 : ∀ w ∈ wsX50, w ∈ wsL_law := fun _ h => List.mem_append_left _ (List.mem_append_left _ (List.mem_append_left _ (List.mem_append_left _ (List.mem_append_right _ h))))
theorem inX5 : ∀ w ∈ wsX50, w ∈ lw_tbl := fun w h => wsL_law_in w (inlX5 w h)
theorem inlX6 : ∀ w ∈ wsX60, w ∈ wsL_law := fun _ h => List.mem_append_left _ (List.mem_append_left _ (List.mem_append_left _ (List.mem_append_left _ (List.mem_append_left _ (List.mem_append_left _ (List.mem_append_left _ (List.mem_append_right _ h)))))))
theorem inX6 : ∀ w ∈ wsX60, w ∈ lw_tbl := fun w h => wsL_law_in w (inlX6 w h)
theorem inlX7 : ∀ w ∈ wsX70, w ∈ wsL_law := fun _ h => List.mem_append_left _ (List.mem_append_left _ (List.mem_append_left _ (List.mem_append_left _ (List.mem_append_left _ (List.mem_append_left _ (List.mem_append_right _ h))))))
theorem inX7 : ∀ w ∈ wsX70, w ∈ lw_tbl := fun w h => wsL_law_in w (inlX7 w h)
end
section
set_option maxRecDepth 20000 in
theorem ggX0_init_X3_init : GoodIn wsX0_init wsX3_init := goodIn_r _ [5, 6, 7, 8] (by decide +kernel) (by decide +kernel)
set_option maxRecDepth 20000 in
theorem gX0_init_X3_init_n3 : GoodIn wsX0_init (wsX3_init) := ggX0_init_X3_init
theorem dX0_init_0 : decode cX0_init 0 = .ok (.aload_n 0, 1) := by decide +kernel
theorem dX0_init_1 : decode cX0_init 1 = .ok (.invokespecial 3, 3) := by decide +kernel
theorem dX0_init_4 : decode cX0_init 4 = .ok (.aload_n 0, 1) := by decide +kernel
theorem dX0_init_5 : decode cX0_init 5 = .ok (.iload_n 1, 1) := by decide +kernel
theorem dX0_init_6 : decode cX0_init 6 = .ok (.newarray .float, 2) := by decide +kernel
theorem dX0_init_8 : decode cX0_init 8 = .ok (.putfield 9, 3) := by decide +kernel
theorem dX0_init_11 : decode cX0_init 11 = .ok (.return_, 1) := by decide +kernel
theorem dX0_places_0 : decode cX0_places 0 = .ok (.aload_n 0, 1) := by decide +kernel
theorem dX0_places_1 : decode cX0_places 1 = .ok (.getfield 9, 3) := by decide +kernel
theorem dX0_places_4 : decode cX0_places 4 = .ok (.arraylength, 1) := by decide +kernel
theorem dX0_places_5 : decode cX0_places 5 = .ok (.ireturn, 1) := by decide +kernel
theorem dX0_told_0 : decode cX0_told 0 = .ok (.aload_n 0, 1) := by decide +kernel
theorem dX0_told_1 : decode cX0_told 1 = .ok (.getfield 9, 3) := by decide +kernel
theorem dX0_told_4 : decode cX0_told 4 = .ok (.iload_n 1, 1) := by decide +kernel
theorem dX0_told_5 : decode cX0_told 5 = .ok (.faload, 1) := by decide +kernel
theorem dX0_told_6 : decode cX0_told 6 = .ok (.ldc 15, 2) := by decide +kernel
theorem dX0_told_8 : decode cX0_told 8 = .ok (.fmul, 1) := by decide +kernel
theorem dX0_told_9 : decode cX0_told 9 = .ok (.f2i, 1) := by decide +kernel
theorem dX0_told_10 : decode cX0_told 10 = .ok (.ireturn, 1) := by decide +kernel
set_option maxRecDepth 20000 in
theorem ggX0_put_X0_levelOf : GoodIn wsX0_put wsX0_levelOf := goodIn_r _ [4, 5] (by decide +kernel) (by decide +kernel)
set_option maxRecDepth 20000 in
theorem gX0_put_X0_levelOf : GoodIn wsX0_put (va_wsS RX0 16 yX0_levelOf wsX0_levelOf) := goodIn_app (goodIn_of _ (by decide +kernel)) ggX0_put_X0_levelOf
set_option maxRecDepth 20000 in
theorem ggX0_put_X0_putLevel : GoodIn wsX0_put wsX0_putLevel := goodIn_r _ [9, 10, 11, 12, 3, 13, 14, 15, 16] (by decide +kernel) (by decide +kernel)
set_option maxRecDepth 20000 in
theorem gX0_put_X0_putLevel : GoodIn wsX0_put (wsV RX0 20 RX0 yX0_putLevel wsX0_putLevel) := goodIn_app (goodIn_of _ (by decide +kernel)) ggX0_put_X0_putLevel
theorem dX0_put_0 : decode cX0_put 0 = .ok (.aload_n 0, 1) := by decide +kernel
theorem dX0_put_1 : decode cX0_put 1 = .ok (.iload_n 1, 1) := by decide +kernel
theorem dX0_put_2 : decode cX0_put 2 = .ok (.iload_n 2, 1) := by decide +kernel
theorem dX0_put_3 : decode cX0_put 3 = .ok (.invokestatic 16, 3) := by decide +kernel
theorem dX0_put_6 : decode cX0_put 6 = .ok (.invokevirtual 20, 3) := by decide +kernel
theorem dX0_put_9 : decode cX0_put 9 = .ok (.return_, 1) := by decide +kernel
set_option maxRecDepth 20000 in
theorem ggX0_change_X0_levelOf : GoodIn wsX0_change wsX0_levelOf := goodIn_r _ [5, 6] (by decide +kernel) (by decide +kernel)
set_option maxRecDepth 20000 in
theorem gX0_change_X0_levelOf : GoodIn wsX0_change (va_wsS RX0 16 yX0_levelOf wsX0_levelOf) := goodIn_app (goodIn_of _ (by decide +kernel)) ggX0_change_X0_levelOf
set_option maxRecDepth 20000 in
theorem ggX0_change_X0_putLevel : GoodIn wsX0_change wsX0_putLevel := goodIn_r _ [10, 1, 11, 12, 4, 13, 14, 15, 16] (by decide +kernel) (by decide +kernel)
set_option maxRecDepth 20000 in
theorem gX0_change_X0_putLevel : GoodIn wsX0_change (wsV RX0 20 RX0 yX0_putLevel wsX0_putLevel) := goodIn_app (goodIn_of _ (by decide +kernel)) ggX0_change_X0_putLevel
theorem dX0_change_0 : decode cX0_change 0 = .ok (.iload_n 3, 1) := by decide +kernel
theorem dX0_change_1 : decode cX0_change 1 = .ok (.invokestatic 16, 3) := by decide +kernel
theorem dX0_change_4 : decode cX0_change 4 = .ok (.fstore 4, 2) := by decide +kernel
theorem dX0_change_6 : decode cX0_change 6 = .ok (.aload_n 0, 1) := by decide +kernel
theorem dX0_change_7 : decode cX0_change 7 = .ok (.iload_n 1, 1) := by decide +kernel
theorem dX0_change_8 : decode cX0_change 8 = .ok (.iload_n 2, 1) := by decide +kernel
theorem dX0_change_9 : decode cX0_change 9 = .ok (.iconst 1, 1) := by decide +kernel
theorem dX0_change_10 : decode cX0_change 10 = .ok (.if_icmp .ne 15, 3) := by decide +kernel
theorem dX0_change_13 : decode cX0_change 13 = .ok (.aload_n 0, 1) := by decide +kernel
theorem dX0_change_14 : decode cX0_change 14 = .ok (.getfield 9, 3) := by decide +kernel
theorem dX0_change_17 : decode cX0_change 17 = .ok (.iload_n 1, 1) := by decide +kernel
theorem dX0_change_18 : decode cX0_change 18 = .ok (.faload, 1) := by decide +kernel
theorem dX0_change_19 : decode cX0_change 19 = .ok (.fload 4, 2) := by decide +kernel
theorem dX0_change_21 : decode cX0_change 21 = .ok (.fsub, 1) := by decide +kernel
theorem dX0_change_22 : decode cX0_change 22 = .ok (.goto 12, 3) := by decide +kernel
theorem dX0_change_25 : decode cX0_change 25 = .ok (.aload_n 0, 1) := by decide +kernel
theorem dX0_change_26 : decode cX0_change 26 = .ok (.getfield 9, 3) := by decide +kernel
theorem dX0_change_29 : decode cX0_change 29 = .ok (.iload_n 1, 1) := by decide +kernel
theorem dX0_change_30 : decode cX0_change 30 = .ok (.faload, 1) := by decide +kernel
theorem dX0_change_31 : decode cX0_change 31 = .ok (.fload 4, 2) := by decide +kernel
theorem dX0_change_33 : decode cX0_change 33 = .ok (.fadd, 1) := by decide +kernel
theorem dX0_change_34 : decode cX0_change 34 = .ok (.invokevirtual 20, 3) := by decide +kernel
theorem dX0_change_37 : decode cX0_change 37 = .ok (.return_, 1) := by decide +kernel
set_option maxRecDepth 20000 in
theorem ggX0_stepUp_X0_putLevel : GoodIn wsX0_stepUp wsX0_putLevel := goodIn_r _ [6, 1, 7, 8, 5, 9, 10, 11, 12] (by decide +kernel) (by decide +kernel)
set_option maxRecDepth 20000 in
theorem gX0_stepUp_X0_putLevel : GoodIn wsX0_stepUp (wsV RX0 20 RX0 yX0_putLevel wsX0_putLevel) := goodIn_app (goodIn_of _ (by decide +kernel)) ggX0_stepUp_X0_putLevel
theorem dX0_stepUp_0 : decode cX0_stepUp 0 = .ok (.aload_n 0, 1) := by decide +kernel
theorem dX0_stepUp_1 : decode cX0_stepUp 1 = .ok (.iload_n 1, 1) := by decide +kernel
theorem dX0_stepUp_2 : decode cX0_stepUp 2 = .ok (.aload_n 0, 1) := by decide +kernel
theorem dX0_stepUp_3 : decode cX0_stepUp 3 = .ok (.getfield 9, 3) := by decide +kernel
theorem dX0_stepUp_6 : decode cX0_stepUp 6 = .ok (.iload_n 1, 1) := by decide +kernel
theorem dX0_stepUp_7 : decode cX0_stepUp 7 = .ok (.faload, 1) := by decide +kernel
theorem dX0_stepUp_8 : decode cX0_stepUp 8 = .ok (.fconst 1, 1) := by decide +kernel
theorem dX0_stepUp_9 : decode cX0_stepUp 9 = .ok (.fadd, 1) := by decide +kernel
theorem dX0_stepUp_10 : decode cX0_stepUp 10 = .ok (.invokevirtual 20, 3) := by decide +kernel
theorem dX0_stepUp_13 : decode cX0_stepUp 13 = .ok (.return_, 1) := by decide +kernel
theorem dX0_level_0 : decode cX0_level 0 = .ok (.aload_n 0, 1) := by decide +kernel
theorem dX0_level_1 : decode cX0_level 1 = .ok (.getfield 9, 3) := by decide +kernel
theorem dX0_level_4 : decode cX0_level 4 = .ok (.iload_n 1, 1) := by decide +kernel
theorem dX0_level_5 : decode cX0_level 5 = .ok (.faload, 1) := by decide +kernel
theorem dX0_level_6 : decode cX0_level 6 = .ok (.freturn, 1) := by decide +kernel
set_option maxRecDepth 20000 in
theorem ggX0_putLevel_X0_bounded : GoodIn wsX0_putLevel wsX0_bounded := goodIn_r _ [5, 6, 7] (by decide +kernel) (by decide +kernel)
set_option maxRecDepth 20000 in
theorem gX0_putLevel_X0_bounded : GoodIn wsX0_putLevel (va_wsS RX0 24 yX0_bounded wsX0_bounded) := goodIn_app (goodIn_of _ (by decide +kernel)) ggX0_putLevel_X0_bounded
theorem dX0_putLevel_0 : decode cX0_putLevel 0 = .ok (.aload_n 0, 1) := by decide +kernel
theorem dX0_putLevel_1 : decode cX0_putLevel 1 = .ok (.getfield 9, 3) := by decide +kernel
theorem dX0_putLevel_4 : decode cX0_putLevel 4 = .ok (.iload_n 1, 1) := by decide +kernel
theorem dX0_putLevel_5 : decode cX0_putLevel 5 = .ok (.fload_n 2, 1) := by decide +kernel
theorem dX0_putLevel_6 : decode cX0_putLevel 6 = .ok (.invokestatic 24, 3) := by decide +kernel
theorem dX0_putLevel_9 : decode cX0_putLevel 9 = .ok (.fastore, 1) := by decide +kernel
theorem dX0_putLevel_10 : decode cX0_putLevel 10 = .ok (.return_, 1) := by decide +kernel
theorem dX0_levelOf_0 : decode cX0_levelOf 0 = .ok (.iload_n 0, 1) := by decide +kernel
theorem dX0_levelOf_1 : decode cX0_levelOf 1 = .ok (.i2f, 1) := by decide +kernel
theorem dX0_levelOf_2 : decode cX0_levelOf 2 = .ok (.ldc 15, 2) := by decide +kernel
theorem dX0_levelOf_4 : decode cX0_levelOf 4 = .ok (.fdiv, 1) := by decide +kernel
theorem dX0_levelOf_5 : decode cX0_levelOf 5 = .ok (.freturn, 1) := by decide +kernel
theorem dX0_bounded_0 : decode cX0_bounded 0 = .ok (.fload_n 0, 1) := by decide +kernel
theorem dX0_bounded_1 : decode cX0_bounded 1 = .ok (.ldc 28, 2) := by decide +kernel
theorem dX0_bounded_3 : decode cX0_bounded 3 = .ok (.fcmp .l, 1) := by decide +kernel
theorem dX0_bounded_4 : decode cX0_bounded 4 = .ok (.ifCond .le 6, 3) := by decide +kernel
theorem dX0_bounded_7 : decode cX0_bounded 7 = .ok (.ldc 28, 2) := by decide +kernel
theorem dX0_bounded_9 : decode cX0_bounded 9 = .ok (.freturn, 1) := by decide +kernel
theorem dX0_bounded_10 : decode cX0_bounded 10 = .ok (.fload_n 0, 1) := by decide +kernel
theorem dX0_bounded_11 : decode cX0_bounded 11 = .ok (.ldc 29, 2) := by decide +kernel
theorem dX0_bounded_13 : decode cX0_bounded 13 = .ok (.fcmp .g, 1) := by decide +kernel
theorem dX0_bounded_14 : decode cX0_bounded 14 = .ok (.ifCond .ge 8, 3) := by decide +kernel
theorem dX0_bounded_17 : decode cX0_bounded 17 = .ok (.ldc 29, 2) := by decide +kernel
theorem dX0_bounded_19 : decode cX0_bounded 19 = .ok (.goto 4, 3) := by decide +kernel
theorem dX0_bounded_22 : decode cX0_bounded 22 = .ok (.fload_n 0, 1) := by decide +kernel
theorem dX0_bounded_23 : decode cX0_bounded 23 = .ok (.freturn, 1) := by decide +kernel
set_option maxRecDepth 20000 in
theorem ggX1_init_X3_init : GoodIn wsX1_init wsX3_init := goodIn_r _ [5, 6, 7, 8] (by decide +kernel) (by decide +kernel)
set_option maxRecDepth 20000 in
theorem gX1_init_X3_init_n1 : GoodIn wsX1_init (wsX3_init) := ggX1_init_X3_init
theorem dX1_init_0 : decode cX1_init 0 = .ok (.aload_n 0, 1) := by decide +kernel
theorem dX1_init_1 : decode cX1_init 1 = .ok (.invokespecial 1, 3) := by decide +kernel
theorem dX1_init_4 : decode cX1_init 4 = .ok (.aload_n 0, 1) := by decide +kernel
theorem dX1_init_5 : decode cX1_init 5 = .ok (.iload_n 1, 1) := by decide +kernel
theorem dX1_init_6 : decode cX1_init 6 = .ok (.newarray .boolean, 2) := by decide +kernel
theorem dX1_init_8 : decode cX1_init 8 = .ok (.putfield 7, 3) := by decide +kernel
theorem dX1_init_11 : decode cX1_init 11 = .ok (.return_, 1) := by decide +kernel
theorem dX1_places_0 : decode cX1_places 0 = .ok (.aload_n 0, 1) := by decide +kernel
theorem dX1_places_1 : decode cX1_places 1 = .ok (.getfield 7, 3) := by decide +kernel
theorem dX1_places_4 : decode cX1_places 4 = .ok (.arraylength, 1) := by decide +kernel
theorem dX1_places_5 : decode cX1_places 5 = .ok (.ireturn, 1) := by decide +kernel
theorem dX1_told_0 : decode cX1_told 0 = .ok (.aload_n 0, 1) := by decide +kernel
theorem dX1_told_1 : decode cX1_told 1 = .ok (.getfield 7, 3) := by decide +kernel
theorem dX1_told_4 : decode cX1_told 4 = .ok (.iload_n 1, 1) := by decide +kernel
theorem dX1_told_5 : decode cX1_told 5 = .ok (.baload, 1) := by decide +kernel
theorem dX1_told_6 : decode cX1_told 6 = .ok (.ifCond .eq 7, 3) := by decide +kernel
theorem dX1_told_9 : decode cX1_told 9 = .ok (.iconst 1, 1) := by decide +kernel
theorem dX1_told_10 : decode cX1_told 10 = .ok (.goto 4, 3) := by decide +kernel
theorem dX1_told_13 : decode cX1_told 13 = .ok (.iconst 0, 1) := by decide +kernel
theorem dX1_told_14 : decode cX1_told 14 = .ok (.ireturn, 1) := by decide +kernel
theorem dX1_put_0 : decode cX1_put 0 = .ok (.aload_n 0, 1) := by decide +kernel
theorem dX1_put_1 : decode cX1_put 1 = .ok (.getfield 7, 3) := by decide +kernel
theorem dX1_put_4 : decode cX1_put 4 = .ok (.iload_n 1, 1) := by decide +kernel
theorem dX1_put_5 : decode cX1_put 5 = .ok (.iload_n 2, 1) := by decide +kernel
theorem dX1_put_6 : decode cX1_put 6 = .ok (.iconst 1, 1) := by decide +kernel
theorem dX1_put_7 : decode cX1_put 7 = .ok (.iand, 1) := by decide +kernel
theorem dX1_put_8 : decode cX1_put 8 = .ok (.iconst 1, 1) := by decide +kernel
theorem dX1_put_9 : decode cX1_put 9 = .ok (.if_icmp .ne 7, 3) := by decide +kernel
theorem dX1_put_12 : decode cX1_put 12 = .ok (.iconst 1, 1) := by decide +kernel
theorem dX1_put_13 : decode cX1_put 13 = .ok (.goto 4, 3) := by decide +kernel
theorem dX1_put_16 : decode cX1_put 16 = .ok (.iconst 0, 1) := by decide +kernel
theorem dX1_put_17 : decode cX1_put 17 = .ok (.bastore, 1) := by decide +kernel
theorem dX1_put_18 : decode cX1_put 18 = .ok (.return_, 1) := by decide +kernel
set_option maxRecDepth 20000 in
theorem ggX2_init_X3_init : GoodIn wsX2_init wsX3_init := goodIn_r _ [5, 6, 7, 8] (by decide +kernel) (by decide +kernel)
set_option maxRecDepth 20000 in
theorem gX2_init_X3_init_n1 : GoodIn wsX2_init (wsX3_init) := ggX2_init_X3_init
theorem dX2_init_0 : decode cX2_init 0 = .ok (.aload_n 0, 1) := by decide +kernel
theorem dX2_init_1 : decode cX2_init 1 = .ok (.invokespecial 1, 3) := by decide +kernel
theorem dX2_init_4 : decode cX2_init 4 = .ok (.aload_n 0, 1) := by decide +kernel
theorem dX2_init_5 : decode cX2_init 5 = .ok (.iload_n 1, 1) := by decide +kernel
theorem dX2_init_6 : decode cX2_init 6 = .ok (.newarray .char, 2) := by decide +kernel
theorem dX2_init_8 : decode cX2_init 8 = .ok (.putfield 7, 3) := by decide +kernel
theorem dX2_init_11 : decode cX2_init 11 = .ok (.return_, 1) := by decide +kernel
theorem dX2_places_0 : decode cX2_places 0 = .ok (.aload_n 0, 1) := by decide +kernel
theorem dX2_places_1 : decode cX2_places 1 = .ok (.getfield 7, 3) := by decide +kernel
theorem dX2_places_4 : decode cX2_places 4 = .ok (.arraylength, 1) := by decide +kernel
theorem dX2_places_5 : decode cX2_places 5 = .ok (.ireturn, 1) := by decide +kernel
theorem dX2_told_0 : decode cX2_told 0 = .ok (.aload_n 0, 1) := by decide +kernel
theorem dX2_told_1 : decode cX2_told 1 = .ok (.getfield 7, 3) := by decide +kernel
theorem dX2_told_4 : decode cX2_told 4 = .ok (.iload_n 1, 1) := by decide +kernel
theorem dX2_told_5 : decode cX2_told 5 = .ok (.caload, 1) := by decide +kernel
theorem dX2_told_6 : decode cX2_told 6 = .ok (.ireturn, 1) := by decide +kernel
theorem dX2_put_0 : decode cX2_put 0 = .ok (.aload_n 0, 1) := by decide +kernel
theorem dX2_put_1 : decode cX2_put 1 = .ok (.getfield 7, 3) := by decide +kernel
theorem dX2_put_4 : decode cX2_put 4 = .ok (.iload_n 1, 1) := by decide +kernel
theorem dX2_put_5 : decode cX2_put 5 = .ok (.iload_n 2, 1) := by decide +kernel
theorem dX2_put_6 : decode cX2_put 6 = .ok (.i2c, 1) := by decide +kernel
theorem dX2_put_7 : decode cX2_put 7 = .ok (.castore, 1) := by decide +kernel
theorem dX2_put_8 : decode cX2_put 8 = .ok (.return_, 1) := by decide +kernel
theorem dX3_init_0 : decode cX3_init 0 = .ok (.aload_n 0, 1) := by decide +kernel
theorem dX3_init_1 : decode cX3_init 1 = .ok (.invokespecial 3, 3) := by decide +kernel
theorem dX3_init_4 : decode cX3_init 4 = .ok (.return_, 1) := by decide +kernel
set_option maxRecDepth 20000 in
theorem ggX3_has_X0_places : GoodIn wsX3_has wsX0_places := goodIn_r _ [6, 7, 23] (by decide +kernel) (by decide +kernel)
set_option maxRecDepth 20000 in
theorem gX3_has_X0_places_u9X0 : GoodIn wsX3_has (va_wsU RX3 9 RX0 "ReelBarn$Reel" ⟨"ReelBarn$Reel", "places", "()I"⟩ yX0_places wsX0_places) := goodIn_app (goodIn_of _ (by decide +kernel)) ggX3_has_X0_places
set_option maxRecDepth 20000 in
theorem ggX3_has_X1_places : GoodIn wsX3_has wsX1_places := goodIn_r _ [11, 12, 24] (by decide +kernel) (by decide +kernel)
set_option maxRecDepth 20000 in
theorem gX3_has_X1_places_u9X1 : GoodIn wsX3_has (va_wsU RX3 9 RX1 "ReelBarn$Reel" ⟨"ReelBarn$Reel", "places", "()I"⟩ yX1_places wsX1_places) := goodIn_app (goodIn_of _ (by decide +kernel)) ggX3_has_X1_places
set_option maxRecDepth 20000 in
theorem ggX3_has_X2_places : GoodIn wsX3_has wsX2_places := goodIn_r _ [16, 17, 25] (by decide +kernel) (by decide +kernel)
set_option maxRecDepth 20000 in
theorem gX3_has_X2_places_u9X2 : GoodIn wsX3_has (va_wsU RX3 9 RX2 "ReelBarn$Reel" ⟨"ReelBarn$Reel", "places", "()I"⟩ yX2_places wsX2_places) := goodIn_app (goodIn_of _ (by decide +kernel)) ggX3_has_X2_places
set_option maxRecDepth 20000 in
theorem ggX3_has_X5_places : GoodIn wsX3_has wsX5_places := goodIn_r _ [21, 22, 26] (by decide +kernel) (by decide +kernel)
set_option maxRecDepth 20000 in
theorem gX3_has_X5_places_u9X5 : GoodIn wsX3_has (va_wsU RX3 9 RX5 "ReelBarn$Reel" ⟨"ReelBarn$Reel", "places", "()I"⟩ yX5_places wsX5_places) := goodIn_app (goodIn_of _ (by decide +kernel)) ggX3_has_X5_places
theorem dX3_has_0 : decode cX3_has 0 = .ok (.iload_n 1, 1) := by decide +kernel
theorem dX3_has_1 : decode cX3_has 1 = .ok (.ifCond .lt 15, 3) := by decide +kernel
theorem dX3_has_4 : decode cX3_has 4 = .ok (.iload_n 1, 1) := by decide +kernel
theorem dX3_has_5 : decode cX3_has 5 = .ok (.aload_n 0, 1) := by decide +kernel
theorem dX3_has_6 : decode cX3_has 6 = .ok (.invokevirtual 9, 3) := by decide +kernel
theorem dX3_has_9 : decode cX3_has 9 = .ok (.if_icmp .ge 7, 3) := by decide +kernel
theorem dX3_has_12 : decode cX3_has 12 = .ok (.iconst 1, 1) := by decide +kernel
theorem dX3_has_13 : decode cX3_has 13 = .ok (.goto 4, 3) := by decide +kernel
theorem dX3_has_16 : decode cX3_has 16 = .ok (.iconst 0, 1) := by decide +kernel
theorem dX3_has_17 : decode cX3_has 17 = .ok (.ireturn, 1) := by decide +kernel
set_option maxRecDepth 20000 in
theorem ggX3_change_X0_told : GoodIn wsX3_change wsX0_told := goodIn_r _ [6, 7, 8, 54] (by decide +kernel) (by decide +kernel)
set_option maxRecDepth 20000 in
theorem gX3_change_X0_told_u15X0 : GoodIn wsX3_change (va_wsU RX3 15 RX0 "ReelBarn$Reel" ⟨"ReelBarn$Reel", "told", "(I)I"⟩ yX0_told wsX0_told) := goodIn_app (goodIn_of _ (by decide +kernel)) ggX3_change_X0_told
set_option maxRecDepth 20000 in
theorem ggX3_change_X1_told : GoodIn wsX3_change wsX1_told := goodIn_r _ [12, 13, 55] (by decide +kernel) (by decide +kernel)
set_option maxRecDepth 20000 in
theorem gX3_change_X1_told_u15X1 : GoodIn wsX3_change (va_wsU RX3 15 RX1 "ReelBarn$Reel" ⟨"ReelBarn$Reel", "told", "(I)I"⟩ yX1_told wsX1_told) := goodIn_app (goodIn_of _ (by decide +kernel)) ggX3_change_X1_told
set_option maxRecDepth 20000 in
theorem ggX3_change_X2_told : GoodIn wsX3_change wsX2_told := goodIn_r _ [17, 18, 56] (by decide +kernel) (by decide +kernel)
set_option maxRecDepth 20000 in
theorem gX3_change_X2_told_u15X2 : GoodIn wsX3_change (va_wsU RX3 15 RX2 "ReelBarn$Reel" ⟨"ReelBarn$Reel", "told", "(I)I"⟩ yX2_told wsX2_told) := goodIn_app (goodIn_of _ (by decide +kernel)) ggX3_change_X2_told
set_option maxRecDepth 20000 in
theorem ggX3_change_X5_told : GoodIn wsX3_change wsX5_told := goodIn_r _ [22, 23, 57] (by decide +kernel) (by decide +kernel)
set_option maxRecDepth 20000 in
theorem gX3_change_X5_told_u15X5 : GoodIn wsX3_change (va_wsU RX3 15 RX5 "ReelBarn$Reel" ⟨"ReelBarn$Reel", "told", "(I)I"⟩ yX5_told wsX5_told) := goodIn_app (goodIn_of _ (by decide +kernel)) ggX3_change_X5_told
set_option maxRecDepth 20000 in
theorem ggX3_change_X3_reckon : GoodIn wsX3_change wsX3_reckon := goodIn_r _ [27] (by decide +kernel) (by decide +kernel)
set_option maxRecDepth 20000 in
theorem gX3_change_X3_reckon : GoodIn wsX3_change (va_wsS RX3 19 yX3_reckon wsX3_reckon) := goodIn_app (goodIn_of _ (by decide +kernel)) ggX3_change_X3_reckon
set_option maxRecDepth 20000 in
theorem ggX3_change_X0_put : GoodIn wsX3_change wsX0_put := goodIn_r _ [32, 33, 34, 5, 35, 8, 36, 37, 38, 39, 7, 40, 41, 42, 43, 44, 54] (by decide +kernel) (by decide +kernel)
set_option maxRecDepth 20000 in
theorem gX3_change_X0_put_u23X0 : GoodIn wsX3_change (va_wsU RX3 23 RX0 "ReelBarn$Reel" ⟨"ReelBarn$Reel", "put", "(II)V"⟩ yX0_put wsX0_put) := goodIn_app (goodIn_of _ (by decide +kernel)) ggX3_change_X0_put
set_option maxRecDepth 20000 in
theorem ggX3_change_X1_put : GoodIn wsX3_change wsX1_put := goodIn_r _ [47, 13, 55] (by decide +kernel) (by decide +kernel)
set_option maxRecDepth 20000 in
theorem gX3_change_X1_put_u23X1 : GoodIn wsX3_change (va_wsU RX3 23 RX1 "ReelBarn$Reel" ⟨"ReelBarn$Reel", "put", "(II)V"⟩ yX1_put wsX1_put) := goodIn_app (goodIn_of _ (by decide +kernel)) ggX3_change_X1_put
set_option maxRecDepth 20000 in
theorem ggX3_change_X2_put : GoodIn wsX3_change wsX2_put := goodIn_r _ [50, 18, 56] (by decide +kernel) (by decide +kernel)
set_option maxRecDepth 20000 in
theorem gX3_change_X2_put_u23X2 : GoodIn wsX3_change (va_wsU RX3 23 RX2 "ReelBarn$Reel" ⟨"ReelBarn$Reel", "put", "(II)V"⟩ yX2_put wsX2_put) := goodIn_app (goodIn_of _ (by decide +kernel)) ggX3_change_X2_put
set_option maxRecDepth 20000 in
theorem ggX3_change_X5_put : GoodIn wsX3_change wsX5_put := goodIn_r _ [53, 23, 57] (by decide +kernel) (by decide +kernel)
set_option maxRecDepth 20000 in
theorem gX3_change_X5_put_u23X5 : GoodIn wsX3_change (va_wsU RX3 23 RX5 "ReelBarn$Reel" ⟨"ReelBarn$Reel", "put", "(II)V"⟩ yX5_put wsX5_put) := goodIn_app (goodIn_of _ (by decide +kernel)) ggX3_change_X5_put
theorem dX3_change_0 : decode cX3_change 0 = .ok (.aload_n 0, 1) := by decide +kernel
theorem dX3_change_1 : decode cX3_change 1 = .ok (.iload_n 1, 1) := by decide +kernel
theorem dX3_change_2 : decode cX3_change 2 = .ok (.aload_n 0, 1) := by decide +kernel
theorem dX3_change_3 : decode cX3_change 3 = .ok (.iload_n 1, 1) := by decide +kernel
theorem dX3_change_4 : decode cX3_change 4 = .ok (.invokevirtual 15, 3) := by decide +kernel
theorem dX3_change_7 : decode cX3_change 7 = .ok (.iload_n 2, 1) := by decide +kernel
theorem dX3_change_8 : decode cX3_change 8 = .ok (.iload_n 3, 1) := by decide +kernel
theorem dX3_change_9 : decode cX3_change 9 = .ok (.invokestatic 19, 3) := by decide +kernel
theorem dX3_change_12 : decode cX3_change 12 = .ok (.invokevirtual 23, 3) := by decide +kernel
theorem dX3_change_15 : decode cX3_change 15 = .ok (.return_, 1) := by decide +kernel
set_option maxRecDepth 20000 in
theorem ggX3_stepUp_X0_told : GoodIn wsX3_stepUp wsX0_told := goodIn_r _ [6, 7, 8, 50] (by decide +kernel) (by decide +kernel)
set_option maxRecDepth 20000 in
theorem gX3_stepUp_X0_told_u15X0 : GoodIn wsX3_stepUp (va_wsU RX3 15 RX0 "ReelBarn$Reel" ⟨"ReelBarn$Reel", "told", "(I)I"⟩ yX0_told wsX0_told) := goodIn_app (goodIn_of _ (by decide +kernel)) ggX3_stepUp_X0_told
set_option maxRecDepth 20000 in
theorem ggX3_stepUp_X1_told : GoodIn wsX3_stepUp wsX1_told := goodIn_r _ [12, 13, 51] (by decide +kernel) (by decide +kernel)
set_option maxRecDepth 20000 in
theorem gX3_stepUp_X1_told_u15X1 : GoodIn wsX3_stepUp (va_wsU RX3 15 RX1 "ReelBarn$Reel" ⟨"ReelBarn$Reel", "told", "(I)I"⟩ yX1_told wsX1_told) := goodIn_app (goodIn_of _ (by decide +kernel)) ggX3_stepUp_X1_told
set_option maxRecDepth 20000 in
theorem ggX3_stepUp_X2_told : GoodIn wsX3_stepUp wsX2_told := goodIn_r _ [17, 18, 52] (by decide +kernel) (by decide +kernel)
set_option maxRecDepth 20000 in
theorem gX3_stepUp_X2_told_u15X2 : GoodIn wsX3_stepUp (va_wsU RX3 15 RX2 "ReelBarn$Reel" ⟨"ReelBarn$Reel", "told", "(I)I"⟩ yX2_told wsX2_told) := goodIn_app (goodIn_of _ (by decide +kernel)) ggX3_stepUp_X2_told
set_option maxRecDepth 20000 in
theorem ggX3_stepUp_X5_told : GoodIn wsX3_stepUp wsX5_told := goodIn_r _ [22, 23, 53] (by decide +kernel) (by decide +kernel)
set_option maxRecDepth 20000 in
theorem gX3_stepUp_X5_told_u15X5 : GoodIn wsX3_stepUp (va_wsU RX3 15 RX5 "ReelBarn$Reel" ⟨"ReelBarn$Reel", "told", "(I)I"⟩ yX5_told wsX5_told) := goodIn_app (goodIn_of _ (by decide +kernel)) ggX3_stepUp_X5_told
set_option maxRecDepth 20000 in
theorem ggX3_stepUp_X0_put : GoodIn wsX3_stepUp wsX0_put := goodIn_r _ [28, 29, 30, 5, 31, 8, 32, 33, 34, 35, 7, 36, 37, 38, 39, 40, 50] (by decide +kernel) (by decide +kernel)
set_option maxRecDepth 20000 in
theorem gX3_stepUp_X0_put_u23X0 : GoodIn wsX3_stepUp (va_wsU RX3 23 RX0 "ReelBarn$Reel" ⟨"ReelBarn$Reel", "put", "(II)V"⟩ yX0_put wsX0_put) := goodIn_app (goodIn_of _ (by decide +kernel)) ggX3_stepUp_X0_put
set_option maxRecDepth 20000 in
theorem ggX3_stepUp_X1_put : GoodIn wsX3_stepUp wsX1_put := goodIn_r _ [43, 13, 51] (by decide +kernel) (by decide +kernel)
set_option maxRecDepth 20000 in
theorem gX3_stepUp_X1_put_u23X1 : GoodIn wsX3_stepUp (va_wsU RX3 23 RX1 "ReelBarn$Reel" ⟨"ReelBarn$Reel", "put", "(II)V"⟩ yX1_put wsX1_put) := goodIn_app (goodIn_of _ (by decide +kernel)) ggX3_stepUp_X1_put
set_option maxRecDepth 20000 in
theorem ggX3_stepUp_X2_put : GoodIn wsX3_stepUp wsX2_put := goodIn_r _ [46, 18, 52] (by decide +kernel) (by decide +kernel)
set_option maxRecDepth 20000 in
theorem gX3_stepUp_X2_put_u23X2 : GoodIn wsX3_stepUp (va_wsU RX3 23 RX2 "ReelBarn$Reel" ⟨"ReelBarn$Reel", "put", "(II)V"⟩ yX2_put wsX2_put) := goodIn_app (goodIn_of _ (by decide +kernel)) ggX3_stepUp_X2_put
set_option maxRecDepth 20000 in
theorem ggX3_stepUp_X5_put : GoodIn wsX3_stepUp wsX5_put := goodIn_r _ [49, 23, 53] (by decide +kernel) (by decide +kernel)
set_option maxRecDepth 20000 in
theorem gX3_stepUp_X5_put_u23X5 : GoodIn wsX3_stepUp (va_wsU RX3 23 RX5 "ReelBarn$Reel" ⟨"ReelBarn$Reel", "put", "(II)V"⟩ yX5_put wsX5_put) := goodIn_app (goodIn_of _ (by decide +kernel)) ggX3_stepUp_X5_put
theorem dX3_stepUp_0 : decode cX3_stepUp 0 = .ok (.aload_n 0, 1) := by decide +kernel
theorem dX3_stepUp_1 : decode cX3_stepUp 1 = .ok (.iload_n 1, 1) := by decide +kernel
theorem dX3_stepUp_2 : decode cX3_stepUp 2 = .ok (.aload_n 0, 1) := by decide +kernel
theorem dX3_stepUp_3 : decode cX3_stepUp 3 = .ok (.iload_n 1, 1) := by decide +kernel
theorem dX3_stepUp_4 : decode cX3_stepUp 4 = .ok (.invokevirtual 15, 3) := by decide +kernel
theorem dX3_stepUp_7 : decode cX3_stepUp 7 = .ok (.iconst 1, 1) := by decide +kernel
theorem dX3_stepUp_8 : decode cX3_stepUp 8 = .ok (.iadd, 1) := by decide +kernel
theorem dX3_stepUp_9 : decode cX3_stepUp 9 = .ok (.invokevirtual 23, 3) := by decide +kernel
theorem dX3_stepUp_12 : decode cX3_stepUp 12 = .ok (.return_, 1) := by decide +kernel
set_option maxRecDepth 20000 in
theorem ggX3_level_X0_told : GoodIn wsX3_level wsX0_told := goodIn_r _ [6, 7, 8, 24] (by decide +kernel) (by decide +kernel)
set_option maxRecDepth 20000 in
theorem gX3_level_X0_told_u15X0 : GoodIn wsX3_level (va_wsU RX3 15 RX0 "ReelBarn$Reel" ⟨"ReelBarn$Reel", "told", "(I)I"⟩ yX0_told wsX0_told) := goodIn_app (goodIn_of _ (by decide +kernel)) ggX3_level_X0_told
set_option maxRecDepth 20000 in
theorem ggX3_level_X1_told : GoodIn wsX3_level wsX1_told := goodIn_r _ [12, 13, 25] (by decide +kernel) (by decide +kernel)
set_option maxRecDepth 20000 in
theorem gX3_level_X1_told_u15X1 : GoodIn wsX3_level (va_wsU RX3 15 RX1 "ReelBarn$Reel" ⟨"ReelBarn$Reel", "told", "(I)I"⟩ yX1_told wsX1_told) := goodIn_app (goodIn_of _ (by decide +kernel)) ggX3_level_X1_told
set_option maxRecDepth 20000 in
theorem ggX3_level_X2_told : GoodIn wsX3_level wsX2_told := goodIn_r _ [17, 18, 26] (by decide +kernel) (by decide +kernel)
set_option maxRecDepth 20000 in
theorem gX3_level_X2_told_u15X2 : GoodIn wsX3_level (va_wsU RX3 15 RX2 "ReelBarn$Reel" ⟨"ReelBarn$Reel", "told", "(I)I"⟩ yX2_told wsX2_told) := goodIn_app (goodIn_of _ (by decide +kernel)) ggX3_level_X2_told
set_option maxRecDepth 20000 in
theorem ggX3_level_X5_told : GoodIn wsX3_level wsX5_told := goodIn_r _ [22, 23, 27] (by decide +kernel) (by decide +kernel)
set_option maxRecDepth 20000 in
theorem gX3_level_X5_told_u15X5 : GoodIn wsX3_level (va_wsU RX3 15 RX5 "ReelBarn$Reel" ⟨"ReelBarn$Reel", "told", "(I)I"⟩ yX5_told wsX5_told) := goodIn_app (goodIn_of _ (by decide +kernel)) ggX3_level_X5_told
theorem dX3_level_0 : decode cX3_level 0 = .ok (.aload_n 0, 1) := by decide +kernel
theorem dX3_level_1 : decode cX3_level 1 = .ok (.iload_n 1, 1) := by decide +kernel
theorem dX3_level_2 : decode cX3_level 2 = .ok (.invokevirtual 15, 3) := by decide +kernel
theorem dX3_level_5 : decode cX3_level 5 = .ok (.i2f, 1) := by decide +kernel
theorem dX3_level_6 : decode cX3_level 6 = .ok (.freturn, 1) := by decide +kernel
set_option maxRecDepth 20000 in
theorem ggX3_putLevel_X0_put : GoodIn wsX3_putLevel wsX0_put := goodIn_r _ [6, 7, 8, 5, 9, 10, 11, 12, 13, 14, 15, 16, 17, 18, 19, 20, 36] (by decide +kernel) (by decide +kernel)
set_option maxRecDepth 20000 in
theorem gX3_putLevel_X0_put_u23X0 : GoodIn wsX3_putLevel (va_wsU RX3 23 RX0 "ReelBarn$Reel" ⟨"ReelBarn$Reel", "put", "(II)V"⟩ yX0_put wsX0_put) := goodIn_app (goodIn_of _ (by decide +kernel)) ggX3_putLevel_X0_put
set_option maxRecDepth 20000 in
theorem ggX3_putLevel_X1_put : GoodIn wsX3_putLevel wsX1_put := goodIn_r _ [24, 25, 37] (by decide +kernel) (by decide +kernel)
set_option maxRecDepth 20000 in
theorem gX3_putLevel_X1_put_u23X1 : GoodIn wsX3_putLevel (va_wsU RX3 23 RX1 "ReelBarn$Reel" ⟨"ReelBarn$Reel", "put", "(II)V"⟩ yX1_put wsX1_put) := goodIn_app (goodIn_of _ (by decide +kernel)) ggX3_putLevel_X1_put
set_option maxRecDepth 20000 in
theorem ggX3_putLevel_X2_put : GoodIn wsX3_putLevel wsX2_put := goodIn_r _ [29, 30, 38] (by decide +kernel) (by decide +kernel)
set_option maxRecDepth 20000 in
theorem gX3_putLevel_X2_put_u23X2 : GoodIn wsX3_putLevel (va_wsU RX3 23 RX2 "ReelBarn$Reel" ⟨"ReelBarn$Reel", "put", "(II)V"⟩ yX2_put wsX2_put) := goodIn_app (goodIn_of _ (by decide +kernel)) ggX3_putLevel_X2_put
set_option maxRecDepth 20000 in
theorem ggX3_putLevel_X5_put : GoodIn wsX3_putLevel wsX5_put := goodIn_r _ [34, 35, 39] (by decide +kernel) (by decide +kernel)
set_option maxRecDepth 20000 in
theorem gX3_putLevel_X5_put_u23X5 : GoodIn wsX3_putLevel (va_wsU RX3 23 RX5 "ReelBarn$Reel" ⟨"ReelBarn$Reel", "put", "(II)V"⟩ yX5_put wsX5_put) := goodIn_app (goodIn_of _ (by decide +kernel)) ggX3_putLevel_X5_put
theorem dX3_putLevel_0 : decode cX3_putLevel 0 = .ok (.aload_n 0, 1) := by decide +kernel
theorem dX3_putLevel_1 : decode cX3_putLevel 1 = .ok (.iload_n 1, 1) := by decide +kernel
theorem dX3_putLevel_2 : decode cX3_putLevel 2 = .ok (.fload_n 2, 1) := by decide +kernel
theorem dX3_putLevel_3 : decode cX3_putLevel 3 = .ok (.f2i, 1) := by decide +kernel
theorem dX3_putLevel_4 : decode cX3_putLevel 4 = .ok (.invokevirtual 23, 3) := by decide +kernel
theorem dX3_putLevel_7 : decode cX3_putLevel 7 = .ok (.return_, 1) := by decide +kernel
theorem dX3_reckon_0 : decode cX3_reckon 0 = .ok (.iload_n 1, 1) := by decide +kernel
theorem dX3_reckon_1 : decode cX3_reckon 1 = .ok (.tableswitch 85 0 7 #[47, 51, 55, 59, 63, 70, 77, 81], 47) := by decide +kernel
theorem dX3_reckon_48 : decode cX3_reckon 48 = .ok (.iload_n 0, 1) := by decide +kernel
theorem dX3_reckon_49 : decode cX3_reckon 49 = .ok (.iload_n 2, 1) := by decide +kernel
theorem dX3_reckon_50 : decode cX3_reckon 50 = .ok (.iadd, 1) := by decide +kernel
theorem dX3_reckon_51 : decode cX3_reckon 51 = .ok (.ireturn, 1) := by decide +kernel
theorem dX3_reckon_52 : decode cX3_reckon 52 = .ok (.iload_n 0, 1) := by decide +kernel
theorem dX3_reckon_53 : decode cX3_reckon 53 = .ok (.iload_n 2, 1) := by decide +kernel
theorem dX3_reckon_54 : decode cX3_reckon 54 = .ok (.isub, 1) := by decide +kernel
theorem dX3_reckon_55 : decode cX3_reckon 55 = .ok (.ireturn, 1) := by decide +kernel
theorem dX3_reckon_56 : decode cX3_reckon 56 = .ok (.iload_n 0, 1) := by decide +kernel
theorem dX3_reckon_57 : decode cX3_reckon 57 = .ok (.iload_n 2, 1) := by decide +kernel
theorem dX3_reckon_58 : decode cX3_reckon 58 = .ok (.imul, 1) := by decide +kernel
theorem dX3_reckon_59 : decode cX3_reckon 59 = .ok (.ireturn, 1) := by decide +kernel
theorem dX3_reckon_60 : decode cX3_reckon 60 = .ok (.iload_n 0, 1) := by decide +kernel
theorem dX3_reckon_61 : decode cX3_reckon 61 = .ok (.iload_n 2, 1) := by decide +kernel
theorem dX3_reckon_62 : decode cX3_reckon 62 = .ok (.idiv, 1) := by decide +kernel
theorem dX3_reckon_63 : decode cX3_reckon 63 = .ok (.ireturn, 1) := by decide +kernel
theorem dX3_reckon_64 : decode cX3_reckon 64 = .ok (.iload_n 0, 1) := by decide +kernel
theorem dX3_reckon_65 : decode cX3_reckon 65 = .ok (.iload_n 2, 1) := by decide +kernel
theorem dX3_reckon_66 : decode cX3_reckon 66 = .ok (.bipush 31, 2) := by decide +kernel
theorem dX3_reckon_68 : decode cX3_reckon 68 = .ok (.iand, 1) := by decide +kernel
theorem dX3_reckon_69 : decode cX3_reckon 69 = .ok (.ishl, 1) := by decide +kernel
theorem dX3_reckon_70 : decode cX3_reckon 70 = .ok (.ireturn, 1) := by decide +kernel
theorem dX3_reckon_71 : decode cX3_reckon 71 = .ok (.iload_n 0, 1) := by decide +kernel
theorem dX3_reckon_72 : decode cX3_reckon 72 = .ok (.iload_n 2, 1) := by decide +kernel
theorem dX3_reckon_73 : decode cX3_reckon 73 = .ok (.bipush 31, 2) := by decide +kernel
theorem dX3_reckon_75 : decode cX3_reckon 75 = .ok (.iand, 1) := by decide +kernel
theorem dX3_reckon_76 : decode cX3_reckon 76 = .ok (.iushr, 1) := by decide +kernel
theorem dX3_reckon_77 : decode cX3_reckon 77 = .ok (.ireturn, 1) := by decide +kernel
theorem dX3_reckon_78 : decode cX3_reckon 78 = .ok (.iload_n 0, 1) := by decide +kernel
theorem dX3_reckon_79 : decode cX3_reckon 79 = .ok (.iload_n 2, 1) := by decide +kernel
theorem dX3_reckon_80 : decode cX3_reckon 80 = .ok (.ixor, 1) := by decide +kernel
theorem dX3_reckon_81 : decode cX3_reckon 81 = .ok (.ireturn, 1) := by decide +kernel
theorem dX3_reckon_82 : decode cX3_reckon 82 = .ok (.iload_n 0, 1) := by decide +kernel
theorem dX3_reckon_83 : decode cX3_reckon 83 = .ok (.iload_n 2, 1) := by decide +kernel
theorem dX3_reckon_84 : decode cX3_reckon 84 = .ok (.iand, 1) := by decide +kernel
theorem dX3_reckon_85 : decode cX3_reckon 85 = .ok (.ireturn, 1) := by decide +kernel
theorem dX3_reckon_86 : decode cX3_reckon 86 = .ok (.iload_n 0, 1) := by decide +kernel
theorem dX3_reckon_87 : decode cX3_reckon 87 = .ok (.iload_n 2, 1) := by decide +kernel
theorem dX3_reckon_88 : decode cX3_reckon 88 = .ok (.ior, 1) := by decide +kernel
theorem dX3_reckon_89 : decode cX3_reckon 89 = .ok (.ireturn, 1) := by decide +kernel
theorem dX4_init_0 : decode cX4_init 0 = .ok (.aload_n 0, 1) := by decide +kernel
theorem dX4_init_1 : decode cX4_init 1 = .ok (.invokespecial 1, 3) := by decide +kernel
theorem dX4_init_4 : decode cX4_init 4 = .ok (.aload_n 0, 1) := by decide +kernel
theorem dX4_init_5 : decode cX4_init 5 = .ok (.iload_n 1, 1) := by decide +kernel
theorem dX4_init_6 : decode cX4_init 6 = .ok (.anewarray 7, 3) := by decide +kernel
theorem dX4_init_9 : decode cX4_init 9 = .ok (.putfield 9, 3) := by decide +kernel
theorem dX4_init_12 : decode cX4_init 12 = .ok (.return_, 1) := by decide +kernel
set_option maxRecDepth 20000 in
theorem ggX5_init_X3_init : GoodIn wsX5_init wsX3_init := goodIn_r _ [5, 6, 7, 8] (by decide +kernel) (by decide +kernel)
set_option maxRecDepth 20000 in
theorem gX5_init_X3_init_n1 : GoodIn wsX5_init (wsX3_init) := ggX5_init_X3_init
theorem dX5_init_0 : decode cX5_init 0 = .ok (.aload_n 0, 1) := by decide +kernel
theorem dX5_init_1 : decode cX5_init 1 = .ok (.invokespecial 1, 3) := by decide +kernel
theorem dX5_init_4 : decode cX5_init 4 = .ok (.aload_n 0, 1) := by decide +kernel
theorem dX5_init_5 : decode cX5_init 5 = .ok (.iload_n 1, 1) := by decide +kernel
theorem dX5_init_6 : decode cX5_init 6 = .ok (.newarray .short, 2) := by decide +kernel
theorem dX5_init_8 : decode cX5_init 8 = .ok (.putfield 7, 3) := by decide +kernel
theorem dX5_init_11 : decode cX5_init 11 = .ok (.return_, 1) := by decide +kernel
theorem dX5_places_0 : decode cX5_places 0 = .ok (.aload_n 0, 1) := by decide +kernel
theorem dX5_places_1 : decode cX5_places 1 = .ok (.getfield 7, 3) := by decide +kernel
theorem dX5_places_4 : decode cX5_places 4 = .ok (.arraylength, 1) := by decide +kernel
theorem dX5_places_5 : decode cX5_places 5 = .ok (.ireturn, 1) := by decide +kernel
theorem dX5_told_0 : decode cX5_told 0 = .ok (.aload_n 0, 1) := by decide +kernel
theorem dX5_told_1 : decode cX5_told 1 = .ok (.getfield 7, 3) := by decide +kernel
theorem dX5_told_4 : decode cX5_told 4 = .ok (.iload_n 1, 1) := by decide +kernel
theorem dX5_told_5 : decode cX5_told 5 = .ok (.saload, 1) := by decide +kernel
theorem dX5_told_6 : decode cX5_told 6 = .ok (.ireturn, 1) := by decide +kernel
theorem dX5_put_0 : decode cX5_put 0 = .ok (.aload_n 0, 1) := by decide +kernel
theorem dX5_put_1 : decode cX5_put 1 = .ok (.getfield 7, 3) := by decide +kernel
theorem dX5_put_4 : decode cX5_put 4 = .ok (.iload_n 1, 1) := by decide +kernel
theorem dX5_put_5 : decode cX5_put 5 = .ok (.iload_n 2, 1) := by decide +kernel
theorem dX5_put_6 : decode cX5_put 6 = .ok (.i2s, 1) := by decide +kernel
theorem dX5_put_7 : decode cX5_put 7 = .ok (.sastore, 1) := by decide +kernel
theorem dX5_put_8 : decode cX5_put 8 = .ok (.return_, 1) := by decide +kernel
end
section
theorem dX6_init_0 : decode cX6_init 0 = .ok (.aload_n 0, 1) := by decide +kernel
theorem dX6_init_1 : decode cX6_init 1 = .ok (.invokespecial 1, 3) := by decide +kernel
theorem dX6_init_4 : decode cX6_init 4 = .ok (.aload_n 0, 1) := by decide +kernel
theorem dX6_init_5 : decode cX6_init 5 = .ok (.bipush 16, 2) := by decide +kernel
theorem dX6_init_7 : decode cX6_init 7 = .ok (.anewarray 9, 3) := by decide +kernel
theorem dX6_init_10 : decode cX6_init 10 = .ok (.putfield 11, 3) := by decide +kernel
theorem dX6_init_13 : decode cX6_init 13 = .ok (.aload_n 0, 1) := by decide +kernel
theorem dX6_init_14 : decode cX6_init 14 = .ok (.iconst 4, 1) := by decide +kernel
theorem dX6_init_15 : decode cX6_init 15 = .ok (.anewarray 15, 3) := by decide +kernel
theorem dX6_init_18 : decode cX6_init 18 = .ok (.putfield 17, 3) := by decide +kernel
theorem dX6_init_21 : decode cX6_init 21 = .ok (.aload_n 0, 1) := by decide +kernel
theorem dX6_init_22 : decode cX6_init 22 = .ok (.bipush 8, 2) := by decide +kernel
theorem dX6_init_24 : decode cX6_init 24 = .ok (.newarray .int, 2) := by decide +kernel
theorem dX6_init_26 : decode cX6_init 26 = .ok (.putfield 21, 3) := by decide +kernel
theorem dX6_init_29 : decode cX6_init 29 = .ok (.aload_n 0, 1) := by decide +kernel
theorem dX6_init_30 : decode cX6_init 30 = .ok (.aconst_null, 1) := by decide +kernel
theorem dX6_init_31 : decode cX6_init 31 = .ok (.putfield 25, 3) := by decide +kernel
theorem dX6_init_34 : decode cX6_init 34 = .ok (.return_, 1) := by decide +kernel
set_option maxRecDepth 20000 in
theorem ggX6_mount_X6_isDeck : GoodIn wsX6_mount wsX6_isDeck := goodIn_r _ [7] (by decide +kernel) (by decide +kernel)
set_option maxRecDepth 20000 in
theorem gX6_mount_X6_isDeck : GoodIn wsX6_mount (va_wsS RX6 29 yX6_isDeck wsX6_isDeck) := goodIn_app (goodIn_of _ (by decide +kernel)) ggX6_mount_X6_isDeck
set_option maxRecDepth 20000 in
theorem ggX6_mount_X6_isSort : GoodIn wsX6_mount wsX6_isSort := goodIn_r _ [10] (by decide +kernel) (by decide +kernel)
set_option maxRecDepth 20000 in
theorem gX6_mount_X6_isSort : GoodIn wsX6_mount (va_wsS RX6 33 yX6_isSort wsX6_isSort) := goodIn_app (goodIn_of _ (by decide +kernel)) ggX6_mount_X6_isSort
set_option maxRecDepth 20000 in
theorem ggX6_mount_X6_refuse : GoodIn wsX6_mount wsX6_refuse := goodIn_r _ [14, 15, 62, 63, 64, 65] (by decide +kernel) (by decide +kernel)
set_option maxRecDepth 20000 in
theorem gX6_mount_X6_refuse : GoodIn wsX6_mount (wsV RX6 38 RX6 yX6_refuse wsX6_refuse) := goodIn_app (goodIn_of _ (by decide +kernel)) ggX6_mount_X6_refuse
set_option maxRecDepth 20000 in
theorem ggX6_mount_X6_newReel : GoodIn wsX6_mount wsX6_newReel := goodIn_r _ [18, 19, 20, 21, 22, 23, 24, 25, 26, 27, 28, 29, 30, 31, 32, 33, 34, 35, 36, 37, 38, 39, 40, 41, 42, 43, 44, 45, 46, 47, 48, 49, 50, 51, 52, 53, 54, 55, 56, 66, 67, 68, 69] (by decide +kernel) (by decide +kernel)
set_option maxRecDepth 20000 in
theorem gX6_mount_X6_newReel : GoodIn wsX6_mount (va_wsS RX6 46 yX6_newReel wsX6_newReel) := goodIn_app (goodIn_of _ (by decide +kernel)) ggX6_mount_X6_newReel
set_option maxRecDepth 20000 in
theorem ggX6_mount_X6_carry : GoodIn wsX6_mount wsX6_carry := goodIn_r _ [60, 61, 62, 63, 64, 65] (by decide +kernel) (by decide +kernel)
set_option maxRecDepth 20000 in
theorem gX6_mount_X6_carry : GoodIn wsX6_mount (wsV RX6 50 RX6 yX6_carry wsX6_carry) := goodIn_app (goodIn_of _ (by decide +kernel)) ggX6_mount_X6_carry
theorem dX6_mount_0 : decode cX6_mount 0 = .ok (.iload_n 1, 1) := by decide +kernel
theorem dX6_mount_1 : decode cX6_mount 1 = .ok (.invokestatic 29, 3) := by decide +kernel
theorem dX6_mount_4 : decode cX6_mount 4 = .ok (.ifCond .eq 10, 3) := by decide +kernel
theorem dX6_mount_7 : decode cX6_mount 7 = .ok (.iload_n 2, 1) := by decide +kernel
theorem dX6_mount_8 : decode cX6_mount 8 = .ok (.invokestatic 33, 3) := by decide +kernel
theorem dX6_mount_11 : decode cX6_mount 11 = .ok (.ifCond .ne 11, 3) := by decide +kernel
theorem dX6_mount_14 : decode cX6_mount 14 = .ok (.aload_n 0, 1) := by decide +kernel
theorem dX6_mount_15 : decode cX6_mount 15 = .ok (.ldc2_w 36, 3) := by decide +kernel
theorem dX6_mount_18 : decode cX6_mount 18 = .ok (.invokevirtual 38, 3) := by decide +kernel
theorem dX6_mount_21 : decode cX6_mount 21 = .ok (.lreturn, 1) := by decide +kernel
theorem dX6_mount_22 : decode cX6_mount 22 = .ok (.iload_n 3, 1) := by decide +kernel
theorem dX6_mount_23 : decode cX6_mount 23 = .ok (.bipush 40, 2) := by decide +kernel
theorem dX6_mount_25 : decode cX6_mount 25 = .ok (.if_icmp .le 11, 3) := by decide +kernel
theorem dX6_mount_28 : decode cX6_mount 28 = .ok (.aload_n 0, 1) := by decide +kernel
theorem dX6_mount_29 : decode cX6_mount 29 = .ok (.ldc2_w 42, 3) := by decide +kernel
theorem dX6_mount_32 : decode cX6_mount 32 = .ok (.invokevirtual 38, 3) := by decide +kernel
theorem dX6_mount_35 : decode cX6_mount 35 = .ok (.lreturn, 1) := by decide +kernel
theorem dX6_mount_36 : decode cX6_mount 36 = .ok (.iload_n 3, 1) := by decide +kernel
theorem dX6_mount_37 : decode cX6_mount 37 = .ok (.ifCond .ge 11, 3) := by decide +kernel
theorem dX6_mount_40 : decode cX6_mount 40 = .ok (.aload_n 0, 1) := by decide +kernel
theorem dX6_mount_41 : decode cX6_mount 41 = .ok (.ldc2_w 44, 3) := by decide +kernel
theorem dX6_mount_44 : decode cX6_mount 44 = .ok (.invokevirtual 38, 3) := by decide +kernel
theorem dX6_mount_47 : decode cX6_mount 47 = .ok (.lreturn, 1) := by decide +kernel
theorem dX6_mount_48 : decode cX6_mount 48 = .ok (.aload_n 0, 1) := by decide +kernel
theorem dX6_mount_49 : decode cX6_mount 49 = .ok (.iload_n 1, 1) := by decide +kernel
theorem dX6_mount_50 : decode cX6_mount 50 = .ok (.iload_n 2, 1) := by decide +kernel
theorem dX6_mount_51 : decode cX6_mount 51 = .ok (.iload_n 2, 1) := by decide +kernel
theorem dX6_mount_52 : decode cX6_mount 52 = .ok (.iload_n 3, 1) := by decide +kernel
theorem dX6_mount_53 : decode cX6_mount 53 = .ok (.invokestatic 46, 3) := by decide +kernel
theorem dX6_mount_56 : decode cX6_mount 56 = .ok (.invokevirtual 50, 3) := by decide +kernel
theorem dX6_mount_59 : decode cX6_mount 59 = .ok (.iload_n 3, 1) := by decide +kernel
theorem dX6_mount_60 : decode cX6_mount 60 = .ok (.i2l, 1) := by decide +kernel
theorem dX6_mount_61 : decode cX6_mount 61 = .ok (.lreturn, 1) := by decide +kernel
set_option maxRecDepth 20000 in
theorem ggX6_eject_X6_reelFault : GoodIn wsX6_eject wsX6_reelFault := goodIn_r _ [5, 6, 7, 8, 9, 4, 10, 11, 12, 13, 14, 15, 16, 17, 18, 50, 51, 52, 53] (by decide +kernel) (by decide +kernel)
set_option maxRecDepth 20000 in
theorem gX6_eject_X6_reelFault : GoodIn wsX6_eject (wsV RX6 54 RX6 yX6_reelFault wsX6_reelFault) := goodIn_app (goodIn_of _ (by decide +kernel)) ggX6_eject_X6_reelFault
set_option maxRecDepth 20000 in
theorem ggX6_eject_X6_refuse : GoodIn wsX6_eject wsX6_refuse := goodIn_r _ [22, 23, 50, 51, 52, 53] (by decide +kernel) (by decide +kernel)
set_option maxRecDepth 20000 in
theorem gX6_eject_X6_refuse : GoodIn wsX6_eject (wsV RX6 38 RX6 yX6_refuse wsX6_refuse) := goodIn_app (goodIn_of _ (by decide +kernel)) ggX6_eject_X6_refuse
set_option maxRecDepth 20000 in
theorem ggX6_eject_X6_reelOn : GoodIn wsX6_eject wsX6_reelOn := goodIn_r _ [17, 18, 50, 51, 52, 53] (by decide +kernel) (by decide +kernel)
set_option maxRecDepth 20000 in
theorem gX6_eject_X6_reelOn : GoodIn wsX6_eject (wsV RX6 58 RX6 yX6_reelOn wsX6_reelOn) := goodIn_app (goodIn_of _ (by decide +kernel)) ggX6_eject_X6_reelOn
set_option maxRecDepth 20000 in
theorem ggX6_eject_X0_places : GoodIn wsX6_eject wsX0_places := goodIn_r _ [29, 30, 54] (by decide +kernel) (by decide +kernel)
set_option maxRecDepth 20000 in
theorem gX6_eject_X0_places_u61X0 : GoodIn wsX6_eject (va_wsU RX6 61 RX0 "ReelBarn$Reel" ⟨"ReelBarn$Reel", "places", "()I"⟩ yX0_places wsX0_places) := goodIn_app (goodIn_of _ (by decide +kernel)) ggX6_eject_X0_places
set_option maxRecDepth 20000 in
theorem ggX6_eject_X1_places : GoodIn wsX6_eject wsX1_places := goodIn_r _ [34, 35, 55] (by decide +kernel) (by decide +kernel)
set_option maxRecDepth 20000 in
theorem gX6_eject_X1_places_u61X1 : GoodIn wsX6_eject (va_wsU RX6 61 RX1 "ReelBarn$Reel" ⟨"ReelBarn$Reel", "places", "()I"⟩ yX1_places wsX1_places) := goodIn_app (goodIn_of _ (by decide +kernel)) ggX6_eject_X1_places
set_option maxRecDepth 20000 in
theorem ggX6_eject_X2_places : GoodIn wsX6_eject wsX2_places := goodIn_r _ [39, 40, 56] (by decide +kernel) (by decide +kernel)
set_option maxRecDepth 20000 in
theorem gX6_eject_X2_places_u61X2 : GoodIn wsX6_eject (va_wsU RX6 61 RX2 "ReelBarn$Reel" ⟨"ReelBarn$Reel", "places", "()I"⟩ yX2_places wsX2_places) := goodIn_app (goodIn_of _ (by decide +kernel)) ggX6_eject_X2_places
set_option maxRecDepth 20000 in
theorem ggX6_eject_X5_places : GoodIn wsX6_eject wsX5_places := goodIn_r _ [44, 45, 57] (by decide +kernel) (by decide +kernel)
set_option maxRecDepth 20000 in
theorem gX6_eject_X5_places_u61X5 : GoodIn wsX6_eject (va_wsU RX6 61 RX5 "ReelBarn$Reel" ⟨"ReelBarn$Reel", "places", "()I"⟩ yX5_places wsX5_places) := goodIn_app (goodIn_of _ (by decide +kernel)) ggX6_eject_X5_places
set_option maxRecDepth 20000 in
theorem ggX6_eject_X6_carry : GoodIn wsX6_eject wsX6_carry := goodIn_r _ [49, 18, 50, 51, 52, 53] (by decide +kernel) (by decide +kernel)
set_option maxRecDepth 20000 in
theorem gX6_eject_X6_carry : GoodIn wsX6_eject (wsV RX6 50 RX6 yX6_carry wsX6_carry) := goodIn_app (goodIn_of _ (by decide +kernel)) ggX6_eject_X6_carry
theorem dX6_eject_0 : decode cX6_eject 0 = .ok (.aload_n 0, 1) := by decide +kernel
theorem dX6_eject_1 : decode cX6_eject 1 = .ok (.iload_n 1, 1) := by decide +kernel
theorem dX6_eject_2 : decode cX6_eject 2 = .ok (.iload_n 2, 1) := by decide +kernel
theorem dX6_eject_3 : decode cX6_eject 3 = .ok (.invokevirtual 54, 3) := by decide +kernel
theorem dX6_eject_6 : decode cX6_eject 6 = .ok (.lstore_n 3, 1) := by decide +kernel
theorem dX6_eject_7 : decode cX6_eject 7 = .ok (.lload_n 3, 1) := by decide +kernel
theorem dX6_eject_8 : decode cX6_eject 8 = .ok (.lconst 0, 1) := by decide +kernel
theorem dX6_eject_9 : decode cX6_eject 9 = .ok (.lcmp, 1) := by decide +kernel
theorem dX6_eject_10 : decode cX6_eject 10 = .ok (.ifCond .eq 9, 3) := by decide +kernel
theorem dX6_eject_13 : decode cX6_eject 13 = .ok (.aload_n 0, 1) := by decide +kernel
theorem dX6_eject_14 : decode cX6_eject 14 = .ok (.lload_n 3, 1) := by decide +kernel
theorem dX6_eject_15 : decode cX6_eject 15 = .ok (.invokevirtual 38, 3) := by decide +kernel
theorem dX6_eject_18 : decode cX6_eject 18 = .ok (.lreturn, 1) := by decide +kernel
theorem dX6_eject_19 : decode cX6_eject 19 = .ok (.aload_n 0, 1) := by decide +kernel
theorem dX6_eject_20 : decode cX6_eject 20 = .ok (.iload_n 1, 1) := by decide +kernel
theorem dX6_eject_21 : decode cX6_eject 21 = .ok (.iload_n 2, 1) := by decide +kernel
theorem dX6_eject_22 : decode cX6_eject 22 = .ok (.invokevirtual 58, 3) := by decide +kernel
theorem dX6_eject_25 : decode cX6_eject 25 = .ok (.invokevirtual 61, 3) := by decide +kernel
theorem dX6_eject_28 : decode cX6_eject 28 = .ok (.istore 5, 2) := by decide +kernel
theorem dX6_eject_30 : decode cX6_eject 30 = .ok (.aload_n 0, 1) := by decide +kernel
theorem dX6_eject_31 : decode cX6_eject 31 = .ok (.iload_n 1, 1) := by decide +kernel
theorem dX6_eject_32 : decode cX6_eject 32 = .ok (.iload_n 2, 1) := by decide +kernel
theorem dX6_eject_33 : decode cX6_eject 33 = .ok (.aconst_null, 1) := by decide +kernel
theorem dX6_eject_34 : decode cX6_eject 34 = .ok (.invokevirtual 50, 3) := by decide +kernel
theorem dX6_eject_37 : decode cX6_eject 37 = .ok (.iload 5, 2) := by decide +kernel
theorem dX6_eject_39 : decode cX6_eject 39 = .ok (.i2l, 1) := by decide +kernel
theorem dX6_eject_40 : decode cX6_eject 40 = .ok (.lreturn, 1) := by decide +kernel
set_option maxRecDepth 20000 in
theorem ggX6_share_X6_isDeck : GoodIn wsX6_share wsX6_isDeck := goodIn_r _ [5] (by decide +kernel) (by decide +kernel)
set_option maxRecDepth 20000 in
theorem gX6_share_X6_isDeck : GoodIn wsX6_share (va_wsS RX6 29 yX6_isDeck wsX6_isDeck) := goodIn_app (goodIn_of _ (by decide +kernel)) ggX6_share_X6_isDeck
set_option maxRecDepth 20000 in
theorem ggX6_share_X6_isSort : GoodIn wsX6_share wsX6_isSort := goodIn_r _ [8] (by decide +kernel) (by decide +kernel)
set_option maxRecDepth 20000 in
theorem gX6_share_X6_isSort : GoodIn wsX6_share (va_wsS RX6 33 yX6_isSort wsX6_isSort) := goodIn_app (goodIn_of _ (by decide +kernel)) ggX6_share_X6_isSort
set_option maxRecDepth 20000 in
theorem ggX6_share_X6_refuse : GoodIn wsX6_share wsX6_refuse := goodIn_r _ [12, 13, 26, 27, 28, 29] (by decide +kernel) (by decide +kernel)
set_option maxRecDepth 20000 in
theorem gX6_share_X6_refuse : GoodIn wsX6_share (wsV RX6 38 RX6 yX6_refuse wsX6_refuse) := goodIn_app (goodIn_of _ (by decide +kernel)) ggX6_share_X6_refuse
set_option maxRecDepth 20000 in
theorem ggX6_share_X6_reelOn : GoodIn wsX6_share wsX6_reelOn := goodIn_r _ [17, 18, 26, 27, 28, 29] (by decide +kernel) (by decide +kernel)
set_option maxRecDepth 20000 in
theorem gX6_share_X6_reelOn : GoodIn wsX6_share (wsV RX6 58 RX6 yX6_reelOn wsX6_reelOn) := goodIn_app (goodIn_of _ (by decide +kernel)) ggX6_share_X6_reelOn
set_option maxRecDepth 20000 in
theorem ggX6_share_X6_carry : GoodIn wsX6_share wsX6_carry := goodIn_r _ [22, 18, 26, 27, 28, 29] (by decide +kernel) (by decide +kernel)
set_option maxRecDepth 20000 in
theorem gX6_share_X6_carry : GoodIn wsX6_share (wsV RX6 50 RX6 yX6_carry wsX6_carry) := goodIn_app (goodIn_of _ (by decide +kernel)) ggX6_share_X6_carry
set_option maxRecDepth 20000 in
theorem ggX6_share_X6_oneIfThere : GoodIn wsX6_share wsX6_oneIfThere := goodIn_r _ [25] (by decide +kernel) (by decide +kernel)
set_option maxRecDepth 20000 in
theorem gX6_share_X6_oneIfThere : GoodIn wsX6_share (va_wsS RX6 65 yX6_oneIfThere wsX6_oneIfThere) := goodIn_app (goodIn_of _ (by decide +kernel)) ggX6_share_X6_oneIfThere
theorem dX6_share_0 : decode cX6_share 0 = .ok (.iload_n 1, 1) := by decide +kernel
theorem dX6_share_1 : decode cX6_share 1 = .ok (.invokestatic 29, 3) := by decide +kernel
theorem dX6_share_4 : decode cX6_share 4 = .ok (.ifCond .eq 17, 3) := by decide +kernel
theorem dX6_share_7 : decode cX6_share 7 = .ok (.iload_n 2, 1) := by decide +kernel
theorem dX6_share_8 : decode cX6_share 8 = .ok (.invokestatic 29, 3) := by decide +kernel
theorem dX6_share_11 : decode cX6_share 11 = .ok (.ifCond .eq 10, 3) := by decide +kernel
theorem dX6_share_14 : decode cX6_share 14 = .ok (.iload_n 3, 1) := by decide +kernel
theorem dX6_share_15 : decode cX6_share 15 = .ok (.invokestatic 33, 3) := by decide +kernel
theorem dX6_share_18 : decode cX6_share 18 = .ok (.ifCond .ne 11, 3) := by decide +kernel
theorem dX6_share_21 : decode cX6_share 21 = .ok (.aload_n 0, 1) := by decide +kernel
theorem dX6_share_22 : decode cX6_share 22 = .ok (.ldc2_w 36, 3) := by decide +kernel
theorem dX6_share_25 : decode cX6_share 25 = .ok (.invokevirtual 38, 3) := by decide +kernel
theorem dX6_share_28 : decode cX6_share 28 = .ok (.lreturn, 1) := by decide +kernel
theorem dX6_share_29 : decode cX6_share 29 = .ok (.aload_n 0, 1) := by decide +kernel
theorem dX6_share_30 : decode cX6_share 30 = .ok (.iload_n 1, 1) := by decide +kernel
theorem dX6_share_31 : decode cX6_share 31 = .ok (.iload_n 3, 1) := by decide +kernel
theorem dX6_share_32 : decode cX6_share 32 = .ok (.invokevirtual 58, 3) := by decide +kernel
theorem dX6_share_35 : decode cX6_share 35 = .ok (.astore 4, 2) := by decide +kernel
theorem dX6_share_37 : decode cX6_share 37 = .ok (.aload_n 0, 1) := by decide +kernel
theorem dX6_share_38 : decode cX6_share 38 = .ok (.iload_n 2, 1) := by decide +kernel
theorem dX6_share_39 : decode cX6_share 39 = .ok (.iload_n 3, 1) := by decide +kernel
theorem dX6_share_40 : decode cX6_share 40 = .ok (.aload 4, 2) := by decide +kernel
theorem dX6_share_42 : decode cX6_share 42 = .ok (.invokevirtual 50, 3) := by decide +kernel
theorem dX6_share_45 : decode cX6_share 45 = .ok (.aload 4, 2) := by decide +kernel
theorem dX6_share_47 : decode cX6_share 47 = .ok (.invokestatic 65, 3) := by decide +kernel
theorem dX6_share_50 : decode cX6_share 50 = .ok (.lreturn, 1) := by decide +kernel
set_option maxRecDepth 20000 in
theorem ggX6_size_X6_reelFault : GoodIn wsX6_size wsX6_reelFault := goodIn_r _ [5, 6, 7, 8, 9, 4, 10, 11, 12, 13, 14, 15, 16, 17, 18, 46, 47, 48, 49] (by decide +kernel) (by decide +kernel)
set_option maxRecDepth 20000 in
theorem gX6_size_X6_reelFault : GoodIn wsX6_size (wsV RX6 54 RX6 yX6_reelFault wsX6_reelFault) := goodIn_app (goodIn_of _ (by decide +kernel)) ggX6_size_X6_reelFault
set_option maxRecDepth 20000 in
theorem ggX6_size_X6_refuse : GoodIn wsX6_size wsX6_refuse := goodIn_r _ [22, 23, 46, 47, 48, 49] (by decide +kernel) (by decide +kernel)
set_option maxRecDepth 20000 in
theorem gX6_size_X6_refuse : GoodIn wsX6_size (wsV RX6 38 RX6 yX6_refuse wsX6_refuse) := goodIn_app (goodIn_of _ (by decide +kernel)) ggX6_size_X6_refuse
set_option maxRecDepth 20000 in
theorem ggX6_size_X6_reelOn : GoodIn wsX6_size wsX6_reelOn := goodIn_r _ [17, 18, 46, 47, 48, 49] (by decide +kernel) (by decide +kernel)
set_option maxRecDepth 20000 in
theorem gX6_size_X6_reelOn : GoodIn wsX6_size (wsV RX6 58 RX6 yX6_reelOn wsX6_reelOn) := goodIn_app (goodIn_of _ (by decide +kernel)) ggX6_size_X6_reelOn
set_option maxRecDepth 20000 in
theorem ggX6_size_X0_places : GoodIn wsX6_size wsX0_places := goodIn_r _ [29, 30, 50] (by decide +kernel) (by decide +kernel)
set_option maxRecDepth 20000 in
theorem gX6_size_X0_places_u61X0 : GoodIn wsX6_size (va_wsU RX6 61 RX0 "ReelBarn$Reel" ⟨"ReelBarn$Reel", "places", "()I"⟩ yX0_places wsX0_places) := goodIn_app (goodIn_of _ (by decide +kernel)) ggX6_size_X0_places
set_option maxRecDepth 20000 in
theorem ggX6_size_X1_places : GoodIn wsX6_size wsX1_places := goodIn_r _ [34, 35, 51] (by decide +kernel) (by decide +kernel)
set_option maxRecDepth 20000 in
theorem gX6_size_X1_places_u61X1 : GoodIn wsX6_size (va_wsU RX6 61 RX1 "ReelBarn$Reel" ⟨"ReelBarn$Reel", "places", "()I"⟩ yX1_places wsX1_places) := goodIn_app (goodIn_of _ (by decide +kernel)) ggX6_size_X1_places
set_option maxRecDepth 20000 in
theorem ggX6_size_X2_places : GoodIn wsX6_size wsX2_places := goodIn_r _ [39, 40, 52] (by decide +kernel) (by decide +kernel)
set_option maxRecDepth 20000 in
theorem gX6_size_X2_places_u61X2 : GoodIn wsX6_size (va_wsU RX6 61 RX2 "ReelBarn$Reel" ⟨"ReelBarn$Reel", "places", "()I"⟩ yX2_places wsX2_places) := goodIn_app (goodIn_of _ (by decide +kernel)) ggX6_size_X2_places
set_option maxRecDepth 20000 in
theorem ggX6_size_X5_places : GoodIn wsX6_size wsX5_places := goodIn_r _ [44, 45, 53] (by decide +kernel) (by decide +kernel)
set_option maxRecDepth 20000 in
theorem gX6_size_X5_places_u61X5 : GoodIn wsX6_size (va_wsU RX6 61 RX5 "ReelBarn$Reel" ⟨"ReelBarn$Reel", "places", "()I"⟩ yX5_places wsX5_places) := goodIn_app (goodIn_of _ (by decide +kernel)) ggX6_size_X5_places
theorem dX6_size_0 : decode cX6_size 0 = .ok (.aload_n 0, 1) := by decide +kernel
theorem dX6_size_1 : decode cX6_size 1 = .ok (.iload_n 1, 1) := by decide +kernel
theorem dX6_size_2 : decode cX6_size 2 = .ok (.iload_n 2, 1) := by decide +kernel
theorem dX6_size_3 : decode cX6_size 3 = .ok (.invokevirtual 54, 3) := by decide +kernel
theorem dX6_size_6 : decode cX6_size 6 = .ok (.lstore_n 3, 1) := by decide +kernel
theorem dX6_size_7 : decode cX6_size 7 = .ok (.lload_n 3, 1) := by decide +kernel
theorem dX6_size_8 : decode cX6_size 8 = .ok (.lconst 0, 1) := by decide +kernel
theorem dX6_size_9 : decode cX6_size 9 = .ok (.lcmp, 1) := by decide +kernel
theorem dX6_size_10 : decode cX6_size 10 = .ok (.ifCond .eq 9, 3) := by decide +kernel
theorem dX6_size_13 : decode cX6_size 13 = .ok (.aload_n 0, 1) := by decide +kernel
theorem dX6_size_14 : decode cX6_size 14 = .ok (.lload_n 3, 1) := by decide +kernel
theorem dX6_size_15 : decode cX6_size 15 = .ok (.invokevirtual 38, 3) := by decide +kernel
theorem dX6_size_18 : decode cX6_size 18 = .ok (.lreturn, 1) := by decide +kernel
theorem dX6_size_19 : decode cX6_size 19 = .ok (.aload_n 0, 1) := by decide +kernel
theorem dX6_size_20 : decode cX6_size 20 = .ok (.iload_n 1, 1) := by decide +kernel
theorem dX6_size_21 : decode cX6_size 21 = .ok (.iload_n 2, 1) := by decide +kernel
theorem dX6_size_22 : decode cX6_size 22 = .ok (.invokevirtual 58, 3) := by decide +kernel
theorem dX6_size_25 : decode cX6_size 25 = .ok (.invokevirtual 61, 3) := by decide +kernel
theorem dX6_size_28 : decode cX6_size 28 = .ok (.i2l, 1) := by decide +kernel
theorem dX6_size_29 : decode cX6_size 29 = .ok (.lreturn, 1) := by decide +kernel
set_option maxRecDepth 20000 in
theorem ggX6_read_X6_placeFault : GoodIn wsX6_read wsX6_placeFault := goodIn_r _ [5, 6, 7, 8, 9, 4, 10, 11, 12, 13, 14, 15, 16, 17, 18, 19, 20, 21, 22, 23, 24, 25, 26, 27, 28, 29, 30, 31, 32, 33, 34, 35, 36, 37, 38, 39, 40, 41, 42, 43, 44, 45, 46, 47, 48, 49, 50, 51, 52, 53, 54, 75, 76, 77, 78, 79, 80, 81, 82] (by decide +kernel) (by decide +kernel)
set_option maxRecDepth 20000 in
theorem gX6_read_X6_placeFault : GoodIn wsX6_read (wsV RX6 69 RX6 yX6_placeFault wsX6_placeFault) := goodIn_app (goodIn_of _ (by decide +kernel)) ggX6_read_X6_placeFault
set_option maxRecDepth 20000 in
theorem ggX6_read_X6_refuse : GoodIn wsX6_read wsX6_refuse := goodIn_r _ [58, 59, 75, 76, 77, 78] (by decide +kernel) (by decide +kernel)
set_option maxRecDepth 20000 in
theorem gX6_read_X6_refuse : GoodIn wsX6_read (wsV RX6 38 RX6 yX6_refuse wsX6_refuse) := goodIn_app (goodIn_of _ (by decide +kernel)) ggX6_read_X6_refuse
set_option maxRecDepth 20000 in
theorem ggX6_read_X6_reelOn : GoodIn wsX6_read wsX6_reelOn := goodIn_r _ [22, 23, 75, 76, 77, 78] (by decide +kernel) (by decide +kernel)
set_option maxRecDepth 20000 in
theorem gX6_read_X6_reelOn : GoodIn wsX6_read (wsV RX6 58 RX6 yX6_reelOn wsX6_reelOn) := goodIn_app (goodIn_of _ (by decide +kernel)) ggX6_read_X6_reelOn
set_option maxRecDepth 20000 in
theorem ggX6_read_X0_told : GoodIn wsX6_read wsX0_told := goodIn_r _ [64, 36, 65, 79] (by decide +kernel) (by decide +kernel)
set_option maxRecDepth 20000 in
theorem gX6_read_X0_told_u73X0 : GoodIn wsX6_read (va_wsU RX6 73 RX0 "ReelBarn$Reel" ⟨"ReelBarn$Reel", "told", "(I)I"⟩ yX0_told wsX0_told) := goodIn_app (goodIn_of _ (by decide +kernel)) ggX6_read_X0_told
set_option maxRecDepth 20000 in
theorem ggX6_read_X1_told : GoodIn wsX6_read wsX1_told := goodIn_r _ [68, 41, 80] (by decide +kernel) (by decide +kernel)
set_option maxRecDepth 20000 in
theorem gX6_read_X1_told_u73X1 : GoodIn wsX6_read (va_wsU RX6 73 RX1 "ReelBarn$Reel" ⟨"ReelBarn$Reel", "told", "(I)I"⟩ yX1_told wsX1_told) := goodIn_app (goodIn_of _ (by decide +kernel)) ggX6_read_X1_told
set_option maxRecDepth 20000 in
theorem ggX6_read_X2_told : GoodIn wsX6_read wsX2_told := goodIn_r _ [71, 46, 81] (by decide +kernel) (by decide +kernel)
set_option maxRecDepth 20000 in
theorem gX6_read_X2_told_u73X2 : GoodIn wsX6_read (va_wsU RX6 73 RX2 "ReelBarn$Reel" ⟨"ReelBarn$Reel", "told", "(I)I"⟩ yX2_told wsX2_told) := goodIn_app (goodIn_of _ (by decide +kernel)) ggX6_read_X2_told
set_option maxRecDepth 20000 in
theorem ggX6_read_X5_told : GoodIn wsX6_read wsX5_told := goodIn_r _ [74, 51, 82] (by decide +kernel) (by decide +kernel)
set_option maxRecDepth 20000 in
theorem gX6_read_X5_told_u73X5 : GoodIn wsX6_read (va_wsU RX6 73 RX5 "ReelBarn$Reel" ⟨"ReelBarn$Reel", "told", "(I)I"⟩ yX5_told wsX5_told) := goodIn_app (goodIn_of _ (by decide +kernel)) ggX6_read_X5_told
theorem dX6_read_0 : decode cX6_read 0 = .ok (.aload_n 0, 1) := by decide +kernel
theorem dX6_read_1 : decode cX6_read 1 = .ok (.iload_n 1, 1) := by decide +kernel
theorem dX6_read_2 : decode cX6_read 2 = .ok (.iload_n 2, 1) := by decide +kernel
theorem dX6_read_3 : decode cX6_read 3 = .ok (.iload_n 3, 1) := by decide +kernel
theorem dX6_read_4 : decode cX6_read 4 = .ok (.invokevirtual 69, 3) := by decide +kernel
theorem dX6_read_7 : decode cX6_read 7 = .ok (.lstore 4, 2) := by decide +kernel
theorem dX6_read_9 : decode cX6_read 9 = .ok (.lload 4, 2) := by decide +kernel
theorem dX6_read_11 : decode cX6_read 11 = .ok (.lconst 0, 1) := by decide +kernel
theorem dX6_read_12 : decode cX6_read 12 = .ok (.lcmp, 1) := by decide +kernel
theorem dX6_read_13 : decode cX6_read 13 = .ok (.ifCond .eq 10, 3) := by decide +kernel
theorem dX6_read_16 : decode cX6_read 16 = .ok (.aload_n 0, 1) := by decide +kernel
theorem dX6_read_17 : decode cX6_read 17 = .ok (.lload 4, 2) := by decide +kernel
theorem dX6_read_19 : decode cX6_read 19 = .ok (.invokevirtual 38, 3) := by decide +kernel
theorem dX6_read_22 : decode cX6_read 22 = .ok (.lreturn, 1) := by decide +kernel
theorem dX6_read_23 : decode cX6_read 23 = .ok (.aload_n 0, 1) := by decide +kernel
theorem dX6_read_24 : decode cX6_read 24 = .ok (.iload_n 1, 1) := by decide +kernel
theorem dX6_read_25 : decode cX6_read 25 = .ok (.iload_n 2, 1) := by decide +kernel
theorem dX6_read_26 : decode cX6_read 26 = .ok (.invokevirtual 58, 3) := by decide +kernel
theorem dX6_read_29 : decode cX6_read 29 = .ok (.iload_n 3, 1) := by decide +kernel
theorem dX6_read_30 : decode cX6_read 30 = .ok (.invokevirtual 73, 3) := by decide +kernel
theorem dX6_read_33 : decode cX6_read 33 = .ok (.i2l, 1) := by decide +kernel
theorem dX6_read_34 : decode cX6_read 34 = .ok (.lreturn, 1) := by decide +kernel
set_option maxRecDepth 20000 in
theorem ggX6_write_X6_placeFault : GoodIn wsX6_write wsX6_placeFault := goodIn_r _ [5, 6, 7, 8, 9, 4, 10, 11, 12, 13, 14, 15, 16, 17, 18, 19, 20, 21, 22, 23, 24, 25, 26, 27, 28, 29, 30, 31, 32, 33, 34, 35, 36, 37, 38, 39, 40, 41, 42, 43, 44, 45, 46, 47, 48, 49, 50, 51, 52, 53, 54, 101, 102, 103, 104, 105, 106, 107, 108] (by decide +kernel) (by decide +kernel)
set_option maxRecDepth 20000 in
theorem gX6_write_X6_placeFault : GoodIn wsX6_write (wsV RX6 69 RX6 yX6_placeFault wsX6_placeFault) := goodIn_app (goodIn_of _ (by decide +kernel)) ggX6_write_X6_placeFault
set_option maxRecDepth 20000 in
theorem ggX6_write_X6_refuse : GoodIn wsX6_write wsX6_refuse := goodIn_r _ [58, 59, 101, 102, 103, 104] (by decide +kernel) (by decide +kernel)
set_option maxRecDepth 20000 in
theorem gX6_write_X6_refuse : GoodIn wsX6_write (wsV RX6 38 RX6 yX6_refuse wsX6_refuse) := goodIn_app (goodIn_of _ (by decide +kernel)) ggX6_write_X6_refuse
set_option maxRecDepth 20000 in
theorem ggX6_write_X6_reelOn : GoodIn wsX6_write wsX6_reelOn := goodIn_r _ [22, 23, 101, 102, 103, 104] (by decide +kernel) (by decide +kernel)
set_option maxRecDepth 20000 in
theorem gX6_write_X6_reelOn : GoodIn wsX6_write (wsV RX6 58 RX6 yX6_reelOn wsX6_reelOn) := goodIn_app (goodIn_of _ (by decide +kernel)) ggX6_write_X6_reelOn
set_option maxRecDepth 20000 in
theorem ggX6_write_X0_put : GoodIn wsX6_write wsX0_put := goodIn_r _ [64, 65, 66, 34, 67, 68, 69, 70, 71, 72, 36, 73, 74, 75, 76, 77, 105] (by decide +kernel) (by decide +kernel)
set_option maxRecDepth 20000 in
theorem gX6_write_X0_put_u77X0 : GoodIn wsX6_write (va_wsU RX6 77 RX0 "ReelBarn$Reel" ⟨"ReelBarn$Reel", "put", "(II)V"⟩ yX0_put wsX0_put) := goodIn_app (goodIn_of _ (by decide +kernel)) ggX6_write_X0_put
set_option maxRecDepth 20000 in
theorem ggX6_write_X1_put : GoodIn wsX6_write wsX1_put := goodIn_r _ [80, 41, 106] (by decide +kernel) (by decide +kernel)
set_option maxRecDepth 20000 in
theorem gX6_write_X1_put_u77X1 : GoodIn wsX6_write (va_wsU RX6 77 RX1 "ReelBarn$Reel" ⟨"ReelBarn$Reel", "put", "(II)V"⟩ yX1_put wsX1_put) := goodIn_app (goodIn_of _ (by decide +kernel)) ggX6_write_X1_put
set_option maxRecDepth 20000 in
theorem ggX6_write_X2_put : GoodIn wsX6_write wsX2_put := goodIn_r _ [83, 46, 107] (by decide +kernel) (by decide +kernel)
set_option maxRecDepth 20000 in
theorem gX6_write_X2_put_u77X2 : GoodIn wsX6_write (va_wsU RX6 77 RX2 "ReelBarn$Reel" ⟨"ReelBarn$Reel", "put", "(II)V"⟩ yX2_put wsX2_put) := goodIn_app (goodIn_of _ (by decide +kernel)) ggX6_write_X2_put
set_option maxRecDepth 20000 in
theorem ggX6_write_X5_put : GoodIn wsX6_write wsX5_put := goodIn_r _ [86, 51, 108] (by decide +kernel) (by decide +kernel)
set_option maxRecDepth 20000 in
theorem gX6_write_X5_put_u77X5 : GoodIn wsX6_write (va_wsU RX6 77 RX5 "ReelBarn$Reel" ⟨"ReelBarn$Reel", "put", "(II)V"⟩ yX5_put wsX5_put) := goodIn_app (goodIn_of _ (by decide +kernel)) ggX6_write_X5_put
set_option maxRecDepth 20000 in
theorem ggX6_write_X0_told : GoodIn wsX6_write wsX0_told := goodIn_r _ [91, 36, 68, 105] (by decide +kernel) (by decide +kernel)
set_option maxRecDepth 20000 in
theorem gX6_write_X0_told_u73X0 : GoodIn wsX6_write (va_wsU RX6 73 RX0 "ReelBarn$Reel" ⟨"ReelBarn$Reel", "told", "(I)I"⟩ yX0_told wsX0_told) := goodIn_app (goodIn_of _ (by decide +kernel)) ggX6_write_X0_told
set_option maxRecDepth 20000 in
theorem ggX6_write_X1_told : GoodIn wsX6_write wsX1_told := goodIn_r _ [94, 41, 106] (by decide +kernel) (by decide +kernel)
set_option maxRecDepth 20000 in
theorem gX6_write_X1_told_u73X1 : GoodIn wsX6_write (va_wsU RX6 73 RX1 "ReelBarn$Reel" ⟨"ReelBarn$Reel", "told", "(I)I"⟩ yX1_told wsX1_told) := goodIn_app (goodIn_of _ (by decide +kernel)) ggX6_write_X1_told
set_option maxRecDepth 20000 in
theorem ggX6_write_X2_told : GoodIn wsX6_write wsX2_told := goodIn_r _ [97, 46, 107] (by decide +kernel) (by decide +kernel)
set_option maxRecDepth 20000 in
theorem gX6_write_X2_told_u73X2 : GoodIn wsX6_write (va_wsU RX6 73 RX2 "ReelBarn$Reel" ⟨"ReelBarn$Reel", "told", "(I)I"⟩ yX2_told wsX2_told) := goodIn_app (goodIn_of _ (by decide +kernel)) ggX6_write_X2_told
set_option maxRecDepth 20000 in
theorem ggX6_write_X5_told : GoodIn wsX6_write wsX5_told := goodIn_r _ [100, 51, 108] (by decide +kernel) (by decide +kernel)
set_option maxRecDepth 20000 in
theorem gX6_write_X5_told_u73X5 : GoodIn wsX6_write (va_wsU RX6 73 RX5 "ReelBarn$Reel" ⟨"ReelBarn$Reel", "told", "(I)I"⟩ yX5_told wsX5_told) := goodIn_app (goodIn_of _ (by decide +kernel)) ggX6_write_X5_told
theorem dX6_write_0 : decode cX6_write 0 = .ok (.aload_n 0, 1) := by decide +kernel
theorem dX6_write_1 : decode cX6_write 1 = .ok (.iload_n 1, 1) := by decide +kernel
theorem dX6_write_2 : decode cX6_write 2 = .ok (.iload_n 2, 1) := by decide +kernel
theorem dX6_write_3 : decode cX6_write 3 = .ok (.iload_n 3, 1) := by decide +kernel
theorem dX6_write_4 : decode cX6_write 4 = .ok (.invokevirtual 69, 3) := by decide +kernel
theorem dX6_write_7 : decode cX6_write 7 = .ok (.lstore 5, 2) := by decide +kernel
theorem dX6_write_9 : decode cX6_write 9 = .ok (.lload 5, 2) := by decide +kernel
theorem dX6_write_11 : decode cX6_write 11 = .ok (.lconst 0, 1) := by decide +kernel
theorem dX6_write_12 : decode cX6_write 12 = .ok (.lcmp, 1) := by decide +kernel
theorem dX6_write_13 : decode cX6_write 13 = .ok (.ifCond .eq 10, 3) := by decide +kernel
theorem dX6_write_16 : decode cX6_write 16 = .ok (.aload_n 0, 1) := by decide +kernel
theorem dX6_write_17 : decode cX6_write 17 = .ok (.lload 5, 2) := by decide +kernel
theorem dX6_write_19 : decode cX6_write 19 = .ok (.invokevirtual 38, 3) := by decide +kernel
theorem dX6_write_22 : decode cX6_write 22 = .ok (.lreturn, 1) := by decide +kernel
theorem dX6_write_23 : decode cX6_write 23 = .ok (.aload_n 0, 1) := by decide +kernel
theorem dX6_write_24 : decode cX6_write 24 = .ok (.iload_n 1, 1) := by decide +kernel
theorem dX6_write_25 : decode cX6_write 25 = .ok (.iload_n 2, 1) := by decide +kernel
theorem dX6_write_26 : decode cX6_write 26 = .ok (.invokevirtual 58, 3) := by decide +kernel
theorem dX6_write_29 : decode cX6_write 29 = .ok (.astore 7, 2) := by decide +kernel
theorem dX6_write_31 : decode cX6_write 31 = .ok (.aload 7, 2) := by decide +kernel
theorem dX6_write_33 : decode cX6_write 33 = .ok (.iload_n 3, 1) := by decide +kernel
theorem dX6_write_34 : decode cX6_write 34 = .ok (.iload 4, 2) := by decide +kernel
theorem dX6_write_36 : decode cX6_write 36 = .ok (.invokevirtual 77, 3) := by decide +kernel
theorem dX6_write_39 : decode cX6_write 39 = .ok (.aload 7, 2) := by decide +kernel
theorem dX6_write_41 : decode cX6_write 41 = .ok (.iload_n 3, 1) := by decide +kernel
theorem dX6_write_42 : decode cX6_write 42 = .ok (.invokevirtual 73, 3) := by decide +kernel
theorem dX6_write_45 : decode cX6_write 45 = .ok (.i2l, 1) := by decide +kernel
theorem dX6_write_46 : decode cX6_write 46 = .ok (.lreturn, 1) := by decide +kernel
set_option maxRecDepth 20000 in
theorem ggX6_nudge_X6_knowsHow : GoodIn wsX6_nudge wsX6_knowsHow := goodIn_r _ [6] (by decide +kernel) (by decide +kernel)
set_option maxRecDepth 20000 in
theorem gX6_nudge_X6_knowsHow : GoodIn wsX6_nudge (va_wsS RX6 81 yX6_knowsHow wsX6_knowsHow) := goodIn_app (goodIn_of _ (by decide +kernel)) ggX6_nudge_X6_knowsHow
set_option maxRecDepth 20000 in
theorem ggX6_nudge_X6_refuse : GoodIn wsX6_nudge wsX6_refuse := goodIn_r _ [10, 11, 120, 121, 122, 123] (by decide +kernel) (by decide +kernel)
set_option maxRecDepth 20000 in
theorem gX6_nudge_X6_refuse : GoodIn wsX6_nudge (wsV RX6 38 RX6 yX6_refuse wsX6_refuse) := goodIn_app (goodIn_of _ (by decide +kernel)) ggX6_nudge_X6_refuse
set_option maxRecDepth 20000 in
theorem ggX6_nudge_X6_placeFault : GoodIn wsX6_nudge wsX6_placeFault := goodIn_r _ [15, 16, 17, 18, 19, 5, 20, 1, 21, 22, 23, 24, 25, 26, 27, 28, 29, 30, 31, 32, 33, 34, 35, 36, 37, 38, 39, 40, 41, 42, 43, 44, 45, 46, 47, 48, 49, 50, 51, 52, 53, 54, 55, 56, 57, 58, 59, 60, 61, 62, 63, 120, 121, 122, 123, 124, 125, 126, 127] (by decide +kernel) (by decide +kernel)
set_option maxRecDepth 20000 in
theorem gX6_nudge_X6_placeFault : GoodIn wsX6_nudge (wsV RX6 69 RX6 yX6_placeFault wsX6_placeFault) := goodIn_app (goodIn_of _ (by decide +kernel)) ggX6_nudge_X6_placeFault
set_option maxRecDepth 20000 in
theorem ggX6_nudge_X6_reelOn : GoodIn wsX6_nudge wsX6_reelOn := goodIn_r _ [31, 32, 120, 121, 122, 123] (by decide +kernel) (by decide +kernel)
set_option maxRecDepth 20000 in
theorem gX6_nudge_X6_reelOn : GoodIn wsX6_nudge (wsV RX6 58 RX6 yX6_reelOn wsX6_reelOn) := goodIn_app (goodIn_of _ (by decide +kernel)) ggX6_nudge_X6_reelOn
set_option maxRecDepth 20000 in
theorem ggX6_nudge_X0_change : GoodIn wsX6_nudge wsX0_change := goodIn_r _ [69, 45, 70, 71, 43, 72, 73, 74, 75, 76, 77, 78, 79, 80, 81, 82, 124] (by decide +kernel) (by decide +kernel)
set_option maxRecDepth 20000 in
theorem gX6_nudge_X0_change_u87X0 : GoodIn wsX6_nudge (va_wsO RX6 87 RX0 "ReelBarn$Reel" ⟨"ReelBarn$Reel", "change", "(III)V"⟩ yX0_change wsX0_change) := goodIn_app (goodIn_of _ (by decide +kernel)) ggX6_nudge_X0_change
set_option maxRecDepth 20000 in
theorem ggX6_nudge_X3_change : GoodIn wsX6_nudge wsX3_change := goodIn_r _ [83, 86, 87, 88, 89, 43, 90, 45, 73, 91, 92, 48, 93, 50, 94, 95, 53, 96, 55, 97, 98, 58, 99, 60, 100, 101, 37, 102, 103, 104, 105, 106, 107, 70, 71, 72, 74, 75, 76, 77, 78, 79, 80, 81, 82, 108, 109, 110, 111, 112, 113, 114, 115, 116, 124, 125, 126, 127] (by decide +kernel) (by decide +kernel)
set_option maxRecDepth 20000 in
theorem gX6_nudge_X3_change_u87X1 : GoodIn wsX6_nudge (va_wsU RX6 87 RX1 "ReelBarn$Reel" ⟨"ReelBarn$Reel", "change", "(III)V"⟩ yX3_change wsX3_change) := goodIn_app (goodIn_of _ (by decide +kernel)) ggX6_nudge_X3_change
set_option maxRecDepth 20000 in
theorem gX6_nudge_X3_change_u87X2 : GoodIn wsX6_nudge (va_wsU RX6 87 RX2 "ReelBarn$Reel" ⟨"ReelBarn$Reel", "change", "(III)V"⟩ yX3_change wsX3_change) := goodIn_app (goodIn_of _ (by decide +kernel)) ggX6_nudge_X3_change
set_option maxRecDepth 20000 in
theorem gX6_nudge_X3_change_u87X5 : GoodIn wsX6_nudge (va_wsU RX6 87 RX5 "ReelBarn$Reel" ⟨"ReelBarn$Reel", "change", "(III)V"⟩ yX3_change wsX3_change) := goodIn_app (goodIn_of _ (by decide +kernel)) ggX6_nudge_X3_change
set_option maxRecDepth 20000 in
theorem ggX6_nudge_X0_told : GoodIn wsX6_nudge wsX0_told := goodIn_r _ [90, 45, 73, 124] (by decide +kernel) (by decide +kernel)
set_option maxRecDepth 20000 in
theorem gX6_nudge_X0_told_u73X0 : GoodIn wsX6_nudge (va_wsU RX6 73 RX0 "ReelBarn$Reel" ⟨"ReelBarn$Reel", "told", "(I)I"⟩ yX0_told wsX0_told) := goodIn_app (goodIn_of _ (by decide +kernel)) ggX6_nudge_X0_told
set_option maxRecDepth 20000 in
theorem ggX6_nudge_X1_told : GoodIn wsX6_nudge wsX1_told := goodIn_r _ [93, 50, 125] (by decide +kernel) (by decide +kernel)
set_option maxRecDepth 20000 in
theorem gX6_nudge_X1_told_u73X1 : GoodIn wsX6_nudge (va_wsU RX6 73 RX1 "ReelBarn$Reel" ⟨"ReelBarn$Reel", "told", "(I)I"⟩ yX1_told wsX1_told) := goodIn_app (goodIn_of _ (by decide +kernel)) ggX6_nudge_X1_told
set_option maxRecDepth 20000 in
theorem ggX6_nudge_X2_told : GoodIn wsX6_nudge wsX2_told := goodIn_r _ [96, 55, 126] (by decide +kernel) (by decide +kernel)
set_option maxRecDepth 20000 in
theorem gX6_nudge_X2_told_u73X2 : GoodIn wsX6_nudge (va_wsU RX6 73 RX2 "ReelBarn$Reel" ⟨"ReelBarn$Reel", "told", "(I)I"⟩ yX2_told wsX2_told) := goodIn_app (goodIn_of _ (by decide +kernel)) ggX6_nudge_X2_told
set_option maxRecDepth 20000 in
theorem ggX6_nudge_X5_told : GoodIn wsX6_nudge wsX5_told := goodIn_r _ [99, 60, 127] (by decide +kernel) (by decide +kernel)
set_option maxRecDepth 20000 in
theorem gX6_nudge_X5_told_u73X5 : GoodIn wsX6_nudge (va_wsU RX6 73 RX5 "ReelBarn$Reel" ⟨"ReelBarn$Reel", "told", "(I)I"⟩ yX5_told wsX5_told) := goodIn_app (goodIn_of _ (by decide +kernel)) ggX6_nudge_X5_told
theorem dX6_nudge_0 : decode cX6_nudge 0 = .ok (.iload_n 2, 1) := by decide +kernel
theorem dX6_nudge_1 : decode cX6_nudge 1 = .ok (.iload 4, 2) := by decide +kernel
theorem dX6_nudge_3 : decode cX6_nudge 3 = .ok (.invokestatic 81, 3) := by decide +kernel
theorem dX6_nudge_6 : decode cX6_nudge 6 = .ok (.ifCond .ne 11, 3) := by decide +kernel
theorem dX6_nudge_9 : decode cX6_nudge 9 = .ok (.aload_n 0, 1) := by decide +kernel
theorem dX6_nudge_10 : decode cX6_nudge 10 = .ok (.ldc2_w 36, 3) := by decide +kernel
theorem dX6_nudge_13 : decode cX6_nudge 13 = .ok (.invokevirtual 38, 3) := by decide +kernel
theorem dX6_nudge_16 : decode cX6_nudge 16 = .ok (.lreturn, 1) := by decide +kernel
theorem dX6_nudge_17 : decode cX6_nudge 17 = .ok (.aload_n 0, 1) := by decide +kernel
theorem dX6_nudge_18 : decode cX6_nudge 18 = .ok (.iload_n 1, 1) := by decide +kernel
theorem dX6_nudge_19 : decode cX6_nudge 19 = .ok (.iload_n 2, 1) := by decide +kernel
theorem dX6_nudge_20 : decode cX6_nudge 20 = .ok (.iload_n 3, 1) := by decide +kernel
theorem dX6_nudge_21 : decode cX6_nudge 21 = .ok (.invokevirtual 69, 3) := by decide +kernel
theorem dX6_nudge_24 : decode cX6_nudge 24 = .ok (.lstore 6, 2) := by decide +kernel
theorem dX6_nudge_26 : decode cX6_nudge 26 = .ok (.lload 6, 2) := by decide +kernel
theorem dX6_nudge_28 : decode cX6_nudge 28 = .ok (.lconst 0, 1) := by decide +kernel
theorem dX6_nudge_29 : decode cX6_nudge 29 = .ok (.lcmp, 1) := by decide +kernel
theorem dX6_nudge_30 : decode cX6_nudge 30 = .ok (.ifCond .eq 10, 3) := by decide +kernel
theorem dX6_nudge_33 : decode cX6_nudge 33 = .ok (.aload_n 0, 1) := by decide +kernel
theorem dX6_nudge_34 : decode cX6_nudge 34 = .ok (.lload 6, 2) := by decide +kernel
theorem dX6_nudge_36 : decode cX6_nudge 36 = .ok (.invokevirtual 38, 3) := by decide +kernel
theorem dX6_nudge_39 : decode cX6_nudge 39 = .ok (.lreturn, 1) := by decide +kernel
theorem dX6_nudge_40 : decode cX6_nudge 40 = .ok (.iload 4, 2) := by decide +kernel
theorem dX6_nudge_42 : decode cX6_nudge 42 = .ok (.iconst 3, 1) := by decide +kernel
theorem dX6_nudge_43 : decode cX6_nudge 43 = .ok (.if_icmp .ne 16, 3) := by decide +kernel
theorem dX6_nudge_46 : decode cX6_nudge 46 = .ok (.iload 5, 2) := by decide +kernel
theorem dX6_nudge_48 : decode cX6_nudge 48 = .ok (.ifCond .ne 11, 3) := by decide +kernel
theorem dX6_nudge_51 : decode cX6_nudge 51 = .ok (.aload_n 0, 1) := by decide +kernel
theorem dX6_nudge_52 : decode cX6_nudge 52 = .ok (.ldc2_w 85, 3) := by decide +kernel
theorem dX6_nudge_55 : decode cX6_nudge 55 = .ok (.invokevirtual 38, 3) := by decide +kernel
theorem dX6_nudge_58 : decode cX6_nudge 58 = .ok (.lreturn, 1) := by decide +kernel
theorem dX6_nudge_59 : decode cX6_nudge 59 = .ok (.aload_n 0, 1) := by decide +kernel
theorem dX6_nudge_60 : decode cX6_nudge 60 = .ok (.iload_n 1, 1) := by decide +kernel
theorem dX6_nudge_61 : decode cX6_nudge 61 = .ok (.iload_n 2, 1) := by decide +kernel
theorem dX6_nudge_62 : decode cX6_nudge 62 = .ok (.invokevirtual 58, 3) := by decide +kernel
theorem dX6_nudge_65 : decode cX6_nudge 65 = .ok (.astore 8, 2) := by decide +kernel
theorem dX6_nudge_67 : decode cX6_nudge 67 = .ok (.aload 8, 2) := by decide +kernel
theorem dX6_nudge_69 : decode cX6_nudge 69 = .ok (.iload_n 3, 1) := by decide +kernel
theorem dX6_nudge_70 : decode cX6_nudge 70 = .ok (.iload 4, 2) := by decide +kernel
theorem dX6_nudge_72 : decode cX6_nudge 72 = .ok (.iload 5, 2) := by decide +kernel
theorem dX6_nudge_74 : decode cX6_nudge 74 = .ok (.invokevirtual 87, 3) := by decide +kernel
theorem dX6_nudge_77 : decode cX6_nudge 77 = .ok (.aload 8, 2) := by decide +kernel
theorem dX6_nudge_79 : decode cX6_nudge 79 = .ok (.iload_n 3, 1) := by decide +kernel
theorem dX6_nudge_80 : decode cX6_nudge 80 = .ok (.invokevirtual 73, 3) := by decide +kernel
theorem dX6_nudge_83 : decode cX6_nudge 83 = .ok (.i2l, 1) := by decide +kernel
theorem dX6_nudge_84 : decode cX6_nudge 84 = .ok (.lreturn, 1) := by decide +kernel
set_option maxRecDepth 20000 in
theorem ggX6_tick_X6_refuse : GoodIn wsX6_tick wsX6_refuse := goodIn_r _ [6, 7, 113, 114, 115, 116] (by decide +kernel) (by decide +kernel)
set_option maxRecDepth 20000 in
theorem gX6_tick_X6_refuse : GoodIn wsX6_tick (wsV RX6 38 RX6 yX6_refuse wsX6_refuse) := goodIn_app (goodIn_of _ (by decide +kernel)) ggX6_tick_X6_refuse
set_option maxRecDepth 20000 in
theorem ggX6_tick_X6_placeFault : GoodIn wsX6_tick wsX6_placeFault := goodIn_r _ [11, 12, 13, 14, 15, 5, 16, 1, 17, 18, 19, 20, 21, 22, 23, 24, 25, 26, 27, 28, 29, 30, 31, 32, 33, 34, 35, 36, 37, 38, 39, 40, 41, 42, 43, 44, 45, 46, 47, 48, 49, 50, 51, 52, 53, 54, 55, 56, 57, 58, 59, 113, 114, 115, 116, 117, 118, 119, 120] (by decide +kernel) (by decide +kernel)
set_option maxRecDepth 20000 in
theorem gX6_tick_X6_placeFault : GoodIn wsX6_tick (wsV RX6 69 RX6 yX6_placeFault wsX6_placeFault) := goodIn_app (goodIn_of _ (by decide +kernel)) ggX6_tick_X6_placeFault
set_option maxRecDepth 20000 in
theorem ggX6_tick_X6_reelOn : GoodIn wsX6_tick wsX6_reelOn := goodIn_r _ [27, 28, 113, 114, 115, 116] (by decide +kernel) (by decide +kernel)
set_option maxRecDepth 20000 in
theorem gX6_tick_X6_reelOn : GoodIn wsX6_tick (wsV RX6 58 RX6 yX6_reelOn wsX6_reelOn) := goodIn_app (goodIn_of _ (by decide +kernel)) ggX6_tick_X6_reelOn
set_option maxRecDepth 20000 in
theorem ggX6_tick_X0_told : GoodIn wsX6_tick wsX0_told := goodIn_r _ [64, 41, 65, 117] (by decide +kernel) (by decide +kernel)
set_option maxRecDepth 20000 in
theorem gX6_tick_X0_told_u73X0 : GoodIn wsX6_tick (va_wsU RX6 73 RX0 "ReelBarn$Reel" ⟨"ReelBarn$Reel", "told", "(I)I"⟩ yX0_told wsX0_told) := goodIn_app (goodIn_of _ (by decide +kernel)) ggX6_tick_X0_told
set_option maxRecDepth 20000 in
theorem ggX6_tick_X1_told : GoodIn wsX6_tick wsX1_told := goodIn_r _ [68, 46, 118] (by decide +kernel) (by decide +kernel)
set_option maxRecDepth 20000 in
theorem gX6_tick_X1_told_u73X1 : GoodIn wsX6_tick (va_wsU RX6 73 RX1 "ReelBarn$Reel" ⟨"ReelBarn$Reel", "told", "(I)I"⟩ yX1_told wsX1_told) := goodIn_app (goodIn_of _ (by decide +kernel)) ggX6_tick_X1_told
set_option maxRecDepth 20000 in
theorem ggX6_tick_X2_told : GoodIn wsX6_tick wsX2_told := goodIn_r _ [71, 51, 119] (by decide +kernel) (by decide +kernel)
set_option maxRecDepth 20000 in
theorem gX6_tick_X2_told_u73X2 : GoodIn wsX6_tick (va_wsU RX6 73 RX2 "ReelBarn$Reel" ⟨"ReelBarn$Reel", "told", "(I)I"⟩ yX2_told wsX2_told) := goodIn_app (goodIn_of _ (by decide +kernel)) ggX6_tick_X2_told
set_option maxRecDepth 20000 in
theorem ggX6_tick_X5_told : GoodIn wsX6_tick wsX5_told := goodIn_r _ [74, 56, 120] (by decide +kernel) (by decide +kernel)
set_option maxRecDepth 20000 in
theorem gX6_tick_X5_told_u73X5 : GoodIn wsX6_tick (va_wsU RX6 73 RX5 "ReelBarn$Reel" ⟨"ReelBarn$Reel", "told", "(I)I"⟩ yX5_told wsX5_told) := goodIn_app (goodIn_of _ (by decide +kernel)) ggX6_tick_X5_told
set_option maxRecDepth 20000 in
theorem ggX6_tick_X0_stepUp : GoodIn wsX6_tick wsX0_stepUp := goodIn_r _ [80, 41, 81, 82, 83, 39, 84, 85, 86, 87, 88, 89, 117] (by decide +kernel) (by decide +kernel)
set_option maxRecDepth 20000 in
theorem gX6_tick_X0_stepUp_u91X0 : GoodIn wsX6_tick (va_wsO RX6 91 RX0 "ReelBarn$Reel" ⟨"ReelBarn$Reel", "stepUp", "(I)V"⟩ yX0_stepUp wsX0_stepUp) := goodIn_app (goodIn_of _ (by decide +kernel)) ggX6_tick_X0_stepUp
set_option maxRecDepth 20000 in
theorem ggX6_tick_X3_stepUp : GoodIn wsX6_tick wsX3_stepUp := goodIn_r _ [90, 93, 61, 62, 63, 39, 64, 41, 65, 66, 67, 44, 68, 46, 69, 70, 49, 71, 51, 72, 73, 54, 74, 56, 94, 95, 96, 97, 98, 99, 100, 101, 81, 82, 83, 84, 85, 86, 87, 88, 89, 102, 103, 104, 105, 106, 107, 108, 109, 110, 117, 118, 119, 120] (by decide +kernel) (by decide +kernel)
set_option maxRecDepth 20000 in
theorem gX6_tick_X3_stepUp_u91X1 : GoodIn wsX6_tick (va_wsU RX6 91 RX1 "ReelBarn$Reel" ⟨"ReelBarn$Reel", "stepUp", "(I)V"⟩ yX3_stepUp wsX3_stepUp) := goodIn_app (goodIn_of _ (by decide +kernel)) ggX6_tick_X3_stepUp
set_option maxRecDepth 20000 in
theorem gX6_tick_X3_stepUp_u91X2 : GoodIn wsX6_tick (va_wsU RX6 91 RX2 "ReelBarn$Reel" ⟨"ReelBarn$Reel", "stepUp", "(I)V"⟩ yX3_stepUp wsX3_stepUp) := goodIn_app (goodIn_of _ (by decide +kernel)) ggX6_tick_X3_stepUp
set_option maxRecDepth 20000 in
theorem gX6_tick_X3_stepUp_u91X5 : GoodIn wsX6_tick (va_wsU RX6 91 RX5 "ReelBarn$Reel" ⟨"ReelBarn$Reel", "stepUp", "(I)V"⟩ yX3_stepUp wsX3_stepUp) := goodIn_app (goodIn_of _ (by decide +kernel)) ggX6_tick_X3_stepUp
theorem dX6_tick_0 : decode cX6_tick 0 = .ok (.iload_n 2, 1) := by decide +kernel
theorem dX6_tick_1 : decode cX6_tick 1 = .ok (.iconst 3, 1) := by decide +kernel
theorem dX6_tick_2 : decode cX6_tick 2 = .ok (.if_icmp .ne 11, 3) := by decide +kernel
theorem dX6_tick_5 : decode cX6_tick 5 = .ok (.aload_n 0, 1) := by decide +kernel
theorem dX6_tick_6 : decode cX6_tick 6 = .ok (.ldc2_w 36, 3) := by decide +kernel
theorem dX6_tick_9 : decode cX6_tick 9 = .ok (.invokevirtual 38, 3) := by decide +kernel
theorem dX6_tick_12 : decode cX6_tick 12 = .ok (.lreturn, 1) := by decide +kernel
theorem dX6_tick_13 : decode cX6_tick 13 = .ok (.aload_n 0, 1) := by decide +kernel
theorem dX6_tick_14 : decode cX6_tick 14 = .ok (.iload_n 1, 1) := by decide +kernel
theorem dX6_tick_15 : decode cX6_tick 15 = .ok (.iload_n 2, 1) := by decide +kernel
theorem dX6_tick_16 : decode cX6_tick 16 = .ok (.iload_n 3, 1) := by decide +kernel
theorem dX6_tick_17 : decode cX6_tick 17 = .ok (.invokevirtual 69, 3) := by decide +kernel
theorem dX6_tick_20 : decode cX6_tick 20 = .ok (.lstore 5, 2) := by decide +kernel
theorem dX6_tick_22 : decode cX6_tick 22 = .ok (.lload 5, 2) := by decide +kernel
theorem dX6_tick_24 : decode cX6_tick 24 = .ok (.lconst 0, 1) := by decide +kernel
theorem dX6_tick_25 : decode cX6_tick 25 = .ok (.lcmp, 1) := by decide +kernel
theorem dX6_tick_26 : decode cX6_tick 26 = .ok (.ifCond .eq 10, 3) := by decide +kernel
theorem dX6_tick_29 : decode cX6_tick 29 = .ok (.aload_n 0, 1) := by decide +kernel
theorem dX6_tick_30 : decode cX6_tick 30 = .ok (.lload 5, 2) := by decide +kernel
theorem dX6_tick_32 : decode cX6_tick 32 = .ok (.invokevirtual 38, 3) := by decide +kernel
theorem dX6_tick_35 : decode cX6_tick 35 = .ok (.lreturn, 1) := by decide +kernel
theorem dX6_tick_36 : decode cX6_tick 36 = .ok (.aload_n 0, 1) := by decide +kernel
theorem dX6_tick_37 : decode cX6_tick 37 = .ok (.iload_n 1, 1) := by decide +kernel
theorem dX6_tick_38 : decode cX6_tick 38 = .ok (.iload_n 2, 1) := by decide +kernel
theorem dX6_tick_39 : decode cX6_tick 39 = .ok (.invokevirtual 58, 3) := by decide +kernel
theorem dX6_tick_42 : decode cX6_tick 42 = .ok (.astore 7, 2) := by decide +kernel
theorem dX6_tick_44 : decode cX6_tick 44 = .ok (.aload 7, 2) := by decide +kernel
theorem dX6_tick_46 : decode cX6_tick 46 = .ok (.iload_n 3, 1) := by decide +kernel
theorem dX6_tick_47 : decode cX6_tick 47 = .ok (.invokevirtual 73, 3) := by decide +kernel
theorem dX6_tick_50 : decode cX6_tick 50 = .ok (.istore 8, 2) := by decide +kernel
theorem dX6_tick_52 : decode cX6_tick 52 = .ok (.aload 7, 2) := by decide +kernel
theorem dX6_tick_54 : decode cX6_tick 54 = .ok (.iload_n 3, 1) := by decide +kernel
theorem dX6_tick_55 : decode cX6_tick 55 = .ok (.invokevirtual 91, 3) := by decide +kernel
theorem dX6_tick_58 : decode cX6_tick 58 = .ok (.iload 4, 2) := by decide +kernel
theorem dX6_tick_60 : decode cX6_tick 60 = .ok (.ifCond .eq 13, 3) := by decide +kernel
theorem dX6_tick_63 : decode cX6_tick 63 = .ok (.aload 7, 2) := by decide +kernel
theorem dX6_tick_65 : decode cX6_tick 65 = .ok (.iload_n 3, 1) := by decide +kernel
theorem dX6_tick_66 : decode cX6_tick 66 = .ok (.invokevirtual 73, 3) := by decide +kernel
theorem dX6_tick_69 : decode cX6_tick 69 = .ok (.i2l, 1) := by decide +kernel
theorem dX6_tick_70 : decode cX6_tick 70 = .ok (.goto 6, 3) := by decide +kernel
theorem dX6_tick_73 : decode cX6_tick 73 = .ok (.iload 8, 2) := by decide +kernel
theorem dX6_tick_75 : decode cX6_tick 75 = .ok (.i2l, 1) := by decide +kernel
theorem dX6_tick_76 : decode cX6_tick 76 = .ok (.lreturn, 1) := by decide +kernel
set_option maxRecDepth 20000 in
theorem ggX6_blend_X6_isDeck : GoodIn wsX6_blend wsX6_isDeck := goodIn_r _ [5] (by decide +kernel) (by decide +kernel)
set_option maxRecDepth 20000 in
theorem gX6_blend_X6_isDeck : GoodIn wsX6_blend (va_wsS RX6 29 yX6_isDeck wsX6_isDeck) := goodIn_app (goodIn_of _ (by decide +kernel)) ggX6_blend_X6_isDeck
set_option maxRecDepth 20000 in
theorem ggX6_blend_X6_isSort : GoodIn wsX6_blend wsX6_isSort := goodIn_r _ [8] (by decide +kernel) (by decide +kernel)
set_option maxRecDepth 20000 in
theorem gX6_blend_X6_isSort : GoodIn wsX6_blend (va_wsS RX6 33 yX6_isSort wsX6_isSort) := goodIn_app (goodIn_of _ (by decide +kernel)) ggX6_blend_X6_isSort
set_option maxRecDepth 20000 in
theorem ggX6_blend_X6_goTogether : GoodIn wsX6_blend wsX6_goTogether := goodIn_r _ [11] (by decide +kernel) (by decide +kernel)
set_option maxRecDepth 20000 in
theorem gX6_blend_X6_goTogether : GoodIn wsX6_blend (va_wsS RX6 95 yX6_goTogether wsX6_goTogether) := goodIn_app (goodIn_of _ (by decide +kernel)) ggX6_blend_X6_goTogether
set_option maxRecDepth 20000 in
theorem ggX6_blend_X6_refuse : GoodIn wsX6_blend wsX6_refuse := goodIn_r _ [15, 16, 145, 146, 147, 148] (by decide +kernel) (by decide +kernel)
set_option maxRecDepth 20000 in
theorem gX6_blend_X6_refuse : GoodIn wsX6_blend (wsV RX6 38 RX6 yX6_refuse wsX6_refuse) := goodIn_app (goodIn_of _ (by decide +kernel)) ggX6_blend_X6_refuse
set_option maxRecDepth 20000 in
theorem ggX6_blend_X6_placeFault : GoodIn wsX6_blend wsX6_placeFault := goodIn_r _ [20, 21, 22, 23, 24, 4, 25, 1, 26, 2, 3, 5, 6, 7, 8, 27, 28, 29, 30, 31, 32, 33, 34, 35, 36, 37, 38, 39, 40, 41, 42, 43, 44, 45, 46, 47, 48, 49, 50, 51, 52, 53, 54, 55, 56, 57, 58, 59, 60, 61, 62, 145, 146, 147, 148, 149, 150, 151, 152] (by decide +kernel) (by decide +kernel)
set_option maxRecDepth 20000 in
theorem gX6_blend_X6_placeFault : GoodIn wsX6_blend (wsV RX6 69 RX6 yX6_placeFault wsX6_placeFault) := goodIn_app (goodIn_of _ (by decide +kernel)) ggX6_blend_X6_placeFault
set_option maxRecDepth 20000 in
theorem ggX6_blend_X6_reelOn : GoodIn wsX6_blend wsX6_reelOn := goodIn_r _ [30, 31, 145, 146, 147, 148] (by decide +kernel) (by decide +kernel)
set_option maxRecDepth 20000 in
theorem gX6_blend_X6_reelOn : GoodIn wsX6_blend (wsV RX6 58 RX6 yX6_reelOn wsX6_reelOn) := goodIn_app (goodIn_of _ (by decide +kernel)) ggX6_blend_X6_reelOn
set_option maxRecDepth 20000 in
theorem ggX6_blend_X0_level : GoodIn wsX6_blend wsX0_level := goodIn_r _ [68, 44, 149] (by decide +kernel) (by decide +kernel)
set_option maxRecDepth 20000 in
theorem gX6_blend_X0_level_u98X0 : GoodIn wsX6_blend (va_wsO RX6 98 RX0 "ReelBarn$Reel" ⟨"ReelBarn$Reel", "level", "(I)F"⟩ yX0_level wsX0_level) := goodIn_app (goodIn_of _ (by decide +kernel)) ggX6_blend_X0_level
set_option maxRecDepth 20000 in
theorem ggX6_blend_X3_level : GoodIn wsX6_blend wsX3_level := goodIn_r _ [69, 72, 73, 74, 75, 42, 76, 44, 77, 78, 79, 47, 80, 49, 81, 82, 52, 83, 54, 84, 85, 57, 86, 59, 149, 150, 151, 152] (by decide +kernel) (by decide +kernel)
set_option maxRecDepth 20000 in
theorem gX6_blend_X3_level_u98X1 : GoodIn wsX6_blend (va_wsU RX6 98 RX1 "ReelBarn$Reel" ⟨"ReelBarn$Reel", "level", "(I)F"⟩ yX3_level wsX3_level) := goodIn_app (goodIn_of _ (by decide +kernel)) ggX6_blend_X3_level
set_option maxRecDepth 20000 in
theorem gX6_blend_X3_level_u98X2 : GoodIn wsX6_blend (va_wsU RX6 98 RX2 "ReelBarn$Reel" ⟨"ReelBarn$Reel", "level", "(I)F"⟩ yX3_level wsX3_level) := goodIn_app (goodIn_of _ (by decide +kernel)) ggX6_blend_X3_level
set_option maxRecDepth 20000 in
theorem gX6_blend_X3_level_u98X5 : GoodIn wsX6_blend (va_wsU RX6 98 RX5 "ReelBarn$Reel" ⟨"ReelBarn$Reel", "level", "(I)F"⟩ yX3_level wsX3_level) := goodIn_app (goodIn_of _ (by decide +kernel)) ggX6_blend_X3_level
set_option maxRecDepth 20000 in
theorem ggX6_blend_X6_blendFloats : GoodIn wsX6_blend wsX6_blendFloats := goodIn_r _ [91, 63, 64, 65, 66, 67, 42, 68, 44, 69, 70, 71, 36, 72, 73, 74, 75, 76, 77, 78, 79, 47, 80, 49, 81, 82, 52, 83, 54, 84, 85, 57, 86, 59, 87, 88, 92, 93, 94, 95, 96, 97, 98, 99, 100, 101, 102, 103, 104, 105, 106, 107, 108, 109, 110, 111, 112, 113, 114, 115, 116, 117, 118, 119, 120, 121, 122, 123, 124, 125, 126, 149, 150, 151, 152] (by decide +kernel) (by decide +kernel)
set_option maxRecDepth 20000 in
theorem gX6_blend_X6_blendFloats : GoodIn wsX6_blend (va_wsS RX6 102 yX6_blendFloats wsX6_blendFloats) := goodIn_app (goodIn_of _ (by decide +kernel)) ggX6_blend_X6_blendFloats
set_option maxRecDepth 20000 in
theorem ggX6_blend_X6_howToBlend : GoodIn wsX6_blend wsX6_howToBlend := goodIn_r _ [129] (by decide +kernel) (by decide +kernel)
set_option maxRecDepth 20000 in
theorem gX6_blend_X6_howToBlend : GoodIn wsX6_blend (va_wsS RX6 106 yX6_howToBlend wsX6_howToBlend) := goodIn_app (goodIn_of _ (by decide +kernel)) ggX6_blend_X6_howToBlend
set_option maxRecDepth 20000 in
theorem ggX6_blend_X0_told : GoodIn wsX6_blend wsX0_told := goodIn_r _ [76, 44, 77, 149] (by decide +kernel) (by decide +kernel)
set_option maxRecDepth 20000 in
theorem gX6_blend_X0_told_u73X0 : GoodIn wsX6_blend (va_wsU RX6 73 RX0 "ReelBarn$Reel" ⟨"ReelBarn$Reel", "told", "(I)I"⟩ yX0_told wsX0_told) := goodIn_app (goodIn_of _ (by decide +kernel)) ggX6_blend_X0_told
set_option maxRecDepth 20000 in
theorem ggX6_blend_X1_told : GoodIn wsX6_blend wsX1_told := goodIn_r _ [80, 49, 150] (by decide +kernel) (by decide +kernel)
set_option maxRecDepth 20000 in
theorem gX6_blend_X1_told_u73X1 : GoodIn wsX6_blend (va_wsU RX6 73 RX1 "ReelBarn$Reel" ⟨"ReelBarn$Reel", "told", "(I)I"⟩ yX1_told wsX1_told) := goodIn_app (goodIn_of _ (by decide +kernel)) ggX6_blend_X1_told
set_option maxRecDepth 20000 in
theorem ggX6_blend_X2_told : GoodIn wsX6_blend wsX2_told := goodIn_r _ [83, 54, 151] (by decide +kernel) (by decide +kernel)
set_option maxRecDepth 20000 in
theorem gX6_blend_X2_told_u73X2 : GoodIn wsX6_blend (va_wsU RX6 73 RX2 "ReelBarn$Reel" ⟨"ReelBarn$Reel", "told", "(I)I"⟩ yX2_told wsX2_told) := goodIn_app (goodIn_of _ (by decide +kernel)) ggX6_blend_X2_told
set_option maxRecDepth 20000 in
theorem ggX6_blend_X5_told : GoodIn wsX6_blend wsX5_told := goodIn_r _ [86, 59, 152] (by decide +kernel) (by decide +kernel)
set_option maxRecDepth 20000 in
theorem gX6_blend_X5_told_u73X5 : GoodIn wsX6_blend (va_wsU RX6 73 RX5 "ReelBarn$Reel" ⟨"ReelBarn$Reel", "told", "(I)I"⟩ yX5_told wsX5_told) := goodIn_app (goodIn_of _ (by decide +kernel)) ggX6_blend_X5_told
set_option maxRecDepth 20000 in
theorem ggX6_blend_X0_change : GoodIn wsX6_blend wsX0_change := goodIn_r _ [136, 44, 111, 112, 42, 113, 77, 114, 96, 115, 97, 98, 99, 100, 101, 102, 149] (by decide +kernel) (by decide +kernel)
set_option maxRecDepth 20000 in
theorem gX6_blend_X0_change_u87X0 : GoodIn wsX6_blend (va_wsO RX6 87 RX0 "ReelBarn$Reel" ⟨"ReelBarn$Reel", "change", "(III)V"⟩ yX0_change wsX0_change) := goodIn_app (goodIn_of _ (by decide +kernel)) ggX6_blend_X0_change
set_option maxRecDepth 20000 in
theorem ggX6_blend_X3_change : GoodIn wsX6_blend wsX3_change := goodIn_r _ [137, 72, 73, 74, 75, 42, 76, 44, 77, 78, 79, 47, 80, 49, 81, 82, 52, 83, 54, 84, 85, 57, 86, 59, 140, 141, 36, 142, 106, 107, 108, 109, 110, 111, 112, 113, 114, 96, 115, 97, 98, 99, 100, 101, 102, 116, 117, 118, 119, 120, 121, 122, 123, 124, 149, 150, 151, 152] (by decide +kernel) (by decide +kernel)
set_option maxRecDepth 20000 in
theorem gX6_blend_X3_change_u87X1 : GoodIn wsX6_blend (va_wsU RX6 87 RX1 "ReelBarn$Reel" ⟨"ReelBarn$Reel", "change", "(III)V"⟩ yX3_change wsX3_change) := goodIn_app (goodIn_of _ (by decide +kernel)) ggX6_blend_X3_change
set_option maxRecDepth 20000 in
theorem gX6_blend_X3_change_u87X2 : GoodIn wsX6_blend (va_wsU RX6 87 RX2 "ReelBarn$Reel" ⟨"ReelBarn$Reel", "change", "(III)V"⟩ yX3_change wsX3_change) := goodIn_app (goodIn_of _ (by decide +kernel)) ggX6_blend_X3_change
set_option maxRecDepth 20000 in
theorem gX6_blend_X3_change_u87X5 : GoodIn wsX6_blend (va_wsU RX6 87 RX5 "ReelBarn$Reel" ⟨"ReelBarn$Reel", "change", "(III)V"⟩ yX3_change wsX3_change) := goodIn_app (goodIn_of _ (by decide +kernel)) ggX6_blend_X3_change
theorem dX6_blend_0 : decode cX6_blend 0 = .ok (.iload_n 1, 1) := by decide +kernel
theorem dX6_blend_1 : decode cX6_blend 1 = .ok (.invokestatic 29, 3) := by decide +kernel
theorem dX6_blend_4 : decode cX6_blend 4 = .ok (.ifCond .eq 19, 3) := by decide +kernel
theorem dX6_blend_7 : decode cX6_blend 7 = .ok (.iload_n 2, 1) := by decide +kernel
theorem dX6_blend_8 : decode cX6_blend 8 = .ok (.invokestatic 33, 3) := by decide +kernel
theorem dX6_blend_11 : decode cX6_blend 11 = .ok (.ifCond .eq 12, 3) := by decide +kernel
theorem dX6_blend_14 : decode cX6_blend 14 = .ok (.iload_n 2, 1) := by decide +kernel
theorem dX6_blend_15 : decode cX6_blend 15 = .ok (.iload 5, 2) := by decide +kernel
theorem dX6_blend_17 : decode cX6_blend 17 = .ok (.invokestatic 95, 3) := by decide +kernel
theorem dX6_blend_20 : decode cX6_blend 20 = .ok (.ifCond .ne 11, 3) := by decide +kernel
theorem dX6_blend_23 : decode cX6_blend 23 = .ok (.aload_n 0, 1) := by decide +kernel
theorem dX6_blend_24 : decode cX6_blend 24 = .ok (.ldc2_w 36, 3) := by decide +kernel
theorem dX6_blend_27 : decode cX6_blend 27 = .ok (.invokevirtual 38, 3) := by decide +kernel
theorem dX6_blend_30 : decode cX6_blend 30 = .ok (.lreturn, 1) := by decide +kernel
theorem dX6_blend_31 : decode cX6_blend 31 = .ok (.aload_n 0, 1) := by decide +kernel
theorem dX6_blend_32 : decode cX6_blend 32 = .ok (.iload 4, 2) := by decide +kernel
theorem dX6_blend_34 : decode cX6_blend 34 = .ok (.iload 5, 2) := by decide +kernel
theorem dX6_blend_36 : decode cX6_blend 36 = .ok (.iload 6, 2) := by decide +kernel
theorem dX6_blend_38 : decode cX6_blend 38 = .ok (.invokevirtual 69, 3) := by decide +kernel
theorem dX6_blend_41 : decode cX6_blend 41 = .ok (.lstore 8, 2) := by decide +kernel
theorem dX6_blend_43 : decode cX6_blend 43 = .ok (.lload 8, 2) := by decide +kernel
theorem dX6_blend_45 : decode cX6_blend 45 = .ok (.lconst 0, 1) := by decide +kernel
theorem dX6_blend_46 : decode cX6_blend 46 = .ok (.lcmp, 1) := by decide +kernel
theorem dX6_blend_47 : decode cX6_blend 47 = .ok (.ifCond .ne 12, 3) := by decide +kernel
theorem dX6_blend_50 : decode cX6_blend 50 = .ok (.aload_n 0, 1) := by decide +kernel
theorem dX6_blend_51 : decode cX6_blend 51 = .ok (.iload_n 1, 1) := by decide +kernel
theorem dX6_blend_52 : decode cX6_blend 52 = .ok (.iload_n 2, 1) := by decide +kernel
theorem dX6_blend_53 : decode cX6_blend 53 = .ok (.iload_n 3, 1) := by decide +kernel
theorem dX6_blend_54 : decode cX6_blend 54 = .ok (.invokevirtual 69, 3) := by decide +kernel
theorem dX6_blend_57 : decode cX6_blend 57 = .ok (.lstore 8, 2) := by decide +kernel
theorem dX6_blend_59 : decode cX6_blend 59 = .ok (.lload 8, 2) := by decide +kernel
theorem dX6_blend_61 : decode cX6_blend 61 = .ok (.lconst 0, 1) := by decide +kernel
theorem dX6_blend_62 : decode cX6_blend 62 = .ok (.lcmp, 1) := by decide +kernel
theorem dX6_blend_63 : decode cX6_blend 63 = .ok (.ifCond .eq 10, 3) := by decide +kernel
theorem dX6_blend_66 : decode cX6_blend 66 = .ok (.aload_n 0, 1) := by decide +kernel
theorem dX6_blend_67 : decode cX6_blend 67 = .ok (.lload 8, 2) := by decide +kernel
theorem dX6_blend_69 : decode cX6_blend 69 = .ok (.invokevirtual 38, 3) := by decide +kernel
theorem dX6_blend_72 : decode cX6_blend 72 = .ok (.lreturn, 1) := by decide +kernel
theorem dX6_blend_73 : decode cX6_blend 73 = .ok (.aload_n 0, 1) := by decide +kernel
theorem dX6_blend_74 : decode cX6_blend 74 = .ok (.iload_n 1, 1) := by decide +kernel
theorem dX6_blend_75 : decode cX6_blend 75 = .ok (.iload_n 2, 1) := by decide +kernel
theorem dX6_blend_76 : decode cX6_blend 76 = .ok (.invokevirtual 58, 3) := by decide +kernel
theorem dX6_blend_79 : decode cX6_blend 79 = .ok (.astore 10, 2) := by decide +kernel
theorem dX6_blend_81 : decode cX6_blend 81 = .ok (.aload_n 0, 1) := by decide +kernel
theorem dX6_blend_82 : decode cX6_blend 82 = .ok (.iload 4, 2) := by decide +kernel
theorem dX6_blend_84 : decode cX6_blend 84 = .ok (.iload 5, 2) := by decide +kernel
theorem dX6_blend_86 : decode cX6_blend 86 = .ok (.invokevirtual 58, 3) := by decide +kernel
theorem dX6_blend_89 : decode cX6_blend 89 = .ok (.astore 11, 2) := by decide +kernel
theorem dX6_blend_91 : decode cX6_blend 91 = .ok (.iload_n 2, 1) := by decide +kernel
theorem dX6_blend_92 : decode cX6_blend 92 = .ok (.iconst 2, 1) := by decide +kernel
theorem dX6_blend_93 : decode cX6_blend 93 = .ok (.if_icmp .eq 9, 3) := by decide +kernel
theorem dX6_blend_96 : decode cX6_blend 96 = .ok (.iload 5, 2) := by decide +kernel
theorem dX6_blend_98 : decode cX6_blend 98 = .ok (.iconst 2, 1) := by decide +kernel
theorem dX6_blend_99 : decode cX6_blend 99 = .ok (.if_icmp .ne 21, 3) := by decide +kernel
theorem dX6_blend_102 : decode cX6_blend 102 = .ok (.aload 10, 2) := by decide +kernel
theorem dX6_blend_104 : decode cX6_blend 104 = .ok (.iload_n 3, 1) := by decide +kernel
theorem dX6_blend_105 : decode cX6_blend 105 = .ok (.aload 11, 2) := by decide +kernel
theorem dX6_blend_107 : decode cX6_blend 107 = .ok (.iload 6, 2) := by decide +kernel
theorem dX6_blend_109 : decode cX6_blend 109 = .ok (.invokevirtual 98, 3) := by decide +kernel
theorem dX6_blend_112 : decode cX6_blend 112 = .ok (.iload 7, 2) := by decide +kernel
theorem dX6_blend_114 : decode cX6_blend 114 = .ok (.invokestatic 102, 3) := by decide +kernel
theorem dX6_blend_117 : decode cX6_blend 117 = .ok (.goto 22, 3) := by decide +kernel
theorem dX6_blend_120 : decode cX6_blend 120 = .ok (.aload 10, 2) := by decide +kernel
theorem dX6_blend_122 : decode cX6_blend 122 = .ok (.iload_n 3, 1) := by decide +kernel
theorem dX6_blend_123 : decode cX6_blend 123 = .ok (.iload_n 2, 1) := by decide +kernel
theorem dX6_blend_124 : decode cX6_blend 124 = .ok (.iload 7, 2) := by decide +kernel
theorem dX6_blend_126 : decode cX6_blend 126 = .ok (.invokestatic 106, 3) := by decide +kernel
theorem dX6_blend_129 : decode cX6_blend 129 = .ok (.aload 11, 2) := by decide +kernel
theorem dX6_blend_131 : decode cX6_blend 131 = .ok (.iload 6, 2) := by decide +kernel
theorem dX6_blend_133 : decode cX6_blend 133 = .ok (.invokevirtual 73, 3) := by decide +kernel
theorem dX6_blend_136 : decode cX6_blend 136 = .ok (.invokevirtual 87, 3) := by decide +kernel
theorem dX6_blend_139 : decode cX6_blend 139 = .ok (.aload 10, 2) := by decide +kernel
theorem dX6_blend_141 : decode cX6_blend 141 = .ok (.iload_n 3, 1) := by decide +kernel
theorem dX6_blend_142 : decode cX6_blend 142 = .ok (.invokevirtual 73, 3) := by decide +kernel
theorem dX6_blend_145 : decode cX6_blend 145 = .ok (.i2l, 1) := by decide +kernel
theorem dX6_blend_146 : decode cX6_blend 146 = .ok (.lreturn, 1) := by decide +kernel
set_option maxRecDepth 20000 in
theorem ggX6_hang_X6_isSort : GoodIn wsX6_hang wsX6_isSort := goodIn_r _ [6] (by decide +kernel) (by decide +kernel)
set_option maxRecDepth 20000 in
theorem gX6_hang_X6_isSort : GoodIn wsX6_hang (va_wsS RX6 33 yX6_isSort wsX6_isSort) := goodIn_app (goodIn_of _ (by decide +kernel)) ggX6_hang_X6_isSort
set_option maxRecDepth 20000 in
theorem ggX6_hang_X6_refuse : GoodIn wsX6_hang wsX6_refuse := goodIn_r _ [10, 11, 71, 72, 73, 74] (by decide +kernel) (by decide +kernel)
set_option maxRecDepth 20000 in
theorem gX6_hang_X6_refuse : GoodIn wsX6_hang (wsV RX6 38 RX6 yX6_refuse wsX6_refuse) := goodIn_app (goodIn_of _ (by decide +kernel)) ggX6_hang_X6_refuse
set_option maxRecDepth 20000 in
theorem ggX6_hang_X6_gridFault : GoodIn wsX6_hang wsX6_gridFault := goodIn_r _ [14, 15, 16] (by decide +kernel) (by decide +kernel)
set_option maxRecDepth 20000 in
theorem gX6_hang_X6_gridFault : GoodIn wsX6_hang (va_wsS RX6 110 yX6_gridFault wsX6_gridFault) := goodIn_app (goodIn_of _ (by decide +kernel)) ggX6_hang_X6_gridFault
set_option maxRecDepth 20000 in
theorem ggX6_hang_X6_newWall : GoodIn wsX6_hang wsX6_newWall := goodIn_r _ [19, 20, 21, 22, 23, 24, 25, 26, 27, 28, 29, 30, 31, 32, 33, 5, 34, 35, 36, 37, 38, 39, 40, 41, 42, 43, 44, 45, 46, 47, 48, 49, 50, 51, 52, 53, 54, 55, 56, 57, 58, 59, 60, 61, 62, 63, 64, 65, 66, 67, 68, 69, 70, 75, 76, 77, 78, 79] (by decide +kernel) (by decide +kernel)
set_option maxRecDepth 20000 in
theorem gX6_hang_X6_newWall : GoodIn wsX6_hang (va_wsS RX6 113 yX6_newWall wsX6_newWall) := goodIn_app (goodIn_of _ (by decide +kernel)) ggX6_hang_X6_newWall
theorem dX6_hang_0 : decode cX6_hang 0 = .ok (.iload_n 1, 1) := by decide +kernel
theorem dX6_hang_1 : decode cX6_hang 1 = .ok (.invokestatic 33, 3) := by decide +kernel
theorem dX6_hang_4 : decode cX6_hang 4 = .ok (.ifCond .ne 11, 3) := by decide +kernel
theorem dX6_hang_7 : decode cX6_hang 7 = .ok (.aload_n 0, 1) := by decide +kernel
theorem dX6_hang_8 : decode cX6_hang 8 = .ok (.ldc2_w 36, 3) := by decide +kernel
theorem dX6_hang_11 : decode cX6_hang 11 = .ok (.invokevirtual 38, 3) := by decide +kernel
theorem dX6_hang_14 : decode cX6_hang 14 = .ok (.lreturn, 1) := by decide +kernel
theorem dX6_hang_15 : decode cX6_hang 15 = .ok (.iload_n 2, 1) := by decide +kernel
theorem dX6_hang_16 : decode cX6_hang 16 = .ok (.iload_n 3, 1) := by decide +kernel
theorem dX6_hang_17 : decode cX6_hang 17 = .ok (.invokestatic 110, 3) := by decide +kernel
theorem dX6_hang_20 : decode cX6_hang 20 = .ok (.lstore 4, 2) := by decide +kernel
theorem dX6_hang_22 : decode cX6_hang 22 = .ok (.lload 4, 2) := by decide +kernel
theorem dX6_hang_24 : decode cX6_hang 24 = .ok (.lconst 0, 1) := by decide +kernel
theorem dX6_hang_25 : decode cX6_hang 25 = .ok (.lcmp, 1) := by decide +kernel
theorem dX6_hang_26 : decode cX6_hang 26 = .ok (.ifCond .eq 10, 3) := by decide +kernel
theorem dX6_hang_29 : decode cX6_hang 29 = .ok (.aload_n 0, 1) := by decide +kernel
theorem dX6_hang_30 : decode cX6_hang 30 = .ok (.lload 4, 2) := by decide +kernel
theorem dX6_hang_32 : decode cX6_hang 32 = .ok (.invokevirtual 38, 3) := by decide +kernel
theorem dX6_hang_35 : decode cX6_hang 35 = .ok (.lreturn, 1) := by decide +kernel
theorem dX6_hang_36 : decode cX6_hang 36 = .ok (.aload_n 0, 1) := by decide +kernel
theorem dX6_hang_37 : decode cX6_hang 37 = .ok (.getfield 17, 3) := by decide +kernel
theorem dX6_hang_40 : decode cX6_hang 40 = .ok (.iload_n 1, 1) := by decide +kernel
theorem dX6_hang_41 : decode cX6_hang 41 = .ok (.iload_n 1, 1) := by decide +kernel
theorem dX6_hang_42 : decode cX6_hang 42 = .ok (.iload_n 2, 1) := by decide +kernel
theorem dX6_hang_43 : decode cX6_hang 43 = .ok (.iload_n 3, 1) := by decide +kernel
theorem dX6_hang_44 : decode cX6_hang 44 = .ok (.invokestatic 113, 3) := by decide +kernel
theorem dX6_hang_47 : decode cX6_hang 47 = .ok (.aastore, 1) := by decide +kernel
theorem dX6_hang_48 : decode cX6_hang 48 = .ok (.iload_n 2, 1) := by decide +kernel
theorem dX6_hang_49 : decode cX6_hang 49 = .ok (.i2l, 1) := by decide +kernel
theorem dX6_hang_50 : decode cX6_hang 50 = .ok (.lreturn, 1) := by decide +kernel
set_option maxRecDepth 20000 in
theorem ggX6_pin_X6_isDeck : GoodIn wsX6_pin wsX6_isDeck := goodIn_r _ [7] (by decide +kernel) (by decide +kernel)
set_option maxRecDepth 20000 in
theorem gX6_pin_X6_isDeck : GoodIn wsX6_pin (va_wsS RX6 29 yX6_isDeck wsX6_isDeck) := goodIn_app (goodIn_of _ (by decide +kernel)) ggX6_pin_X6_isDeck
set_option maxRecDepth 20000 in
theorem ggX6_pin_X6_refuse : GoodIn wsX6_pin wsX6_refuse := goodIn_r _ [11, 12, 34, 35, 36, 37] (by decide +kernel) (by decide +kernel)
set_option maxRecDepth 20000 in
theorem gX6_pin_X6_refuse : GoodIn wsX6_pin (wsV RX6 38 RX6 yX6_refuse wsX6_refuse) := goodIn_app (goodIn_of _ (by decide +kernel)) ggX6_pin_X6_refuse
set_option maxRecDepth 20000 in
theorem ggX6_pin_X6_rowFault : GoodIn wsX6_pin wsX6_rowFault := goodIn_r _ [16, 2, 3, 17, 18, 19, 20, 6, 21, 1, 22, 23, 24, 25, 34, 35, 36, 37, 38] (by decide +kernel) (by decide +kernel)
set_option maxRecDepth 20000 in
theorem gX6_pin_X6_rowFault : GoodIn wsX6_pin (wsV RX6 117 RX6 yX6_rowFault wsX6_rowFault) := goodIn_app (goodIn_of _ (by decide +kernel)) ggX6_pin_X6_rowFault
set_option maxRecDepth 20000 in
theorem ggX6_pin_X6_reelOn : GoodIn wsX6_pin wsX6_reelOn := goodIn_r _ [29, 30, 34, 35, 36, 37] (by decide +kernel) (by decide +kernel)
set_option maxRecDepth 20000 in
theorem gX6_pin_X6_reelOn : GoodIn wsX6_pin (wsV RX6 58 RX6 yX6_reelOn wsX6_reelOn) := goodIn_app (goodIn_of _ (by decide +kernel)) ggX6_pin_X6_reelOn
set_option maxRecDepth 20000 in
theorem ggX6_pin_X6_oneIfThere : GoodIn wsX6_pin wsX6_oneIfThere := goodIn_r _ [33] (by decide +kernel) (by decide +kernel)
set_option maxRecDepth 20000 in
theorem gX6_pin_X6_oneIfThere : GoodIn wsX6_pin (va_wsS RX6 65 yX6_oneIfThere wsX6_oneIfThere) := goodIn_app (goodIn_of _ (by decide +kernel)) ggX6_pin_X6_oneIfThere
theorem dX6_pin_0 : decode cX6_pin 0 = .ok (.iload_n 3, 1) := by decide +kernel
theorem dX6_pin_1 : decode cX6_pin 1 = .ok (.invokestatic 29, 3) := by decide +kernel
theorem dX6_pin_4 : decode cX6_pin 4 = .ok (.ifCond .ne 11, 3) := by decide +kernel
theorem dX6_pin_7 : decode cX6_pin 7 = .ok (.aload_n 0, 1) := by decide +kernel
theorem dX6_pin_8 : decode cX6_pin 8 = .ok (.ldc2_w 36, 3) := by decide +kernel
theorem dX6_pin_11 : decode cX6_pin 11 = .ok (.invokevirtual 38, 3) := by decide +kernel
theorem dX6_pin_14 : decode cX6_pin 14 = .ok (.lreturn, 1) := by decide +kernel
theorem dX6_pin_15 : decode cX6_pin 15 = .ok (.aload_n 0, 1) := by decide +kernel
theorem dX6_pin_16 : decode cX6_pin 16 = .ok (.iload_n 1, 1) := by decide +kernel
theorem dX6_pin_17 : decode cX6_pin 17 = .ok (.iload_n 2, 1) := by decide +kernel
theorem dX6_pin_18 : decode cX6_pin 18 = .ok (.invokevirtual 117, 3) := by decide +kernel
theorem dX6_pin_21 : decode cX6_pin 21 = .ok (.lstore 4, 2) := by decide +kernel
theorem dX6_pin_23 : decode cX6_pin 23 = .ok (.lload 4, 2) := by decide +kernel
theorem dX6_pin_25 : decode cX6_pin 25 = .ok (.lconst 0, 1) := by decide +kernel
theorem dX6_pin_26 : decode cX6_pin 26 = .ok (.lcmp, 1) := by decide +kernel
theorem dX6_pin_27 : decode cX6_pin 27 = .ok (.ifCond .eq 10, 3) := by decide +kernel
theorem dX6_pin_30 : decode cX6_pin 30 = .ok (.aload_n 0, 1) := by decide +kernel
theorem dX6_pin_31 : decode cX6_pin 31 = .ok (.lload 4, 2) := by decide +kernel
theorem dX6_pin_33 : decode cX6_pin 33 = .ok (.invokevirtual 38, 3) := by decide +kernel
theorem dX6_pin_36 : decode cX6_pin 36 = .ok (.lreturn, 1) := by decide +kernel
theorem dX6_pin_37 : decode cX6_pin 37 = .ok (.aload_n 0, 1) := by decide +kernel
theorem dX6_pin_38 : decode cX6_pin 38 = .ok (.iload_n 3, 1) := by decide +kernel
theorem dX6_pin_39 : decode cX6_pin 39 = .ok (.iload_n 1, 1) := by decide +kernel
theorem dX6_pin_40 : decode cX6_pin 40 = .ok (.invokevirtual 58, 3) := by decide +kernel
theorem dX6_pin_43 : decode cX6_pin 43 = .ok (.astore 6, 2) := by decide +kernel
theorem dX6_pin_45 : decode cX6_pin 45 = .ok (.aload_n 0, 1) := by decide +kernel
theorem dX6_pin_46 : decode cX6_pin 46 = .ok (.getfield 17, 3) := by decide +kernel
theorem dX6_pin_49 : decode cX6_pin 49 = .ok (.iload_n 1, 1) := by decide +kernel
theorem dX6_pin_50 : decode cX6_pin 50 = .ok (.aaload, 1) := by decide +kernel
theorem dX6_pin_51 : decode cX6_pin 51 = .ok (.getfield 120, 3) := by decide +kernel
theorem dX6_pin_54 : decode cX6_pin 54 = .ok (.iload_n 2, 1) := by decide +kernel
theorem dX6_pin_55 : decode cX6_pin 55 = .ok (.aload 6, 2) := by decide +kernel
theorem dX6_pin_57 : decode cX6_pin 57 = .ok (.aastore, 1) := by decide +kernel
theorem dX6_pin_58 : decode cX6_pin 58 = .ok (.aload 6, 2) := by decide +kernel
theorem dX6_pin_60 : decode cX6_pin 60 = .ok (.invokestatic 65, 3) := by decide +kernel
theorem dX6_pin_63 : decode cX6_pin 63 = .ok (.lreturn, 1) := by decide +kernel
set_option maxRecDepth 20000 in
theorem ggX6_peel_X6_isDeck : GoodIn wsX6_peel wsX6_isDeck := goodIn_r _ [7] (by decide +kernel) (by decide +kernel)
set_option maxRecDepth 20000 in
theorem gX6_peel_X6_isDeck : GoodIn wsX6_peel (va_wsS RX6 29 yX6_isDeck wsX6_isDeck) := goodIn_app (goodIn_of _ (by decide +kernel)) ggX6_peel_X6_isDeck
set_option maxRecDepth 20000 in
theorem ggX6_peel_X6_refuse : GoodIn wsX6_peel wsX6_refuse := goodIn_r _ [11, 12, 34, 35, 36, 37] (by decide +kernel) (by decide +kernel)
set_option maxRecDepth 20000 in
theorem gX6_peel_X6_refuse : GoodIn wsX6_peel (wsV RX6 38 RX6 yX6_refuse wsX6_refuse) := goodIn_app (goodIn_of _ (by decide +kernel)) ggX6_peel_X6_refuse
set_option maxRecDepth 20000 in
theorem ggX6_peel_X6_rowFault : GoodIn wsX6_peel wsX6_rowFault := goodIn_r _ [16, 2, 3, 17, 18, 19, 20, 6, 21, 1, 22, 23, 24, 25, 34, 35, 36, 37, 38] (by decide +kernel) (by decide +kernel)
set_option maxRecDepth 20000 in
theorem gX6_peel_X6_rowFault : GoodIn wsX6_peel (wsV RX6 117 RX6 yX6_rowFault wsX6_rowFault) := goodIn_app (goodIn_of _ (by decide +kernel)) ggX6_peel_X6_rowFault
set_option maxRecDepth 20000 in
theorem ggX6_peel_X6_carry : GoodIn wsX6_peel wsX6_carry := goodIn_r _ [29, 30, 34, 35, 36, 37] (by decide +kernel) (by decide +kernel)
set_option maxRecDepth 20000 in
theorem gX6_peel_X6_carry : GoodIn wsX6_peel (wsV RX6 50 RX6 yX6_carry wsX6_carry) := goodIn_app (goodIn_of _ (by decide +kernel)) ggX6_peel_X6_carry
set_option maxRecDepth 20000 in
theorem ggX6_peel_X6_oneIfThere : GoodIn wsX6_peel wsX6_oneIfThere := goodIn_r _ [33] (by decide +kernel) (by decide +kernel)
set_option maxRecDepth 20000 in
theorem gX6_peel_X6_oneIfThere : GoodIn wsX6_peel (va_wsS RX6 65 yX6_oneIfThere wsX6_oneIfThere) := goodIn_app (goodIn_of _ (by decide +kernel)) ggX6_peel_X6_oneIfThere
theorem dX6_peel_0 : decode cX6_peel 0 = .ok (.iload_n 3, 1) := by decide +kernel
theorem dX6_peel_1 : decode cX6_peel 1 = .ok (.invokestatic 29, 3) := by decide +kernel
theorem dX6_peel_4 : decode cX6_peel 4 = .ok (.ifCond .ne 11, 3) := by decide +kernel
theorem dX6_peel_7 : decode cX6_peel 7 = .ok (.aload_n 0, 1) := by decide +kernel
theorem dX6_peel_8 : decode cX6_peel 8 = .ok (.ldc2_w 36, 3) := by decide +kernel
theorem dX6_peel_11 : decode cX6_peel 11 = .ok (.invokevirtual 38, 3) := by decide +kernel
theorem dX6_peel_14 : decode cX6_peel 14 = .ok (.lreturn, 1) := by decide +kernel
theorem dX6_peel_15 : decode cX6_peel 15 = .ok (.aload_n 0, 1) := by decide +kernel
theorem dX6_peel_16 : decode cX6_peel 16 = .ok (.iload_n 1, 1) := by decide +kernel
theorem dX6_peel_17 : decode cX6_peel 17 = .ok (.iload_n 2, 1) := by decide +kernel
theorem dX6_peel_18 : decode cX6_peel 18 = .ok (.invokevirtual 117, 3) := by decide +kernel
theorem dX6_peel_21 : decode cX6_peel 21 = .ok (.lstore 4, 2) := by decide +kernel
theorem dX6_peel_23 : decode cX6_peel 23 = .ok (.lload 4, 2) := by decide +kernel
theorem dX6_peel_25 : decode cX6_peel 25 = .ok (.lconst 0, 1) := by decide +kernel
theorem dX6_peel_26 : decode cX6_peel 26 = .ok (.lcmp, 1) := by decide +kernel
theorem dX6_peel_27 : decode cX6_peel 27 = .ok (.ifCond .eq 10, 3) := by decide +kernel
theorem dX6_peel_30 : decode cX6_peel 30 = .ok (.aload_n 0, 1) := by decide +kernel
theorem dX6_peel_31 : decode cX6_peel 31 = .ok (.lload 4, 2) := by decide +kernel
theorem dX6_peel_33 : decode cX6_peel 33 = .ok (.invokevirtual 38, 3) := by decide +kernel
theorem dX6_peel_36 : decode cX6_peel 36 = .ok (.lreturn, 1) := by decide +kernel
theorem dX6_peel_37 : decode cX6_peel 37 = .ok (.aload_n 0, 1) := by decide +kernel
theorem dX6_peel_38 : decode cX6_peel 38 = .ok (.getfield 17, 3) := by decide +kernel
theorem dX6_peel_41 : decode cX6_peel 41 = .ok (.iload_n 1, 1) := by decide +kernel
theorem dX6_peel_42 : decode cX6_peel 42 = .ok (.aaload, 1) := by decide +kernel
theorem dX6_peel_43 : decode cX6_peel 43 = .ok (.getfield 120, 3) := by decide +kernel
theorem dX6_peel_46 : decode cX6_peel 46 = .ok (.iload_n 2, 1) := by decide +kernel
theorem dX6_peel_47 : decode cX6_peel 47 = .ok (.aaload, 1) := by decide +kernel
theorem dX6_peel_48 : decode cX6_peel 48 = .ok (.astore 6, 2) := by decide +kernel
theorem dX6_peel_50 : decode cX6_peel 50 = .ok (.aload_n 0, 1) := by decide +kernel
theorem dX6_peel_51 : decode cX6_peel 51 = .ok (.iload_n 3, 1) := by decide +kernel
theorem dX6_peel_52 : decode cX6_peel 52 = .ok (.iload_n 1, 1) := by decide +kernel
theorem dX6_peel_53 : decode cX6_peel 53 = .ok (.aload 6, 2) := by decide +kernel
theorem dX6_peel_55 : decode cX6_peel 55 = .ok (.invokevirtual 50, 3) := by decide +kernel
theorem dX6_peel_58 : decode cX6_peel 58 = .ok (.aload 6, 2) := by decide +kernel
theorem dX6_peel_60 : decode cX6_peel 60 = .ok (.invokestatic 65, 3) := by decide +kernel
theorem dX6_peel_63 : decode cX6_peel 63 = .ok (.lreturn, 1) := by decide +kernel
set_option maxRecDepth 20000 in
theorem ggX6_spot_X6_wallPlaceFault : GoodIn wsX6_spot wsX6_wallPlaceFault := goodIn_r _ [7, 1, 2, 8, 9, 10, 11, 6, 12, 13, 14, 15, 16, 17, 18, 19, 20, 21, 22, 23, 24, 25, 26, 27, 28, 29, 30, 31, 32, 33, 34, 35, 36, 37, 38, 39, 40, 41, 42, 43, 44, 45, 46, 47, 48, 49, 50, 51, 52, 53, 54, 55, 56, 57, 78, 79, 80, 81, 82, 83, 84, 85, 86] (by decide +kernel) (by decide +kernel)
set_option maxRecDepth 20000 in
theorem gX6_spot_X6_wallPlaceFault : GoodIn wsX6_spot (wsV RX6 123 RX6 yX6_wallPlaceFault wsX6_wallPlaceFault) := goodIn_app (goodIn_of _ (by decide +kernel)) ggX6_spot_X6_wallPlaceFault
set_option maxRecDepth 20000 in
theorem ggX6_spot_X6_refuse : GoodIn wsX6_spot wsX6_refuse := goodIn_r _ [61, 62, 78, 79, 80, 81] (by decide +kernel) (by decide +kernel)
set_option maxRecDepth 20000 in
theorem gX6_spot_X6_refuse : GoodIn wsX6_spot (wsV RX6 38 RX6 yX6_refuse wsX6_refuse) := goodIn_app (goodIn_of _ (by decide +kernel)) ggX6_spot_X6_refuse
set_option maxRecDepth 20000 in
theorem ggX6_spot_X0_told : GoodIn wsX6_spot wsX0_told := goodIn_r _ [67, 39, 68, 83] (by decide +kernel) (by decide +kernel)
set_option maxRecDepth 20000 in
theorem gX6_spot_X0_told_u73X0 : GoodIn wsX6_spot (va_wsU RX6 73 RX0 "ReelBarn$Reel" ⟨"ReelBarn$Reel", "told", "(I)I"⟩ yX0_told wsX0_told) := goodIn_app (goodIn_of _ (by decide +kernel)) ggX6_spot_X0_told
set_option maxRecDepth 20000 in
theorem ggX6_spot_X1_told : GoodIn wsX6_spot wsX1_told := goodIn_r _ [71, 44, 84] (by decide +kernel) (by decide +kernel)
set_option maxRecDepth 20000 in
theorem gX6_spot_X1_told_u73X1 : GoodIn wsX6_spot (va_wsU RX6 73 RX1 "ReelBarn$Reel" ⟨"ReelBarn$Reel", "told", "(I)I"⟩ yX1_told wsX1_told) := goodIn_app (goodIn_of _ (by decide +kernel)) ggX6_spot_X1_told
set_option maxRecDepth 20000 in
theorem ggX6_spot_X2_told : GoodIn wsX6_spot wsX2_told := goodIn_r _ [74, 49, 85] (by decide +kernel) (by decide +kernel)
set_option maxRecDepth 20000 in
theorem gX6_spot_X2_told_u73X2 : GoodIn wsX6_spot (va_wsU RX6 73 RX2 "ReelBarn$Reel" ⟨"ReelBarn$Reel", "told", "(I)I"⟩ yX2_told wsX2_told) := goodIn_app (goodIn_of _ (by decide +kernel)) ggX6_spot_X2_told
set_option maxRecDepth 20000 in
theorem ggX6_spot_X5_told : GoodIn wsX6_spot wsX5_told := goodIn_r _ [77, 54, 86] (by decide +kernel) (by decide +kernel)
set_option maxRecDepth 20000 in
theorem gX6_spot_X5_told_u73X5 : GoodIn wsX6_spot (va_wsU RX6 73 RX5 "ReelBarn$Reel" ⟨"ReelBarn$Reel", "told", "(I)I"⟩ yX5_told wsX5_told) := goodIn_app (goodIn_of _ (by decide +kernel)) ggX6_spot_X5_told
theorem dX6_spot_0 : decode cX6_spot 0 = .ok (.aload_n 0, 1) := by decide +kernel
theorem dX6_spot_1 : decode cX6_spot 1 = .ok (.iload_n 1, 1) := by decide +kernel
theorem dX6_spot_2 : decode cX6_spot 2 = .ok (.iload_n 2, 1) := by decide +kernel
theorem dX6_spot_3 : decode cX6_spot 3 = .ok (.iload_n 3, 1) := by decide +kernel
theorem dX6_spot_4 : decode cX6_spot 4 = .ok (.invokevirtual 123, 3) := by decide +kernel
theorem dX6_spot_7 : decode cX6_spot 7 = .ok (.lstore 4, 2) := by decide +kernel
theorem dX6_spot_9 : decode cX6_spot 9 = .ok (.lload 4, 2) := by decide +kernel
theorem dX6_spot_11 : decode cX6_spot 11 = .ok (.lconst 0, 1) := by decide +kernel
theorem dX6_spot_12 : decode cX6_spot 12 = .ok (.lcmp, 1) := by decide +kernel
theorem dX6_spot_13 : decode cX6_spot 13 = .ok (.ifCond .eq 10, 3) := by decide +kernel
theorem dX6_spot_16 : decode cX6_spot 16 = .ok (.aload_n 0, 1) := by decide +kernel
theorem dX6_spot_17 : decode cX6_spot 17 = .ok (.lload 4, 2) := by decide +kernel
theorem dX6_spot_19 : decode cX6_spot 19 = .ok (.invokevirtual 38, 3) := by decide +kernel
theorem dX6_spot_22 : decode cX6_spot 22 = .ok (.lreturn, 1) := by decide +kernel
theorem dX6_spot_23 : decode cX6_spot 23 = .ok (.aload_n 0, 1) := by decide +kernel
theorem dX6_spot_24 : decode cX6_spot 24 = .ok (.getfield 17, 3) := by decide +kernel
theorem dX6_spot_27 : decode cX6_spot 27 = .ok (.iload_n 1, 1) := by decide +kernel
theorem dX6_spot_28 : decode cX6_spot 28 = .ok (.aaload, 1) := by decide +kernel
theorem dX6_spot_29 : decode cX6_spot 29 = .ok (.getfield 120, 3) := by decide +kernel
theorem dX6_spot_32 : decode cX6_spot 32 = .ok (.iload_n 2, 1) := by decide +kernel
theorem dX6_spot_33 : decode cX6_spot 33 = .ok (.aaload, 1) := by decide +kernel
theorem dX6_spot_34 : decode cX6_spot 34 = .ok (.iload_n 3, 1) := by decide +kernel
theorem dX6_spot_35 : decode cX6_spot 35 = .ok (.invokevirtual 73, 3) := by decide +kernel
theorem dX6_spot_38 : decode cX6_spot 38 = .ok (.i2l, 1) := by decide +kernel
theorem dX6_spot_39 : decode cX6_spot 39 = .ok (.lreturn, 1) := by decide +kernel
set_option maxRecDepth 20000 in
theorem ggX6_paint_X6_wallPlaceFault : GoodIn wsX6_paint wsX6_wallPlaceFault := goodIn_r _ [7, 1, 2, 8, 9, 10, 11, 6, 12, 13, 14, 15, 16, 17, 18, 19, 20, 21, 22, 23, 24, 25, 26, 27, 28, 29, 30, 31, 32, 33, 34, 35, 36, 37, 38, 39, 40, 41, 42, 43, 44, 45, 46, 47, 48, 49, 50, 51, 52, 53, 54, 55, 56, 57, 104, 105, 106, 107, 108, 109, 110, 111, 112] (by decide +kernel) (by decide +kernel)
set_option maxRecDepth 20000 in
theorem gX6_paint_X6_wallPlaceFault : GoodIn wsX6_paint (wsV RX6 123 RX6 yX6_wallPlaceFault wsX6_wallPlaceFault) := goodIn_app (goodIn_of _ (by decide +kernel)) ggX6_paint_X6_wallPlaceFault
set_option maxRecDepth 20000 in
theorem ggX6_paint_X6_refuse : GoodIn wsX6_paint wsX6_refuse := goodIn_r _ [61, 62, 104, 105, 106, 107] (by decide +kernel) (by decide +kernel)
set_option maxRecDepth 20000 in
theorem gX6_paint_X6_refuse : GoodIn wsX6_paint (wsV RX6 38 RX6 yX6_refuse wsX6_refuse) := goodIn_app (goodIn_of _ (by decide +kernel)) ggX6_paint_X6_refuse
set_option maxRecDepth 20000 in
theorem ggX6_paint_X0_put : GoodIn wsX6_paint wsX0_put := goodIn_r _ [67, 68, 69, 37, 70, 71, 72, 73, 74, 75, 39, 76, 77, 78, 79, 80, 109] (by decide +kernel) (by decide +kernel)
set_option maxRecDepth 20000 in
theorem gX6_paint_X0_put_u77X0 : GoodIn wsX6_paint (va_wsU RX6 77 RX0 "ReelBarn$Reel" ⟨"ReelBarn$Reel", "put", "(II)V"⟩ yX0_put wsX0_put) := goodIn_app (goodIn_of _ (by decide +kernel)) ggX6_paint_X0_put
set_option maxRecDepth 20000 in
theorem ggX6_paint_X1_put : GoodIn wsX6_paint wsX1_put := goodIn_r _ [83, 44, 110] (by decide +kernel) (by decide +kernel)
set_option maxRecDepth 20000 in
theorem gX6_paint_X1_put_u77X1 : GoodIn wsX6_paint (va_wsU RX6 77 RX1 "ReelBarn$Reel" ⟨"ReelBarn$Reel", "put", "(II)V"⟩ yX1_put wsX1_put) := goodIn_app (goodIn_of _ (by decide +kernel)) ggX6_paint_X1_put
set_option maxRecDepth 20000 in
theorem ggX6_paint_X2_put : GoodIn wsX6_paint wsX2_put := goodIn_r _ [86, 49, 111] (by decide +kernel) (by decide +kernel)
set_option maxRecDepth 20000 in
theorem gX6_paint_X2_put_u77X2 : GoodIn wsX6_paint (va_wsU RX6 77 RX2 "ReelBarn$Reel" ⟨"ReelBarn$Reel", "put", "(II)V"⟩ yX2_put wsX2_put) := goodIn_app (goodIn_of _ (by decide +kernel)) ggX6_paint_X2_put
set_option maxRecDepth 20000 in
theorem ggX6_paint_X5_put : GoodIn wsX6_paint wsX5_put := goodIn_r _ [89, 54, 112] (by decide +kernel) (by decide +kernel)
set_option maxRecDepth 20000 in
theorem gX6_paint_X5_put_u77X5 : GoodIn wsX6_paint (va_wsU RX6 77 RX5 "ReelBarn$Reel" ⟨"ReelBarn$Reel", "put", "(II)V"⟩ yX5_put wsX5_put) := goodIn_app (goodIn_of _ (by decide +kernel)) ggX6_paint_X5_put
set_option maxRecDepth 20000 in
theorem ggX6_paint_X0_told : GoodIn wsX6_paint wsX0_told := goodIn_r _ [94, 39, 71, 109] (by decide +kernel) (by decide +kernel)
set_option maxRecDepth 20000 in
theorem gX6_paint_X0_told_u73X0 : GoodIn wsX6_paint (va_wsU RX6 73 RX0 "ReelBarn$Reel" ⟨"ReelBarn$Reel", "told", "(I)I"⟩ yX0_told wsX0_told) := goodIn_app (goodIn_of _ (by decide +kernel)) ggX6_paint_X0_told
set_option maxRecDepth 20000 in
theorem ggX6_paint_X1_told : GoodIn wsX6_paint wsX1_told := goodIn_r _ [97, 44, 110] (by decide +kernel) (by decide +kernel)
set_option maxRecDepth 20000 in
theorem gX6_paint_X1_told_u73X1 : GoodIn wsX6_paint (va_wsU RX6 73 RX1 "ReelBarn$Reel" ⟨"ReelBarn$Reel", "told", "(I)I"⟩ yX1_told wsX1_told) := goodIn_app (goodIn_of _ (by decide +kernel)) ggX6_paint_X1_told
set_option maxRecDepth 20000 in
theorem ggX6_paint_X2_told : GoodIn wsX6_paint wsX2_told := goodIn_r _ [100, 49, 111] (by decide +kernel) (by decide +kernel)
set_option maxRecDepth 20000 in
theorem gX6_paint_X2_told_u73X2 : GoodIn wsX6_paint (va_wsU RX6 73 RX2 "ReelBarn$Reel" ⟨"ReelBarn$Reel", "told", "(I)I"⟩ yX2_told wsX2_told) := goodIn_app (goodIn_of _ (by decide +kernel)) ggX6_paint_X2_told
set_option maxRecDepth 20000 in
theorem ggX6_paint_X5_told : GoodIn wsX6_paint wsX5_told := goodIn_r _ [103, 54, 112] (by decide +kernel) (by decide +kernel)
set_option maxRecDepth 20000 in
theorem gX6_paint_X5_told_u73X5 : GoodIn wsX6_paint (va_wsU RX6 73 RX5 "ReelBarn$Reel" ⟨"ReelBarn$Reel", "told", "(I)I"⟩ yX5_told wsX5_told) := goodIn_app (goodIn_of _ (by decide +kernel)) ggX6_paint_X5_told
theorem dX6_paint_0 : decode cX6_paint 0 = .ok (.aload_n 0, 1) := by decide +kernel
theorem dX6_paint_1 : decode cX6_paint 1 = .ok (.iload_n 1, 1) := by decide +kernel
theorem dX6_paint_2 : decode cX6_paint 2 = .ok (.iload_n 2, 1) := by decide +kernel
theorem dX6_paint_3 : decode cX6_paint 3 = .ok (.iload_n 3, 1) := by decide +kernel
theorem dX6_paint_4 : decode cX6_paint 4 = .ok (.invokevirtual 123, 3) := by decide +kernel
theorem dX6_paint_7 : decode cX6_paint 7 = .ok (.lstore 5, 2) := by decide +kernel
theorem dX6_paint_9 : decode cX6_paint 9 = .ok (.lload 5, 2) := by decide +kernel
theorem dX6_paint_11 : decode cX6_paint 11 = .ok (.lconst 0, 1) := by decide +kernel
theorem dX6_paint_12 : decode cX6_paint 12 = .ok (.lcmp, 1) := by decide +kernel
theorem dX6_paint_13 : decode cX6_paint 13 = .ok (.ifCond .eq 10, 3) := by decide +kernel
theorem dX6_paint_16 : decode cX6_paint 16 = .ok (.aload_n 0, 1) := by decide +kernel
theorem dX6_paint_17 : decode cX6_paint 17 = .ok (.lload 5, 2) := by decide +kernel
theorem dX6_paint_19 : decode cX6_paint 19 = .ok (.invokevirtual 38, 3) := by decide +kernel
theorem dX6_paint_22 : decode cX6_paint 22 = .ok (.lreturn, 1) := by decide +kernel
theorem dX6_paint_23 : decode cX6_paint 23 = .ok (.aload_n 0, 1) := by decide +kernel
theorem dX6_paint_24 : decode cX6_paint 24 = .ok (.getfield 17, 3) := by decide +kernel
theorem dX6_paint_27 : decode cX6_paint 27 = .ok (.iload_n 1, 1) := by decide +kernel
theorem dX6_paint_28 : decode cX6_paint 28 = .ok (.aaload, 1) := by decide +kernel
theorem dX6_paint_29 : decode cX6_paint 29 = .ok (.getfield 120, 3) := by decide +kernel
theorem dX6_paint_32 : decode cX6_paint 32 = .ok (.iload_n 2, 1) := by decide +kernel
theorem dX6_paint_33 : decode cX6_paint 33 = .ok (.aaload, 1) := by decide +kernel
theorem dX6_paint_34 : decode cX6_paint 34 = .ok (.astore 7, 2) := by decide +kernel
theorem dX6_paint_36 : decode cX6_paint 36 = .ok (.aload 7, 2) := by decide +kernel
theorem dX6_paint_38 : decode cX6_paint 38 = .ok (.iload_n 3, 1) := by decide +kernel
theorem dX6_paint_39 : decode cX6_paint 39 = .ok (.iload 4, 2) := by decide +kernel
theorem dX6_paint_41 : decode cX6_paint 41 = .ok (.invokevirtual 77, 3) := by decide +kernel
theorem dX6_paint_44 : decode cX6_paint 44 = .ok (.aload 7, 2) := by decide +kernel
theorem dX6_paint_46 : decode cX6_paint 46 = .ok (.iload_n 3, 1) := by decide +kernel
theorem dX6_paint_47 : decode cX6_paint 47 = .ok (.invokevirtual 73, 3) := by decide +kernel
theorem dX6_paint_50 : decode cX6_paint 50 = .ok (.i2l, 1) := by decide +kernel
theorem dX6_paint_51 : decode cX6_paint 51 = .ok (.lreturn, 1) := by decide +kernel
set_option maxRecDepth 20000 in
theorem ggX6_span_X6_wallFault : GoodIn wsX6_span wsX6_wallFault := goodIn_r _ [7, 8, 1, 9, 10, 11, 6, 12, 50, 51, 52, 53] (by decide +kernel) (by decide +kernel)
set_option maxRecDepth 20000 in
theorem gX6_span_X6_wallFault : GoodIn wsX6_span (wsV RX6 126 RX6 yX6_wallFault wsX6_wallFault) := goodIn_app (goodIn_of _ (by decide +kernel)) ggX6_span_X6_wallFault
set_option maxRecDepth 20000 in
theorem ggX6_span_X6_wallReelFault : GoodIn wsX6_span wsX6_wallReelFault := goodIn_r _ [16, 1, 2, 17, 18, 19, 20, 6, 21, 22, 3, 4, 5, 7, 8, 9, 10, 11, 12, 50, 51, 52, 53, 54] (by decide +kernel) (by decide +kernel)
set_option maxRecDepth 20000 in
theorem gX6_span_X6_wallReelFault : GoodIn wsX6_span (wsV RX6 130 RX6 yX6_wallReelFault wsX6_wallReelFault) := goodIn_app (goodIn_of _ (by decide +kernel)) ggX6_span_X6_wallReelFault
set_option maxRecDepth 20000 in
theorem ggX6_span_X6_refuse : GoodIn wsX6_span wsX6_refuse := goodIn_r _ [26, 27, 50, 51, 52, 53] (by decide +kernel) (by decide +kernel)
set_option maxRecDepth 20000 in
theorem gX6_span_X6_refuse : GoodIn wsX6_span (wsV RX6 38 RX6 yX6_refuse wsX6_refuse) := goodIn_app (goodIn_of _ (by decide +kernel)) ggX6_span_X6_refuse
set_option maxRecDepth 20000 in
theorem ggX6_span_X0_places : GoodIn wsX6_span wsX0_places := goodIn_r _ [33, 34, 55] (by decide +kernel) (by decide +kernel)
set_option maxRecDepth 20000 in
theorem gX6_span_X0_places_u61X0 : GoodIn wsX6_span (va_wsU RX6 61 RX0 "ReelBarn$Reel" ⟨"ReelBarn$Reel", "places", "()I"⟩ yX0_places wsX0_places) := goodIn_app (goodIn_of _ (by decide +kernel)) ggX6_span_X0_places
set_option maxRecDepth 20000 in
theorem ggX6_span_X1_places : GoodIn wsX6_span wsX1_places := goodIn_r _ [38, 39, 56] (by decide +kernel) (by decide +kernel)
set_option maxRecDepth 20000 in
theorem gX6_span_X1_places_u61X1 : GoodIn wsX6_span (va_wsU RX6 61 RX1 "ReelBarn$Reel" ⟨"ReelBarn$Reel", "places", "()I"⟩ yX1_places wsX1_places) := goodIn_app (goodIn_of _ (by decide +kernel)) ggX6_span_X1_places
set_option maxRecDepth 20000 in
theorem ggX6_span_X2_places : GoodIn wsX6_span wsX2_places := goodIn_r _ [43, 44, 57] (by decide +kernel) (by decide +kernel)
set_option maxRecDepth 20000 in
theorem gX6_span_X2_places_u61X2 : GoodIn wsX6_span (va_wsU RX6 61 RX2 "ReelBarn$Reel" ⟨"ReelBarn$Reel", "places", "()I"⟩ yX2_places wsX2_places) := goodIn_app (goodIn_of _ (by decide +kernel)) ggX6_span_X2_places
set_option maxRecDepth 20000 in
theorem ggX6_span_X5_places : GoodIn wsX6_span wsX5_places := goodIn_r _ [48, 49, 58] (by decide +kernel) (by decide +kernel)
set_option maxRecDepth 20000 in
theorem gX6_span_X5_places_u61X5 : GoodIn wsX6_span (va_wsU RX6 61 RX5 "ReelBarn$Reel" ⟨"ReelBarn$Reel", "places", "()I"⟩ yX5_places wsX5_places) := goodIn_app (goodIn_of _ (by decide +kernel)) ggX6_span_X5_places
theorem dX6_span_0 : decode cX6_span 0 = .ok (.iload_n 2, 1) := by decide +kernel
theorem dX6_span_1 : decode cX6_span 1 = .ok (.iconst (-1), 1) := by decide +kernel
theorem dX6_span_2 : decode cX6_span 2 = .ok (.if_icmp .ne 11, 3) := by decide +kernel
theorem dX6_span_5 : decode cX6_span 5 = .ok (.aload_n 0, 1) := by decide +kernel
theorem dX6_span_6 : decode cX6_span 6 = .ok (.iload_n 1, 1) := by decide +kernel
theorem dX6_span_7 : decode cX6_span 7 = .ok (.invokevirtual 126, 3) := by decide +kernel
theorem dX6_span_10 : decode cX6_span 10 = .ok (.goto 9, 3) := by decide +kernel
theorem dX6_span_13 : decode cX6_span 13 = .ok (.aload_n 0, 1) := by decide +kernel
theorem dX6_span_14 : decode cX6_span 14 = .ok (.iload_n 1, 1) := by decide +kernel
theorem dX6_span_15 : decode cX6_span 15 = .ok (.iload_n 2, 1) := by decide +kernel
theorem dX6_span_16 : decode cX6_span 16 = .ok (.invokevirtual 130, 3) := by decide +kernel
theorem dX6_span_19 : decode cX6_span 19 = .ok (.lstore_n 3, 1) := by decide +kernel
theorem dX6_span_20 : decode cX6_span 20 = .ok (.lload_n 3, 1) := by decide +kernel
theorem dX6_span_21 : decode cX6_span 21 = .ok (.lconst 0, 1) := by decide +kernel
theorem dX6_span_22 : decode cX6_span 22 = .ok (.lcmp, 1) := by decide +kernel
theorem dX6_span_23 : decode cX6_span 23 = .ok (.ifCond .eq 9, 3) := by decide +kernel
theorem dX6_span_26 : decode cX6_span 26 = .ok (.aload_n 0, 1) := by decide +kernel
theorem dX6_span_27 : decode cX6_span 27 = .ok (.lload_n 3, 1) := by decide +kernel
theorem dX6_span_28 : decode cX6_span 28 = .ok (.invokevirtual 38, 3) := by decide +kernel
theorem dX6_span_31 : decode cX6_span 31 = .ok (.lreturn, 1) := by decide +kernel
theorem dX6_span_32 : decode cX6_span 32 = .ok (.aload_n 0, 1) := by decide +kernel
theorem dX6_span_33 : decode cX6_span 33 = .ok (.getfield 17, 3) := by decide +kernel
theorem dX6_span_36 : decode cX6_span 36 = .ok (.iload_n 1, 1) := by decide +kernel
theorem dX6_span_37 : decode cX6_span 37 = .ok (.aaload, 1) := by decide +kernel
theorem dX6_span_38 : decode cX6_span 38 = .ok (.astore 5, 2) := by decide +kernel
theorem dX6_span_40 : decode cX6_span 40 = .ok (.iload_n 2, 1) := by decide +kernel
theorem dX6_span_41 : decode cX6_span 41 = .ok (.iconst (-1), 1) := by decide +kernel
theorem dX6_span_42 : decode cX6_span 42 = .ok (.if_icmp .ne 13, 3) := by decide +kernel
theorem dX6_span_45 : decode cX6_span 45 = .ok (.aload 5, 2) := by decide +kernel
theorem dX6_span_47 : decode cX6_span 47 = .ok (.getfield 120, 3) := by decide +kernel
theorem dX6_span_50 : decode cX6_span 50 = .ok (.arraylength, 1) := by decide +kernel
theorem dX6_span_51 : decode cX6_span 51 = .ok (.i2l, 1) := by decide +kernel
theorem dX6_span_52 : decode cX6_span 52 = .ok (.goto 14, 3) := by decide +kernel
theorem dX6_span_55 : decode cX6_span 55 = .ok (.aload 5, 2) := by decide +kernel
theorem dX6_span_57 : decode cX6_span 57 = .ok (.getfield 120, 3) := by decide +kernel
theorem dX6_span_60 : decode cX6_span 60 = .ok (.iload_n 2, 1) := by decide +kernel
theorem dX6_span_61 : decode cX6_span 61 = .ok (.aaload, 1) := by decide +kernel
theorem dX6_span_62 : decode cX6_span 62 = .ok (.invokevirtual 61, 3) := by decide +kernel
theorem dX6_span_65 : decode cX6_span 65 = .ok (.i2l, 1) := by decide +kernel
theorem dX6_span_66 : decode cX6_span 66 = .ok (.lreturn, 1) := by decide +kernel
set_option maxRecDepth 20000 in
theorem ggX6_chart_X6_gridFault : GoodIn wsX6_chart wsX6_gridFault := goodIn_r _ [7, 8, 9] (by decide +kernel) (by decide +kernel)
set_option maxRecDepth 20000 in
theorem gX6_chart_X6_gridFault : GoodIn wsX6_chart (va_wsS RX6 110 yX6_gridFault wsX6_gridFault) := goodIn_app (goodIn_of _ (by decide +kernel)) ggX6_chart_X6_gridFault
set_option maxRecDepth 20000 in
theorem ggX6_chart_X6_refuse : GoodIn wsX6_chart wsX6_refuse := goodIn_r _ [13, 14, 15, 16, 17, 18] (by decide +kernel) (by decide +kernel)
set_option maxRecDepth 20000 in
theorem gX6_chart_X6_refuse : GoodIn wsX6_chart (wsV RX6 38 RX6 yX6_refuse wsX6_refuse) := goodIn_app (goodIn_of _ (by decide +kernel)) ggX6_chart_X6_refuse
theorem dX6_chart_0 : decode cX6_chart 0 = .ok (.iload_n 1, 1) := by decide +kernel
theorem dX6_chart_1 : decode cX6_chart 1 = .ok (.iload_n 2, 1) := by decide +kernel
theorem dX6_chart_2 : decode cX6_chart 2 = .ok (.invokestatic 110, 3) := by decide +kernel
theorem dX6_chart_5 : decode cX6_chart 5 = .ok (.lstore_n 3, 1) := by decide +kernel
theorem dX6_chart_6 : decode cX6_chart 6 = .ok (.lload_n 3, 1) := by decide +kernel
theorem dX6_chart_7 : decode cX6_chart 7 = .ok (.lconst 0, 1) := by decide +kernel
theorem dX6_chart_8 : decode cX6_chart 8 = .ok (.lcmp, 1) := by decide +kernel
theorem dX6_chart_9 : decode cX6_chart 9 = .ok (.ifCond .eq 9, 3) := by decide +kernel
theorem dX6_chart_12 : decode cX6_chart 12 = .ok (.aload_n 0, 1) := by decide +kernel
theorem dX6_chart_13 : decode cX6_chart 13 = .ok (.lload_n 3, 1) := by decide +kernel
theorem dX6_chart_14 : decode cX6_chart 14 = .ok (.invokevirtual 38, 3) := by decide +kernel
theorem dX6_chart_17 : decode cX6_chart 17 = .ok (.lreturn, 1) := by decide +kernel
theorem dX6_chart_18 : decode cX6_chart 18 = .ok (.aload_n 0, 1) := by decide +kernel
theorem dX6_chart_19 : decode cX6_chart 19 = .ok (.iload_n 1, 1) := by decide +kernel
theorem dX6_chart_20 : decode cX6_chart 20 = .ok (.iload_n 2, 1) := by decide +kernel
theorem dX6_chart_21 : decode cX6_chart 21 = .ok (.multianewarray 133 2, 4) := by decide +kernel
theorem dX6_chart_25 : decode cX6_chart 25 = .ok (.putfield 25, 3) := by decide +kernel
theorem dX6_chart_28 : decode cX6_chart 28 = .ok (.iload_n 1, 1) := by decide +kernel
theorem dX6_chart_29 : decode cX6_chart 29 = .ok (.i2l, 1) := by decide +kernel
theorem dX6_chart_30 : decode cX6_chart 30 = .ok (.lreturn, 1) := by decide +kernel
set_option maxRecDepth 20000 in
theorem ggX6_note_X6_refuse : GoodIn wsX6_note wsX6_refuse := goodIn_r _ [8, 9, 10, 11, 12, 13] (by decide +kernel) (by decide +kernel)
set_option maxRecDepth 20000 in
theorem gX6_note_X6_refuse : GoodIn wsX6_note (wsV RX6 38 RX6 yX6_refuse wsX6_refuse) := goodIn_app (goodIn_of _ (by decide +kernel)) ggX6_note_X6_refuse
theorem dX6_note_0 : decode cX6_note 0 = .ok (.aload_n 0, 1) := by decide +kernel
theorem dX6_note_1 : decode cX6_note 1 = .ok (.getfield 25, 3) := by decide +kernel
theorem dX6_note_4 : decode cX6_note 4 = .ok (.ifnonnull 11, 3) := by decide +kernel
theorem dX6_note_7 : decode cX6_note 7 = .ok (.aload_n 0, 1) := by decide +kernel
theorem dX6_note_8 : decode cX6_note 8 = .ok (.ldc2_w 134, 3) := by decide +kernel
theorem dX6_note_11 : decode cX6_note 11 = .ok (.invokevirtual 38, 3) := by decide +kernel
theorem dX6_note_14 : decode cX6_note 14 = .ok (.lreturn, 1) := by decide +kernel
theorem dX6_note_15 : decode cX6_note 15 = .ok (.iload_n 1, 1) := by decide +kernel
theorem dX6_note_16 : decode cX6_note 16 = .ok (.ifCond .lt 12, 3) := by decide +kernel
theorem dX6_note_19 : decode cX6_note 19 = .ok (.iload_n 1, 1) := by decide +kernel
theorem dX6_note_20 : decode cX6_note 20 = .ok (.aload_n 0, 1) := by decide +kernel
theorem dX6_note_21 : decode cX6_note 21 = .ok (.getfield 25, 3) := by decide +kernel
theorem dX6_note_24 : decode cX6_note 24 = .ok (.arraylength, 1) := by decide +kernel
theorem dX6_note_25 : decode cX6_note 25 = .ok (.if_icmp .lt 11, 3) := by decide +kernel
theorem dX6_note_28 : decode cX6_note 28 = .ok (.aload_n 0, 1) := by decide +kernel
theorem dX6_note_29 : decode cX6_note 29 = .ok (.ldc2_w 136, 3) := by decide +kernel
theorem dX6_note_32 : decode cX6_note 32 = .ok (.invokevirtual 38, 3) := by decide +kernel
theorem dX6_note_35 : decode cX6_note 35 = .ok (.lreturn, 1) := by decide +kernel
theorem dX6_note_36 : decode cX6_note 36 = .ok (.aload_n 0, 1) := by decide +kernel
theorem dX6_note_37 : decode cX6_note 37 = .ok (.getfield 25, 3) := by decide +kernel
theorem dX6_note_40 : decode cX6_note 40 = .ok (.iload_n 1, 1) := by decide +kernel
theorem dX6_note_41 : decode cX6_note 41 = .ok (.aaload, 1) := by decide +kernel
theorem dX6_note_42 : decode cX6_note 42 = .ok (.astore 4, 2) := by decide +kernel
theorem dX6_note_44 : decode cX6_note 44 = .ok (.iload_n 2, 1) := by decide +kernel
theorem dX6_note_45 : decode cX6_note 45 = .ok (.ifCond .lt 10, 3) := by decide +kernel
theorem dX6_note_48 : decode cX6_note 48 = .ok (.iload_n 2, 1) := by decide +kernel
theorem dX6_note_49 : decode cX6_note 49 = .ok (.aload 4, 2) := by decide +kernel
theorem dX6_note_51 : decode cX6_note 51 = .ok (.arraylength, 1) := by decide +kernel
theorem dX6_note_52 : decode cX6_note 52 = .ok (.if_icmp .lt 11, 3) := by decide +kernel
theorem dX6_note_55 : decode cX6_note 55 = .ok (.aload_n 0, 1) := by decide +kernel
theorem dX6_note_56 : decode cX6_note 56 = .ok (.ldc2_w 136, 3) := by decide +kernel
theorem dX6_note_59 : decode cX6_note 59 = .ok (.invokevirtual 38, 3) := by decide +kernel
theorem dX6_note_62 : decode cX6_note 62 = .ok (.lreturn, 1) := by decide +kernel
theorem dX6_note_63 : decode cX6_note 63 = .ok (.aload 4, 2) := by decide +kernel
theorem dX6_note_65 : decode cX6_note 65 = .ok (.iload_n 2, 1) := by decide +kernel
theorem dX6_note_66 : decode cX6_note 66 = .ok (.dup2, 1) := by decide +kernel
theorem dX6_note_67 : decode cX6_note 67 = .ok (.iaload, 1) := by decide +kernel
theorem dX6_note_68 : decode cX6_note 68 = .ok (.iload_n 3, 1) := by decide +kernel
theorem dX6_note_69 : decode cX6_note 69 = .ok (.iadd, 1) := by decide +kernel
theorem dX6_note_70 : decode cX6_note 70 = .ok (.iastore, 1) := by decide +kernel
theorem dX6_note_71 : decode cX6_note 71 = .ok (.aload 4, 2) := by decide +kernel
theorem dX6_note_73 : decode cX6_note 73 = .ok (.iload_n 2, 1) := by decide +kernel
theorem dX6_note_74 : decode cX6_note 74 = .ok (.iaload, 1) := by decide +kernel
theorem dX6_note_75 : decode cX6_note 75 = .ok (.i2l, 1) := by decide +kernel
theorem dX6_note_76 : decode cX6_note 76 = .ok (.lreturn, 1) := by decide +kernel
theorem dX6_tally_0 : decode cX6_tally 0 = .ok (.iload_n 1, 1) := by decide +kernel
theorem dX6_tally_1 : decode cX6_tally 1 = .ok (.iconst 1, 1) := by decide +kernel
theorem dX6_tally_2 : decode cX6_tally 2 = .ok (.if_icmp .lt 18, 3) := by decide +kernel
theorem dX6_tally_5 : decode cX6_tally 5 = .ok (.iload_n 1, 1) := by decide +kernel
theorem dX6_tally_6 : decode cX6_tally 6 = .ok (.bipush 7, 2) := by decide +kernel
theorem dX6_tally_8 : decode cX6_tally 8 = .ok (.if_icmp .gt 12, 3) := by decide +kernel
theorem dX6_tally_11 : decode cX6_tally 11 = .ok (.aload_n 0, 1) := by decide +kernel
theorem dX6_tally_12 : decode cX6_tally 12 = .ok (.getfield 21, 3) := by decide +kernel
theorem dX6_tally_15 : decode cX6_tally 15 = .ok (.iload_n 1, 1) := by decide +kernel
theorem dX6_tally_16 : decode cX6_tally 16 = .ok (.iaload, 1) := by decide +kernel
theorem dX6_tally_17 : decode cX6_tally 17 = .ok (.goto 4, 3) := by decide +kernel
theorem dX6_tally_20 : decode cX6_tally 20 = .ok (.iconst 0, 1) := by decide +kernel
theorem dX6_tally_21 : decode cX6_tally 21 = .ok (.ireturn, 1) := by decide +kernel
theorem dX6_refuse_0 : decode cX6_refuse 0 = .ok (.aload_n 0, 1) := by decide +kernel
theorem dX6_refuse_1 : decode cX6_refuse 1 = .ok (.getfield 21, 3) := by decide +kernel
theorem dX6_refuse_4 : decode cX6_refuse 4 = .ok (.lload_n 1, 1) := by decide +kernel
theorem dX6_refuse_5 : decode cX6_refuse 5 = .ok (.bipush 40, 2) := by decide +kernel
theorem dX6_refuse_7 : decode cX6_refuse 7 = .ok (.lshr, 1) := by decide +kernel
theorem dX6_refuse_8 : decode cX6_refuse 8 = .ok (.l2i, 1) := by decide +kernel
theorem dX6_refuse_9 : decode cX6_refuse 9 = .ok (.dup2, 1) := by decide +kernel
theorem dX6_refuse_10 : decode cX6_refuse 10 = .ok (.iaload, 1) := by decide +kernel
theorem dX6_refuse_11 : decode cX6_refuse 11 = .ok (.iconst 1, 1) := by decide +kernel
theorem dX6_refuse_12 : decode cX6_refuse 12 = .ok (.iadd, 1) := by decide +kernel
theorem dX6_refuse_13 : decode cX6_refuse 13 = .ok (.iastore, 1) := by decide +kernel
theorem dX6_refuse_14 : decode cX6_refuse 14 = .ok (.lload_n 1, 1) := by decide +kernel
theorem dX6_refuse_15 : decode cX6_refuse 15 = .ok (.lreturn, 1) := by decide +kernel
theorem dX6_isDeck_0 : decode cX6_isDeck 0 = .ok (.iload_n 0, 1) := by decide +kernel
theorem dX6_isDeck_1 : decode cX6_isDeck 1 = .ok (.ifCond .lt 12, 3) := by decide +kernel
theorem dX6_isDeck_4 : decode cX6_isDeck 4 = .ok (.iload_n 0, 1) := by decide +kernel
theorem dX6_isDeck_5 : decode cX6_isDeck 5 = .ok (.iconst 4, 1) := by decide +kernel
theorem dX6_isDeck_6 : decode cX6_isDeck 6 = .ok (.if_icmp .ge 7, 3) := by decide +kernel
theorem dX6_isDeck_9 : decode cX6_isDeck 9 = .ok (.iconst 1, 1) := by decide +kernel
theorem dX6_isDeck_10 : decode cX6_isDeck 10 = .ok (.goto 4, 3) := by decide +kernel
theorem dX6_isDeck_13 : decode cX6_isDeck 13 = .ok (.iconst 0, 1) := by decide +kernel
theorem dX6_isDeck_14 : decode cX6_isDeck 14 = .ok (.ireturn, 1) := by decide +kernel
theorem dX6_isSort_0 : decode cX6_isSort 0 = .ok (.iload_n 0, 1) := by decide +kernel
theorem dX6_isSort_1 : decode cX6_isSort 1 = .ok (.ifCond .lt 12, 3) := by decide +kernel
theorem dX6_isSort_4 : decode cX6_isSort 4 = .ok (.iload_n 0, 1) := by decide +kernel
theorem dX6_isSort_5 : decode cX6_isSort 5 = .ok (.iconst 4, 1) := by decide +kernel
theorem dX6_isSort_6 : decode cX6_isSort 6 = .ok (.if_icmp .ge 7, 3) := by decide +kernel
theorem dX6_isSort_9 : decode cX6_isSort 9 = .ok (.iconst 1, 1) := by decide +kernel
theorem dX6_isSort_10 : decode cX6_isSort 10 = .ok (.goto 4, 3) := by decide +kernel
theorem dX6_isSort_13 : decode cX6_isSort 13 = .ok (.iconst 0, 1) := by decide +kernel
theorem dX6_isSort_14 : decode cX6_isSort 14 = .ok (.ireturn, 1) := by decide +kernel
theorem dX6_knowsHow_0 : decode cX6_knowsHow 0 = .ok (.iload_n 0, 1) := by decide +kernel
theorem dX6_knowsHow_1 : decode cX6_knowsHow 1 = .ok (.iconst 2, 1) := by decide +kernel
theorem dX6_knowsHow_2 : decode cX6_knowsHow 2 = .ok (.if_icmp .ne 18, 3) := by decide +kernel
theorem dX6_knowsHow_5 : decode cX6_knowsHow 5 = .ok (.iload_n 1, 1) := by decide +kernel
theorem dX6_knowsHow_6 : decode cX6_knowsHow 6 = .ok (.ifCond .eq 8, 3) := by decide +kernel
theorem dX6_knowsHow_9 : decode cX6_knowsHow 9 = .ok (.iload_n 1, 1) := by decide +kernel
theorem dX6_knowsHow_10 : decode cX6_knowsHow 10 = .ok (.iconst 1, 1) := by decide +kernel
theorem dX6_knowsHow_11 : decode cX6_knowsHow 11 = .ok (.if_icmp .ne 7, 3) := by decide +kernel
theorem dX6_knowsHow_14 : decode cX6_knowsHow 14 = .ok (.iconst 1, 1) := by decide +kernel
theorem dX6_knowsHow_15 : decode cX6_knowsHow 15 = .ok (.goto 4, 3) := by decide +kernel
theorem dX6_knowsHow_18 : decode cX6_knowsHow 18 = .ok (.iconst 0, 1) := by decide +kernel
theorem dX6_knowsHow_19 : decode cX6_knowsHow 19 = .ok (.ireturn, 1) := by decide +kernel
theorem dX6_knowsHow_20 : decode cX6_knowsHow 20 = .ok (.iload_n 0, 1) := by decide +kernel
theorem dX6_knowsHow_21 : decode cX6_knowsHow 21 = .ok (.iconst 3, 1) := by decide +kernel
theorem dX6_knowsHow_22 : decode cX6_knowsHow 22 = .ok (.if_icmp .ne 27, 3) := by decide +kernel
theorem dX6_knowsHow_25 : decode cX6_knowsHow 25 = .ok (.iload_n 1, 1) := by decide +kernel
theorem dX6_knowsHow_26 : decode cX6_knowsHow 26 = .ok (.bipush 6, 2) := by decide +kernel
theorem dX6_knowsHow_28 : decode cX6_knowsHow 28 = .ok (.if_icmp .eq 15, 3) := by decide +kernel
theorem dX6_knowsHow_31 : decode cX6_knowsHow 31 = .ok (.iload_n 1, 1) := by decide +kernel
theorem dX6_knowsHow_32 : decode cX6_knowsHow 32 = .ok (.bipush 7, 2) := by decide +kernel
theorem dX6_knowsHow_34 : decode cX6_knowsHow 34 = .ok (.if_icmp .eq 9, 3) := by decide +kernel
theorem dX6_knowsHow_37 : decode cX6_knowsHow 37 = .ok (.iload_n 1, 1) := by decide +kernel
theorem dX6_knowsHow_38 : decode cX6_knowsHow 38 = .ok (.bipush 8, 2) := by decide +kernel
theorem dX6_knowsHow_40 : decode cX6_knowsHow 40 = .ok (.if_icmp .ne 7, 3) := by decide +kernel
theorem dX6_knowsHow_43 : decode cX6_knowsHow 43 = .ok (.iconst 1, 1) := by decide +kernel
theorem dX6_knowsHow_44 : decode cX6_knowsHow 44 = .ok (.goto 4, 3) := by decide +kernel
theorem dX6_knowsHow_47 : decode cX6_knowsHow 47 = .ok (.iconst 0, 1) := by decide +kernel
theorem dX6_knowsHow_48 : decode cX6_knowsHow 48 = .ok (.ireturn, 1) := by decide +kernel
theorem dX6_knowsHow_49 : decode cX6_knowsHow 49 = .ok (.iload_n 1, 1) := by decide +kernel
theorem dX6_knowsHow_50 : decode cX6_knowsHow 50 = .ok (.ifCond .lt 13, 3) := by decide +kernel
theorem dX6_knowsHow_53 : decode cX6_knowsHow 53 = .ok (.iload_n 1, 1) := by decide +kernel
theorem dX6_knowsHow_54 : decode cX6_knowsHow 54 = .ok (.bipush 8, 2) := by decide +kernel
theorem dX6_knowsHow_56 : decode cX6_knowsHow 56 = .ok (.if_icmp .gt 7, 3) := by decide +kernel
theorem dX6_knowsHow_59 : decode cX6_knowsHow 59 = .ok (.iconst 1, 1) := by decide +kernel
theorem dX6_knowsHow_60 : decode cX6_knowsHow 60 = .ok (.goto 4, 3) := by decide +kernel
theorem dX6_knowsHow_63 : decode cX6_knowsHow 63 = .ok (.iconst 0, 1) := by decide +kernel
theorem dX6_knowsHow_64 : decode cX6_knowsHow 64 = .ok (.ireturn, 1) := by decide +kernel
theorem dX6_goTogether_0 : decode cX6_goTogether 0 = .ok (.iload_n 0, 1) := by decide +kernel
theorem dX6_goTogether_1 : decode cX6_goTogether 1 = .ok (.iconst 3, 1) := by decide +kernel
theorem dX6_goTogether_2 : decode cX6_goTogether 2 = .ok (.if_icmp .ne 7, 3) := by decide +kernel
theorem dX6_goTogether_5 : decode cX6_goTogether 5 = .ok (.iconst 1, 1) := by decide +kernel
theorem dX6_goTogether_6 : decode cX6_goTogether 6 = .ok (.goto 4, 3) := by decide +kernel
theorem dX6_goTogether_9 : decode cX6_goTogether 9 = .ok (.iconst 0, 1) := by decide +kernel
theorem dX6_goTogether_10 : decode cX6_goTogether 10 = .ok (.iload_n 1, 1) := by decide +kernel
theorem dX6_goTogether_11 : decode cX6_goTogether 11 = .ok (.iconst 3, 1) := by decide +kernel
theorem dX6_goTogether_12 : decode cX6_goTogether 12 = .ok (.if_icmp .ne 7, 3) := by decide +kernel
theorem dX6_goTogether_15 : decode cX6_goTogether 15 = .ok (.iconst 1, 1) := by decide +kernel
theorem dX6_goTogether_16 : decode cX6_goTogether 16 = .ok (.goto 4, 3) := by decide +kernel
theorem dX6_goTogether_19 : decode cX6_goTogether 19 = .ok (.iconst 0, 1) := by decide +kernel
theorem dX6_goTogether_20 : decode cX6_goTogether 20 = .ok (.if_icmp .ne 7, 3) := by decide +kernel
theorem dX6_goTogether_23 : decode cX6_goTogether 23 = .ok (.iconst 1, 1) := by decide +kernel
theorem dX6_goTogether_24 : decode cX6_goTogether 24 = .ok (.goto 4, 3) := by decide +kernel
theorem dX6_goTogether_27 : decode cX6_goTogether 27 = .ok (.iconst 0, 1) := by decide +kernel
theorem dX6_goTogether_28 : decode cX6_goTogether 28 = .ok (.ireturn, 1) := by decide +kernel
theorem dX6_howToBlend_0 : decode cX6_howToBlend 0 = .ok (.iload_n 0, 1) := by decide +kernel
theorem dX6_howToBlend_1 : decode cX6_howToBlend 1 = .ok (.iconst 3, 1) := by decide +kernel
theorem dX6_howToBlend_2 : decode cX6_howToBlend 2 = .ok (.if_icmp .ne 6, 3) := by decide +kernel
theorem dX6_howToBlend_5 : decode cX6_howToBlend 5 = .ok (.bipush 6, 2) := by decide +kernel
theorem dX6_howToBlend_7 : decode cX6_howToBlend 7 = .ok (.ireturn, 1) := by decide +kernel
theorem dX6_howToBlend_8 : decode cX6_howToBlend 8 = .ok (.iload_n 1, 1) := by decide +kernel
theorem dX6_howToBlend_9 : decode cX6_howToBlend 9 = .ok (.ifCond .eq 7, 3) := by decide +kernel
theorem dX6_howToBlend_12 : decode cX6_howToBlend 12 = .ok (.iconst 1, 1) := by decide +kernel
theorem dX6_howToBlend_13 : decode cX6_howToBlend 13 = .ok (.goto 4, 3) := by decide +kernel
theorem dX6_howToBlend_16 : decode cX6_howToBlend 16 = .ok (.iconst 0, 1) := by decide +kernel
theorem dX6_howToBlend_17 : decode cX6_howToBlend 17 = .ok (.ireturn, 1) := by decide +kernel
set_option maxRecDepth 20000 in
theorem ggX6_blendFloats_X0_level : GoodIn wsX6_blendFloats wsX0_level := goodIn_r _ [7, 8, 71] (by decide +kernel) (by decide +kernel)
set_option maxRecDepth 20000 in
theorem gX6_blendFloats_X0_level_u98X0 : GoodIn wsX6_blendFloats (va_wsO RX6 98 RX0 "ReelBarn$Reel" ⟨"ReelBarn$Reel", "level", "(I)F"⟩ yX0_level wsX0_level) := goodIn_app (goodIn_of _ (by decide +kernel)) ggX6_blendFloats_X0_level
set_option maxRecDepth 20000 in
theorem ggX6_blendFloats_X3_level : GoodIn wsX6_blendFloats wsX3_level := goodIn_r _ [9, 13, 14, 15, 16, 6, 17, 8, 18, 19, 20, 21, 22, 23, 24, 25, 26, 27, 28, 29, 30, 31, 32, 33, 71, 72, 73, 74] (by decide +kernel) (by decide +kernel)
set_option maxRecDepth 20000 in
theorem gX6_blendFloats_X3_level_u98X1 : GoodIn wsX6_blendFloats (va_wsU RX6 98 RX1 "ReelBarn$Reel" ⟨"ReelBarn$Reel", "level", "(I)F"⟩ yX3_level wsX3_level) := goodIn_app (goodIn_of _ (by decide +kernel)) ggX6_blendFloats_X3_level
set_option maxRecDepth 20000 in
theorem gX6_blendFloats_X3_level_u98X2 : GoodIn wsX6_blendFloats (va_wsU RX6 98 RX2 "ReelBarn$Reel" ⟨"ReelBarn$Reel", "level", "(I)F"⟩ yX3_level wsX3_level) := goodIn_app (goodIn_of _ (by decide +kernel)) ggX6_blendFloats_X3_level
set_option maxRecDepth 20000 in
theorem gX6_blendFloats_X3_level_u98X5 : GoodIn wsX6_blendFloats (va_wsU RX6 98 RX5 "ReelBarn$Reel" ⟨"ReelBarn$Reel", "level", "(I)F"⟩ yX3_level wsX3_level) := goodIn_app (goodIn_of _ (by decide +kernel)) ggX6_blendFloats_X3_level
set_option maxRecDepth 20000 in
theorem ggX6_blendFloats_X0_putLevel : GoodIn wsX6_blendFloats wsX0_putLevel := goodIn_r _ [41, 8, 42, 43, 6, 44, 45, 46, 71] (by decide +kernel) (by decide +kernel)
set_option maxRecDepth 20000 in
theorem gX6_blendFloats_X0_putLevel_u138X0 : GoodIn wsX6_blendFloats (va_wsO RX6 138 RX0 "ReelBarn$Reel" ⟨"ReelBarn$Reel", "putLevel", "(IF)V"⟩ yX0_putLevel wsX0_putLevel) := goodIn_app (goodIn_of _ (by decide +kernel)) ggX6_blendFloats_X0_putLevel
set_option maxRecDepth 20000 in
theorem ggX6_blendFloats_X3_putLevel : GoodIn wsX6_blendFloats wsX3_putLevel := goodIn_r _ [47, 50, 51, 52, 53, 6, 54, 55, 56, 57, 18, 58, 40, 59, 41, 8, 42, 43, 44, 45, 46, 60, 61, 21, 62, 23, 63, 64, 26, 65, 28, 66, 67, 31, 68, 33, 71, 72, 73, 74] (by decide +kernel) (by decide +kernel)
set_option maxRecDepth 20000 in
theorem gX6_blendFloats_X3_putLevel_u138X1 : GoodIn wsX6_blendFloats (va_wsU RX6 138 RX1 "ReelBarn$Reel" ⟨"ReelBarn$Reel", "putLevel", "(IF)V"⟩ yX3_putLevel wsX3_putLevel) := goodIn_app (goodIn_of _ (by decide +kernel)) ggX6_blendFloats_X3_putLevel
set_option maxRecDepth 20000 in
theorem gX6_blendFloats_X3_putLevel_u138X2 : GoodIn wsX6_blendFloats (va_wsU RX6 138 RX2 "ReelBarn$Reel" ⟨"ReelBarn$Reel", "putLevel", "(IF)V"⟩ yX3_putLevel wsX3_putLevel) := goodIn_app (goodIn_of _ (by decide +kernel)) ggX6_blendFloats_X3_putLevel
set_option maxRecDepth 20000 in
theorem gX6_blendFloats_X3_putLevel_u138X5 : GoodIn wsX6_blendFloats (va_wsU RX6 138 RX5 "ReelBarn$Reel" ⟨"ReelBarn$Reel", "putLevel", "(IF)V"⟩ yX3_putLevel wsX3_putLevel) := goodIn_app (goodIn_of _ (by decide +kernel)) ggX6_blendFloats_X3_putLevel
theorem dX6_blendFloats_0 : decode cX6_blendFloats 0 = .ok (.aload_n 0, 1) := by decide +kernel
theorem dX6_blendFloats_1 : decode cX6_blendFloats 1 = .ok (.iload_n 1, 1) := by decide +kernel
theorem dX6_blendFloats_2 : decode cX6_blendFloats 2 = .ok (.invokevirtual 98, 3) := by decide +kernel
theorem dX6_blendFloats_5 : decode cX6_blendFloats 5 = .ok (.fstore 4, 2) := by decide +kernel
theorem dX6_blendFloats_7 : decode cX6_blendFloats 7 = .ok (.aload_n 0, 1) := by decide +kernel
theorem dX6_blendFloats_8 : decode cX6_blendFloats 8 = .ok (.iload_n 1, 1) := by decide +kernel
theorem dX6_blendFloats_9 : decode cX6_blendFloats 9 = .ok (.iload_n 3, 1) := by decide +kernel
theorem dX6_blendFloats_10 : decode cX6_blendFloats 10 = .ok (.ifCond .eq 10, 3) := by decide +kernel
theorem dX6_blendFloats_13 : decode cX6_blendFloats 13 = .ok (.fload 4, 2) := by decide +kernel
theorem dX6_blendFloats_15 : decode cX6_blendFloats 15 = .ok (.fload_n 2, 1) := by decide +kernel
theorem dX6_blendFloats_16 : decode cX6_blendFloats 16 = .ok (.fsub, 1) := by decide +kernel
theorem dX6_blendFloats_17 : decode cX6_blendFloats 17 = .ok (.goto 7, 3) := by decide +kernel
theorem dX6_blendFloats_20 : decode cX6_blendFloats 20 = .ok (.fload 4, 2) := by decide +kernel
theorem dX6_blendFloats_22 : decode cX6_blendFloats 22 = .ok (.fload_n 2, 1) := by decide +kernel
theorem dX6_blendFloats_23 : decode cX6_blendFloats 23 = .ok (.fadd, 1) := by decide +kernel
theorem dX6_blendFloats_24 : decode cX6_blendFloats 24 = .ok (.invokevirtual 138, 3) := by decide +kernel
theorem dX6_blendFloats_27 : decode cX6_blendFloats 27 = .ok (.return_, 1) := by decide +kernel
theorem dX6_reelOn_0 : decode cX6_reelOn 0 = .ok (.aload_n 0, 1) := by decide +kernel
theorem dX6_reelOn_1 : decode cX6_reelOn 1 = .ok (.getfield 11, 3) := by decide +kernel
theorem dX6_reelOn_4 : decode cX6_reelOn 4 = .ok (.iload_n 1, 1) := by decide +kernel
theorem dX6_reelOn_5 : decode cX6_reelOn 5 = .ok (.iconst 4, 1) := by decide +kernel
theorem dX6_reelOn_6 : decode cX6_reelOn 6 = .ok (.imul, 1) := by decide +kernel
theorem dX6_reelOn_7 : decode cX6_reelOn 7 = .ok (.iload_n 2, 1) := by decide +kernel
theorem dX6_reelOn_8 : decode cX6_reelOn 8 = .ok (.iadd, 1) := by decide +kernel
theorem dX6_reelOn_9 : decode cX6_reelOn 9 = .ok (.aaload, 1) := by decide +kernel
theorem dX6_reelOn_10 : decode cX6_reelOn 10 = .ok (.areturn, 1) := by decide +kernel
theorem dX6_carry_0 : decode cX6_carry 0 = .ok (.aload_n 0, 1) := by decide +kernel
theorem dX6_carry_1 : decode cX6_carry 1 = .ok (.getfield 11, 3) := by decide +kernel
theorem dX6_carry_4 : decode cX6_carry 4 = .ok (.iload_n 1, 1) := by decide +kernel
theorem dX6_carry_5 : decode cX6_carry 5 = .ok (.iconst 4, 1) := by decide +kernel
theorem dX6_carry_6 : decode cX6_carry 6 = .ok (.imul, 1) := by decide +kernel
theorem dX6_carry_7 : decode cX6_carry 7 = .ok (.iload_n 2, 1) := by decide +kernel
theorem dX6_carry_8 : decode cX6_carry 8 = .ok (.iadd, 1) := by decide +kernel
theorem dX6_carry_9 : decode cX6_carry 9 = .ok (.aload_n 3, 1) := by decide +kernel
theorem dX6_carry_10 : decode cX6_carry 10 = .ok (.aastore, 1) := by decide +kernel
theorem dX6_carry_11 : decode cX6_carry 11 = .ok (.return_, 1) := by decide +kernel
theorem dX6_oneIfThere_0 : decode cX6_oneIfThere 0 = .ok (.aload_n 0, 1) := by decide +kernel
theorem dX6_oneIfThere_1 : decode cX6_oneIfThere 1 = .ok (.ifnonnull 7, 3) := by decide +kernel
theorem dX6_oneIfThere_4 : decode cX6_oneIfThere 4 = .ok (.lconst 0, 1) := by decide +kernel
theorem dX6_oneIfThere_5 : decode cX6_oneIfThere 5 = .ok (.goto 4, 3) := by decide +kernel
theorem dX6_oneIfThere_8 : decode cX6_oneIfThere 8 = .ok (.lconst 1, 1) := by decide +kernel
theorem dX6_oneIfThere_9 : decode cX6_oneIfThere 9 = .ok (.lreturn, 1) := by decide +kernel
set_option maxRecDepth 20000 in
theorem ggX6_reelFault_X6_isDeck : GoodIn wsX6_reelFault wsX6_isDeck := goodIn_r _ [6] (by decide +kernel) (by decide +kernel)
set_option maxRecDepth 20000 in
theorem gX6_reelFault_X6_isDeck : GoodIn wsX6_reelFault (va_wsS RX6 29 yX6_isDeck wsX6_isDeck) := goodIn_app (goodIn_of _ (by decide +kernel)) ggX6_reelFault_X6_isDeck
set_option maxRecDepth 20000 in
theorem ggX6_reelFault_X6_isSort : GoodIn wsX6_reelFault wsX6_isSort := goodIn_r _ [9] (by decide +kernel) (by decide +kernel)
set_option maxRecDepth 20000 in
theorem gX6_reelFault_X6_isSort : GoodIn wsX6_reelFault (va_wsS RX6 33 yX6_isSort wsX6_isSort) := goodIn_app (goodIn_of _ (by decide +kernel)) ggX6_reelFault_X6_isSort
set_option maxRecDepth 20000 in
theorem ggX6_reelFault_X6_reelOn : GoodIn wsX6_reelFault wsX6_reelOn := goodIn_r _ [13, 14, 15, 16, 17, 18] (by decide +kernel) (by decide +kernel)
set_option maxRecDepth 20000 in
theorem gX6_reelFault_X6_reelOn : GoodIn wsX6_reelFault (wsV RX6 58 RX6 yX6_reelOn wsX6_reelOn) := goodIn_app (goodIn_of _ (by decide +kernel)) ggX6_reelFault_X6_reelOn
theorem dX6_reelFault_0 : decode cX6_reelFault 0 = .ok (.iload_n 1, 1) := by decide +kernel
theorem dX6_reelFault_1 : decode cX6_reelFault 1 = .ok (.invokestatic 29, 3) := by decide +kernel
theorem dX6_reelFault_4 : decode cX6_reelFault 4 = .ok (.ifCond .eq 10, 3) := by decide +kernel
theorem dX6_reelFault_7 : decode cX6_reelFault 7 = .ok (.iload_n 2, 1) := by decide +kernel
theorem dX6_reelFault_8 : decode cX6_reelFault 8 = .ok (.invokestatic 33, 3) := by decide +kernel
theorem dX6_reelFault_11 : decode cX6_reelFault 11 = .ok (.ifCond .ne 7, 3) := by decide +kernel
theorem dX6_reelFault_14 : decode cX6_reelFault 14 = .ok (.ldc2_w 36, 3) := by decide +kernel
theorem dX6_reelFault_17 : decode cX6_reelFault 17 = .ok (.lreturn, 1) := by decide +kernel
theorem dX6_reelFault_18 : decode cX6_reelFault 18 = .ok (.aload_n 0, 1) := by decide +kernel
theorem dX6_reelFault_19 : decode cX6_reelFault 19 = .ok (.iload_n 1, 1) := by decide +kernel
theorem dX6_reelFault_20 : decode cX6_reelFault 20 = .ok (.iload_n 2, 1) := by decide +kernel
theorem dX6_reelFault_21 : decode cX6_reelFault 21 = .ok (.invokevirtual 58, 3) := by decide +kernel
theorem dX6_reelFault_24 : decode cX6_reelFault 24 = .ok (.ifnonnull 9, 3) := by decide +kernel
theorem dX6_reelFault_27 : decode cX6_reelFault 27 = .ok (.ldc2_w 134, 3) := by decide +kernel
theorem dX6_reelFault_30 : decode cX6_reelFault 30 = .ok (.goto 4, 3) := by decide +kernel
theorem dX6_reelFault_33 : decode cX6_reelFault 33 = .ok (.lconst 0, 1) := by decide +kernel
theorem dX6_reelFault_34 : decode cX6_reelFault 34 = .ok (.lreturn, 1) := by decide +kernel
set_option maxRecDepth 20000 in
theorem ggX6_placeFault_X6_reelFault : GoodIn wsX6_placeFault wsX6_reelFault := goodIn_r _ [6, 7, 8, 9, 10, 5, 11, 12, 13, 14, 15, 16, 17, 18, 19, 51, 52, 53, 54] (by decide +kernel) (by decide +kernel)
set_option maxRecDepth 20000 in
theorem gX6_placeFault_X6_reelFault : GoodIn wsX6_placeFault (wsV RX6 54 RX6 yX6_reelFault wsX6_reelFault) := goodIn_app (goodIn_of _ (by decide +kernel)) ggX6_placeFault_X6_reelFault
set_option maxRecDepth 20000 in
theorem ggX6_placeFault_X6_reelOn : GoodIn wsX6_placeFault wsX6_reelOn := goodIn_r _ [18, 19, 51, 52, 53, 54] (by decide +kernel) (by decide +kernel)
set_option maxRecDepth 20000 in
theorem gX6_placeFault_X6_reelOn : GoodIn wsX6_placeFault (wsV RX6 58 RX6 yX6_reelOn wsX6_reelOn) := goodIn_app (goodIn_of _ (by decide +kernel)) ggX6_placeFault_X6_reelOn
set_option maxRecDepth 20000 in
theorem ggX6_placeFault_X3_has : GoodIn wsX6_placeFault wsX3_has := goodIn_r _ [25, 26, 27, 28, 29, 30, 31, 32, 33, 34, 35, 36, 37, 38, 39, 40, 41, 42, 43, 44, 45, 46, 47, 55, 56, 57, 58] (by decide +kernel) (by decide +kernel)
set_option maxRecDepth 20000 in
theorem gX6_placeFault_X3_has_u142X0 : GoodIn wsX6_placeFault (va_wsU RX6 142 RX0 "ReelBarn$Reel" ⟨"ReelBarn$Reel", "has", "(I)Z"⟩ yX3_has wsX3_has) := goodIn_app (goodIn_of _ (by decide +kernel)) ggX6_placeFault_X3_has
set_option maxRecDepth 20000 in
theorem gX6_placeFault_X3_has_u142X1 : GoodIn wsX6_placeFault (va_wsU RX6 142 RX1 "ReelBarn$Reel" ⟨"ReelBarn$Reel", "has", "(I)Z"⟩ yX3_has wsX3_has) := goodIn_app (goodIn_of _ (by decide +kernel)) ggX6_placeFault_X3_has
set_option maxRecDepth 20000 in
theorem gX6_placeFault_X3_has_u142X2 : GoodIn wsX6_placeFault (va_wsU RX6 142 RX2 "ReelBarn$Reel" ⟨"ReelBarn$Reel", "has", "(I)Z"⟩ yX3_has wsX3_has) := goodIn_app (goodIn_of _ (by decide +kernel)) ggX6_placeFault_X3_has
set_option maxRecDepth 20000 in
theorem gX6_placeFault_X3_has_u142X5 : GoodIn wsX6_placeFault (va_wsU RX6 142 RX5 "ReelBarn$Reel" ⟨"ReelBarn$Reel", "has", "(I)Z"⟩ yX3_has wsX3_has) := goodIn_app (goodIn_of _ (by decide +kernel)) ggX6_placeFault_X3_has
theorem dX6_placeFault_0 : decode cX6_placeFault 0 = .ok (.aload_n 0, 1) := by decide +kernel
theorem dX6_placeFault_1 : decode cX6_placeFault 1 = .ok (.iload_n 1, 1) := by decide +kernel
theorem dX6_placeFault_2 : decode cX6_placeFault 2 = .ok (.iload_n 2, 1) := by decide +kernel
theorem dX6_placeFault_3 : decode cX6_placeFault 3 = .ok (.invokevirtual 54, 3) := by decide +kernel
theorem dX6_placeFault_6 : decode cX6_placeFault 6 = .ok (.lstore 4, 2) := by decide +kernel
theorem dX6_placeFault_8 : decode cX6_placeFault 8 = .ok (.lload 4, 2) := by decide +kernel
theorem dX6_placeFault_10 : decode cX6_placeFault 10 = .ok (.lconst 0, 1) := by decide +kernel
theorem dX6_placeFault_11 : decode cX6_placeFault 11 = .ok (.lcmp, 1) := by decide +kernel
theorem dX6_placeFault_12 : decode cX6_placeFault 12 = .ok (.ifCond .eq 6, 3) := by decide +kernel
theorem dX6_placeFault_15 : decode cX6_placeFault 15 = .ok (.lload 4, 2) := by decide +kernel
theorem dX6_placeFault_17 : decode cX6_placeFault 17 = .ok (.lreturn, 1) := by decide +kernel
theorem dX6_placeFault_18 : decode cX6_placeFault 18 = .ok (.aload_n 0, 1) := by decide +kernel
theorem dX6_placeFault_19 : decode cX6_placeFault 19 = .ok (.iload_n 1, 1) := by decide +kernel
theorem dX6_placeFault_20 : decode cX6_placeFault 20 = .ok (.iload_n 2, 1) := by decide +kernel
theorem dX6_placeFault_21 : decode cX6_placeFault 21 = .ok (.invokevirtual 58, 3) := by decide +kernel
theorem dX6_placeFault_24 : decode cX6_placeFault 24 = .ok (.iload_n 3, 1) := by decide +kernel
theorem dX6_placeFault_25 : decode cX6_placeFault 25 = .ok (.invokevirtual 142, 3) := by decide +kernel
theorem dX6_placeFault_28 : decode cX6_placeFault 28 = .ok (.ifCond .eq 7, 3) := by decide +kernel
theorem dX6_placeFault_31 : decode cX6_placeFault 31 = .ok (.lconst 0, 1) := by decide +kernel
theorem dX6_placeFault_32 : decode cX6_placeFault 32 = .ok (.goto 6, 3) := by decide +kernel
theorem dX6_placeFault_35 : decode cX6_placeFault 35 = .ok (.ldc2_w 136, 3) := by decide +kernel
theorem dX6_placeFault_38 : decode cX6_placeFault 38 = .ok (.lreturn, 1) := by decide +kernel
set_option maxRecDepth 20000 in
theorem ggX6_wallFault_X6_isSort : GoodIn wsX6_wallFault wsX6_isSort := goodIn_r _ [7] (by decide +kernel) (by decide +kernel)
set_option maxRecDepth 20000 in
theorem gX6_wallFault_X6_isSort : GoodIn wsX6_wallFault (va_wsS RX6 33 yX6_isSort wsX6_isSort) := goodIn_app (goodIn_of _ (by decide +kernel)) ggX6_wallFault_X6_isSort
theorem dX6_wallFault_0 : decode cX6_wallFault 0 = .ok (.iload_n 1, 1) := by decide +kernel
theorem dX6_wallFault_1 : decode cX6_wallFault 1 = .ok (.invokestatic 33, 3) := by decide +kernel
theorem dX6_wallFault_4 : decode cX6_wallFault 4 = .ok (.ifCond .ne 7, 3) := by decide +kernel
theorem dX6_wallFault_7 : decode cX6_wallFault 7 = .ok (.ldc2_w 36, 3) := by decide +kernel
theorem dX6_wallFault_10 : decode cX6_wallFault 10 = .ok (.lreturn, 1) := by decide +kernel
theorem dX6_wallFault_11 : decode cX6_wallFault 11 = .ok (.aload_n 0, 1) := by decide +kernel
theorem dX6_wallFault_12 : decode cX6_wallFault 12 = .ok (.getfield 17, 3) := by decide +kernel
theorem dX6_wallFault_15 : decode cX6_wallFault 15 = .ok (.iload_n 1, 1) := by decide +kernel
theorem dX6_wallFault_16 : decode cX6_wallFault 16 = .ok (.aaload, 1) := by decide +kernel
theorem dX6_wallFault_17 : decode cX6_wallFault 17 = .ok (.ifnonnull 9, 3) := by decide +kernel
theorem dX6_wallFault_20 : decode cX6_wallFault 20 = .ok (.ldc2_w 134, 3) := by decide +kernel
theorem dX6_wallFault_23 : decode cX6_wallFault 23 = .ok (.goto 4, 3) := by decide +kernel
theorem dX6_wallFault_26 : decode cX6_wallFault 26 = .ok (.lconst 0, 1) := by decide +kernel
theorem dX6_wallFault_27 : decode cX6_wallFault 27 = .ok (.lreturn, 1) := by decide +kernel
set_option maxRecDepth 20000 in
theorem ggX6_rowFault_X6_wallFault : GoodIn wsX6_rowFault wsX6_wallFault := goodIn_r _ [8, 9, 1, 10, 11, 12, 7, 13, 14, 15, 16, 17] (by decide +kernel) (by decide +kernel)
set_option maxRecDepth 20000 in
theorem gX6_rowFault_X6_wallFault : GoodIn wsX6_rowFault (wsV RX6 126 RX6 yX6_wallFault wsX6_wallFault) := goodIn_app (goodIn_of _ (by decide +kernel)) ggX6_rowFault_X6_wallFault
theorem dX6_rowFault_0 : decode cX6_rowFault 0 = .ok (.aload_n 0, 1) := by decide +kernel
theorem dX6_rowFault_1 : decode cX6_rowFault 1 = .ok (.iload_n 1, 1) := by decide +kernel
theorem dX6_rowFault_2 : decode cX6_rowFault 2 = .ok (.invokevirtual 126, 3) := by decide +kernel
theorem dX6_rowFault_5 : decode cX6_rowFault 5 = .ok (.lstore_n 3, 1) := by decide +kernel
theorem dX6_rowFault_6 : decode cX6_rowFault 6 = .ok (.lload_n 3, 1) := by decide +kernel
theorem dX6_rowFault_7 : decode cX6_rowFault 7 = .ok (.lconst 0, 1) := by decide +kernel
theorem dX6_rowFault_8 : decode cX6_rowFault 8 = .ok (.lcmp, 1) := by decide +kernel
theorem dX6_rowFault_9 : decode cX6_rowFault 9 = .ok (.ifCond .eq 5, 3) := by decide +kernel
theorem dX6_rowFault_12 : decode cX6_rowFault 12 = .ok (.lload_n 3, 1) := by decide +kernel
theorem dX6_rowFault_13 : decode cX6_rowFault 13 = .ok (.lreturn, 1) := by decide +kernel
theorem dX6_rowFault_14 : decode cX6_rowFault 14 = .ok (.iload_n 2, 1) := by decide +kernel
theorem dX6_rowFault_15 : decode cX6_rowFault 15 = .ok (.ifCond .lt 21, 3) := by decide +kernel
theorem dX6_rowFault_18 : decode cX6_rowFault 18 = .ok (.iload_n 2, 1) := by decide +kernel
theorem dX6_rowFault_19 : decode cX6_rowFault 19 = .ok (.aload_n 0, 1) := by decide +kernel
theorem dX6_rowFault_20 : decode cX6_rowFault 20 = .ok (.getfield 17, 3) := by decide +kernel
theorem dX6_rowFault_23 : decode cX6_rowFault 23 = .ok (.iload_n 1, 1) := by decide +kernel
theorem dX6_rowFault_24 : decode cX6_rowFault 24 = .ok (.aaload, 1) := by decide +kernel
theorem dX6_rowFault_25 : decode cX6_rowFault 25 = .ok (.getfield 120, 3) := by decide +kernel
theorem dX6_rowFault_28 : decode cX6_rowFault 28 = .ok (.arraylength, 1) := by decide +kernel
theorem dX6_rowFault_29 : decode cX6_rowFault 29 = .ok (.if_icmp .ge 7, 3) := by decide +kernel
theorem dX6_rowFault_32 : decode cX6_rowFault 32 = .ok (.lconst 0, 1) := by decide +kernel
theorem dX6_rowFault_33 : decode cX6_rowFault 33 = .ok (.goto 6, 3) := by decide +kernel
theorem dX6_rowFault_36 : decode cX6_rowFault 36 = .ok (.ldc2_w 136, 3) := by decide +kernel
theorem dX6_rowFault_39 : decode cX6_rowFault 39 = .ok (.lreturn, 1) := by decide +kernel
set_option maxRecDepth 20000 in
theorem ggX6_wallReelFault_X6_rowFault : GoodIn wsX6_wallReelFault wsX6_rowFault := goodIn_r _ [8, 1, 2, 9, 10, 11, 12, 7, 13, 14, 15, 16, 17, 18, 19, 20, 21, 22, 23] (by decide +kernel) (by decide +kernel)
set_option maxRecDepth 20000 in
theorem gX6_wallReelFault_X6_rowFault : GoodIn wsX6_wallReelFault (wsV RX6 117 RX6 yX6_rowFault wsX6_rowFault) := goodIn_app (goodIn_of _ (by decide +kernel)) ggX6_wallReelFault_X6_rowFault
theorem dX6_wallReelFault_0 : decode cX6_wallReelFault 0 = .ok (.aload_n 0, 1) := by decide +kernel
theorem dX6_wallReelFault_1 : decode cX6_wallReelFault 1 = .ok (.iload_n 1, 1) := by decide +kernel
theorem dX6_wallReelFault_2 : decode cX6_wallReelFault 2 = .ok (.iload_n 2, 1) := by decide +kernel
theorem dX6_wallReelFault_3 : decode cX6_wallReelFault 3 = .ok (.invokevirtual 117, 3) := by decide +kernel
theorem dX6_wallReelFault_6 : decode cX6_wallReelFault 6 = .ok (.lstore_n 3, 1) := by decide +kernel
theorem dX6_wallReelFault_7 : decode cX6_wallReelFault 7 = .ok (.lload_n 3, 1) := by decide +kernel
theorem dX6_wallReelFault_8 : decode cX6_wallReelFault 8 = .ok (.lconst 0, 1) := by decide +kernel
theorem dX6_wallReelFault_9 : decode cX6_wallReelFault 9 = .ok (.lcmp, 1) := by decide +kernel
theorem dX6_wallReelFault_10 : decode cX6_wallReelFault 10 = .ok (.ifCond .eq 5, 3) := by decide +kernel
theorem dX6_wallReelFault_13 : decode cX6_wallReelFault 13 = .ok (.lload_n 3, 1) := by decide +kernel
theorem dX6_wallReelFault_14 : decode cX6_wallReelFault 14 = .ok (.lreturn, 1) := by decide +kernel
theorem dX6_wallReelFault_15 : decode cX6_wallReelFault 15 = .ok (.aload_n 0, 1) := by decide +kernel
theorem dX6_wallReelFault_16 : decode cX6_wallReelFault 16 = .ok (.getfield 17, 3) := by decide +kernel
theorem dX6_wallReelFault_19 : decode cX6_wallReelFault 19 = .ok (.iload_n 1, 1) := by decide +kernel
theorem dX6_wallReelFault_20 : decode cX6_wallReelFault 20 = .ok (.aaload, 1) := by decide +kernel
theorem dX6_wallReelFault_21 : decode cX6_wallReelFault 21 = .ok (.getfield 120, 3) := by decide +kernel
theorem dX6_wallReelFault_24 : decode cX6_wallReelFault 24 = .ok (.iload_n 2, 1) := by decide +kernel
theorem dX6_wallReelFault_25 : decode cX6_wallReelFault 25 = .ok (.aaload, 1) := by decide +kernel
theorem dX6_wallReelFault_26 : decode cX6_wallReelFault 26 = .ok (.ifnonnull 9, 3) := by decide +kernel
theorem dX6_wallReelFault_29 : decode cX6_wallReelFault 29 = .ok (.ldc2_w 145, 3) := by decide +kernel
theorem dX6_wallReelFault_32 : decode cX6_wallReelFault 32 = .ok (.goto 4, 3) := by decide +kernel
theorem dX6_wallReelFault_35 : decode cX6_wallReelFault 35 = .ok (.lconst 0, 1) := by decide +kernel
theorem dX6_wallReelFault_36 : decode cX6_wallReelFault 36 = .ok (.lreturn, 1) := by decide +kernel
set_option maxRecDepth 20000 in
theorem ggX6_wallPlaceFault_X6_wallReelFault : GoodIn wsX6_wallPlaceFault wsX6_wallReelFault := goodIn_r _ [8, 1, 2, 9, 10, 11, 12, 7, 13, 3, 14, 15, 16, 17, 18, 19, 20, 21, 22, 54, 55, 56, 57, 58] (by decide +kernel) (by decide +kernel)
set_option maxRecDepth 20000 in
theorem gX6_wallPlaceFault_X6_wallReelFault : GoodIn wsX6_wallPlaceFault (wsV RX6 130 RX6 yX6_wallReelFault wsX6_wallReelFault) := goodIn_app (goodIn_of _ (by decide +kernel)) ggX6_wallPlaceFault_X6_wallReelFault
set_option maxRecDepth 20000 in
theorem ggX6_wallPlaceFault_X3_has : GoodIn wsX6_wallPlaceFault wsX3_has := goodIn_r _ [28, 29, 30, 31, 32, 33, 34, 35, 36, 37, 38, 39, 40, 41, 42, 43, 44, 45, 46, 47, 48, 49, 50, 59, 60, 61, 62] (by decide +kernel) (by decide +kernel)
set_option maxRecDepth 20000 in
theorem gX6_wallPlaceFault_X3_has_u142X0 : GoodIn wsX6_wallPlaceFault (va_wsU RX6 142 RX0 "ReelBarn$Reel" ⟨"ReelBarn$Reel", "has", "(I)Z"⟩ yX3_has wsX3_has) := goodIn_app (goodIn_of _ (by decide +kernel)) ggX6_wallPlaceFault_X3_has
set_option maxRecDepth 20000 in
theorem gX6_wallPlaceFault_X3_has_u142X1 : GoodIn wsX6_wallPlaceFault (va_wsU RX6 142 RX1 "ReelBarn$Reel" ⟨"ReelBarn$Reel", "has", "(I)Z"⟩ yX3_has wsX3_has) := goodIn_app (goodIn_of _ (by decide +kernel)) ggX6_wallPlaceFault_X3_has
set_option maxRecDepth 20000 in
theorem gX6_wallPlaceFault_X3_has_u142X2 : GoodIn wsX6_wallPlaceFault (va_wsU RX6 142 RX2 "ReelBarn$Reel" ⟨"ReelBarn$Reel", "has", "(I)Z"⟩ yX3_has wsX3_has) := goodIn_app (goodIn_of _ (by decide +kernel)) ggX6_wallPlaceFault_X3_has
set_option maxRecDepth 20000 in
theorem gX6_wallPlaceFault_X3_has_u142X5 : GoodIn wsX6_wallPlaceFault (va_wsU RX6 142 RX5 "ReelBarn$Reel" ⟨"ReelBarn$Reel", "has", "(I)Z"⟩ yX3_has wsX3_has) := goodIn_app (goodIn_of _ (by decide +kernel)) ggX6_wallPlaceFault_X3_has
theorem dX6_wallPlaceFault_0 : decode cX6_wallPlaceFault 0 = .ok (.aload_n 0, 1) := by decide +kernel
theorem dX6_wallPlaceFault_1 : decode cX6_wallPlaceFault 1 = .ok (.iload_n 1, 1) := by decide +kernel
theorem dX6_wallPlaceFault_2 : decode cX6_wallPlaceFault 2 = .ok (.iload_n 2, 1) := by decide +kernel
theorem dX6_wallPlaceFault_3 : decode cX6_wallPlaceFault 3 = .ok (.invokevirtual 130, 3) := by decide +kernel
theorem dX6_wallPlaceFault_6 : decode cX6_wallPlaceFault 6 = .ok (.lstore 4, 2) := by decide +kernel
theorem dX6_wallPlaceFault_8 : decode cX6_wallPlaceFault 8 = .ok (.lload 4, 2) := by decide +kernel
theorem dX6_wallPlaceFault_10 : decode cX6_wallPlaceFault 10 = .ok (.lconst 0, 1) := by decide +kernel
theorem dX6_wallPlaceFault_11 : decode cX6_wallPlaceFault 11 = .ok (.lcmp, 1) := by decide +kernel
theorem dX6_wallPlaceFault_12 : decode cX6_wallPlaceFault 12 = .ok (.ifCond .eq 6, 3) := by decide +kernel
theorem dX6_wallPlaceFault_15 : decode cX6_wallPlaceFault 15 = .ok (.lload 4, 2) := by decide +kernel
theorem dX6_wallPlaceFault_17 : decode cX6_wallPlaceFault 17 = .ok (.lreturn, 1) := by decide +kernel
theorem dX6_wallPlaceFault_18 : decode cX6_wallPlaceFault 18 = .ok (.aload_n 0, 1) := by decide +kernel
theorem dX6_wallPlaceFault_19 : decode cX6_wallPlaceFault 19 = .ok (.getfield 17, 3) := by decide +kernel
theorem dX6_wallPlaceFault_22 : decode cX6_wallPlaceFault 22 = .ok (.iload_n 1, 1) := by decide +kernel
theorem dX6_wallPlaceFault_23 : decode cX6_wallPlaceFault 23 = .ok (.aaload, 1) := by decide +kernel
theorem dX6_wallPlaceFault_24 : decode cX6_wallPlaceFault 24 = .ok (.getfield 120, 3) := by decide +kernel
theorem dX6_wallPlaceFault_27 : decode cX6_wallPlaceFault 27 = .ok (.iload_n 2, 1) := by decide +kernel
theorem dX6_wallPlaceFault_28 : decode cX6_wallPlaceFault 28 = .ok (.aaload, 1) := by decide +kernel
theorem dX6_wallPlaceFault_29 : decode cX6_wallPlaceFault 29 = .ok (.iload_n 3, 1) := by decide +kernel
theorem dX6_wallPlaceFault_30 : decode cX6_wallPlaceFault 30 = .ok (.invokevirtual 142, 3) := by decide +kernel
theorem dX6_wallPlaceFault_33 : decode cX6_wallPlaceFault 33 = .ok (.ifCond .eq 7, 3) := by decide +kernel
theorem dX6_wallPlaceFault_36 : decode cX6_wallPlaceFault 36 = .ok (.lconst 0, 1) := by decide +kernel
theorem dX6_wallPlaceFault_37 : decode cX6_wallPlaceFault 37 = .ok (.goto 6, 3) := by decide +kernel
theorem dX6_wallPlaceFault_40 : decode cX6_wallPlaceFault 40 = .ok (.ldc2_w 136, 3) := by decide +kernel
theorem dX6_wallPlaceFault_43 : decode cX6_wallPlaceFault 43 = .ok (.lreturn, 1) := by decide +kernel
theorem dX6_gridFault_0 : decode cX6_gridFault 0 = .ok (.iload_n 0, 1) := by decide +kernel
theorem dX6_gridFault_1 : decode cX6_gridFault 1 = .ok (.bipush 12, 2) := by decide +kernel
theorem dX6_gridFault_3 : decode cX6_gridFault 3 = .ok (.if_icmp .gt 9, 3) := by decide +kernel
theorem dX6_gridFault_6 : decode cX6_gridFault 6 = .ok (.iload_n 1, 1) := by decide +kernel
theorem dX6_gridFault_7 : decode cX6_gridFault 7 = .ok (.bipush 12, 2) := by decide +kernel
theorem dX6_gridFault_9 : decode cX6_gridFault 9 = .ok (.if_icmp .le 7, 3) := by decide +kernel
theorem dX6_gridFault_12 : decode cX6_gridFault 12 = .ok (.ldc2_w 42, 3) := by decide +kernel
theorem dX6_gridFault_15 : decode cX6_gridFault 15 = .ok (.lreturn, 1) := by decide +kernel
theorem dX6_gridFault_16 : decode cX6_gridFault 16 = .ok (.iload_n 0, 1) := by decide +kernel
theorem dX6_gridFault_17 : decode cX6_gridFault 17 = .ok (.ifCond .lt 7, 3) := by decide +kernel
theorem dX6_gridFault_20 : decode cX6_gridFault 20 = .ok (.iload_n 1, 1) := by decide +kernel
theorem dX6_gridFault_21 : decode cX6_gridFault 21 = .ok (.ifCond .ge 9, 3) := by decide +kernel
theorem dX6_gridFault_24 : decode cX6_gridFault 24 = .ok (.ldc2_w 44, 3) := by decide +kernel
theorem dX6_gridFault_27 : decode cX6_gridFault 27 = .ok (.goto 4, 3) := by decide +kernel
theorem dX6_gridFault_30 : decode cX6_gridFault 30 = .ok (.lconst 0, 1) := by decide +kernel
theorem dX6_gridFault_31 : decode cX6_gridFault 31 = .ok (.lreturn, 1) := by decide +kernel
set_option maxRecDepth 20000 in
theorem ggX6_newReel_X2_init : GoodIn wsX6_newReel wsX2_init := goodIn_r _ [15, 16, 17, 18, 19, 20, 21, 22, 23, 39] (by decide +kernel) (by decide +kernel)
set_option maxRecDepth 20000 in
theorem gX6_newReel_X2_init : GoodIn wsX6_newReel (wsX2_init) := ggX6_newReel_X2_init
set_option maxRecDepth 20000 in
theorem ggX6_newReel_X5_init : GoodIn wsX6_newReel wsX5_init := goodIn_r _ [26, 27, 28, 18, 19, 20, 21, 22, 23, 40] (by decide +kernel) (by decide +kernel)
set_option maxRecDepth 20000 in
theorem gX6_newReel_X5_init : GoodIn wsX6_newReel (wsX5_init) := ggX6_newReel_X5_init
set_option maxRecDepth 20000 in
theorem ggX6_newReel_X0_init : GoodIn wsX6_newReel wsX0_init := goodIn_r _ [31, 32, 33, 18, 19, 20, 21, 22, 23, 41] (by decide +kernel) (by decide +kernel)
set_option maxRecDepth 20000 in
theorem gX6_newReel_X0_init : GoodIn wsX6_newReel (wsX0_init) := ggX6_newReel_X0_init
set_option maxRecDepth 20000 in
theorem ggX6_newReel_X1_init : GoodIn wsX6_newReel wsX1_init := goodIn_r _ [36, 37, 38, 18, 19, 20, 21, 22, 23, 42] (by decide +kernel) (by decide +kernel)
set_option maxRecDepth 20000 in
theorem gX6_newReel_X1_init : GoodIn wsX6_newReel (wsX1_init) := ggX6_newReel_X1_init
theorem dX6_newReel_0 : decode cX6_newReel 0 = .ok (.iload_n 0, 1) := by decide +kernel
theorem dX6_newReel_1 : decode cX6_newReel 1 = .ok (.tableswitch 54 0 2 #[27, 36, 45], 27) := by decide +kernel
theorem dX6_newReel_28 : decode cX6_newReel 28 = .ok (.new 147, 3) := by decide +kernel
theorem dX6_newReel_31 : decode cX6_newReel 31 = .ok (.dup, 1) := by decide +kernel
theorem dX6_newReel_32 : decode cX6_newReel 32 = .ok (.iload_n 1, 1) := by decide +kernel
theorem dX6_newReel_33 : decode cX6_newReel 33 = .ok (.invokespecial 149, 3) := by decide +kernel
theorem dX6_newReel_36 : decode cX6_newReel 36 = .ok (.areturn, 1) := by decide +kernel
theorem dX6_newReel_37 : decode cX6_newReel 37 = .ok (.new 151, 3) := by decide +kernel
theorem dX6_newReel_40 : decode cX6_newReel 40 = .ok (.dup, 1) := by decide +kernel
theorem dX6_newReel_41 : decode cX6_newReel 41 = .ok (.iload_n 1, 1) := by decide +kernel
theorem dX6_newReel_42 : decode cX6_newReel 42 = .ok (.invokespecial 153, 3) := by decide +kernel
theorem dX6_newReel_45 : decode cX6_newReel 45 = .ok (.areturn, 1) := by decide +kernel
theorem dX6_newReel_46 : decode cX6_newReel 46 = .ok (.new 154, 3) := by decide +kernel
theorem dX6_newReel_49 : decode cX6_newReel 49 = .ok (.dup, 1) := by decide +kernel
theorem dX6_newReel_50 : decode cX6_newReel 50 = .ok (.iload_n 1, 1) := by decide +kernel
theorem dX6_newReel_51 : decode cX6_newReel 51 = .ok (.invokespecial 156, 3) := by decide +kernel
theorem dX6_newReel_54 : decode cX6_newReel 54 = .ok (.areturn, 1) := by decide +kernel
theorem dX6_newReel_55 : decode cX6_newReel 55 = .ok (.new 157, 3) := by decide +kernel
theorem dX6_newReel_58 : decode cX6_newReel 58 = .ok (.dup, 1) := by decide +kernel
theorem dX6_newReel_59 : decode cX6_newReel 59 = .ok (.iload_n 1, 1) := by decide +kernel
theorem dX6_newReel_60 : decode cX6_newReel 60 = .ok (.invokespecial 159, 3) := by decide +kernel
theorem dX6_newReel_63 : decode cX6_newReel 63 = .ok (.areturn, 1) := by decide +kernel
set_option maxRecDepth 20000 in
theorem ggX6_newWall_X4_init : GoodIn wsX6_newWall wsX4_init := goodIn_r _ [7, 8, 9, 10, 11, 12, 53] (by decide +kernel) (by decide +kernel)
set_option maxRecDepth 20000 in
theorem gX6_newWall_X4_init : GoodIn wsX6_newWall (wsX4_init) := ggX6_newWall_X4_init
set_option maxRecDepth 20000 in
theorem ggX6_newWall_X6_newReel : GoodIn wsX6_newWall wsX6_newReel := goodIn_r _ [16, 17, 18, 19, 20, 21, 22, 23, 24, 25, 26, 27, 28, 29, 30, 31, 32, 33, 34, 35, 36, 37, 9, 10, 38, 39, 40, 41, 42, 43, 44, 45, 46, 47, 48, 49, 50, 51, 52, 54, 55, 56, 57] (by decide +kernel) (by decide +kernel)
set_option maxRecDepth 20000 in
theorem gX6_newWall_X6_newReel : GoodIn wsX6_newWall (va_wsS RX6 46 yX6_newReel wsX6_newReel) := goodIn_app (goodIn_of _ (by decide +kernel)) ggX6_newWall_X6_newReel
theorem dX6_newWall_0 : decode cX6_newWall 0 = .ok (.new 15, 3) := by decide +kernel
theorem dX6_newWall_3 : decode cX6_newWall 3 = .ok (.dup, 1) := by decide +kernel
theorem dX6_newWall_4 : decode cX6_newWall 4 = .ok (.iload_n 1, 1) := by decide +kernel
theorem dX6_newWall_5 : decode cX6_newWall 5 = .ok (.invokespecial 160, 3) := by decide +kernel
theorem dX6_newWall_8 : decode cX6_newWall 8 = .ok (.astore_n 3, 1) := by decide +kernel
theorem dX6_newWall_9 : decode cX6_newWall 9 = .ok (.iconst 0, 1) := by decide +kernel
theorem dX6_newWall_10 : decode cX6_newWall 10 = .ok (.istore 4, 2) := by decide +kernel
theorem dX6_newWall_12 : decode cX6_newWall 12 = .ok (.iload 4, 2) := by decide +kernel
theorem dX6_newWall_14 : decode cX6_newWall 14 = .ok (.iload_n 1, 1) := by decide +kernel
theorem dX6_newWall_15 : decode cX6_newWall 15 = .ok (.if_icmp .ge 21, 3) := by decide +kernel
theorem dX6_newWall_18 : decode cX6_newWall 18 = .ok (.aload_n 3, 1) := by decide +kernel
theorem dX6_newWall_19 : decode cX6_newWall 19 = .ok (.getfield 120, 3) := by decide +kernel
theorem dX6_newWall_22 : decode cX6_newWall 22 = .ok (.iload 4, 2) := by decide +kernel
theorem dX6_newWall_24 : decode cX6_newWall 24 = .ok (.iload_n 0, 1) := by decide +kernel
theorem dX6_newWall_25 : decode cX6_newWall 25 = .ok (.iload_n 2, 1) := by decide +kernel
theorem dX6_newWall_26 : decode cX6_newWall 26 = .ok (.invokestatic 46, 3) := by decide +kernel
theorem dX6_newWall_29 : decode cX6_newWall 29 = .ok (.aastore, 1) := by decide +kernel
theorem dX6_newWall_30 : decode cX6_newWall 30 = .ok (.iinc 4 1, 3) := by decide +kernel
theorem dX6_newWall_33 : decode cX6_newWall 33 = .ok (.goto (-21), 3) := by decide +kernel
theorem dX6_newWall_36 : decode cX6_newWall 36 = .ok (.aload_n 3, 1) := by decide +kernel
theorem dX6_newWall_37 : decode cX6_newWall 37 = .ok (.areturn, 1) := by decide +kernel
end
section
theorem dX7_init_0 : decode cX7_init 0 = .ok (.aload_n 0, 1) := by decide +kernel
theorem dX7_init_1 : decode cX7_init 1 = .ok (.invokespecial 1, 3) := by decide +kernel
theorem dX7_init_4 : decode cX7_init 4 = .ok (.aload_n 0, 1) := by decide +kernel
theorem dX7_init_5 : decode cX7_init 5 = .ok (.bipush 16, 2) := by decide +kernel
theorem dX7_init_7 : decode cX7_init 7 = .ok (.newarray .int, 2) := by decide +kernel
theorem dX7_init_9 : decode cX7_init 9 = .ok (.putfield 7, 3) := by decide +kernel
theorem dX7_init_12 : decode cX7_init 12 = .ok (.aload_n 0, 1) := by decide +kernel
theorem dX7_init_13 : decode cX7_init 13 = .ok (.iconst 4, 1) := by decide +kernel
theorem dX7_init_14 : decode cX7_init 14 = .ok (.newarray .int, 2) := by decide +kernel
theorem dX7_init_16 : decode cX7_init 16 = .ok (.putfield 13, 3) := by decide +kernel
theorem dX7_init_19 : decode cX7_init 19 = .ok (.aload_n 0, 1) := by decide +kernel
theorem dX7_init_20 : decode cX7_init 20 = .ok (.bipush 48, 2) := by decide +kernel
theorem dX7_init_22 : decode cX7_init 22 = .ok (.newarray .int, 2) := by decide +kernel
theorem dX7_init_24 : decode cX7_init 24 = .ok (.putfield 16, 3) := by decide +kernel
theorem dX7_init_27 : decode cX7_init 27 = .ok (.aload_n 0, 1) := by decide +kernel
theorem dX7_init_28 : decode cX7_init 28 = .ok (.bipush 80, 2) := by decide +kernel
theorem dX7_init_30 : decode cX7_init 30 = .ok (.newarray .int, 2) := by decide +kernel
theorem dX7_init_32 : decode cX7_init 32 = .ok (.putfield 19, 3) := by decide +kernel
theorem dX7_init_35 : decode cX7_init 35 = .ok (.aload_n 0, 1) := by decide +kernel
theorem dX7_init_36 : decode cX7_init 36 = .ok (.sipush 3200, 3) := by decide +kernel
theorem dX7_init_39 : decode cX7_init 39 = .ok (.newarray .int, 2) := by decide +kernel
theorem dX7_init_41 : decode cX7_init 41 = .ok (.putfield 22, 3) := by decide +kernel
theorem dX7_init_44 : decode cX7_init 44 = .ok (.aload_n 0, 1) := by decide +kernel
theorem dX7_init_45 : decode cX7_init 45 = .ok (.sipush 3200, 3) := by decide +kernel
theorem dX7_init_48 : decode cX7_init 48 = .ok (.newarray .float, 2) := by decide +kernel
theorem dX7_init_50 : decode cX7_init 50 = .ok (.putfield 25, 3) := by decide +kernel
theorem dX7_init_53 : decode cX7_init 53 = .ok (.aload_n 0, 1) := by decide +kernel
theorem dX7_init_54 : decode cX7_init 54 = .ok (.bipush 80, 2) := by decide +kernel
theorem dX7_init_56 : decode cX7_init 56 = .ok (.newarray .boolean, 2) := by decide +kernel
theorem dX7_init_58 : decode cX7_init 58 = .ok (.putfield 29, 3) := by decide +kernel
theorem dX7_init_61 : decode cX7_init 61 = .ok (.aload_n 0, 1) := by decide +kernel
theorem dX7_init_62 : decode cX7_init 62 = .ok (.iconst (-1), 1) := by decide +kernel
theorem dX7_init_63 : decode cX7_init 63 = .ok (.putfield 33, 3) := by decide +kernel
theorem dX7_init_66 : decode cX7_init 66 = .ok (.aload_n 0, 1) := by decide +kernel
theorem dX7_init_67 : decode cX7_init 67 = .ok (.sipush 144, 3) := by decide +kernel
theorem dX7_init_70 : decode cX7_init 70 = .ok (.newarray .int, 2) := by decide +kernel
theorem dX7_init_72 : decode cX7_init 72 = .ok (.putfield 37, 3) := by decide +kernel
theorem dX7_init_75 : decode cX7_init 75 = .ok (.aload_n 0, 1) := by decide +kernel
theorem dX7_init_76 : decode cX7_init 76 = .ok (.bipush 8, 2) := by decide +kernel
theorem dX7_init_78 : decode cX7_init 78 = .ok (.newarray .int, 2) := by decide +kernel
theorem dX7_init_80 : decode cX7_init 80 = .ok (.putfield 40, 3) := by decide +kernel
theorem dX7_init_83 : decode cX7_init 83 = .ok (.iconst 0, 1) := by decide +kernel
theorem dX7_init_84 : decode cX7_init 84 = .ok (.istore_n 1, 1) := by decide +kernel
theorem dX7_init_85 : decode cX7_init 85 = .ok (.iload_n 1, 1) := by decide +kernel
theorem dX7_init_86 : decode cX7_init 86 = .ok (.bipush 16, 2) := by decide +kernel
theorem dX7_init_88 : decode cX7_init 88 = .ok (.if_icmp .ge 16, 3) := by decide +kernel
theorem dX7_init_91 : decode cX7_init 91 = .ok (.aload_n 0, 1) := by decide +kernel
theorem dX7_init_92 : decode cX7_init 92 = .ok (.getfield 7, 3) := by decide +kernel
theorem dX7_init_95 : decode cX7_init 95 = .ok (.iload_n 1, 1) := by decide +kernel
theorem dX7_init_96 : decode cX7_init 96 = .ok (.iconst (-1), 1) := by decide +kernel
theorem dX7_init_97 : decode cX7_init 97 = .ok (.iastore, 1) := by decide +kernel
theorem dX7_init_98 : decode cX7_init 98 = .ok (.iinc 1 1, 3) := by decide +kernel
theorem dX7_init_101 : decode cX7_init 101 = .ok (.goto (-16), 3) := by decide +kernel
theorem dX7_init_104 : decode cX7_init 104 = .ok (.iconst 0, 1) := by decide +kernel
theorem dX7_init_105 : decode cX7_init 105 = .ok (.istore_n 1, 1) := by decide +kernel
theorem dX7_init_106 : decode cX7_init 106 = .ok (.iload_n 1, 1) := by decide +kernel
theorem dX7_init_107 : decode cX7_init 107 = .ok (.bipush 48, 2) := by decide +kernel
theorem dX7_init_109 : decode cX7_init 109 = .ok (.if_icmp .ge 16, 3) := by decide +kernel
theorem dX7_init_112 : decode cX7_init 112 = .ok (.aload_n 0, 1) := by decide +kernel
theorem dX7_init_113 : decode cX7_init 113 = .ok (.getfield 16, 3) := by decide +kernel
theorem dX7_init_116 : decode cX7_init 116 = .ok (.iload_n 1, 1) := by decide +kernel
theorem dX7_init_117 : decode cX7_init 117 = .ok (.iconst (-1), 1) := by decide +kernel
theorem dX7_init_118 : decode cX7_init 118 = .ok (.iastore, 1) := by decide +kernel
theorem dX7_init_119 : decode cX7_init 119 = .ok (.iinc 1 1, 3) := by decide +kernel
theorem dX7_init_122 : decode cX7_init 122 = .ok (.goto (-16), 3) := by decide +kernel
theorem dX7_init_125 : decode cX7_init 125 = .ok (.iconst 0, 1) := by decide +kernel
theorem dX7_init_126 : decode cX7_init 126 = .ok (.istore_n 1, 1) := by decide +kernel
theorem dX7_init_127 : decode cX7_init 127 = .ok (.iload_n 1, 1) := by decide +kernel
theorem dX7_init_128 : decode cX7_init 128 = .ok (.iconst 4, 1) := by decide +kernel
theorem dX7_init_129 : decode cX7_init 129 = .ok (.if_icmp .ge 16, 3) := by decide +kernel
theorem dX7_init_132 : decode cX7_init 132 = .ok (.aload_n 0, 1) := by decide +kernel
theorem dX7_init_133 : decode cX7_init 133 = .ok (.getfield 13, 3) := by decide +kernel
theorem dX7_init_136 : decode cX7_init 136 = .ok (.iload_n 1, 1) := by decide +kernel
theorem dX7_init_137 : decode cX7_init 137 = .ok (.iconst (-1), 1) := by decide +kernel
theorem dX7_init_138 : decode cX7_init 138 = .ok (.iastore, 1) := by decide +kernel
theorem dX7_init_139 : decode cX7_init 139 = .ok (.iinc 1 1, 3) := by decide +kernel
theorem dX7_init_142 : decode cX7_init 142 = .ok (.goto (-15), 3) := by decide +kernel
theorem dX7_init_145 : decode cX7_init 145 = .ok (.return_, 1) := by decide +kernel
theorem dX7_refuse_0 : decode cX7_refuse 0 = .ok (.aload_n 0, 1) := by decide +kernel
theorem dX7_refuse_1 : decode cX7_refuse 1 = .ok (.getfield 40, 3) := by decide +kernel
theorem dX7_refuse_4 : decode cX7_refuse 4 = .ok (.lload_n 1, 1) := by decide +kernel
theorem dX7_refuse_5 : decode cX7_refuse 5 = .ok (.bipush 40, 2) := by decide +kernel
theorem dX7_refuse_7 : decode cX7_refuse 7 = .ok (.lshr, 1) := by decide +kernel
theorem dX7_refuse_8 : decode cX7_refuse 8 = .ok (.l2i, 1) := by decide +kernel
theorem dX7_refuse_9 : decode cX7_refuse 9 = .ok (.dup2, 1) := by decide +kernel
theorem dX7_refuse_10 : decode cX7_refuse 10 = .ok (.iaload, 1) := by decide +kernel
theorem dX7_refuse_11 : decode cX7_refuse 11 = .ok (.iconst 1, 1) := by decide +kernel
theorem dX7_refuse_12 : decode cX7_refuse 12 = .ok (.iadd, 1) := by decide +kernel
theorem dX7_refuse_13 : decode cX7_refuse 13 = .ok (.iastore, 1) := by decide +kernel
theorem dX7_refuse_14 : decode cX7_refuse 14 = .ok (.lload_n 1, 1) := by decide +kernel
theorem dX7_refuse_15 : decode cX7_refuse 15 = .ok (.lreturn, 1) := by decide +kernel
theorem dX7_isFour_0 : decode cX7_isFour 0 = .ok (.iload_n 0, 1) := by decide +kernel
theorem dX7_isFour_1 : decode cX7_isFour 1 = .ok (.ifCond .lt 12, 3) := by decide +kernel
theorem dX7_isFour_4 : decode cX7_isFour 4 = .ok (.iload_n 0, 1) := by decide +kernel
theorem dX7_isFour_5 : decode cX7_isFour 5 = .ok (.iconst 4, 1) := by decide +kernel
theorem dX7_isFour_6 : decode cX7_isFour 6 = .ok (.if_icmp .ge 7, 3) := by decide +kernel
theorem dX7_isFour_9 : decode cX7_isFour 9 = .ok (.iconst 1, 1) := by decide +kernel
theorem dX7_isFour_10 : decode cX7_isFour 10 = .ok (.goto 4, 3) := by decide +kernel
theorem dX7_isFour_13 : decode cX7_isFour 13 = .ok (.iconst 0, 1) := by decide +kernel
theorem dX7_isFour_14 : decode cX7_isFour 14 = .ok (.ireturn, 1) := by decide +kernel
theorem dX7_reel_0 : decode cX7_reel 0 = .ok (.iconst 0, 1) := by decide +kernel
theorem dX7_reel_1 : decode cX7_reel 1 = .ok (.istore_n 2, 1) := by decide +kernel
theorem dX7_reel_2 : decode cX7_reel 2 = .ok (.iload_n 2, 1) := by decide +kernel
theorem dX7_reel_3 : decode cX7_reel 3 = .ok (.bipush 80, 2) := by decide +kernel
theorem dX7_reel_5 : decode cX7_reel 5 = .ok (.if_icmp .ge 16, 3) := by decide +kernel
theorem dX7_reel_8 : decode cX7_reel 8 = .ok (.aload_n 0, 1) := by decide +kernel
theorem dX7_reel_9 : decode cX7_reel 9 = .ok (.getfield 29, 3) := by decide +kernel
theorem dX7_reel_12 : decode cX7_reel 12 = .ok (.iload_n 2, 1) := by decide +kernel
theorem dX7_reel_13 : decode cX7_reel 13 = .ok (.iconst 0, 1) := by decide +kernel
theorem dX7_reel_14 : decode cX7_reel 14 = .ok (.bastore, 1) := by decide +kernel
theorem dX7_reel_15 : decode cX7_reel 15 = .ok (.iinc 2 1, 3) := by decide +kernel
theorem dX7_reel_18 : decode cX7_reel 18 = .ok (.goto (-16), 3) := by decide +kernel
theorem dX7_reel_21 : decode cX7_reel 21 = .ok (.iconst 0, 1) := by decide +kernel
theorem dX7_reel_22 : decode cX7_reel 22 = .ok (.istore_n 2, 1) := by decide +kernel
theorem dX7_reel_23 : decode cX7_reel 23 = .ok (.iload_n 2, 1) := by decide +kernel
theorem dX7_reel_24 : decode cX7_reel 24 = .ok (.bipush 16, 2) := by decide +kernel
theorem dX7_reel_26 : decode cX7_reel 26 = .ok (.if_icmp .ge 31, 3) := by decide +kernel
theorem dX7_reel_29 : decode cX7_reel 29 = .ok (.aload_n 0, 1) := by decide +kernel
theorem dX7_reel_30 : decode cX7_reel 30 = .ok (.getfield 7, 3) := by decide +kernel
theorem dX7_reel_33 : decode cX7_reel 33 = .ok (.iload_n 2, 1) := by decide +kernel
theorem dX7_reel_34 : decode cX7_reel 34 = .ok (.iaload, 1) := by decide +kernel
theorem dX7_reel_35 : decode cX7_reel 35 = .ok (.iconst (-1), 1) := by decide +kernel
theorem dX7_reel_36 : decode cX7_reel 36 = .ok (.if_icmp .eq 15, 3) := by decide +kernel
theorem dX7_reel_39 : decode cX7_reel 39 = .ok (.aload_n 0, 1) := by decide +kernel
theorem dX7_reel_40 : decode cX7_reel 40 = .ok (.getfield 29, 3) := by decide +kernel
theorem dX7_reel_43 : decode cX7_reel 43 = .ok (.aload_n 0, 1) := by decide +kernel
theorem dX7_reel_44 : decode cX7_reel 44 = .ok (.getfield 7, 3) := by decide +kernel
theorem dX7_reel_47 : decode cX7_reel 47 = .ok (.iload_n 2, 1) := by decide +kernel
theorem dX7_reel_48 : decode cX7_reel 48 = .ok (.iaload, 1) := by decide +kernel
theorem dX7_reel_49 : decode cX7_reel 49 = .ok (.iconst 1, 1) := by decide +kernel
theorem dX7_reel_50 : decode cX7_reel 50 = .ok (.bastore, 1) := by decide +kernel
theorem dX7_reel_51 : decode cX7_reel 51 = .ok (.iinc 2 1, 3) := by decide +kernel
theorem dX7_reel_54 : decode cX7_reel 54 = .ok (.goto (-31), 3) := by decide +kernel
theorem dX7_reel_57 : decode cX7_reel 57 = .ok (.iconst 0, 1) := by decide +kernel
theorem dX7_reel_58 : decode cX7_reel 58 = .ok (.istore_n 2, 1) := by decide +kernel
theorem dX7_reel_59 : decode cX7_reel 59 = .ok (.iload_n 2, 1) := by decide +kernel
theorem dX7_reel_60 : decode cX7_reel 60 = .ok (.bipush 48, 2) := by decide +kernel
theorem dX7_reel_62 : decode cX7_reel 62 = .ok (.if_icmp .ge 31, 3) := by decide +kernel
theorem dX7_reel_65 : decode cX7_reel 65 = .ok (.aload_n 0, 1) := by decide +kernel
theorem dX7_reel_66 : decode cX7_reel 66 = .ok (.getfield 16, 3) := by decide +kernel
theorem dX7_reel_69 : decode cX7_reel 69 = .ok (.iload_n 2, 1) := by decide +kernel
theorem dX7_reel_70 : decode cX7_reel 70 = .ok (.iaload, 1) := by decide +kernel
theorem dX7_reel_71 : decode cX7_reel 71 = .ok (.iconst (-1), 1) := by decide +kernel
theorem dX7_reel_72 : decode cX7_reel 72 = .ok (.if_icmp .eq 15, 3) := by decide +kernel
theorem dX7_reel_75 : decode cX7_reel 75 = .ok (.aload_n 0, 1) := by decide +kernel
theorem dX7_reel_76 : decode cX7_reel 76 = .ok (.getfield 29, 3) := by decide +kernel
theorem dX7_reel_79 : decode cX7_reel 79 = .ok (.aload_n 0, 1) := by decide +kernel
theorem dX7_reel_80 : decode cX7_reel 80 = .ok (.getfield 16, 3) := by decide +kernel
theorem dX7_reel_83 : decode cX7_reel 83 = .ok (.iload_n 2, 1) := by decide +kernel
theorem dX7_reel_84 : decode cX7_reel 84 = .ok (.iaload, 1) := by decide +kernel
theorem dX7_reel_85 : decode cX7_reel 85 = .ok (.iconst 1, 1) := by decide +kernel
theorem dX7_reel_86 : decode cX7_reel 86 = .ok (.bastore, 1) := by decide +kernel
theorem dX7_reel_87 : decode cX7_reel 87 = .ok (.iinc 2 1, 3) := by decide +kernel
theorem dX7_reel_90 : decode cX7_reel 90 = .ok (.goto (-31), 3) := by decide +kernel
theorem dX7_reel_93 : decode cX7_reel 93 = .ok (.iconst 0, 1) := by decide +kernel
theorem dX7_reel_94 : decode cX7_reel 94 = .ok (.istore_n 2, 1) := by decide +kernel
theorem dX7_reel_95 : decode cX7_reel 95 = .ok (.aload_n 0, 1) := by decide +kernel
theorem dX7_reel_96 : decode cX7_reel 96 = .ok (.getfield 29, 3) := by decide +kernel
theorem dX7_reel_99 : decode cX7_reel 99 = .ok (.iload_n 2, 1) := by decide +kernel
theorem dX7_reel_100 : decode cX7_reel 100 = .ok (.baload, 1) := by decide +kernel
theorem dX7_reel_101 : decode cX7_reel 101 = .ok (.ifCond .eq 9, 3) := by decide +kernel
theorem dX7_reel_104 : decode cX7_reel 104 = .ok (.iinc 2 1, 3) := by decide +kernel
theorem dX7_reel_107 : decode cX7_reel 107 = .ok (.goto (-12), 3) := by decide +kernel
theorem dX7_reel_110 : decode cX7_reel 110 = .ok (.aload_n 0, 1) := by decide +kernel
theorem dX7_reel_111 : decode cX7_reel 111 = .ok (.getfield 19, 3) := by decide +kernel
theorem dX7_reel_114 : decode cX7_reel 114 = .ok (.iload_n 2, 1) := by decide +kernel
theorem dX7_reel_115 : decode cX7_reel 115 = .ok (.iload_n 1, 1) := by decide +kernel
theorem dX7_reel_116 : decode cX7_reel 116 = .ok (.iastore, 1) := by decide +kernel
theorem dX7_reel_117 : decode cX7_reel 117 = .ok (.iconst 0, 1) := by decide +kernel
theorem dX7_reel_118 : decode cX7_reel 118 = .ok (.istore_n 3, 1) := by decide +kernel
theorem dX7_reel_119 : decode cX7_reel 119 = .ok (.iload_n 3, 1) := by decide +kernel
theorem dX7_reel_120 : decode cX7_reel 120 = .ok (.iload_n 1, 1) := by decide +kernel
theorem dX7_reel_121 : decode cX7_reel 121 = .ok (.if_icmp .ge 33, 3) := by decide +kernel
theorem dX7_reel_124 : decode cX7_reel 124 = .ok (.aload_n 0, 1) := by decide +kernel
theorem dX7_reel_125 : decode cX7_reel 125 = .ok (.getfield 22, 3) := by decide +kernel
theorem dX7_reel_128 : decode cX7_reel 128 = .ok (.bipush 40, 2) := by decide +kernel
theorem dX7_reel_130 : decode cX7_reel 130 = .ok (.iload_n 2, 1) := by decide +kernel
theorem dX7_reel_131 : decode cX7_reel 131 = .ok (.imul, 1) := by decide +kernel
theorem dX7_reel_132 : decode cX7_reel 132 = .ok (.iload_n 3, 1) := by decide +kernel
theorem dX7_reel_133 : decode cX7_reel 133 = .ok (.iadd, 1) := by decide +kernel
theorem dX7_reel_134 : decode cX7_reel 134 = .ok (.iconst 0, 1) := by decide +kernel
theorem dX7_reel_135 : decode cX7_reel 135 = .ok (.iastore, 1) := by decide +kernel
theorem dX7_reel_136 : decode cX7_reel 136 = .ok (.aload_n 0, 1) := by decide +kernel
theorem dX7_reel_137 : decode cX7_reel 137 = .ok (.getfield 25, 3) := by decide +kernel
theorem dX7_reel_140 : decode cX7_reel 140 = .ok (.bipush 40, 2) := by decide +kernel
theorem dX7_reel_142 : decode cX7_reel 142 = .ok (.iload_n 2, 1) := by decide +kernel
theorem dX7_reel_143 : decode cX7_reel 143 = .ok (.imul, 1) := by decide +kernel
theorem dX7_reel_144 : decode cX7_reel 144 = .ok (.iload_n 3, 1) := by decide +kernel
theorem dX7_reel_145 : decode cX7_reel 145 = .ok (.iadd, 1) := by decide +kernel
theorem dX7_reel_146 : decode cX7_reel 146 = .ok (.fconst 0, 1) := by decide +kernel
theorem dX7_reel_147 : decode cX7_reel 147 = .ok (.fastore, 1) := by decide +kernel
theorem dX7_reel_148 : decode cX7_reel 148 = .ok (.iinc 3 1, 3) := by decide +kernel
theorem dX7_reel_151 : decode cX7_reel 151 = .ok (.goto (-32), 3) := by decide +kernel
theorem dX7_reel_154 : decode cX7_reel 154 = .ok (.iload_n 2, 1) := by decide +kernel
theorem dX7_reel_155 : decode cX7_reel 155 = .ok (.ireturn, 1) := by decide +kernel
theorem dX7_told_0 : decode cX7_told 0 = .ok (.iload_n 1, 1) := by decide +kernel
theorem dX7_told_1 : decode cX7_told 1 = .ok (.iconst 2, 1) := by decide +kernel
theorem dX7_told_2 : decode cX7_told 2 = .ok (.if_icmp .ne 22, 3) := by decide +kernel
theorem dX7_told_5 : decode cX7_told 5 = .ok (.aload_n 0, 1) := by decide +kernel
theorem dX7_told_6 : decode cX7_told 6 = .ok (.getfield 25, 3) := by decide +kernel
theorem dX7_told_9 : decode cX7_told 9 = .ok (.bipush 40, 2) := by decide +kernel
theorem dX7_told_11 : decode cX7_told 11 = .ok (.iload_n 2, 1) := by decide +kernel
theorem dX7_told_12 : decode cX7_told 12 = .ok (.imul, 1) := by decide +kernel
theorem dX7_told_13 : decode cX7_told 13 = .ok (.iload_n 3, 1) := by decide +kernel
theorem dX7_told_14 : decode cX7_told 14 = .ok (.iadd, 1) := by decide +kernel
theorem dX7_told_15 : decode cX7_told 15 = .ok (.faload, 1) := by decide +kernel
theorem dX7_told_16 : decode cX7_told 16 = .ok (.ldc 43, 2) := by decide +kernel
theorem dX7_told_18 : decode cX7_told 18 = .ok (.fmul, 1) := by decide +kernel
theorem dX7_told_19 : decode cX7_told 19 = .ok (.f2i, 1) := by decide +kernel
theorem dX7_told_20 : decode cX7_told 20 = .ok (.i2l, 1) := by decide +kernel
theorem dX7_told_21 : decode cX7_told 21 = .ok (.goto 15, 3) := by decide +kernel
theorem dX7_told_24 : decode cX7_told 24 = .ok (.aload_n 0, 1) := by decide +kernel
theorem dX7_told_25 : decode cX7_told 25 = .ok (.getfield 22, 3) := by decide +kernel
theorem dX7_told_28 : decode cX7_told 28 = .ok (.bipush 40, 2) := by decide +kernel
theorem dX7_told_30 : decode cX7_told 30 = .ok (.iload_n 2, 1) := by decide +kernel
theorem dX7_told_31 : decode cX7_told 31 = .ok (.imul, 1) := by decide +kernel
theorem dX7_told_32 : decode cX7_told 32 = .ok (.iload_n 3, 1) := by decide +kernel
theorem dX7_told_33 : decode cX7_told 33 = .ok (.iadd, 1) := by decide +kernel
theorem dX7_told_34 : decode cX7_told 34 = .ok (.iaload, 1) := by decide +kernel
theorem dX7_told_35 : decode cX7_told 35 = .ok (.i2l, 1) := by decide +kernel
theorem dX7_told_36 : decode cX7_told 36 = .ok (.lreturn, 1) := by decide +kernel
theorem dX7_held_0 : decode cX7_held 0 = .ok (.fload_n 0, 1) := by decide +kernel
theorem dX7_held_1 : decode cX7_held 1 = .ok (.ldc 44, 2) := by decide +kernel
theorem dX7_held_3 : decode cX7_held 3 = .ok (.fcmp .l, 1) := by decide +kernel
theorem dX7_held_4 : decode cX7_held 4 = .ok (.ifCond .le 8, 3) := by decide +kernel
theorem dX7_held_7 : decode cX7_held 7 = .ok (.ldc 44, 2) := by decide +kernel
theorem dX7_held_9 : decode cX7_held 9 = .ok (.goto 16, 3) := by decide +kernel
theorem dX7_held_12 : decode cX7_held 12 = .ok (.fload_n 0, 1) := by decide +kernel
theorem dX7_held_13 : decode cX7_held 13 = .ok (.ldc 45, 2) := by decide +kernel
theorem dX7_held_15 : decode cX7_held 15 = .ok (.fcmp .g, 1) := by decide +kernel
theorem dX7_held_16 : decode cX7_held 16 = .ok (.ifCond .ge 8, 3) := by decide +kernel
theorem dX7_held_19 : decode cX7_held 19 = .ok (.ldc 45, 2) := by decide +kernel
theorem dX7_held_21 : decode cX7_held 21 = .ok (.goto 4, 3) := by decide +kernel
theorem dX7_held_24 : decode cX7_held 24 = .ok (.fload_n 0, 1) := by decide +kernel
theorem dX7_held_25 : decode cX7_held 25 = .ok (.freturn, 1) := by decide +kernel
theorem dX7_eighth_0 : decode cX7_eighth 0 = .ok (.iload_n 0, 1) := by decide +kernel
theorem dX7_eighth_1 : decode cX7_eighth 1 = .ok (.i2f, 1) := by decide +kernel
theorem dX7_eighth_2 : decode cX7_eighth 2 = .ok (.ldc 43, 2) := by decide +kernel
theorem dX7_eighth_4 : decode cX7_eighth 4 = .ok (.fdiv, 1) := by decide +kernel
theorem dX7_eighth_5 : decode cX7_eighth 5 = .ok (.freturn, 1) := by decide +kernel
set_option maxRecDepth 20000 in
theorem ggX7_fill_X7_eighth : GoodIn wsX7_fill wsX7_eighth := goodIn_r _ [7, 8] (by decide +kernel) (by decide +kernel)
set_option maxRecDepth 20000 in
theorem gX7_fill_X7_eighth : GoodIn wsX7_fill (va_wsS RX7 47 yX7_eighth wsX7_eighth) := goodIn_app (goodIn_of _ (by decide +kernel)) ggX7_fill_X7_eighth
set_option maxRecDepth 20000 in
theorem ggX7_fill_X7_held : GoodIn wsX7_fill wsX7_held := goodIn_r _ [11, 12, 13] (by decide +kernel) (by decide +kernel)
set_option maxRecDepth 20000 in
theorem gX7_fill_X7_held : GoodIn wsX7_fill (va_wsS RX7 51 yX7_held wsX7_held) := goodIn_app (goodIn_of _ (by decide +kernel)) ggX7_fill_X7_held
theorem dX7_fill_0 : decode cX7_fill 0 = .ok (.bipush 40, 2) := by decide +kernel
theorem dX7_fill_2 : decode cX7_fill 2 = .ok (.iload_n 2, 1) := by decide +kernel
theorem dX7_fill_3 : decode cX7_fill 3 = .ok (.imul, 1) := by decide +kernel
theorem dX7_fill_4 : decode cX7_fill 4 = .ok (.iload_n 3, 1) := by decide +kernel
theorem dX7_fill_5 : decode cX7_fill 5 = .ok (.iadd, 1) := by decide +kernel
theorem dX7_fill_6 : decode cX7_fill 6 = .ok (.istore 5, 2) := by decide +kernel
theorem dX7_fill_8 : decode cX7_fill 8 = .ok (.iload_n 1, 1) := by decide +kernel
theorem dX7_fill_9 : decode cX7_fill 9 = .ok (.ifCond .ne 18, 3) := by decide +kernel
theorem dX7_fill_12 : decode cX7_fill 12 = .ok (.aload_n 0, 1) := by decide +kernel
theorem dX7_fill_13 : decode cX7_fill 13 = .ok (.getfield 22, 3) := by decide +kernel
theorem dX7_fill_16 : decode cX7_fill 16 = .ok (.iload 5, 2) := by decide +kernel
theorem dX7_fill_18 : decode cX7_fill 18 = .ok (.iload 4, 2) := by decide +kernel
theorem dX7_fill_20 : decode cX7_fill 20 = .ok (.ldc 46, 2) := by decide +kernel
theorem dX7_fill_22 : decode cX7_fill 22 = .ok (.iand, 1) := by decide +kernel
theorem dX7_fill_23 : decode cX7_fill 23 = .ok (.iastore, 1) := by decide +kernel
theorem dX7_fill_24 : decode cX7_fill 24 = .ok (.goto 60, 3) := by decide +kernel
theorem dX7_fill_27 : decode cX7_fill 27 = .ok (.iload_n 1, 1) := by decide +kernel
theorem dX7_fill_28 : decode cX7_fill 28 = .ok (.iconst 1, 1) := by decide +kernel
theorem dX7_fill_29 : decode cX7_fill 29 = .ok (.if_icmp .ne 21, 3) := by decide +kernel
theorem dX7_fill_32 : decode cX7_fill 32 = .ok (.aload_n 0, 1) := by decide +kernel
theorem dX7_fill_33 : decode cX7_fill 33 = .ok (.getfield 22, 3) := by decide +kernel
theorem dX7_fill_36 : decode cX7_fill 36 = .ok (.iload 5, 2) := by decide +kernel
theorem dX7_fill_38 : decode cX7_fill 38 = .ok (.iload 4, 2) := by decide +kernel
theorem dX7_fill_40 : decode cX7_fill 40 = .ok (.bipush 16, 2) := by decide +kernel
theorem dX7_fill_42 : decode cX7_fill 42 = .ok (.ishl, 1) := by decide +kernel
theorem dX7_fill_43 : decode cX7_fill 43 = .ok (.bipush 16, 2) := by decide +kernel
theorem dX7_fill_45 : decode cX7_fill 45 = .ok (.ishr, 1) := by decide +kernel
theorem dX7_fill_46 : decode cX7_fill 46 = .ok (.iastore, 1) := by decide +kernel
theorem dX7_fill_47 : decode cX7_fill 47 = .ok (.goto 37, 3) := by decide +kernel
theorem dX7_fill_50 : decode cX7_fill 50 = .ok (.iload_n 1, 1) := by decide +kernel
theorem dX7_fill_51 : decode cX7_fill 51 = .ok (.iconst 3, 1) := by decide +kernel
theorem dX7_fill_52 : decode cX7_fill 52 = .ok (.if_icmp .ne 17, 3) := by decide +kernel
theorem dX7_fill_55 : decode cX7_fill 55 = .ok (.aload_n 0, 1) := by decide +kernel
theorem dX7_fill_56 : decode cX7_fill 56 = .ok (.getfield 22, 3) := by decide +kernel
theorem dX7_fill_59 : decode cX7_fill 59 = .ok (.iload 5, 2) := by decide +kernel
theorem dX7_fill_61 : decode cX7_fill 61 = .ok (.iload 4, 2) := by decide +kernel
theorem dX7_fill_63 : decode cX7_fill 63 = .ok (.iconst 1, 1) := by decide +kernel
theorem dX7_fill_64 : decode cX7_fill 64 = .ok (.iand, 1) := by decide +kernel
theorem dX7_fill_65 : decode cX7_fill 65 = .ok (.iastore, 1) := by decide +kernel
theorem dX7_fill_66 : decode cX7_fill 66 = .ok (.goto 18, 3) := by decide +kernel
theorem dX7_fill_69 : decode cX7_fill 69 = .ok (.aload_n 0, 1) := by decide +kernel
theorem dX7_fill_70 : decode cX7_fill 70 = .ok (.getfield 25, 3) := by decide +kernel
theorem dX7_fill_73 : decode cX7_fill 73 = .ok (.iload 5, 2) := by decide +kernel
theorem dX7_fill_75 : decode cX7_fill 75 = .ok (.iload 4, 2) := by decide +kernel
theorem dX7_fill_77 : decode cX7_fill 77 = .ok (.invokestatic 47, 3) := by decide +kernel
theorem dX7_fill_80 : decode cX7_fill 80 = .ok (.invokestatic 51, 3) := by decide +kernel
theorem dX7_fill_83 : decode cX7_fill 83 = .ok (.fastore, 1) := by decide +kernel
theorem dX7_fill_84 : decode cX7_fill 84 = .ok (.return_, 1) := by decide +kernel
set_option maxRecDepth 20000 in
theorem ggX7_mount_X7_isFour : GoodIn wsX7_mount wsX7_isFour := goodIn_r _ [8] (by decide +kernel) (by decide +kernel)
set_option maxRecDepth 20000 in
theorem gX7_mount_X7_isFour : GoodIn wsX7_mount (va_wsS RX7 55 yX7_isFour wsX7_isFour) := goodIn_app (goodIn_of _ (by decide +kernel)) ggX7_mount_X7_isFour
set_option maxRecDepth 20000 in
theorem ggX7_mount_X7_refuse : GoodIn wsX7_mount wsX7_refuse := goodIn_r _ [12, 13, 23, 24, 25, 26, 27, 28, 29, 30, 31, 32, 33] (by decide +kernel) (by decide +kernel)
set_option maxRecDepth 20000 in
theorem gX7_mount_X7_refuse : GoodIn wsX7_mount (wsV RX7 61 RX7 yX7_refuse wsX7_refuse) := goodIn_app (goodIn_of _ (by decide +kernel)) ggX7_mount_X7_refuse
set_option maxRecDepth 20000 in
theorem ggX7_mount_X7_reel : GoodIn wsX7_mount wsX7_reel := goodIn_r _ [17, 18, 4, 19, 20, 21, 22, 23, 24, 25, 26, 27, 28, 29, 30, 31, 32, 33] (by decide +kernel) (by decide +kernel)
set_option maxRecDepth 20000 in
theorem gX7_mount_X7_reel : GoodIn wsX7_mount (wsV RX7 69 RX7 yX7_reel wsX7_reel) := goodIn_app (goodIn_of _ (by decide +kernel)) ggX7_mount_X7_reel
theorem dX7_mount_0 : decode cX7_mount 0 = .ok (.iload_n 1, 1) := by decide +kernel
theorem dX7_mount_1 : decode cX7_mount 1 = .ok (.invokestatic 55, 3) := by decide +kernel
theorem dX7_mount_4 : decode cX7_mount 4 = .ok (.ifCond .eq 10, 3) := by decide +kernel
theorem dX7_mount_7 : decode cX7_mount 7 = .ok (.iload_n 2, 1) := by decide +kernel
theorem dX7_mount_8 : decode cX7_mount 8 = .ok (.invokestatic 55, 3) := by decide +kernel
theorem dX7_mount_11 : decode cX7_mount 11 = .ok (.ifCond .ne 11, 3) := by decide +kernel
theorem dX7_mount_14 : decode cX7_mount 14 = .ok (.aload_n 0, 1) := by decide +kernel
theorem dX7_mount_15 : decode cX7_mount 15 = .ok (.ldc2_w 59, 3) := by decide +kernel
theorem dX7_mount_18 : decode cX7_mount 18 = .ok (.invokevirtual 61, 3) := by decide +kernel
theorem dX7_mount_21 : decode cX7_mount 21 = .ok (.lreturn, 1) := by decide +kernel
theorem dX7_mount_22 : decode cX7_mount 22 = .ok (.iload_n 3, 1) := by decide +kernel
theorem dX7_mount_23 : decode cX7_mount 23 = .ok (.bipush 40, 2) := by decide +kernel
theorem dX7_mount_25 : decode cX7_mount 25 = .ok (.if_icmp .le 11, 3) := by decide +kernel
theorem dX7_mount_28 : decode cX7_mount 28 = .ok (.aload_n 0, 1) := by decide +kernel
theorem dX7_mount_29 : decode cX7_mount 29 = .ok (.ldc2_w 65, 3) := by decide +kernel
theorem dX7_mount_32 : decode cX7_mount 32 = .ok (.invokevirtual 61, 3) := by decide +kernel
theorem dX7_mount_35 : decode cX7_mount 35 = .ok (.lreturn, 1) := by decide +kernel
theorem dX7_mount_36 : decode cX7_mount 36 = .ok (.iload_n 3, 1) := by decide +kernel
theorem dX7_mount_37 : decode cX7_mount 37 = .ok (.ifCond .ge 11, 3) := by decide +kernel
theorem dX7_mount_40 : decode cX7_mount 40 = .ok (.aload_n 0, 1) := by decide +kernel
theorem dX7_mount_41 : decode cX7_mount 41 = .ok (.ldc2_w 67, 3) := by decide +kernel
theorem dX7_mount_44 : decode cX7_mount 44 = .ok (.invokevirtual 61, 3) := by decide +kernel
theorem dX7_mount_47 : decode cX7_mount 47 = .ok (.lreturn, 1) := by decide +kernel
theorem dX7_mount_48 : decode cX7_mount 48 = .ok (.aload_n 0, 1) := by decide +kernel
theorem dX7_mount_49 : decode cX7_mount 49 = .ok (.getfield 7, 3) := by decide +kernel
theorem dX7_mount_52 : decode cX7_mount 52 = .ok (.iconst 4, 1) := by decide +kernel
theorem dX7_mount_53 : decode cX7_mount 53 = .ok (.iload_n 1, 1) := by decide +kernel
theorem dX7_mount_54 : decode cX7_mount 54 = .ok (.imul, 1) := by decide +kernel
theorem dX7_mount_55 : decode cX7_mount 55 = .ok (.iload_n 2, 1) := by decide +kernel
theorem dX7_mount_56 : decode cX7_mount 56 = .ok (.iadd, 1) := by decide +kernel
theorem dX7_mount_57 : decode cX7_mount 57 = .ok (.iconst (-1), 1) := by decide +kernel
theorem dX7_mount_58 : decode cX7_mount 58 = .ok (.iastore, 1) := by decide +kernel
theorem dX7_mount_59 : decode cX7_mount 59 = .ok (.aload_n 0, 1) := by decide +kernel
theorem dX7_mount_60 : decode cX7_mount 60 = .ok (.getfield 7, 3) := by decide +kernel
theorem dX7_mount_63 : decode cX7_mount 63 = .ok (.iconst 4, 1) := by decide +kernel
theorem dX7_mount_64 : decode cX7_mount 64 = .ok (.iload_n 1, 1) := by decide +kernel
theorem dX7_mount_65 : decode cX7_mount 65 = .ok (.imul, 1) := by decide +kernel
theorem dX7_mount_66 : decode cX7_mount 66 = .ok (.iload_n 2, 1) := by decide +kernel
theorem dX7_mount_67 : decode cX7_mount 67 = .ok (.iadd, 1) := by decide +kernel
theorem dX7_mount_68 : decode cX7_mount 68 = .ok (.aload_n 0, 1) := by decide +kernel
theorem dX7_mount_69 : decode cX7_mount 69 = .ok (.iload_n 3, 1) := by decide +kernel
theorem dX7_mount_70 : decode cX7_mount 70 = .ok (.invokevirtual 69, 3) := by decide +kernel
theorem dX7_mount_73 : decode cX7_mount 73 = .ok (.iastore, 1) := by decide +kernel
theorem dX7_mount_74 : decode cX7_mount 74 = .ok (.iload_n 3, 1) := by decide +kernel
theorem dX7_mount_75 : decode cX7_mount 75 = .ok (.i2l, 1) := by decide +kernel
theorem dX7_mount_76 : decode cX7_mount 76 = .ok (.lreturn, 1) := by decide +kernel
set_option maxRecDepth 20000 in
theorem ggX7_eject_X7_isFour : GoodIn wsX7_eject wsX7_isFour := goodIn_r _ [8] (by decide +kernel) (by decide +kernel)
set_option maxRecDepth 20000 in
theorem gX7_eject_X7_isFour : GoodIn wsX7_eject (va_wsS RX7 55 yX7_isFour wsX7_isFour) := goodIn_app (goodIn_of _ (by decide +kernel)) ggX7_eject_X7_isFour
set_option maxRecDepth 20000 in
theorem ggX7_eject_X7_refuse : GoodIn wsX7_eject wsX7_refuse := goodIn_r _ [12, 13, 14, 15, 16, 17, 18, 19, 20, 21, 22, 23, 24] (by decide +kernel) (by decide +kernel)
set_option maxRecDepth 20000 in
theorem gX7_eject_X7_refuse : GoodIn wsX7_eject (wsV RX7 61 RX7 yX7_refuse wsX7_refuse) := goodIn_app (goodIn_of _ (by decide +kernel)) ggX7_eject_X7_refuse
theorem dX7_eject_0 : decode cX7_eject 0 = .ok (.iload_n 1, 1) := by decide +kernel
theorem dX7_eject_1 : decode cX7_eject 1 = .ok (.invokestatic 55, 3) := by decide +kernel
theorem dX7_eject_4 : decode cX7_eject 4 = .ok (.ifCond .eq 10, 3) := by decide +kernel
theorem dX7_eject_7 : decode cX7_eject 7 = .ok (.iload_n 2, 1) := by decide +kernel
theorem dX7_eject_8 : decode cX7_eject 8 = .ok (.invokestatic 55, 3) := by decide +kernel
theorem dX7_eject_11 : decode cX7_eject 11 = .ok (.ifCond .ne 11, 3) := by decide +kernel
theorem dX7_eject_14 : decode cX7_eject 14 = .ok (.aload_n 0, 1) := by decide +kernel
theorem dX7_eject_15 : decode cX7_eject 15 = .ok (.ldc2_w 59, 3) := by decide +kernel
theorem dX7_eject_18 : decode cX7_eject 18 = .ok (.invokevirtual 61, 3) := by decide +kernel
theorem dX7_eject_21 : decode cX7_eject 21 = .ok (.lreturn, 1) := by decide +kernel
theorem dX7_eject_22 : decode cX7_eject 22 = .ok (.aload_n 0, 1) := by decide +kernel
theorem dX7_eject_23 : decode cX7_eject 23 = .ok (.getfield 7, 3) := by decide +kernel
theorem dX7_eject_26 : decode cX7_eject 26 = .ok (.iconst 4, 1) := by decide +kernel
theorem dX7_eject_27 : decode cX7_eject 27 = .ok (.iload_n 1, 1) := by decide +kernel
theorem dX7_eject_28 : decode cX7_eject 28 = .ok (.imul, 1) := by decide +kernel
theorem dX7_eject_29 : decode cX7_eject 29 = .ok (.iload_n 2, 1) := by decide +kernel
theorem dX7_eject_30 : decode cX7_eject 30 = .ok (.iadd, 1) := by decide +kernel
theorem dX7_eject_31 : decode cX7_eject 31 = .ok (.iaload, 1) := by decide +kernel
theorem dX7_eject_32 : decode cX7_eject 32 = .ok (.istore_n 3, 1) := by decide +kernel
theorem dX7_eject_33 : decode cX7_eject 33 = .ok (.iload_n 3, 1) := by decide +kernel
theorem dX7_eject_34 : decode cX7_eject 34 = .ok (.iconst (-1), 1) := by decide +kernel
theorem dX7_eject_35 : decode cX7_eject 35 = .ok (.if_icmp .ne 11, 3) := by decide +kernel
theorem dX7_eject_38 : decode cX7_eject 38 = .ok (.aload_n 0, 1) := by decide +kernel
theorem dX7_eject_39 : decode cX7_eject 39 = .ok (.ldc2_w 73, 3) := by decide +kernel
theorem dX7_eject_42 : decode cX7_eject 42 = .ok (.invokevirtual 61, 3) := by decide +kernel
theorem dX7_eject_45 : decode cX7_eject 45 = .ok (.lreturn, 1) := by decide +kernel
theorem dX7_eject_46 : decode cX7_eject 46 = .ok (.aload_n 0, 1) := by decide +kernel
theorem dX7_eject_47 : decode cX7_eject 47 = .ok (.getfield 7, 3) := by decide +kernel
theorem dX7_eject_50 : decode cX7_eject 50 = .ok (.iconst 4, 1) := by decide +kernel
theorem dX7_eject_51 : decode cX7_eject 51 = .ok (.iload_n 1, 1) := by decide +kernel
theorem dX7_eject_52 : decode cX7_eject 52 = .ok (.imul, 1) := by decide +kernel
theorem dX7_eject_53 : decode cX7_eject 53 = .ok (.iload_n 2, 1) := by decide +kernel
theorem dX7_eject_54 : decode cX7_eject 54 = .ok (.iadd, 1) := by decide +kernel
theorem dX7_eject_55 : decode cX7_eject 55 = .ok (.iconst (-1), 1) := by decide +kernel
theorem dX7_eject_56 : decode cX7_eject 56 = .ok (.iastore, 1) := by decide +kernel
theorem dX7_eject_57 : decode cX7_eject 57 = .ok (.aload_n 0, 1) := by decide +kernel
theorem dX7_eject_58 : decode cX7_eject 58 = .ok (.getfield 19, 3) := by decide +kernel
theorem dX7_eject_61 : decode cX7_eject 61 = .ok (.iload_n 3, 1) := by decide +kernel
theorem dX7_eject_62 : decode cX7_eject 62 = .ok (.iaload, 1) := by decide +kernel
theorem dX7_eject_63 : decode cX7_eject 63 = .ok (.i2l, 1) := by decide +kernel
theorem dX7_eject_64 : decode cX7_eject 64 = .ok (.lreturn, 1) := by decide +kernel
set_option maxRecDepth 20000 in
theorem ggX7_share_X7_isFour : GoodIn wsX7_share wsX7_isFour := goodIn_r _ [6] (by decide +kernel) (by decide +kernel)
set_option maxRecDepth 20000 in
theorem gX7_share_X7_isFour : GoodIn wsX7_share (va_wsS RX7 55 yX7_isFour wsX7_isFour) := goodIn_app (goodIn_of _ (by decide +kernel)) ggX7_share_X7_isFour
set_option maxRecDepth 20000 in
theorem ggX7_share_X7_refuse : GoodIn wsX7_share wsX7_refuse := goodIn_r _ [10, 11, 12, 13, 14, 15, 16, 17, 18, 19, 20, 21, 22] (by decide +kernel) (by decide +kernel)
set_option maxRecDepth 20000 in
theorem gX7_share_X7_refuse : GoodIn wsX7_share (wsV RX7 61 RX7 yX7_refuse wsX7_refuse) := goodIn_app (goodIn_of _ (by decide +kernel)) ggX7_share_X7_refuse
theorem dX7_share_0 : decode cX7_share 0 = .ok (.iload_n 1, 1) := by decide +kernel
theorem dX7_share_1 : decode cX7_share 1 = .ok (.invokestatic 55, 3) := by decide +kernel
theorem dX7_share_4 : decode cX7_share 4 = .ok (.ifCond .eq 17, 3) := by decide +kernel
theorem dX7_share_7 : decode cX7_share 7 = .ok (.iload_n 2, 1) := by decide +kernel
theorem dX7_share_8 : decode cX7_share 8 = .ok (.invokestatic 55, 3) := by decide +kernel
theorem dX7_share_11 : decode cX7_share 11 = .ok (.ifCond .eq 10, 3) := by decide +kernel
theorem dX7_share_14 : decode cX7_share 14 = .ok (.iload_n 3, 1) := by decide +kernel
theorem dX7_share_15 : decode cX7_share 15 = .ok (.invokestatic 55, 3) := by decide +kernel
theorem dX7_share_18 : decode cX7_share 18 = .ok (.ifCond .ne 11, 3) := by decide +kernel
theorem dX7_share_21 : decode cX7_share 21 = .ok (.aload_n 0, 1) := by decide +kernel
theorem dX7_share_22 : decode cX7_share 22 = .ok (.ldc2_w 59, 3) := by decide +kernel
theorem dX7_share_25 : decode cX7_share 25 = .ok (.invokevirtual 61, 3) := by decide +kernel
theorem dX7_share_28 : decode cX7_share 28 = .ok (.lreturn, 1) := by decide +kernel
theorem dX7_share_29 : decode cX7_share 29 = .ok (.aload_n 0, 1) := by decide +kernel
theorem dX7_share_30 : decode cX7_share 30 = .ok (.getfield 7, 3) := by decide +kernel
theorem dX7_share_33 : decode cX7_share 33 = .ok (.iconst 4, 1) := by decide +kernel
theorem dX7_share_34 : decode cX7_share 34 = .ok (.iload_n 2, 1) := by decide +kernel
theorem dX7_share_35 : decode cX7_share 35 = .ok (.imul, 1) := by decide +kernel
theorem dX7_share_36 : decode cX7_share 36 = .ok (.iload_n 3, 1) := by decide +kernel
theorem dX7_share_37 : decode cX7_share 37 = .ok (.iadd, 1) := by decide +kernel
theorem dX7_share_38 : decode cX7_share 38 = .ok (.aload_n 0, 1) := by decide +kernel
theorem dX7_share_39 : decode cX7_share 39 = .ok (.getfield 7, 3) := by decide +kernel
theorem dX7_share_42 : decode cX7_share 42 = .ok (.iconst 4, 1) := by decide +kernel
theorem dX7_share_43 : decode cX7_share 43 = .ok (.iload_n 1, 1) := by decide +kernel
theorem dX7_share_44 : decode cX7_share 44 = .ok (.imul, 1) := by decide +kernel
theorem dX7_share_45 : decode cX7_share 45 = .ok (.iload_n 3, 1) := by decide +kernel
theorem dX7_share_46 : decode cX7_share 46 = .ok (.iadd, 1) := by decide +kernel
theorem dX7_share_47 : decode cX7_share 47 = .ok (.iaload, 1) := by decide +kernel
theorem dX7_share_48 : decode cX7_share 48 = .ok (.iastore, 1) := by decide +kernel
theorem dX7_share_49 : decode cX7_share 49 = .ok (.aload_n 0, 1) := by decide +kernel
theorem dX7_share_50 : decode cX7_share 50 = .ok (.getfield 7, 3) := by decide +kernel
theorem dX7_share_53 : decode cX7_share 53 = .ok (.iconst 4, 1) := by decide +kernel
theorem dX7_share_54 : decode cX7_share 54 = .ok (.iload_n 2, 1) := by decide +kernel
theorem dX7_share_55 : decode cX7_share 55 = .ok (.imul, 1) := by decide +kernel
theorem dX7_share_56 : decode cX7_share 56 = .ok (.iload_n 3, 1) := by decide +kernel
theorem dX7_share_57 : decode cX7_share 57 = .ok (.iadd, 1) := by decide +kernel
theorem dX7_share_58 : decode cX7_share 58 = .ok (.iaload, 1) := by decide +kernel
theorem dX7_share_59 : decode cX7_share 59 = .ok (.iconst (-1), 1) := by decide +kernel
theorem dX7_share_60 : decode cX7_share 60 = .ok (.if_icmp .ne 7, 3) := by decide +kernel
theorem dX7_share_63 : decode cX7_share 63 = .ok (.lconst 0, 1) := by decide +kernel
theorem dX7_share_64 : decode cX7_share 64 = .ok (.goto 4, 3) := by decide +kernel
theorem dX7_share_67 : decode cX7_share 67 = .ok (.lconst 1, 1) := by decide +kernel
theorem dX7_share_68 : decode cX7_share 68 = .ok (.lreturn, 1) := by decide +kernel
set_option maxRecDepth 20000 in
theorem ggX7_size_X7_isFour : GoodIn wsX7_size wsX7_isFour := goodIn_r _ [8] (by decide +kernel) (by decide +kernel)
set_option maxRecDepth 20000 in
theorem gX7_size_X7_isFour : GoodIn wsX7_size (va_wsS RX7 55 yX7_isFour wsX7_isFour) := goodIn_app (goodIn_of _ (by decide +kernel)) ggX7_size_X7_isFour
set_option maxRecDepth 20000 in
theorem ggX7_size_X7_refuse : GoodIn wsX7_size wsX7_refuse := goodIn_r _ [12, 13, 14, 15, 16, 17, 18, 19, 20, 21, 22, 23, 24] (by decide +kernel) (by decide +kernel)
set_option maxRecDepth 20000 in
theorem gX7_size_X7_refuse : GoodIn wsX7_size (wsV RX7 61 RX7 yX7_refuse wsX7_refuse) := goodIn_app (goodIn_of _ (by decide +kernel)) ggX7_size_X7_refuse
theorem dX7_size_0 : decode cX7_size 0 = .ok (.iload_n 1, 1) := by decide +kernel
theorem dX7_size_1 : decode cX7_size 1 = .ok (.invokestatic 55, 3) := by decide +kernel
theorem dX7_size_4 : decode cX7_size 4 = .ok (.ifCond .eq 10, 3) := by decide +kernel
theorem dX7_size_7 : decode cX7_size 7 = .ok (.iload_n 2, 1) := by decide +kernel
theorem dX7_size_8 : decode cX7_size 8 = .ok (.invokestatic 55, 3) := by decide +kernel
theorem dX7_size_11 : decode cX7_size 11 = .ok (.ifCond .ne 11, 3) := by decide +kernel
theorem dX7_size_14 : decode cX7_size 14 = .ok (.aload_n 0, 1) := by decide +kernel
theorem dX7_size_15 : decode cX7_size 15 = .ok (.ldc2_w 59, 3) := by decide +kernel
theorem dX7_size_18 : decode cX7_size 18 = .ok (.invokevirtual 61, 3) := by decide +kernel
theorem dX7_size_21 : decode cX7_size 21 = .ok (.lreturn, 1) := by decide +kernel
theorem dX7_size_22 : decode cX7_size 22 = .ok (.aload_n 0, 1) := by decide +kernel
theorem dX7_size_23 : decode cX7_size 23 = .ok (.getfield 7, 3) := by decide +kernel
theorem dX7_size_26 : decode cX7_size 26 = .ok (.iconst 4, 1) := by decide +kernel
theorem dX7_size_27 : decode cX7_size 27 = .ok (.iload_n 1, 1) := by decide +kernel
theorem dX7_size_28 : decode cX7_size 28 = .ok (.imul, 1) := by decide +kernel
theorem dX7_size_29 : decode cX7_size 29 = .ok (.iload_n 2, 1) := by decide +kernel
theorem dX7_size_30 : decode cX7_size 30 = .ok (.iadd, 1) := by decide +kernel
theorem dX7_size_31 : decode cX7_size 31 = .ok (.iaload, 1) := by decide +kernel
theorem dX7_size_32 : decode cX7_size 32 = .ok (.istore_n 3, 1) := by decide +kernel
theorem dX7_size_33 : decode cX7_size 33 = .ok (.iload_n 3, 1) := by decide +kernel
theorem dX7_size_34 : decode cX7_size 34 = .ok (.iconst (-1), 1) := by decide +kernel
theorem dX7_size_35 : decode cX7_size 35 = .ok (.if_icmp .ne 13, 3) := by decide +kernel
theorem dX7_size_38 : decode cX7_size 38 = .ok (.aload_n 0, 1) := by decide +kernel
theorem dX7_size_39 : decode cX7_size 39 = .ok (.ldc2_w 73, 3) := by decide +kernel
theorem dX7_size_42 : decode cX7_size 42 = .ok (.invokevirtual 61, 3) := by decide +kernel
theorem dX7_size_45 : decode cX7_size 45 = .ok (.goto 10, 3) := by decide +kernel
theorem dX7_size_48 : decode cX7_size 48 = .ok (.aload_n 0, 1) := by decide +kernel
theorem dX7_size_49 : decode cX7_size 49 = .ok (.getfield 19, 3) := by decide +kernel
theorem dX7_size_52 : decode cX7_size 52 = .ok (.iload_n 3, 1) := by decide +kernel
theorem dX7_size_53 : decode cX7_size 53 = .ok (.iaload, 1) := by decide +kernel
theorem dX7_size_54 : decode cX7_size 54 = .ok (.i2l, 1) := by decide +kernel
theorem dX7_size_55 : decode cX7_size 55 = .ok (.lreturn, 1) := by decide +kernel
theorem dX7_against_0 : decode cX7_against 0 = .ok (.iload_n 1, 1) := by decide +kernel
theorem dX7_against_1 : decode cX7_against 1 = .ok (.iconst (-1), 1) := by decide +kernel
theorem dX7_against_2 : decode cX7_against 2 = .ok (.if_icmp .ne 9, 3) := by decide +kernel
theorem dX7_against_5 : decode cX7_against 5 = .ok (.ldc2_w 73, 3) := by decide +kernel
theorem dX7_against_8 : decode cX7_against 8 = .ok (.goto 24, 3) := by decide +kernel
theorem dX7_against_11 : decode cX7_against 11 = .ok (.iload_n 2, 1) := by decide +kernel
theorem dX7_against_12 : decode cX7_against 12 = .ok (.ifCond .lt 13, 3) := by decide +kernel
theorem dX7_against_15 : decode cX7_against 15 = .ok (.iload_n 2, 1) := by decide +kernel
theorem dX7_against_16 : decode cX7_against 16 = .ok (.aload_n 0, 1) := by decide +kernel
theorem dX7_against_17 : decode cX7_against 17 = .ok (.getfield 19, 3) := by decide +kernel
theorem dX7_against_20 : decode cX7_against 20 = .ok (.iload_n 1, 1) := by decide +kernel
theorem dX7_against_21 : decode cX7_against 21 = .ok (.iaload, 1) := by decide +kernel
theorem dX7_against_22 : decode cX7_against 22 = .ok (.if_icmp .lt 9, 3) := by decide +kernel
theorem dX7_against_25 : decode cX7_against 25 = .ok (.ldc2_w 75, 3) := by decide +kernel
theorem dX7_against_28 : decode cX7_against 28 = .ok (.goto 4, 3) := by decide +kernel
theorem dX7_against_31 : decode cX7_against 31 = .ok (.lconst 0, 1) := by decide +kernel
theorem dX7_against_32 : decode cX7_against 32 = .ok (.lreturn, 1) := by decide +kernel
set_option maxRecDepth 20000 in
theorem ggX7_read_X7_isFour : GoodIn wsX7_read wsX7_isFour := goodIn_r _ [6] (by decide +kernel) (by decide +kernel)
set_option maxRecDepth 20000 in
theorem gX7_read_X7_isFour : GoodIn wsX7_read (va_wsS RX7 55 yX7_isFour wsX7_isFour) := goodIn_app (goodIn_of _ (by decide +kernel)) ggX7_read_X7_isFour
set_option maxRecDepth 20000 in
theorem ggX7_read_X7_refuse : GoodIn wsX7_read wsX7_refuse := goodIn_r _ [10, 11, 26, 27, 28, 29, 30, 31, 32, 33, 34, 35, 36] (by decide +kernel) (by decide +kernel)
set_option maxRecDepth 20000 in
theorem gX7_read_X7_refuse : GoodIn wsX7_read (wsV RX7 61 RX7 yX7_refuse wsX7_refuse) := goodIn_app (goodIn_of _ (by decide +kernel)) ggX7_read_X7_refuse
set_option maxRecDepth 20000 in
theorem ggX7_read_X7_against : GoodIn wsX7_read wsX7_against := goodIn_r _ [15, 16, 17, 18, 26, 27, 28, 29, 30, 31, 32, 33, 34, 35, 36] (by decide +kernel) (by decide +kernel)
set_option maxRecDepth 20000 in
theorem gX7_read_X7_against : GoodIn wsX7_read (wsV RX7 77 RX7 yX7_against wsX7_against) := goodIn_app (goodIn_of _ (by decide +kernel)) ggX7_read_X7_against
set_option maxRecDepth 20000 in
theorem ggX7_read_X7_told : GoodIn wsX7_read wsX7_told := goodIn_r _ [22, 23, 24, 25, 26, 27, 28, 29, 30, 31, 32, 33, 34, 35, 36] (by decide +kernel) (by decide +kernel)
set_option maxRecDepth 20000 in
theorem gX7_read_X7_told : GoodIn wsX7_read (wsV RX7 81 RX7 yX7_told wsX7_told) := goodIn_app (goodIn_of _ (by decide +kernel)) ggX7_read_X7_told
theorem dX7_read_0 : decode cX7_read 0 = .ok (.iload_n 1, 1) := by decide +kernel
theorem dX7_read_1 : decode cX7_read 1 = .ok (.invokestatic 55, 3) := by decide +kernel
theorem dX7_read_4 : decode cX7_read 4 = .ok (.ifCond .eq 10, 3) := by decide +kernel
theorem dX7_read_7 : decode cX7_read 7 = .ok (.iload_n 2, 1) := by decide +kernel
theorem dX7_read_8 : decode cX7_read 8 = .ok (.invokestatic 55, 3) := by decide +kernel
theorem dX7_read_11 : decode cX7_read 11 = .ok (.ifCond .ne 11, 3) := by decide +kernel
theorem dX7_read_14 : decode cX7_read 14 = .ok (.aload_n 0, 1) := by decide +kernel
theorem dX7_read_15 : decode cX7_read 15 = .ok (.ldc2_w 59, 3) := by decide +kernel
theorem dX7_read_18 : decode cX7_read 18 = .ok (.invokevirtual 61, 3) := by decide +kernel
theorem dX7_read_21 : decode cX7_read 21 = .ok (.lreturn, 1) := by decide +kernel
theorem dX7_read_22 : decode cX7_read 22 = .ok (.aload_n 0, 1) := by decide +kernel
theorem dX7_read_23 : decode cX7_read 23 = .ok (.getfield 7, 3) := by decide +kernel
theorem dX7_read_26 : decode cX7_read 26 = .ok (.iconst 4, 1) := by decide +kernel
theorem dX7_read_27 : decode cX7_read 27 = .ok (.iload_n 1, 1) := by decide +kernel
theorem dX7_read_28 : decode cX7_read 28 = .ok (.imul, 1) := by decide +kernel
theorem dX7_read_29 : decode cX7_read 29 = .ok (.iload_n 2, 1) := by decide +kernel
theorem dX7_read_30 : decode cX7_read 30 = .ok (.iadd, 1) := by decide +kernel
theorem dX7_read_31 : decode cX7_read 31 = .ok (.iaload, 1) := by decide +kernel
theorem dX7_read_32 : decode cX7_read 32 = .ok (.istore 4, 2) := by decide +kernel
theorem dX7_read_34 : decode cX7_read 34 = .ok (.aload_n 0, 1) := by decide +kernel
theorem dX7_read_35 : decode cX7_read 35 = .ok (.iload 4, 2) := by decide +kernel
theorem dX7_read_37 : decode cX7_read 37 = .ok (.iload_n 3, 1) := by decide +kernel
theorem dX7_read_38 : decode cX7_read 38 = .ok (.invokevirtual 77, 3) := by decide +kernel
theorem dX7_read_41 : decode cX7_read 41 = .ok (.lstore 5, 2) := by decide +kernel
theorem dX7_read_43 : decode cX7_read 43 = .ok (.lload 5, 2) := by decide +kernel
theorem dX7_read_45 : decode cX7_read 45 = .ok (.lconst 0, 1) := by decide +kernel
theorem dX7_read_46 : decode cX7_read 46 = .ok (.lcmp, 1) := by decide +kernel
theorem dX7_read_47 : decode cX7_read 47 = .ok (.ifCond .eq 12, 3) := by decide +kernel
theorem dX7_read_50 : decode cX7_read 50 = .ok (.aload_n 0, 1) := by decide +kernel
theorem dX7_read_51 : decode cX7_read 51 = .ok (.lload 5, 2) := by decide +kernel
theorem dX7_read_53 : decode cX7_read 53 = .ok (.invokevirtual 61, 3) := by decide +kernel
theorem dX7_read_56 : decode cX7_read 56 = .ok (.goto 11, 3) := by decide +kernel
theorem dX7_read_59 : decode cX7_read 59 = .ok (.aload_n 0, 1) := by decide +kernel
theorem dX7_read_60 : decode cX7_read 60 = .ok (.iload_n 2, 1) := by decide +kernel
theorem dX7_read_61 : decode cX7_read 61 = .ok (.iload 4, 2) := by decide +kernel
theorem dX7_read_63 : decode cX7_read 63 = .ok (.iload_n 3, 1) := by decide +kernel
theorem dX7_read_64 : decode cX7_read 64 = .ok (.invokevirtual 81, 3) := by decide +kernel
theorem dX7_read_67 : decode cX7_read 67 = .ok (.lreturn, 1) := by decide +kernel
set_option maxRecDepth 20000 in
theorem ggX7_write_X7_isFour : GoodIn wsX7_write wsX7_isFour := goodIn_r _ [6] (by decide +kernel) (by decide +kernel)
set_option maxRecDepth 20000 in
theorem gX7_write_X7_isFour : GoodIn wsX7_write (va_wsS RX7 55 yX7_isFour wsX7_isFour) := goodIn_app (goodIn_of _ (by decide +kernel)) ggX7_write_X7_isFour
set_option maxRecDepth 20000 in
theorem ggX7_write_X7_refuse : GoodIn wsX7_write wsX7_refuse := goodIn_r _ [10, 11, 39, 40, 41, 42, 43, 44, 45, 46, 47, 48, 49] (by decide +kernel) (by decide +kernel)
set_option maxRecDepth 20000 in
theorem gX7_write_X7_refuse : GoodIn wsX7_write (wsV RX7 61 RX7 yX7_refuse wsX7_refuse) := goodIn_app (goodIn_of _ (by decide +kernel)) ggX7_write_X7_refuse
set_option maxRecDepth 20000 in
theorem ggX7_write_X7_against : GoodIn wsX7_write wsX7_against := goodIn_r _ [15, 16, 17, 18, 39, 40, 41, 42, 43, 44, 45, 46, 47, 48, 49] (by decide +kernel) (by decide +kernel)
set_option maxRecDepth 20000 in
theorem gX7_write_X7_against : GoodIn wsX7_write (wsV RX7 77 RX7 yX7_against wsX7_against) := goodIn_app (goodIn_of _ (by decide +kernel)) ggX7_write_X7_against
set_option maxRecDepth 20000 in
theorem ggX7_write_X7_fill : GoodIn wsX7_write wsX7_fill := goodIn_r _ [22, 23, 24, 25, 26, 27, 5, 28, 29, 30, 31, 32, 33, 34, 39, 40, 41, 42, 43, 44, 45, 46, 47, 48, 49] (by decide +kernel) (by decide +kernel)
set_option maxRecDepth 20000 in
theorem gX7_write_X7_fill : GoodIn wsX7_write (wsV RX7 85 RX7 yX7_fill wsX7_fill) := goodIn_app (goodIn_of _ (by decide +kernel)) ggX7_write_X7_fill
set_option maxRecDepth 20000 in
theorem ggX7_write_X7_told : GoodIn wsX7_write wsX7_told := goodIn_r _ [38, 25, 29, 23, 39, 40, 41, 42, 43, 44, 45, 46, 47, 48, 49] (by decide +kernel) (by decide +kernel)
set_option maxRecDepth 20000 in
theorem gX7_write_X7_told : GoodIn wsX7_write (wsV RX7 81 RX7 yX7_told wsX7_told) := goodIn_app (goodIn_of _ (by decide +kernel)) ggX7_write_X7_told
theorem dX7_write_0 : decode cX7_write 0 = .ok (.iload_n 1, 1) := by decide +kernel
theorem dX7_write_1 : decode cX7_write 1 = .ok (.invokestatic 55, 3) := by decide +kernel
theorem dX7_write_4 : decode cX7_write 4 = .ok (.ifCond .eq 10, 3) := by decide +kernel
theorem dX7_write_7 : decode cX7_write 7 = .ok (.iload_n 2, 1) := by decide +kernel
theorem dX7_write_8 : decode cX7_write 8 = .ok (.invokestatic 55, 3) := by decide +kernel
theorem dX7_write_11 : decode cX7_write 11 = .ok (.ifCond .ne 11, 3) := by decide +kernel
theorem dX7_write_14 : decode cX7_write 14 = .ok (.aload_n 0, 1) := by decide +kernel
theorem dX7_write_15 : decode cX7_write 15 = .ok (.ldc2_w 59, 3) := by decide +kernel
theorem dX7_write_18 : decode cX7_write 18 = .ok (.invokevirtual 61, 3) := by decide +kernel
theorem dX7_write_21 : decode cX7_write 21 = .ok (.lreturn, 1) := by decide +kernel
theorem dX7_write_22 : decode cX7_write 22 = .ok (.aload_n 0, 1) := by decide +kernel
theorem dX7_write_23 : decode cX7_write 23 = .ok (.getfield 7, 3) := by decide +kernel
theorem dX7_write_26 : decode cX7_write 26 = .ok (.iconst 4, 1) := by decide +kernel
theorem dX7_write_27 : decode cX7_write 27 = .ok (.iload_n 1, 1) := by decide +kernel
theorem dX7_write_28 : decode cX7_write 28 = .ok (.imul, 1) := by decide +kernel
theorem dX7_write_29 : decode cX7_write 29 = .ok (.iload_n 2, 1) := by decide +kernel
theorem dX7_write_30 : decode cX7_write 30 = .ok (.iadd, 1) := by decide +kernel
theorem dX7_write_31 : decode cX7_write 31 = .ok (.iaload, 1) := by decide +kernel
theorem dX7_write_32 : decode cX7_write 32 = .ok (.istore 5, 2) := by decide +kernel
theorem dX7_write_34 : decode cX7_write 34 = .ok (.aload_n 0, 1) := by decide +kernel
theorem dX7_write_35 : decode cX7_write 35 = .ok (.iload 5, 2) := by decide +kernel
theorem dX7_write_37 : decode cX7_write 37 = .ok (.iload_n 3, 1) := by decide +kernel
theorem dX7_write_38 : decode cX7_write 38 = .ok (.invokevirtual 77, 3) := by decide +kernel
theorem dX7_write_41 : decode cX7_write 41 = .ok (.lstore 6, 2) := by decide +kernel
theorem dX7_write_43 : decode cX7_write 43 = .ok (.lload 6, 2) := by decide +kernel
theorem dX7_write_45 : decode cX7_write 45 = .ok (.lconst 0, 1) := by decide +kernel
theorem dX7_write_46 : decode cX7_write 46 = .ok (.lcmp, 1) := by decide +kernel
theorem dX7_write_47 : decode cX7_write 47 = .ok (.ifCond .eq 10, 3) := by decide +kernel
theorem dX7_write_50 : decode cX7_write 50 = .ok (.aload_n 0, 1) := by decide +kernel
theorem dX7_write_51 : decode cX7_write 51 = .ok (.lload 6, 2) := by decide +kernel
theorem dX7_write_53 : decode cX7_write 53 = .ok (.invokevirtual 61, 3) := by decide +kernel
theorem dX7_write_56 : decode cX7_write 56 = .ok (.lreturn, 1) := by decide +kernel
theorem dX7_write_57 : decode cX7_write 57 = .ok (.aload_n 0, 1) := by decide +kernel
theorem dX7_write_58 : decode cX7_write 58 = .ok (.iload_n 2, 1) := by decide +kernel
theorem dX7_write_59 : decode cX7_write 59 = .ok (.iload 5, 2) := by decide +kernel
theorem dX7_write_61 : decode cX7_write 61 = .ok (.iload_n 3, 1) := by decide +kernel
theorem dX7_write_62 : decode cX7_write 62 = .ok (.iload 4, 2) := by decide +kernel
theorem dX7_write_64 : decode cX7_write 64 = .ok (.invokevirtual 85, 3) := by decide +kernel
theorem dX7_write_67 : decode cX7_write 67 = .ok (.aload_n 0, 1) := by decide +kernel
theorem dX7_write_68 : decode cX7_write 68 = .ok (.iload_n 2, 1) := by decide +kernel
theorem dX7_write_69 : decode cX7_write 69 = .ok (.iload 5, 2) := by decide +kernel
theorem dX7_write_71 : decode cX7_write 71 = .ok (.iload_n 3, 1) := by decide +kernel
theorem dX7_write_72 : decode cX7_write 72 = .ok (.invokevirtual 81, 3) := by decide +kernel
theorem dX7_write_75 : decode cX7_write 75 = .ok (.lreturn, 1) := by decide +kernel
theorem dX7_worked_0 : decode cX7_worked 0 = .ok (.iload_n 0, 1) := by decide +kernel
theorem dX7_worked_1 : decode cX7_worked 1 = .ok (.tableswitch 85 0 7 #[47, 51, 55, 59, 63, 70, 77, 81], 47) := by decide +kernel
theorem dX7_worked_48 : decode cX7_worked 48 = .ok (.iload_n 1, 1) := by decide +kernel
theorem dX7_worked_49 : decode cX7_worked 49 = .ok (.iload_n 2, 1) := by decide +kernel
theorem dX7_worked_50 : decode cX7_worked 50 = .ok (.iadd, 1) := by decide +kernel
theorem dX7_worked_51 : decode cX7_worked 51 = .ok (.ireturn, 1) := by decide +kernel
theorem dX7_worked_52 : decode cX7_worked 52 = .ok (.iload_n 1, 1) := by decide +kernel
theorem dX7_worked_53 : decode cX7_worked 53 = .ok (.iload_n 2, 1) := by decide +kernel
theorem dX7_worked_54 : decode cX7_worked 54 = .ok (.isub, 1) := by decide +kernel
theorem dX7_worked_55 : decode cX7_worked 55 = .ok (.ireturn, 1) := by decide +kernel
theorem dX7_worked_56 : decode cX7_worked 56 = .ok (.iload_n 1, 1) := by decide +kernel
theorem dX7_worked_57 : decode cX7_worked 57 = .ok (.iload_n 2, 1) := by decide +kernel
theorem dX7_worked_58 : decode cX7_worked 58 = .ok (.imul, 1) := by decide +kernel
theorem dX7_worked_59 : decode cX7_worked 59 = .ok (.ireturn, 1) := by decide +kernel
theorem dX7_worked_60 : decode cX7_worked 60 = .ok (.iload_n 1, 1) := by decide +kernel
theorem dX7_worked_61 : decode cX7_worked 61 = .ok (.iload_n 2, 1) := by decide +kernel
theorem dX7_worked_62 : decode cX7_worked 62 = .ok (.idiv, 1) := by decide +kernel
theorem dX7_worked_63 : decode cX7_worked 63 = .ok (.ireturn, 1) := by decide +kernel
theorem dX7_worked_64 : decode cX7_worked 64 = .ok (.iload_n 1, 1) := by decide +kernel
theorem dX7_worked_65 : decode cX7_worked 65 = .ok (.iload_n 2, 1) := by decide +kernel
theorem dX7_worked_66 : decode cX7_worked 66 = .ok (.bipush 31, 2) := by decide +kernel
theorem dX7_worked_68 : decode cX7_worked 68 = .ok (.iand, 1) := by decide +kernel
theorem dX7_worked_69 : decode cX7_worked 69 = .ok (.ishl, 1) := by decide +kernel
theorem dX7_worked_70 : decode cX7_worked 70 = .ok (.ireturn, 1) := by decide +kernel
theorem dX7_worked_71 : decode cX7_worked 71 = .ok (.iload_n 1, 1) := by decide +kernel
theorem dX7_worked_72 : decode cX7_worked 72 = .ok (.iload_n 2, 1) := by decide +kernel
theorem dX7_worked_73 : decode cX7_worked 73 = .ok (.bipush 31, 2) := by decide +kernel
theorem dX7_worked_75 : decode cX7_worked 75 = .ok (.iand, 1) := by decide +kernel
theorem dX7_worked_76 : decode cX7_worked 76 = .ok (.iushr, 1) := by decide +kernel
theorem dX7_worked_77 : decode cX7_worked 77 = .ok (.ireturn, 1) := by decide +kernel
theorem dX7_worked_78 : decode cX7_worked 78 = .ok (.iload_n 1, 1) := by decide +kernel
theorem dX7_worked_79 : decode cX7_worked 79 = .ok (.iload_n 2, 1) := by decide +kernel
theorem dX7_worked_80 : decode cX7_worked 80 = .ok (.ixor, 1) := by decide +kernel
theorem dX7_worked_81 : decode cX7_worked 81 = .ok (.ireturn, 1) := by decide +kernel
theorem dX7_worked_82 : decode cX7_worked 82 = .ok (.iload_n 1, 1) := by decide +kernel
theorem dX7_worked_83 : decode cX7_worked 83 = .ok (.iload_n 2, 1) := by decide +kernel
theorem dX7_worked_84 : decode cX7_worked 84 = .ok (.iand, 1) := by decide +kernel
theorem dX7_worked_85 : decode cX7_worked 85 = .ok (.ireturn, 1) := by decide +kernel
theorem dX7_worked_86 : decode cX7_worked 86 = .ok (.iload_n 1, 1) := by decide +kernel
theorem dX7_worked_87 : decode cX7_worked 87 = .ok (.iload_n 2, 1) := by decide +kernel
theorem dX7_worked_88 : decode cX7_worked 88 = .ok (.ior, 1) := by decide +kernel
theorem dX7_worked_89 : decode cX7_worked 89 = .ok (.ireturn, 1) := by decide +kernel
set_option maxRecDepth 20000 in
theorem ggX7_nudge_X7_isFour : GoodIn wsX7_nudge wsX7_isFour := goodIn_r _ [9] (by decide +kernel) (by decide +kernel)
set_option maxRecDepth 20000 in
theorem gX7_nudge_X7_isFour : GoodIn wsX7_nudge (va_wsS RX7 55 yX7_isFour wsX7_isFour) := goodIn_app (goodIn_of _ (by decide +kernel)) ggX7_nudge_X7_isFour
set_option maxRecDepth 20000 in
theorem ggX7_nudge_X7_refuse : GoodIn wsX7_nudge wsX7_refuse := goodIn_r _ [13, 14, 43, 44, 45, 46, 47, 48, 49, 50, 51, 52, 53] (by decide +kernel) (by decide +kernel)
set_option maxRecDepth 20000 in
theorem gX7_nudge_X7_refuse : GoodIn wsX7_nudge (wsV RX7 61 RX7 yX7_refuse wsX7_refuse) := goodIn_app (goodIn_of _ (by decide +kernel)) ggX7_nudge_X7_refuse
set_option maxRecDepth 20000 in
theorem ggX7_nudge_X7_against : GoodIn wsX7_nudge wsX7_against := goodIn_r _ [18, 19, 20, 21, 43, 44, 45, 46, 47, 48, 49, 50, 51, 52, 53] (by decide +kernel) (by decide +kernel)
set_option maxRecDepth 20000 in
theorem gX7_nudge_X7_against : GoodIn wsX7_nudge (wsV RX7 77 RX7 yX7_against wsX7_against) := goodIn_app (goodIn_of _ (by decide +kernel)) ggX7_nudge_X7_against
set_option maxRecDepth 20000 in
theorem ggX7_nudge_X7_eighth : GoodIn wsX7_nudge wsX7_eighth := goodIn_r _ [24, 25] (by decide +kernel) (by decide +kernel)
set_option maxRecDepth 20000 in
theorem gX7_nudge_X7_eighth : GoodIn wsX7_nudge (va_wsS RX7 47 yX7_eighth wsX7_eighth) := goodIn_app (goodIn_of _ (by decide +kernel)) ggX7_nudge_X7_eighth
set_option maxRecDepth 20000 in
theorem ggX7_nudge_X7_held : GoodIn wsX7_nudge wsX7_held := goodIn_r _ [28, 29, 30] (by decide +kernel) (by decide +kernel)
set_option maxRecDepth 20000 in
theorem gX7_nudge_X7_held : GoodIn wsX7_nudge (va_wsS RX7 51 yX7_held wsX7_held) := goodIn_app (goodIn_of _ (by decide +kernel)) ggX7_nudge_X7_held
set_option maxRecDepth 20000 in
theorem ggX7_nudge_X7_worked : GoodIn wsX7_nudge wsX7_worked := goodIn_r _ [33] (by decide +kernel) (by decide +kernel)
set_option maxRecDepth 20000 in
theorem gX7_nudge_X7_worked : GoodIn wsX7_nudge (va_wsS RX7 91 yX7_worked wsX7_worked) := goodIn_app (goodIn_of _ (by decide +kernel)) ggX7_nudge_X7_worked
set_option maxRecDepth 20000 in
theorem ggX7_nudge_X7_fill : GoodIn wsX7_nudge wsX7_fill := goodIn_r _ [37, 5, 38, 4, 22, 23, 8, 24, 25, 26, 27, 28, 29, 30, 43, 44, 45, 46, 47, 48, 49, 50, 51, 52, 53] (by decide +kernel) (by decide +kernel)
set_option maxRecDepth 20000 in
theorem gX7_nudge_X7_fill : GoodIn wsX7_nudge (wsV RX7 85 RX7 yX7_fill wsX7_fill) := goodIn_app (goodIn_of _ (by decide +kernel)) ggX7_nudge_X7_fill
set_option maxRecDepth 20000 in
theorem ggX7_nudge_X7_told : GoodIn wsX7_nudge wsX7_told := goodIn_r _ [42, 4, 25, 5, 43, 44, 45, 46, 47, 48, 49, 50, 51, 52, 53] (by decide +kernel) (by decide +kernel)
set_option maxRecDepth 20000 in
theorem gX7_nudge_X7_told : GoodIn wsX7_nudge (wsV RX7 81 RX7 yX7_told wsX7_told) := goodIn_app (goodIn_of _ (by decide +kernel)) ggX7_nudge_X7_told
theorem dX7_nudge_0 : decode cX7_nudge 0 = .ok (.iload_n 2, 1) := by decide +kernel
theorem dX7_nudge_1 : decode cX7_nudge 1 = .ok (.iconst 2, 1) := by decide +kernel
theorem dX7_nudge_2 : decode cX7_nudge 2 = .ok (.if_icmp .ne 22, 3) := by decide +kernel
theorem dX7_nudge_5 : decode cX7_nudge 5 = .ok (.iload 4, 2) := by decide +kernel
theorem dX7_nudge_7 : decode cX7_nudge 7 = .ok (.ifCond .lt 13, 3) := by decide +kernel
theorem dX7_nudge_10 : decode cX7_nudge 10 = .ok (.iload 4, 2) := by decide +kernel
theorem dX7_nudge_12 : decode cX7_nudge 12 = .ok (.iconst 2, 1) := by decide +kernel
theorem dX7_nudge_13 : decode cX7_nudge 13 = .ok (.if_icmp .ge 7, 3) := by decide +kernel
theorem dX7_nudge_16 : decode cX7_nudge 16 = .ok (.iconst 1, 1) := by decide +kernel
theorem dX7_nudge_17 : decode cX7_nudge 17 = .ok (.goto 50, 3) := by decide +kernel
theorem dX7_nudge_20 : decode cX7_nudge 20 = .ok (.iconst 0, 1) := by decide +kernel
theorem dX7_nudge_21 : decode cX7_nudge 21 = .ok (.goto 46, 3) := by decide +kernel
theorem dX7_nudge_24 : decode cX7_nudge 24 = .ok (.iload_n 2, 1) := by decide +kernel
theorem dX7_nudge_25 : decode cX7_nudge 25 = .ok (.iconst 3, 1) := by decide +kernel
theorem dX7_nudge_26 : decode cX7_nudge 26 = .ok (.if_icmp .ne 24, 3) := by decide +kernel
theorem dX7_nudge_29 : decode cX7_nudge 29 = .ok (.iload 4, 2) := by decide +kernel
theorem dX7_nudge_31 : decode cX7_nudge 31 = .ok (.iconst 5, 1) := by decide +kernel
theorem dX7_nudge_32 : decode cX7_nudge 32 = .ok (.if_icmp .le 14, 3) := by decide +kernel
theorem dX7_nudge_35 : decode cX7_nudge 35 = .ok (.iload 4, 2) := by decide +kernel
theorem dX7_nudge_37 : decode cX7_nudge 37 = .ok (.bipush 9, 2) := by decide +kernel
theorem dX7_nudge_39 : decode cX7_nudge 39 = .ok (.if_icmp .ge 7, 3) := by decide +kernel
theorem dX7_nudge_42 : decode cX7_nudge 42 = .ok (.iconst 1, 1) := by decide +kernel
theorem dX7_nudge_43 : decode cX7_nudge 43 = .ok (.goto 24, 3) := by decide +kernel
theorem dX7_nudge_46 : decode cX7_nudge 46 = .ok (.iconst 0, 1) := by decide +kernel
theorem dX7_nudge_47 : decode cX7_nudge 47 = .ok (.goto 20, 3) := by decide +kernel
theorem dX7_nudge_50 : decode cX7_nudge 50 = .ok (.iload 4, 2) := by decide +kernel
theorem dX7_nudge_52 : decode cX7_nudge 52 = .ok (.ifCond .lt 14, 3) := by decide +kernel
theorem dX7_nudge_55 : decode cX7_nudge 55 = .ok (.iload 4, 2) := by decide +kernel
theorem dX7_nudge_57 : decode cX7_nudge 57 = .ok (.bipush 9, 2) := by decide +kernel
theorem dX7_nudge_59 : decode cX7_nudge 59 = .ok (.if_icmp .ge 7, 3) := by decide +kernel
theorem dX7_nudge_62 : decode cX7_nudge 62 = .ok (.iconst 1, 1) := by decide +kernel
theorem dX7_nudge_63 : decode cX7_nudge 63 = .ok (.goto 4, 3) := by decide +kernel
theorem dX7_nudge_66 : decode cX7_nudge 66 = .ok (.iconst 0, 1) := by decide +kernel
theorem dX7_nudge_67 : decode cX7_nudge 67 = .ok (.istore 6, 2) := by decide +kernel
theorem dX7_nudge_69 : decode cX7_nudge 69 = .ok (.iload_n 1, 1) := by decide +kernel
theorem dX7_nudge_70 : decode cX7_nudge 70 = .ok (.invokestatic 55, 3) := by decide +kernel
theorem dX7_nudge_73 : decode cX7_nudge 73 = .ok (.ifCond .eq 15, 3) := by decide +kernel
theorem dX7_nudge_76 : decode cX7_nudge 76 = .ok (.iload_n 2, 1) := by decide +kernel
theorem dX7_nudge_77 : decode cX7_nudge 77 = .ok (.invokestatic 55, 3) := by decide +kernel
theorem dX7_nudge_80 : decode cX7_nudge 80 = .ok (.ifCond .eq 8, 3) := by decide +kernel
theorem dX7_nudge_83 : decode cX7_nudge 83 = .ok (.iload 6, 2) := by decide +kernel
theorem dX7_nudge_85 : decode cX7_nudge 85 = .ok (.ifCond .ne 11, 3) := by decide +kernel
theorem dX7_nudge_88 : decode cX7_nudge 88 = .ok (.aload_n 0, 1) := by decide +kernel
theorem dX7_nudge_89 : decode cX7_nudge 89 = .ok (.ldc2_w 59, 3) := by decide +kernel
theorem dX7_nudge_92 : decode cX7_nudge 92 = .ok (.invokevirtual 61, 3) := by decide +kernel
theorem dX7_nudge_95 : decode cX7_nudge 95 = .ok (.lreturn, 1) := by decide +kernel
theorem dX7_nudge_96 : decode cX7_nudge 96 = .ok (.aload_n 0, 1) := by decide +kernel
theorem dX7_nudge_97 : decode cX7_nudge 97 = .ok (.getfield 7, 3) := by decide +kernel
theorem dX7_nudge_100 : decode cX7_nudge 100 = .ok (.iconst 4, 1) := by decide +kernel
theorem dX7_nudge_101 : decode cX7_nudge 101 = .ok (.iload_n 1, 1) := by decide +kernel
theorem dX7_nudge_102 : decode cX7_nudge 102 = .ok (.imul, 1) := by decide +kernel
theorem dX7_nudge_103 : decode cX7_nudge 103 = .ok (.iload_n 2, 1) := by decide +kernel
theorem dX7_nudge_104 : decode cX7_nudge 104 = .ok (.iadd, 1) := by decide +kernel
theorem dX7_nudge_105 : decode cX7_nudge 105 = .ok (.iaload, 1) := by decide +kernel
theorem dX7_nudge_106 : decode cX7_nudge 106 = .ok (.istore 7, 2) := by decide +kernel
theorem dX7_nudge_108 : decode cX7_nudge 108 = .ok (.aload_n 0, 1) := by decide +kernel
theorem dX7_nudge_109 : decode cX7_nudge 109 = .ok (.iload 7, 2) := by decide +kernel
theorem dX7_nudge_111 : decode cX7_nudge 111 = .ok (.iload_n 3, 1) := by decide +kernel
theorem dX7_nudge_112 : decode cX7_nudge 112 = .ok (.invokevirtual 77, 3) := by decide +kernel
theorem dX7_nudge_115 : decode cX7_nudge 115 = .ok (.lstore 8, 2) := by decide +kernel
theorem dX7_nudge_117 : decode cX7_nudge 117 = .ok (.lload 8, 2) := by decide +kernel
theorem dX7_nudge_119 : decode cX7_nudge 119 = .ok (.lconst 0, 1) := by decide +kernel
theorem dX7_nudge_120 : decode cX7_nudge 120 = .ok (.lcmp, 1) := by decide +kernel
theorem dX7_nudge_121 : decode cX7_nudge 121 = .ok (.ifCond .eq 10, 3) := by decide +kernel
theorem dX7_nudge_124 : decode cX7_nudge 124 = .ok (.aload_n 0, 1) := by decide +kernel
theorem dX7_nudge_125 : decode cX7_nudge 125 = .ok (.lload 8, 2) := by decide +kernel
theorem dX7_nudge_127 : decode cX7_nudge 127 = .ok (.invokevirtual 61, 3) := by decide +kernel
theorem dX7_nudge_130 : decode cX7_nudge 130 = .ok (.lreturn, 1) := by decide +kernel
theorem dX7_nudge_131 : decode cX7_nudge 131 = .ok (.iload 4, 2) := by decide +kernel
theorem dX7_nudge_133 : decode cX7_nudge 133 = .ok (.iconst 3, 1) := by decide +kernel
theorem dX7_nudge_134 : decode cX7_nudge 134 = .ok (.if_icmp .ne 16, 3) := by decide +kernel
theorem dX7_nudge_137 : decode cX7_nudge 137 = .ok (.iload 5, 2) := by decide +kernel
theorem dX7_nudge_139 : decode cX7_nudge 139 = .ok (.ifCond .ne 11, 3) := by decide +kernel
theorem dX7_nudge_142 : decode cX7_nudge 142 = .ok (.aload_n 0, 1) := by decide +kernel
theorem dX7_nudge_143 : decode cX7_nudge 143 = .ok (.ldc2_w 89, 3) := by decide +kernel
theorem dX7_nudge_146 : decode cX7_nudge 146 = .ok (.invokevirtual 61, 3) := by decide +kernel
theorem dX7_nudge_149 : decode cX7_nudge 149 = .ok (.lreturn, 1) := by decide +kernel
theorem dX7_nudge_150 : decode cX7_nudge 150 = .ok (.bipush 40, 2) := by decide +kernel
theorem dX7_nudge_152 : decode cX7_nudge 152 = .ok (.iload 7, 2) := by decide +kernel
theorem dX7_nudge_154 : decode cX7_nudge 154 = .ok (.imul, 1) := by decide +kernel
theorem dX7_nudge_155 : decode cX7_nudge 155 = .ok (.iload_n 3, 1) := by decide +kernel
theorem dX7_nudge_156 : decode cX7_nudge 156 = .ok (.iadd, 1) := by decide +kernel
theorem dX7_nudge_157 : decode cX7_nudge 157 = .ok (.istore 10, 2) := by decide +kernel
theorem dX7_nudge_159 : decode cX7_nudge 159 = .ok (.iload_n 2, 1) := by decide +kernel
theorem dX7_nudge_160 : decode cX7_nudge 160 = .ok (.iconst 2, 1) := by decide +kernel
theorem dX7_nudge_161 : decode cX7_nudge 161 = .ok (.if_icmp .ne 50, 3) := by decide +kernel
theorem dX7_nudge_164 : decode cX7_nudge 164 = .ok (.aload_n 0, 1) := by decide +kernel
theorem dX7_nudge_165 : decode cX7_nudge 165 = .ok (.getfield 25, 3) := by decide +kernel
theorem dX7_nudge_168 : decode cX7_nudge 168 = .ok (.iload 10, 2) := by decide +kernel
theorem dX7_nudge_170 : decode cX7_nudge 170 = .ok (.iload 4, 2) := by decide +kernel
theorem dX7_nudge_172 : decode cX7_nudge 172 = .ok (.ifCond .ne 19, 3) := by decide +kernel
theorem dX7_nudge_175 : decode cX7_nudge 175 = .ok (.aload_n 0, 1) := by decide +kernel
theorem dX7_nudge_176 : decode cX7_nudge 176 = .ok (.getfield 25, 3) := by decide +kernel
theorem dX7_nudge_179 : decode cX7_nudge 179 = .ok (.iload 10, 2) := by decide +kernel
theorem dX7_nudge_181 : decode cX7_nudge 181 = .ok (.faload, 1) := by decide +kernel
theorem dX7_nudge_182 : decode cX7_nudge 182 = .ok (.iload 5, 2) := by decide +kernel
theorem dX7_nudge_184 : decode cX7_nudge 184 = .ok (.invokestatic 47, 3) := by decide +kernel
theorem dX7_nudge_187 : decode cX7_nudge 187 = .ok (.fadd, 1) := by decide +kernel
theorem dX7_nudge_188 : decode cX7_nudge 188 = .ok (.goto 16, 3) := by decide +kernel
theorem dX7_nudge_191 : decode cX7_nudge 191 = .ok (.aload_n 0, 1) := by decide +kernel
theorem dX7_nudge_192 : decode cX7_nudge 192 = .ok (.getfield 25, 3) := by decide +kernel
theorem dX7_nudge_195 : decode cX7_nudge 195 = .ok (.iload 10, 2) := by decide +kernel
theorem dX7_nudge_197 : decode cX7_nudge 197 = .ok (.faload, 1) := by decide +kernel
theorem dX7_nudge_198 : decode cX7_nudge 198 = .ok (.iload 5, 2) := by decide +kernel
theorem dX7_nudge_200 : decode cX7_nudge 200 = .ok (.invokestatic 47, 3) := by decide +kernel
theorem dX7_nudge_203 : decode cX7_nudge 203 = .ok (.fsub, 1) := by decide +kernel
theorem dX7_nudge_204 : decode cX7_nudge 204 = .ok (.invokestatic 51, 3) := by decide +kernel
theorem dX7_nudge_207 : decode cX7_nudge 207 = .ok (.fastore, 1) := by decide +kernel
theorem dX7_nudge_208 : decode cX7_nudge 208 = .ok (.goto 37, 3) := by decide +kernel
theorem dX7_nudge_211 : decode cX7_nudge 211 = .ok (.aload_n 0, 1) := by decide +kernel
theorem dX7_nudge_212 : decode cX7_nudge 212 = .ok (.iload_n 2, 1) := by decide +kernel
theorem dX7_nudge_213 : decode cX7_nudge 213 = .ok (.iload 7, 2) := by decide +kernel
theorem dX7_nudge_215 : decode cX7_nudge 215 = .ok (.iload_n 3, 1) := by decide +kernel
theorem dX7_nudge_216 : decode cX7_nudge 216 = .ok (.iload 4, 2) := by decide +kernel
theorem dX7_nudge_218 : decode cX7_nudge 218 = .ok (.aload_n 0, 1) := by decide +kernel
theorem dX7_nudge_219 : decode cX7_nudge 219 = .ok (.getfield 22, 3) := by decide +kernel
theorem dX7_nudge_222 : decode cX7_nudge 222 = .ok (.iload 10, 2) := by decide +kernel
theorem dX7_nudge_224 : decode cX7_nudge 224 = .ok (.iaload, 1) := by decide +kernel
theorem dX7_nudge_225 : decode cX7_nudge 225 = .ok (.iload_n 2, 1) := by decide +kernel
theorem dX7_nudge_226 : decode cX7_nudge 226 = .ok (.iconst 3, 1) := by decide +kernel
theorem dX7_nudge_227 : decode cX7_nudge 227 = .ok (.if_icmp .ne 10, 3) := by decide +kernel
theorem dX7_nudge_230 : decode cX7_nudge 230 = .ok (.iload 5, 2) := by decide +kernel
theorem dX7_nudge_232 : decode cX7_nudge 232 = .ok (.iconst 1, 1) := by decide +kernel
theorem dX7_nudge_233 : decode cX7_nudge 233 = .ok (.iand, 1) := by decide +kernel
theorem dX7_nudge_234 : decode cX7_nudge 234 = .ok (.goto 5, 3) := by decide +kernel
theorem dX7_nudge_237 : decode cX7_nudge 237 = .ok (.iload 5, 2) := by decide +kernel
theorem dX7_nudge_239 : decode cX7_nudge 239 = .ok (.invokestatic 91, 3) := by decide +kernel
theorem dX7_nudge_242 : decode cX7_nudge 242 = .ok (.invokevirtual 85, 3) := by decide +kernel
theorem dX7_nudge_245 : decode cX7_nudge 245 = .ok (.aload_n 0, 1) := by decide +kernel
theorem dX7_nudge_246 : decode cX7_nudge 246 = .ok (.iload_n 2, 1) := by decide +kernel
theorem dX7_nudge_247 : decode cX7_nudge 247 = .ok (.iload 7, 2) := by decide +kernel
theorem dX7_nudge_249 : decode cX7_nudge 249 = .ok (.iload_n 3, 1) := by decide +kernel
theorem dX7_nudge_250 : decode cX7_nudge 250 = .ok (.invokevirtual 81, 3) := by decide +kernel
theorem dX7_nudge_253 : decode cX7_nudge 253 = .ok (.lreturn, 1) := by decide +kernel
set_option maxRecDepth 20000 in
theorem ggX7_tick_X7_isFour : GoodIn wsX7_tick wsX7_isFour := goodIn_r _ [8] (by decide +kernel) (by decide +kernel)
set_option maxRecDepth 20000 in
theorem gX7_tick_X7_isFour : GoodIn wsX7_tick (va_wsS RX7 55 yX7_isFour wsX7_isFour) := goodIn_app (goodIn_of _ (by decide +kernel)) ggX7_tick_X7_isFour
set_option maxRecDepth 20000 in
theorem ggX7_tick_X7_refuse : GoodIn wsX7_tick wsX7_refuse := goodIn_r _ [12, 13, 39, 40, 41, 42, 43, 44, 45, 46, 47, 48, 49] (by decide +kernel) (by decide +kernel)
set_option maxRecDepth 20000 in
theorem gX7_tick_X7_refuse : GoodIn wsX7_tick (wsV RX7 61 RX7 yX7_refuse wsX7_refuse) := goodIn_app (goodIn_of _ (by decide +kernel)) ggX7_tick_X7_refuse
set_option maxRecDepth 20000 in
theorem ggX7_tick_X7_against : GoodIn wsX7_tick wsX7_against := goodIn_r _ [17, 18, 19, 20, 39, 40, 41, 42, 43, 44, 45, 46, 47, 48, 49] (by decide +kernel) (by decide +kernel)
set_option maxRecDepth 20000 in
theorem gX7_tick_X7_against : GoodIn wsX7_tick (wsV RX7 77 RX7 yX7_against wsX7_against) := goodIn_app (goodIn_of _ (by decide +kernel)) ggX7_tick_X7_against
set_option maxRecDepth 20000 in
theorem ggX7_tick_X7_told : GoodIn wsX7_tick wsX7_told := goodIn_r _ [24, 3, 25, 4, 39, 40, 41, 42, 43, 44, 45, 46, 47, 48, 49] (by decide +kernel) (by decide +kernel)
set_option maxRecDepth 20000 in
theorem gX7_tick_X7_told : GoodIn wsX7_tick (wsV RX7 81 RX7 yX7_told wsX7_told) := goodIn_app (goodIn_of _ (by decide +kernel)) ggX7_tick_X7_told
set_option maxRecDepth 20000 in
theorem ggX7_tick_X7_held : GoodIn wsX7_tick wsX7_held := goodIn_r _ [28, 29, 30] (by decide +kernel) (by decide +kernel)
set_option maxRecDepth 20000 in
theorem gX7_tick_X7_held : GoodIn wsX7_tick (va_wsS RX7 51 yX7_held wsX7_held) := goodIn_app (goodIn_of _ (by decide +kernel)) ggX7_tick_X7_held
set_option maxRecDepth 20000 in
theorem ggX7_tick_X7_fill : GoodIn wsX7_tick wsX7_fill := goodIn_r _ [34, 4, 35, 3, 36, 37, 7, 38, 25, 26, 27, 28, 29, 30, 39, 40, 41, 42, 43, 44, 45, 46, 47, 48, 49] (by decide +kernel) (by decide +kernel)
set_option maxRecDepth 20000 in
theorem gX7_tick_X7_fill : GoodIn wsX7_tick (wsV RX7 85 RX7 yX7_fill wsX7_fill) := goodIn_app (goodIn_of _ (by decide +kernel)) ggX7_tick_X7_fill
theorem dX7_tick_0 : decode cX7_tick 0 = .ok (.iload_n 1, 1) := by decide +kernel
theorem dX7_tick_1 : decode cX7_tick 1 = .ok (.invokestatic 55, 3) := by decide +kernel
theorem dX7_tick_4 : decode cX7_tick 4 = .ok (.ifCond .eq 15, 3) := by decide +kernel
theorem dX7_tick_7 : decode cX7_tick 7 = .ok (.iload_n 2, 1) := by decide +kernel
theorem dX7_tick_8 : decode cX7_tick 8 = .ok (.invokestatic 55, 3) := by decide +kernel
theorem dX7_tick_11 : decode cX7_tick 11 = .ok (.ifCond .eq 8, 3) := by decide +kernel
theorem dX7_tick_14 : decode cX7_tick 14 = .ok (.iload_n 2, 1) := by decide +kernel
theorem dX7_tick_15 : decode cX7_tick 15 = .ok (.iconst 3, 1) := by decide +kernel
theorem dX7_tick_16 : decode cX7_tick 16 = .ok (.if_icmp .ne 11, 3) := by decide +kernel
theorem dX7_tick_19 : decode cX7_tick 19 = .ok (.aload_n 0, 1) := by decide +kernel
theorem dX7_tick_20 : decode cX7_tick 20 = .ok (.ldc2_w 59, 3) := by decide +kernel
theorem dX7_tick_23 : decode cX7_tick 23 = .ok (.invokevirtual 61, 3) := by decide +kernel
theorem dX7_tick_26 : decode cX7_tick 26 = .ok (.lreturn, 1) := by decide +kernel
theorem dX7_tick_27 : decode cX7_tick 27 = .ok (.aload_n 0, 1) := by decide +kernel
theorem dX7_tick_28 : decode cX7_tick 28 = .ok (.getfield 7, 3) := by decide +kernel
theorem dX7_tick_31 : decode cX7_tick 31 = .ok (.iconst 4, 1) := by decide +kernel
theorem dX7_tick_32 : decode cX7_tick 32 = .ok (.iload_n 1, 1) := by decide +kernel
theorem dX7_tick_33 : decode cX7_tick 33 = .ok (.imul, 1) := by decide +kernel
theorem dX7_tick_34 : decode cX7_tick 34 = .ok (.iload_n 2, 1) := by decide +kernel
theorem dX7_tick_35 : decode cX7_tick 35 = .ok (.iadd, 1) := by decide +kernel
theorem dX7_tick_36 : decode cX7_tick 36 = .ok (.iaload, 1) := by decide +kernel
theorem dX7_tick_37 : decode cX7_tick 37 = .ok (.istore 5, 2) := by decide +kernel
theorem dX7_tick_39 : decode cX7_tick 39 = .ok (.aload_n 0, 1) := by decide +kernel
theorem dX7_tick_40 : decode cX7_tick 40 = .ok (.iload 5, 2) := by decide +kernel
theorem dX7_tick_42 : decode cX7_tick 42 = .ok (.iload_n 3, 1) := by decide +kernel
theorem dX7_tick_43 : decode cX7_tick 43 = .ok (.invokevirtual 77, 3) := by decide +kernel
theorem dX7_tick_46 : decode cX7_tick 46 = .ok (.lstore 6, 2) := by decide +kernel
theorem dX7_tick_48 : decode cX7_tick 48 = .ok (.lload 6, 2) := by decide +kernel
theorem dX7_tick_50 : decode cX7_tick 50 = .ok (.lconst 0, 1) := by decide +kernel
theorem dX7_tick_51 : decode cX7_tick 51 = .ok (.lcmp, 1) := by decide +kernel
theorem dX7_tick_52 : decode cX7_tick 52 = .ok (.ifCond .eq 10, 3) := by decide +kernel
theorem dX7_tick_55 : decode cX7_tick 55 = .ok (.aload_n 0, 1) := by decide +kernel
theorem dX7_tick_56 : decode cX7_tick 56 = .ok (.lload 6, 2) := by decide +kernel
theorem dX7_tick_58 : decode cX7_tick 58 = .ok (.invokevirtual 61, 3) := by decide +kernel
theorem dX7_tick_61 : decode cX7_tick 61 = .ok (.lreturn, 1) := by decide +kernel
theorem dX7_tick_62 : decode cX7_tick 62 = .ok (.aload_n 0, 1) := by decide +kernel
theorem dX7_tick_63 : decode cX7_tick 63 = .ok (.iload_n 2, 1) := by decide +kernel
theorem dX7_tick_64 : decode cX7_tick 64 = .ok (.iload 5, 2) := by decide +kernel
theorem dX7_tick_66 : decode cX7_tick 66 = .ok (.iload_n 3, 1) := by decide +kernel
theorem dX7_tick_67 : decode cX7_tick 67 = .ok (.invokevirtual 81, 3) := by decide +kernel
theorem dX7_tick_70 : decode cX7_tick 70 = .ok (.lstore 8, 2) := by decide +kernel
theorem dX7_tick_72 : decode cX7_tick 72 = .ok (.bipush 40, 2) := by decide +kernel
theorem dX7_tick_74 : decode cX7_tick 74 = .ok (.iload 5, 2) := by decide +kernel
theorem dX7_tick_76 : decode cX7_tick 76 = .ok (.imul, 1) := by decide +kernel
theorem dX7_tick_77 : decode cX7_tick 77 = .ok (.iload_n 3, 1) := by decide +kernel
theorem dX7_tick_78 : decode cX7_tick 78 = .ok (.iadd, 1) := by decide +kernel
theorem dX7_tick_79 : decode cX7_tick 79 = .ok (.istore 10, 2) := by decide +kernel
theorem dX7_tick_81 : decode cX7_tick 81 = .ok (.iload_n 2, 1) := by decide +kernel
theorem dX7_tick_82 : decode cX7_tick 82 = .ok (.iconst 2, 1) := by decide +kernel
theorem dX7_tick_83 : decode cX7_tick 83 = .ok (.if_icmp .ne 25, 3) := by decide +kernel
theorem dX7_tick_86 : decode cX7_tick 86 = .ok (.aload_n 0, 1) := by decide +kernel
theorem dX7_tick_87 : decode cX7_tick 87 = .ok (.getfield 25, 3) := by decide +kernel
theorem dX7_tick_90 : decode cX7_tick 90 = .ok (.iload 10, 2) := by decide +kernel
theorem dX7_tick_92 : decode cX7_tick 92 = .ok (.aload_n 0, 1) := by decide +kernel
theorem dX7_tick_93 : decode cX7_tick 93 = .ok (.getfield 25, 3) := by decide +kernel
theorem dX7_tick_96 : decode cX7_tick 96 = .ok (.iload 10, 2) := by decide +kernel
theorem dX7_tick_98 : decode cX7_tick 98 = .ok (.faload, 1) := by decide +kernel
theorem dX7_tick_99 : decode cX7_tick 99 = .ok (.fconst 1, 1) := by decide +kernel
theorem dX7_tick_100 : decode cX7_tick 100 = .ok (.fadd, 1) := by decide +kernel
theorem dX7_tick_101 : decode cX7_tick 101 = .ok (.invokestatic 51, 3) := by decide +kernel
theorem dX7_tick_104 : decode cX7_tick 104 = .ok (.fastore, 1) := by decide +kernel
theorem dX7_tick_105 : decode cX7_tick 105 = .ok (.goto 20, 3) := by decide +kernel
theorem dX7_tick_108 : decode cX7_tick 108 = .ok (.aload_n 0, 1) := by decide +kernel
theorem dX7_tick_109 : decode cX7_tick 109 = .ok (.iload_n 2, 1) := by decide +kernel
theorem dX7_tick_110 : decode cX7_tick 110 = .ok (.iload 5, 2) := by decide +kernel
theorem dX7_tick_112 : decode cX7_tick 112 = .ok (.iload_n 3, 1) := by decide +kernel
theorem dX7_tick_113 : decode cX7_tick 113 = .ok (.aload_n 0, 1) := by decide +kernel
theorem dX7_tick_114 : decode cX7_tick 114 = .ok (.getfield 22, 3) := by decide +kernel
theorem dX7_tick_117 : decode cX7_tick 117 = .ok (.iload 10, 2) := by decide +kernel
theorem dX7_tick_119 : decode cX7_tick 119 = .ok (.iaload, 1) := by decide +kernel
theorem dX7_tick_120 : decode cX7_tick 120 = .ok (.iconst 1, 1) := by decide +kernel
theorem dX7_tick_121 : decode cX7_tick 121 = .ok (.iadd, 1) := by decide +kernel
theorem dX7_tick_122 : decode cX7_tick 122 = .ok (.invokevirtual 85, 3) := by decide +kernel
theorem dX7_tick_125 : decode cX7_tick 125 = .ok (.iload 4, 2) := by decide +kernel
theorem dX7_tick_127 : decode cX7_tick 127 = .ok (.ifCond .eq 14, 3) := by decide +kernel
theorem dX7_tick_130 : decode cX7_tick 130 = .ok (.aload_n 0, 1) := by decide +kernel
theorem dX7_tick_131 : decode cX7_tick 131 = .ok (.iload_n 2, 1) := by decide +kernel
theorem dX7_tick_132 : decode cX7_tick 132 = .ok (.iload 5, 2) := by decide +kernel
theorem dX7_tick_134 : decode cX7_tick 134 = .ok (.iload_n 3, 1) := by decide +kernel
theorem dX7_tick_135 : decode cX7_tick 135 = .ok (.invokevirtual 81, 3) := by decide +kernel
theorem dX7_tick_138 : decode cX7_tick 138 = .ok (.goto 5, 3) := by decide +kernel
theorem dX7_tick_141 : decode cX7_tick 141 = .ok (.lload 8, 2) := by decide +kernel
theorem dX7_tick_143 : decode cX7_tick 143 = .ok (.lreturn, 1) := by decide +kernel
set_option maxRecDepth 20000 in
theorem ggX7_blend_X7_isFour : GoodIn wsX7_blend wsX7_isFour := goodIn_r _ [8] (by decide +kernel) (by decide +kernel)
set_option maxRecDepth 20000 in
theorem gX7_blend_X7_isFour : GoodIn wsX7_blend (va_wsS RX7 55 yX7_isFour wsX7_isFour) := goodIn_app (goodIn_of _ (by decide +kernel)) ggX7_blend_X7_isFour
set_option maxRecDepth 20000 in
theorem ggX7_blend_X7_refuse : GoodIn wsX7_blend wsX7_refuse := goodIn_r _ [12, 13, 39, 40, 41, 42, 43, 44, 45, 46, 47, 48, 49] (by decide +kernel) (by decide +kernel)
set_option maxRecDepth 20000 in
theorem gX7_blend_X7_refuse : GoodIn wsX7_blend (wsV RX7 61 RX7 yX7_refuse wsX7_refuse) := goodIn_app (goodIn_of _ (by decide +kernel)) ggX7_blend_X7_refuse
set_option maxRecDepth 20000 in
theorem ggX7_blend_X7_against : GoodIn wsX7_blend wsX7_against := goodIn_r _ [17, 18, 19, 20, 39, 40, 41, 42, 43, 44, 45, 46, 47, 48, 49] (by decide +kernel) (by decide +kernel)
set_option maxRecDepth 20000 in
theorem gX7_blend_X7_against : GoodIn wsX7_blend (wsV RX7 77 RX7 yX7_against wsX7_against) := goodIn_app (goodIn_of _ (by decide +kernel)) ggX7_blend_X7_against
set_option maxRecDepth 20000 in
theorem ggX7_blend_X7_held : GoodIn wsX7_blend wsX7_held := goodIn_r _ [23, 24, 25] (by decide +kernel) (by decide +kernel)
set_option maxRecDepth 20000 in
theorem gX7_blend_X7_held : GoodIn wsX7_blend (va_wsS RX7 51 yX7_held wsX7_held) := goodIn_app (goodIn_of _ (by decide +kernel)) ggX7_blend_X7_held
set_option maxRecDepth 20000 in
theorem ggX7_blend_X7_fill : GoodIn wsX7_blend wsX7_fill := goodIn_r _ [29, 3, 30, 4, 31, 32, 7, 33, 34, 21, 22, 23, 24, 25, 39, 40, 41, 42, 43, 44, 45, 46, 47, 48, 49] (by decide +kernel) (by decide +kernel)
set_option maxRecDepth 20000 in
theorem gX7_blend_X7_fill : GoodIn wsX7_blend (wsV RX7 85 RX7 yX7_fill wsX7_fill) := goodIn_app (goodIn_of _ (by decide +kernel)) ggX7_blend_X7_fill
set_option maxRecDepth 20000 in
theorem ggX7_blend_X7_told : GoodIn wsX7_blend wsX7_told := goodIn_r _ [38, 4, 34, 3, 39, 40, 41, 42, 43, 44, 45, 46, 47, 48, 49] (by decide +kernel) (by decide +kernel)
set_option maxRecDepth 20000 in
theorem gX7_blend_X7_told : GoodIn wsX7_blend (wsV RX7 81 RX7 yX7_told wsX7_told) := goodIn_app (goodIn_of _ (by decide +kernel)) ggX7_blend_X7_told
theorem dX7_blend_0 : decode cX7_blend 0 = .ok (.iload_n 1, 1) := by decide +kernel
theorem dX7_blend_1 : decode cX7_blend 1 = .ok (.invokestatic 55, 3) := by decide +kernel
theorem dX7_blend_4 : decode cX7_blend 4 = .ok (.ifCond .eq 50, 3) := by decide +kernel
theorem dX7_blend_7 : decode cX7_blend 7 = .ok (.iload_n 2, 1) := by decide +kernel
theorem dX7_blend_8 : decode cX7_blend 8 = .ok (.invokestatic 55, 3) := by decide +kernel
theorem dX7_blend_11 : decode cX7_blend 11 = .ok (.ifCond .eq 43, 3) := by decide +kernel
theorem dX7_blend_14 : decode cX7_blend 14 = .ok (.iload 4, 2) := by decide +kernel
theorem dX7_blend_16 : decode cX7_blend 16 = .ok (.invokestatic 55, 3) := by decide +kernel
theorem dX7_blend_19 : decode cX7_blend 19 = .ok (.ifCond .eq 35, 3) := by decide +kernel
theorem dX7_blend_22 : decode cX7_blend 22 = .ok (.iload 5, 2) := by decide +kernel
theorem dX7_blend_24 : decode cX7_blend 24 = .ok (.invokestatic 55, 3) := by decide +kernel
theorem dX7_blend_27 : decode cX7_blend 27 = .ok (.ifCond .eq 27, 3) := by decide +kernel
theorem dX7_blend_30 : decode cX7_blend 30 = .ok (.iload_n 2, 1) := by decide +kernel
theorem dX7_blend_31 : decode cX7_blend 31 = .ok (.iconst 3, 1) := by decide +kernel
theorem dX7_blend_32 : decode cX7_blend 32 = .ok (.if_icmp .ne 7, 3) := by decide +kernel
theorem dX7_blend_35 : decode cX7_blend 35 = .ok (.iconst 1, 1) := by decide +kernel
theorem dX7_blend_36 : decode cX7_blend 36 = .ok (.goto 4, 3) := by decide +kernel
theorem dX7_blend_39 : decode cX7_blend 39 = .ok (.iconst 0, 1) := by decide +kernel
theorem dX7_blend_40 : decode cX7_blend 40 = .ok (.iload 5, 2) := by decide +kernel
theorem dX7_blend_42 : decode cX7_blend 42 = .ok (.iconst 3, 1) := by decide +kernel
theorem dX7_blend_43 : decode cX7_blend 43 = .ok (.if_icmp .ne 7, 3) := by decide +kernel
theorem dX7_blend_46 : decode cX7_blend 46 = .ok (.iconst 1, 1) := by decide +kernel
theorem dX7_blend_47 : decode cX7_blend 47 = .ok (.goto 4, 3) := by decide +kernel
theorem dX7_blend_50 : decode cX7_blend 50 = .ok (.iconst 0, 1) := by decide +kernel
theorem dX7_blend_51 : decode cX7_blend 51 = .ok (.if_icmp .eq 11, 3) := by decide +kernel
theorem dX7_blend_54 : decode cX7_blend 54 = .ok (.aload_n 0, 1) := by decide +kernel
theorem dX7_blend_55 : decode cX7_blend 55 = .ok (.ldc2_w 59, 3) := by decide +kernel
theorem dX7_blend_58 : decode cX7_blend 58 = .ok (.invokevirtual 61, 3) := by decide +kernel
theorem dX7_blend_61 : decode cX7_blend 61 = .ok (.lreturn, 1) := by decide +kernel
theorem dX7_blend_62 : decode cX7_blend 62 = .ok (.aload_n 0, 1) := by decide +kernel
theorem dX7_blend_63 : decode cX7_blend 63 = .ok (.getfield 7, 3) := by decide +kernel
theorem dX7_blend_66 : decode cX7_blend 66 = .ok (.iconst 4, 1) := by decide +kernel
theorem dX7_blend_67 : decode cX7_blend 67 = .ok (.iload 4, 2) := by decide +kernel
theorem dX7_blend_69 : decode cX7_blend 69 = .ok (.imul, 1) := by decide +kernel
theorem dX7_blend_70 : decode cX7_blend 70 = .ok (.iload 5, 2) := by decide +kernel
theorem dX7_blend_72 : decode cX7_blend 72 = .ok (.iadd, 1) := by decide +kernel
theorem dX7_blend_73 : decode cX7_blend 73 = .ok (.iaload, 1) := by decide +kernel
theorem dX7_blend_74 : decode cX7_blend 74 = .ok (.istore 8, 2) := by decide +kernel
theorem dX7_blend_76 : decode cX7_blend 76 = .ok (.aload_n 0, 1) := by decide +kernel
theorem dX7_blend_77 : decode cX7_blend 77 = .ok (.getfield 7, 3) := by decide +kernel
theorem dX7_blend_80 : decode cX7_blend 80 = .ok (.iconst 4, 1) := by decide +kernel
theorem dX7_blend_81 : decode cX7_blend 81 = .ok (.iload_n 1, 1) := by decide +kernel
theorem dX7_blend_82 : decode cX7_blend 82 = .ok (.imul, 1) := by decide +kernel
theorem dX7_blend_83 : decode cX7_blend 83 = .ok (.iload_n 2, 1) := by decide +kernel
theorem dX7_blend_84 : decode cX7_blend 84 = .ok (.iadd, 1) := by decide +kernel
theorem dX7_blend_85 : decode cX7_blend 85 = .ok (.iaload, 1) := by decide +kernel
theorem dX7_blend_86 : decode cX7_blend 86 = .ok (.istore 9, 2) := by decide +kernel
theorem dX7_blend_88 : decode cX7_blend 88 = .ok (.aload_n 0, 1) := by decide +kernel
theorem dX7_blend_89 : decode cX7_blend 89 = .ok (.iload 8, 2) := by decide +kernel
theorem dX7_blend_91 : decode cX7_blend 91 = .ok (.iload 6, 2) := by decide +kernel
theorem dX7_blend_93 : decode cX7_blend 93 = .ok (.invokevirtual 77, 3) := by decide +kernel
theorem dX7_blend_96 : decode cX7_blend 96 = .ok (.lstore 10, 2) := by decide +kernel
theorem dX7_blend_98 : decode cX7_blend 98 = .ok (.lload 10, 2) := by decide +kernel
theorem dX7_blend_100 : decode cX7_blend 100 = .ok (.lconst 0, 1) := by decide +kernel
theorem dX7_blend_101 : decode cX7_blend 101 = .ok (.lcmp, 1) := by decide +kernel
theorem dX7_blend_102 : decode cX7_blend 102 = .ok (.ifCond .eq 8, 3) := by decide +kernel
theorem dX7_blend_105 : decode cX7_blend 105 = .ok (.lload 10, 2) := by decide +kernel
theorem dX7_blend_107 : decode cX7_blend 107 = .ok (.goto 10, 3) := by decide +kernel
theorem dX7_blend_110 : decode cX7_blend 110 = .ok (.aload_n 0, 1) := by decide +kernel
theorem dX7_blend_111 : decode cX7_blend 111 = .ok (.iload 9, 2) := by decide +kernel
theorem dX7_blend_113 : decode cX7_blend 113 = .ok (.iload_n 3, 1) := by decide +kernel
theorem dX7_blend_114 : decode cX7_blend 114 = .ok (.invokevirtual 77, 3) := by decide +kernel
theorem dX7_blend_117 : decode cX7_blend 117 = .ok (.lstore 10, 2) := by decide +kernel
theorem dX7_blend_119 : decode cX7_blend 119 = .ok (.lload 10, 2) := by decide +kernel
theorem dX7_blend_121 : decode cX7_blend 121 = .ok (.lconst 0, 1) := by decide +kernel
theorem dX7_blend_122 : decode cX7_blend 122 = .ok (.lcmp, 1) := by decide +kernel
theorem dX7_blend_123 : decode cX7_blend 123 = .ok (.ifCond .eq 10, 3) := by decide +kernel
theorem dX7_blend_126 : decode cX7_blend 126 = .ok (.aload_n 0, 1) := by decide +kernel
theorem dX7_blend_127 : decode cX7_blend 127 = .ok (.lload 10, 2) := by decide +kernel
theorem dX7_blend_129 : decode cX7_blend 129 = .ok (.invokevirtual 61, 3) := by decide +kernel
theorem dX7_blend_132 : decode cX7_blend 132 = .ok (.lreturn, 1) := by decide +kernel
theorem dX7_blend_133 : decode cX7_blend 133 = .ok (.bipush 40, 2) := by decide +kernel
theorem dX7_blend_135 : decode cX7_blend 135 = .ok (.iload 9, 2) := by decide +kernel
theorem dX7_blend_137 : decode cX7_blend 137 = .ok (.imul, 1) := by decide +kernel
theorem dX7_blend_138 : decode cX7_blend 138 = .ok (.iload_n 3, 1) := by decide +kernel
theorem dX7_blend_139 : decode cX7_blend 139 = .ok (.iadd, 1) := by decide +kernel
theorem dX7_blend_140 : decode cX7_blend 140 = .ok (.istore 12, 2) := by decide +kernel
theorem dX7_blend_142 : decode cX7_blend 142 = .ok (.bipush 40, 2) := by decide +kernel
theorem dX7_blend_144 : decode cX7_blend 144 = .ok (.iload 8, 2) := by decide +kernel
theorem dX7_blend_146 : decode cX7_blend 146 = .ok (.imul, 1) := by decide +kernel
theorem dX7_blend_147 : decode cX7_blend 147 = .ok (.iload 6, 2) := by decide +kernel
theorem dX7_blend_149 : decode cX7_blend 149 = .ok (.iadd, 1) := by decide +kernel
theorem dX7_blend_150 : decode cX7_blend 150 = .ok (.istore 13, 2) := by decide +kernel
theorem dX7_blend_152 : decode cX7_blend 152 = .ok (.iload_n 2, 1) := by decide +kernel
theorem dX7_blend_153 : decode cX7_blend 153 = .ok (.iconst 3, 1) := by decide +kernel
theorem dX7_blend_154 : decode cX7_blend 154 = .ok (.if_icmp .ne 28, 3) := by decide +kernel
theorem dX7_blend_157 : decode cX7_blend 157 = .ok (.aload_n 0, 1) := by decide +kernel
theorem dX7_blend_158 : decode cX7_blend 158 = .ok (.getfield 22, 3) := by decide +kernel
theorem dX7_blend_161 : decode cX7_blend 161 = .ok (.iload 12, 2) := by decide +kernel
theorem dX7_blend_163 : decode cX7_blend 163 = .ok (.aload_n 0, 1) := by decide +kernel
theorem dX7_blend_164 : decode cX7_blend 164 = .ok (.getfield 22, 3) := by decide +kernel
theorem dX7_blend_167 : decode cX7_blend 167 = .ok (.iload 12, 2) := by decide +kernel
theorem dX7_blend_169 : decode cX7_blend 169 = .ok (.iaload, 1) := by decide +kernel
theorem dX7_blend_170 : decode cX7_blend 170 = .ok (.aload_n 0, 1) := by decide +kernel
theorem dX7_blend_171 : decode cX7_blend 171 = .ok (.getfield 22, 3) := by decide +kernel
theorem dX7_blend_174 : decode cX7_blend 174 = .ok (.iload 13, 2) := by decide +kernel
theorem dX7_blend_176 : decode cX7_blend 176 = .ok (.iaload, 1) := by decide +kernel
theorem dX7_blend_177 : decode cX7_blend 177 = .ok (.ixor, 1) := by decide +kernel
theorem dX7_blend_178 : decode cX7_blend 178 = .ok (.iastore, 1) := by decide +kernel
theorem dX7_blend_179 : decode cX7_blend 179 = .ok (.goto 165, 3) := by decide +kernel
theorem dX7_blend_182 : decode cX7_blend 182 = .ok (.iload_n 2, 1) := by decide +kernel
theorem dX7_blend_183 : decode cX7_blend 183 = .ok (.iconst 2, 1) := by decide +kernel
theorem dX7_blend_184 : decode cX7_blend 184 = .ok (.if_icmp .eq 9, 3) := by decide +kernel
theorem dX7_blend_187 : decode cX7_blend 187 = .ok (.iload 5, 2) := by decide +kernel
theorem dX7_blend_189 : decode cX7_blend 189 = .ok (.iconst 2, 1) := by decide +kernel
theorem dX7_blend_190 : decode cX7_blend 190 = .ok (.if_icmp .ne 108, 3) := by decide +kernel
theorem dX7_blend_193 : decode cX7_blend 193 = .ok (.iload_n 2, 1) := by decide +kernel
theorem dX7_blend_194 : decode cX7_blend 194 = .ok (.iconst 2, 1) := by decide +kernel
theorem dX7_blend_195 : decode cX7_blend 195 = .ok (.if_icmp .ne 13, 3) := by decide +kernel
theorem dX7_blend_198 : decode cX7_blend 198 = .ok (.aload_n 0, 1) := by decide +kernel
theorem dX7_blend_199 : decode cX7_blend 199 = .ok (.getfield 25, 3) := by decide +kernel
theorem dX7_blend_202 : decode cX7_blend 202 = .ok (.iload 12, 2) := by decide +kernel
theorem dX7_blend_204 : decode cX7_blend 204 = .ok (.faload, 1) := by decide +kernel
theorem dX7_blend_205 : decode cX7_blend 205 = .ok (.goto 11, 3) := by decide +kernel
theorem dX7_blend_208 : decode cX7_blend 208 = .ok (.aload_n 0, 1) := by decide +kernel
theorem dX7_blend_209 : decode cX7_blend 209 = .ok (.getfield 22, 3) := by decide +kernel
theorem dX7_blend_212 : decode cX7_blend 212 = .ok (.iload 12, 2) := by decide +kernel
theorem dX7_blend_214 : decode cX7_blend 214 = .ok (.iaload, 1) := by decide +kernel
theorem dX7_blend_215 : decode cX7_blend 215 = .ok (.i2f, 1) := by decide +kernel
theorem dX7_blend_216 : decode cX7_blend 216 = .ok (.fstore 14, 2) := by decide +kernel
theorem dX7_blend_218 : decode cX7_blend 218 = .ok (.iload 5, 2) := by decide +kernel
theorem dX7_blend_220 : decode cX7_blend 220 = .ok (.iconst 2, 1) := by decide +kernel
theorem dX7_blend_221 : decode cX7_blend 221 = .ok (.if_icmp .ne 13, 3) := by decide +kernel
theorem dX7_blend_224 : decode cX7_blend 224 = .ok (.aload_n 0, 1) := by decide +kernel
theorem dX7_blend_225 : decode cX7_blend 225 = .ok (.getfield 25, 3) := by decide +kernel
theorem dX7_blend_228 : decode cX7_blend 228 = .ok (.iload 13, 2) := by decide +kernel
theorem dX7_blend_230 : decode cX7_blend 230 = .ok (.faload, 1) := by decide +kernel
theorem dX7_blend_231 : decode cX7_blend 231 = .ok (.goto 11, 3) := by decide +kernel
theorem dX7_blend_234 : decode cX7_blend 234 = .ok (.aload_n 0, 1) := by decide +kernel
theorem dX7_blend_235 : decode cX7_blend 235 = .ok (.getfield 22, 3) := by decide +kernel
theorem dX7_blend_238 : decode cX7_blend 238 = .ok (.iload 13, 2) := by decide +kernel
theorem dX7_blend_240 : decode cX7_blend 240 = .ok (.iaload, 1) := by decide +kernel
theorem dX7_blend_241 : decode cX7_blend 241 = .ok (.i2f, 1) := by decide +kernel
theorem dX7_blend_242 : decode cX7_blend 242 = .ok (.fstore 15, 2) := by decide +kernel
theorem dX7_blend_244 : decode cX7_blend 244 = .ok (.iload 7, 2) := by decide +kernel
theorem dX7_blend_246 : decode cX7_blend 246 = .ok (.ifCond .eq 11, 3) := by decide +kernel
theorem dX7_blend_249 : decode cX7_blend 249 = .ok (.fload 14, 2) := by decide +kernel
theorem dX7_blend_251 : decode cX7_blend 251 = .ok (.fload 15, 2) := by decide +kernel
theorem dX7_blend_253 : decode cX7_blend 253 = .ok (.fsub, 1) := by decide +kernel
theorem dX7_blend_254 : decode cX7_blend 254 = .ok (.goto 8, 3) := by decide +kernel
theorem dX7_blend_257 : decode cX7_blend 257 = .ok (.fload 14, 2) := by decide +kernel
theorem dX7_blend_259 : decode cX7_blend 259 = .ok (.fload 15, 2) := by decide +kernel
theorem dX7_blend_261 : decode cX7_blend 261 = .ok (.fadd, 1) := by decide +kernel
theorem dX7_blend_262 : decode cX7_blend 262 = .ok (.fstore 16, 2) := by decide +kernel
theorem dX7_blend_264 : decode cX7_blend 264 = .ok (.iload_n 2, 1) := by decide +kernel
theorem dX7_blend_265 : decode cX7_blend 265 = .ok (.iconst 2, 1) := by decide +kernel
theorem dX7_blend_266 : decode cX7_blend 266 = .ok (.if_icmp .ne 18, 3) := by decide +kernel
theorem dX7_blend_269 : decode cX7_blend 269 = .ok (.aload_n 0, 1) := by decide +kernel
theorem dX7_blend_270 : decode cX7_blend 270 = .ok (.getfield 25, 3) := by decide +kernel
theorem dX7_blend_273 : decode cX7_blend 273 = .ok (.iload 12, 2) := by decide +kernel
theorem dX7_blend_275 : decode cX7_blend 275 = .ok (.fload 16, 2) := by decide +kernel
theorem dX7_blend_277 : decode cX7_blend 277 = .ok (.invokestatic 51, 3) := by decide +kernel
theorem dX7_blend_280 : decode cX7_blend 280 = .ok (.fastore, 1) := by decide +kernel
theorem dX7_blend_281 : decode cX7_blend 281 = .ok (.goto 14, 3) := by decide +kernel
theorem dX7_blend_284 : decode cX7_blend 284 = .ok (.aload_n 0, 1) := by decide +kernel
theorem dX7_blend_285 : decode cX7_blend 285 = .ok (.iload_n 2, 1) := by decide +kernel
theorem dX7_blend_286 : decode cX7_blend 286 = .ok (.iload 9, 2) := by decide +kernel
theorem dX7_blend_288 : decode cX7_blend 288 = .ok (.iload_n 3, 1) := by decide +kernel
theorem dX7_blend_289 : decode cX7_blend 289 = .ok (.fload 16, 2) := by decide +kernel
theorem dX7_blend_291 : decode cX7_blend 291 = .ok (.f2i, 1) := by decide +kernel
theorem dX7_blend_292 : decode cX7_blend 292 = .ok (.invokevirtual 85, 3) := by decide +kernel
theorem dX7_blend_295 : decode cX7_blend 295 = .ok (.goto 49, 3) := by decide +kernel
theorem dX7_blend_298 : decode cX7_blend 298 = .ok (.aload_n 0, 1) := by decide +kernel
theorem dX7_blend_299 : decode cX7_blend 299 = .ok (.iload_n 2, 1) := by decide +kernel
theorem dX7_blend_300 : decode cX7_blend 300 = .ok (.iload 9, 2) := by decide +kernel
theorem dX7_blend_302 : decode cX7_blend 302 = .ok (.iload_n 3, 1) := by decide +kernel
theorem dX7_blend_303 : decode cX7_blend 303 = .ok (.iload 7, 2) := by decide +kernel
theorem dX7_blend_305 : decode cX7_blend 305 = .ok (.ifCond .eq 21, 3) := by decide +kernel
theorem dX7_blend_308 : decode cX7_blend 308 = .ok (.aload_n 0, 1) := by decide +kernel
theorem dX7_blend_309 : decode cX7_blend 309 = .ok (.getfield 22, 3) := by decide +kernel
theorem dX7_blend_312 : decode cX7_blend 312 = .ok (.iload 12, 2) := by decide +kernel
theorem dX7_blend_314 : decode cX7_blend 314 = .ok (.iaload, 1) := by decide +kernel
theorem dX7_blend_315 : decode cX7_blend 315 = .ok (.aload_n 0, 1) := by decide +kernel
theorem dX7_blend_316 : decode cX7_blend 316 = .ok (.getfield 22, 3) := by decide +kernel
theorem dX7_blend_319 : decode cX7_blend 319 = .ok (.iload 13, 2) := by decide +kernel
theorem dX7_blend_321 : decode cX7_blend 321 = .ok (.iaload, 1) := by decide +kernel
theorem dX7_blend_322 : decode cX7_blend 322 = .ok (.isub, 1) := by decide +kernel
theorem dX7_blend_323 : decode cX7_blend 323 = .ok (.goto 18, 3) := by decide +kernel
theorem dX7_blend_326 : decode cX7_blend 326 = .ok (.aload_n 0, 1) := by decide +kernel
theorem dX7_blend_327 : decode cX7_blend 327 = .ok (.getfield 22, 3) := by decide +kernel
theorem dX7_blend_330 : decode cX7_blend 330 = .ok (.iload 12, 2) := by decide +kernel
theorem dX7_blend_332 : decode cX7_blend 332 = .ok (.iaload, 1) := by decide +kernel
theorem dX7_blend_333 : decode cX7_blend 333 = .ok (.aload_n 0, 1) := by decide +kernel
theorem dX7_blend_334 : decode cX7_blend 334 = .ok (.getfield 22, 3) := by decide +kernel
theorem dX7_blend_337 : decode cX7_blend 337 = .ok (.iload 13, 2) := by decide +kernel
theorem dX7_blend_339 : decode cX7_blend 339 = .ok (.iaload, 1) := by decide +kernel
theorem dX7_blend_340 : decode cX7_blend 340 = .ok (.iadd, 1) := by decide +kernel
theorem dX7_blend_341 : decode cX7_blend 341 = .ok (.invokevirtual 85, 3) := by decide +kernel
theorem dX7_blend_344 : decode cX7_blend 344 = .ok (.aload_n 0, 1) := by decide +kernel
theorem dX7_blend_345 : decode cX7_blend 345 = .ok (.iload_n 2, 1) := by decide +kernel
theorem dX7_blend_346 : decode cX7_blend 346 = .ok (.iload 9, 2) := by decide +kernel
theorem dX7_blend_348 : decode cX7_blend 348 = .ok (.iload_n 3, 1) := by decide +kernel
theorem dX7_blend_349 : decode cX7_blend 349 = .ok (.invokevirtual 81, 3) := by decide +kernel
theorem dX7_blend_352 : decode cX7_blend 352 = .ok (.lreturn, 1) := by decide +kernel
set_option maxRecDepth 20000 in
theorem ggX7_hang_X7_isFour : GoodIn wsX7_hang wsX7_isFour := goodIn_r _ [9] (by decide +kernel) (by decide +kernel)
set_option maxRecDepth 20000 in
theorem gX7_hang_X7_isFour : GoodIn wsX7_hang (va_wsS RX7 55 yX7_isFour wsX7_isFour) := goodIn_app (goodIn_of _ (by decide +kernel)) ggX7_hang_X7_isFour
set_option maxRecDepth 20000 in
theorem ggX7_hang_X7_refuse : GoodIn wsX7_hang wsX7_refuse := goodIn_r _ [13, 14, 24, 25, 26, 27, 28, 29, 30, 31, 32, 33, 34] (by decide +kernel) (by decide +kernel)
set_option maxRecDepth 20000 in
theorem gX7_hang_X7_refuse : GoodIn wsX7_hang (wsV RX7 61 RX7 yX7_refuse wsX7_refuse) := goodIn_app (goodIn_of _ (by decide +kernel)) ggX7_hang_X7_refuse
set_option maxRecDepth 20000 in
theorem ggX7_hang_X7_reel : GoodIn wsX7_hang wsX7_reel := goodIn_r _ [18, 19, 20, 4, 21, 22, 23, 24, 25, 26, 27, 28, 29, 30, 31, 32, 33, 34] (by decide +kernel) (by decide +kernel)
set_option maxRecDepth 20000 in
theorem gX7_hang_X7_reel : GoodIn wsX7_hang (wsV RX7 69 RX7 yX7_reel wsX7_reel) := goodIn_app (goodIn_of _ (by decide +kernel)) ggX7_hang_X7_reel
theorem dX7_hang_0 : decode cX7_hang 0 = .ok (.iload_n 1, 1) := by decide +kernel
theorem dX7_hang_1 : decode cX7_hang 1 = .ok (.invokestatic 55, 3) := by decide +kernel
theorem dX7_hang_4 : decode cX7_hang 4 = .ok (.ifCond .ne 11, 3) := by decide +kernel
theorem dX7_hang_7 : decode cX7_hang 7 = .ok (.aload_n 0, 1) := by decide +kernel
theorem dX7_hang_8 : decode cX7_hang 8 = .ok (.ldc2_w 59, 3) := by decide +kernel
theorem dX7_hang_11 : decode cX7_hang 11 = .ok (.invokevirtual 61, 3) := by decide +kernel
theorem dX7_hang_14 : decode cX7_hang 14 = .ok (.lreturn, 1) := by decide +kernel
theorem dX7_hang_15 : decode cX7_hang 15 = .ok (.iload_n 2, 1) := by decide +kernel
theorem dX7_hang_16 : decode cX7_hang 16 = .ok (.bipush 12, 2) := by decide +kernel
theorem dX7_hang_18 : decode cX7_hang 18 = .ok (.if_icmp .gt 9, 3) := by decide +kernel
theorem dX7_hang_21 : decode cX7_hang 21 = .ok (.iload_n 3, 1) := by decide +kernel
theorem dX7_hang_22 : decode cX7_hang 22 = .ok (.bipush 12, 2) := by decide +kernel
theorem dX7_hang_24 : decode cX7_hang 24 = .ok (.if_icmp .le 11, 3) := by decide +kernel
theorem dX7_hang_27 : decode cX7_hang 27 = .ok (.aload_n 0, 1) := by decide +kernel
theorem dX7_hang_28 : decode cX7_hang 28 = .ok (.ldc2_w 65, 3) := by decide +kernel
theorem dX7_hang_31 : decode cX7_hang 31 = .ok (.invokevirtual 61, 3) := by decide +kernel
theorem dX7_hang_34 : decode cX7_hang 34 = .ok (.lreturn, 1) := by decide +kernel
theorem dX7_hang_35 : decode cX7_hang 35 = .ok (.iload_n 2, 1) := by decide +kernel
theorem dX7_hang_36 : decode cX7_hang 36 = .ok (.ifCond .lt 7, 3) := by decide +kernel
theorem dX7_hang_39 : decode cX7_hang 39 = .ok (.iload_n 3, 1) := by decide +kernel
theorem dX7_hang_40 : decode cX7_hang 40 = .ok (.ifCond .ge 11, 3) := by decide +kernel
theorem dX7_hang_43 : decode cX7_hang 43 = .ok (.aload_n 0, 1) := by decide +kernel
theorem dX7_hang_44 : decode cX7_hang 44 = .ok (.ldc2_w 67, 3) := by decide +kernel
theorem dX7_hang_47 : decode cX7_hang 47 = .ok (.invokevirtual 61, 3) := by decide +kernel
theorem dX7_hang_50 : decode cX7_hang 50 = .ok (.lreturn, 1) := by decide +kernel
theorem dX7_hang_51 : decode cX7_hang 51 = .ok (.iconst 0, 1) := by decide +kernel
theorem dX7_hang_52 : decode cX7_hang 52 = .ok (.istore 4, 2) := by decide +kernel
theorem dX7_hang_54 : decode cX7_hang 54 = .ok (.iload 4, 2) := by decide +kernel
theorem dX7_hang_56 : decode cX7_hang 56 = .ok (.bipush 12, 2) := by decide +kernel
theorem dX7_hang_58 : decode cX7_hang 58 = .ok (.if_icmp .ge 22, 3) := by decide +kernel
theorem dX7_hang_61 : decode cX7_hang 61 = .ok (.aload_n 0, 1) := by decide +kernel
theorem dX7_hang_62 : decode cX7_hang 62 = .ok (.getfield 16, 3) := by decide +kernel
theorem dX7_hang_65 : decode cX7_hang 65 = .ok (.bipush 12, 2) := by decide +kernel
theorem dX7_hang_67 : decode cX7_hang 67 = .ok (.iload_n 1, 1) := by decide +kernel
theorem dX7_hang_68 : decode cX7_hang 68 = .ok (.imul, 1) := by decide +kernel
theorem dX7_hang_69 : decode cX7_hang 69 = .ok (.iload 4, 2) := by decide +kernel
theorem dX7_hang_71 : decode cX7_hang 71 = .ok (.iadd, 1) := by decide +kernel
theorem dX7_hang_72 : decode cX7_hang 72 = .ok (.iconst (-1), 1) := by decide +kernel
theorem dX7_hang_73 : decode cX7_hang 73 = .ok (.iastore, 1) := by decide +kernel
theorem dX7_hang_74 : decode cX7_hang 74 = .ok (.iinc 4 1, 3) := by decide +kernel
theorem dX7_hang_77 : decode cX7_hang 77 = .ok (.goto (-23), 3) := by decide +kernel
theorem dX7_hang_80 : decode cX7_hang 80 = .ok (.aload_n 0, 1) := by decide +kernel
theorem dX7_hang_81 : decode cX7_hang 81 = .ok (.getfield 13, 3) := by decide +kernel
theorem dX7_hang_84 : decode cX7_hang 84 = .ok (.iload_n 1, 1) := by decide +kernel
theorem dX7_hang_85 : decode cX7_hang 85 = .ok (.iload_n 2, 1) := by decide +kernel
theorem dX7_hang_86 : decode cX7_hang 86 = .ok (.iastore, 1) := by decide +kernel
theorem dX7_hang_87 : decode cX7_hang 87 = .ok (.iconst 0, 1) := by decide +kernel
theorem dX7_hang_88 : decode cX7_hang 88 = .ok (.istore 4, 2) := by decide +kernel
theorem dX7_hang_90 : decode cX7_hang 90 = .ok (.iload 4, 2) := by decide +kernel
theorem dX7_hang_92 : decode cX7_hang 92 = .ok (.iload_n 2, 1) := by decide +kernel
theorem dX7_hang_93 : decode cX7_hang 93 = .ok (.if_icmp .ge 26, 3) := by decide +kernel
theorem dX7_hang_96 : decode cX7_hang 96 = .ok (.aload_n 0, 1) := by decide +kernel
theorem dX7_hang_97 : decode cX7_hang 97 = .ok (.getfield 16, 3) := by decide +kernel
theorem dX7_hang_100 : decode cX7_hang 100 = .ok (.bipush 12, 2) := by decide +kernel
theorem dX7_hang_102 : decode cX7_hang 102 = .ok (.iload_n 1, 1) := by decide +kernel
theorem dX7_hang_103 : decode cX7_hang 103 = .ok (.imul, 1) := by decide +kernel
theorem dX7_hang_104 : decode cX7_hang 104 = .ok (.iload 4, 2) := by decide +kernel
theorem dX7_hang_106 : decode cX7_hang 106 = .ok (.iadd, 1) := by decide +kernel
theorem dX7_hang_107 : decode cX7_hang 107 = .ok (.aload_n 0, 1) := by decide +kernel
theorem dX7_hang_108 : decode cX7_hang 108 = .ok (.iload_n 3, 1) := by decide +kernel
theorem dX7_hang_109 : decode cX7_hang 109 = .ok (.invokevirtual 69, 3) := by decide +kernel
theorem dX7_hang_112 : decode cX7_hang 112 = .ok (.iastore, 1) := by decide +kernel
theorem dX7_hang_113 : decode cX7_hang 113 = .ok (.iinc 4 1, 3) := by decide +kernel
theorem dX7_hang_116 : decode cX7_hang 116 = .ok (.goto (-26), 3) := by decide +kernel
theorem dX7_hang_119 : decode cX7_hang 119 = .ok (.iload_n 2, 1) := by decide +kernel
theorem dX7_hang_120 : decode cX7_hang 120 = .ok (.i2l, 1) := by decide +kernel
theorem dX7_hang_121 : decode cX7_hang 121 = .ok (.lreturn, 1) := by decide +kernel
theorem dX7_againstRow_0 : decode cX7_againstRow 0 = .ok (.aload_n 0, 1) := by decide +kernel
theorem dX7_againstRow_1 : decode cX7_againstRow 1 = .ok (.getfield 13, 3) := by decide +kernel
theorem dX7_againstRow_4 : decode cX7_againstRow 4 = .ok (.iload_n 1, 1) := by decide +kernel
theorem dX7_againstRow_5 : decode cX7_againstRow 5 = .ok (.iaload, 1) := by decide +kernel
theorem dX7_againstRow_6 : decode cX7_againstRow 6 = .ok (.iconst (-1), 1) := by decide +kernel
theorem dX7_againstRow_7 : decode cX7_againstRow 7 = .ok (.if_icmp .ne 9, 3) := by decide +kernel
theorem dX7_againstRow_10 : decode cX7_againstRow 10 = .ok (.ldc2_w 73, 3) := by decide +kernel
theorem dX7_againstRow_13 : decode cX7_againstRow 13 = .ok (.goto 24, 3) := by decide +kernel
theorem dX7_againstRow_16 : decode cX7_againstRow 16 = .ok (.iload_n 2, 1) := by decide +kernel
theorem dX7_againstRow_17 : decode cX7_againstRow 17 = .ok (.ifCond .lt 13, 3) := by decide +kernel
theorem dX7_againstRow_20 : decode cX7_againstRow 20 = .ok (.iload_n 2, 1) := by decide +kernel
theorem dX7_againstRow_21 : decode cX7_againstRow 21 = .ok (.aload_n 0, 1) := by decide +kernel
theorem dX7_againstRow_22 : decode cX7_againstRow 22 = .ok (.getfield 13, 3) := by decide +kernel
theorem dX7_againstRow_25 : decode cX7_againstRow 25 = .ok (.iload_n 1, 1) := by decide +kernel
theorem dX7_againstRow_26 : decode cX7_againstRow 26 = .ok (.iaload, 1) := by decide +kernel
theorem dX7_againstRow_27 : decode cX7_againstRow 27 = .ok (.if_icmp .lt 9, 3) := by decide +kernel
theorem dX7_againstRow_30 : decode cX7_againstRow 30 = .ok (.ldc2_w 75, 3) := by decide +kernel
theorem dX7_againstRow_33 : decode cX7_againstRow 33 = .ok (.goto 4, 3) := by decide +kernel
theorem dX7_againstRow_36 : decode cX7_againstRow 36 = .ok (.lconst 0, 1) := by decide +kernel
theorem dX7_againstRow_37 : decode cX7_againstRow 37 = .ok (.lreturn, 1) := by decide +kernel
set_option maxRecDepth 20000 in
theorem ggX7_pin_X7_isFour : GoodIn wsX7_pin wsX7_isFour := goodIn_r _ [7] (by decide +kernel) (by decide +kernel)
set_option maxRecDepth 20000 in
theorem gX7_pin_X7_isFour : GoodIn wsX7_pin (va_wsS RX7 55 yX7_isFour wsX7_isFour) := goodIn_app (goodIn_of _ (by decide +kernel)) ggX7_pin_X7_isFour
set_option maxRecDepth 20000 in
theorem ggX7_pin_X7_refuse : GoodIn wsX7_pin wsX7_refuse := goodIn_r _ [11, 12, 20, 21, 22, 23, 24, 25, 26, 27, 28, 29, 30] (by decide +kernel) (by decide +kernel)
set_option maxRecDepth 20000 in
theorem gX7_pin_X7_refuse : GoodIn wsX7_pin (wsV RX7 61 RX7 yX7_refuse wsX7_refuse) := goodIn_app (goodIn_of _ (by decide +kernel)) ggX7_pin_X7_refuse
set_option maxRecDepth 20000 in
theorem ggX7_pin_X7_againstRow : GoodIn wsX7_pin wsX7_againstRow := goodIn_r _ [16, 17, 18, 19, 20, 21, 22, 23, 24, 25, 26, 27, 28, 29, 30] (by decide +kernel) (by decide +kernel)
set_option maxRecDepth 20000 in
theorem gX7_pin_X7_againstRow : GoodIn wsX7_pin (wsV RX7 95 RX7 yX7_againstRow wsX7_againstRow) := goodIn_app (goodIn_of _ (by decide +kernel)) ggX7_pin_X7_againstRow
theorem dX7_pin_0 : decode cX7_pin 0 = .ok (.iload_n 1, 1) := by decide +kernel
theorem dX7_pin_1 : decode cX7_pin 1 = .ok (.invokestatic 55, 3) := by decide +kernel
theorem dX7_pin_4 : decode cX7_pin 4 = .ok (.ifCond .eq 10, 3) := by decide +kernel
theorem dX7_pin_7 : decode cX7_pin 7 = .ok (.iload_n 3, 1) := by decide +kernel
theorem dX7_pin_8 : decode cX7_pin 8 = .ok (.invokestatic 55, 3) := by decide +kernel
theorem dX7_pin_11 : decode cX7_pin 11 = .ok (.ifCond .ne 11, 3) := by decide +kernel
theorem dX7_pin_14 : decode cX7_pin 14 = .ok (.aload_n 0, 1) := by decide +kernel
theorem dX7_pin_15 : decode cX7_pin 15 = .ok (.ldc2_w 59, 3) := by decide +kernel
theorem dX7_pin_18 : decode cX7_pin 18 = .ok (.invokevirtual 61, 3) := by decide +kernel
theorem dX7_pin_21 : decode cX7_pin 21 = .ok (.lreturn, 1) := by decide +kernel
theorem dX7_pin_22 : decode cX7_pin 22 = .ok (.aload_n 0, 1) := by decide +kernel
theorem dX7_pin_23 : decode cX7_pin 23 = .ok (.iload_n 1, 1) := by decide +kernel
theorem dX7_pin_24 : decode cX7_pin 24 = .ok (.iload_n 2, 1) := by decide +kernel
theorem dX7_pin_25 : decode cX7_pin 25 = .ok (.invokevirtual 95, 3) := by decide +kernel
theorem dX7_pin_28 : decode cX7_pin 28 = .ok (.lstore 4, 2) := by decide +kernel
theorem dX7_pin_30 : decode cX7_pin 30 = .ok (.lload 4, 2) := by decide +kernel
theorem dX7_pin_32 : decode cX7_pin 32 = .ok (.lconst 0, 1) := by decide +kernel
theorem dX7_pin_33 : decode cX7_pin 33 = .ok (.lcmp, 1) := by decide +kernel
theorem dX7_pin_34 : decode cX7_pin 34 = .ok (.ifCond .eq 10, 3) := by decide +kernel
theorem dX7_pin_37 : decode cX7_pin 37 = .ok (.aload_n 0, 1) := by decide +kernel
theorem dX7_pin_38 : decode cX7_pin 38 = .ok (.lload 4, 2) := by decide +kernel
theorem dX7_pin_40 : decode cX7_pin 40 = .ok (.invokevirtual 61, 3) := by decide +kernel
theorem dX7_pin_43 : decode cX7_pin 43 = .ok (.lreturn, 1) := by decide +kernel
theorem dX7_pin_44 : decode cX7_pin 44 = .ok (.aload_n 0, 1) := by decide +kernel
theorem dX7_pin_45 : decode cX7_pin 45 = .ok (.getfield 16, 3) := by decide +kernel
theorem dX7_pin_48 : decode cX7_pin 48 = .ok (.bipush 12, 2) := by decide +kernel
theorem dX7_pin_50 : decode cX7_pin 50 = .ok (.iload_n 1, 1) := by decide +kernel
theorem dX7_pin_51 : decode cX7_pin 51 = .ok (.imul, 1) := by decide +kernel
theorem dX7_pin_52 : decode cX7_pin 52 = .ok (.iload_n 2, 1) := by decide +kernel
theorem dX7_pin_53 : decode cX7_pin 53 = .ok (.iadd, 1) := by decide +kernel
theorem dX7_pin_54 : decode cX7_pin 54 = .ok (.aload_n 0, 1) := by decide +kernel
theorem dX7_pin_55 : decode cX7_pin 55 = .ok (.getfield 7, 3) := by decide +kernel
theorem dX7_pin_58 : decode cX7_pin 58 = .ok (.iconst 4, 1) := by decide +kernel
theorem dX7_pin_59 : decode cX7_pin 59 = .ok (.iload_n 3, 1) := by decide +kernel
theorem dX7_pin_60 : decode cX7_pin 60 = .ok (.imul, 1) := by decide +kernel
theorem dX7_pin_61 : decode cX7_pin 61 = .ok (.iload_n 1, 1) := by decide +kernel
theorem dX7_pin_62 : decode cX7_pin 62 = .ok (.iadd, 1) := by decide +kernel
theorem dX7_pin_63 : decode cX7_pin 63 = .ok (.iaload, 1) := by decide +kernel
theorem dX7_pin_64 : decode cX7_pin 64 = .ok (.iastore, 1) := by decide +kernel
theorem dX7_pin_65 : decode cX7_pin 65 = .ok (.aload_n 0, 1) := by decide +kernel
theorem dX7_pin_66 : decode cX7_pin 66 = .ok (.getfield 16, 3) := by decide +kernel
theorem dX7_pin_69 : decode cX7_pin 69 = .ok (.bipush 12, 2) := by decide +kernel
theorem dX7_pin_71 : decode cX7_pin 71 = .ok (.iload_n 1, 1) := by decide +kernel
theorem dX7_pin_72 : decode cX7_pin 72 = .ok (.imul, 1) := by decide +kernel
theorem dX7_pin_73 : decode cX7_pin 73 = .ok (.iload_n 2, 1) := by decide +kernel
theorem dX7_pin_74 : decode cX7_pin 74 = .ok (.iadd, 1) := by decide +kernel
theorem dX7_pin_75 : decode cX7_pin 75 = .ok (.iaload, 1) := by decide +kernel
theorem dX7_pin_76 : decode cX7_pin 76 = .ok (.iconst (-1), 1) := by decide +kernel
theorem dX7_pin_77 : decode cX7_pin 77 = .ok (.if_icmp .ne 7, 3) := by decide +kernel
theorem dX7_pin_80 : decode cX7_pin 80 = .ok (.lconst 0, 1) := by decide +kernel
theorem dX7_pin_81 : decode cX7_pin 81 = .ok (.goto 4, 3) := by decide +kernel
theorem dX7_pin_84 : decode cX7_pin 84 = .ok (.lconst 1, 1) := by decide +kernel
theorem dX7_pin_85 : decode cX7_pin 85 = .ok (.lreturn, 1) := by decide +kernel
set_option maxRecDepth 20000 in
theorem ggX7_peel_X7_isFour : GoodIn wsX7_peel wsX7_isFour := goodIn_r _ [7] (by decide +kernel) (by decide +kernel)
set_option maxRecDepth 20000 in
theorem gX7_peel_X7_isFour : GoodIn wsX7_peel (va_wsS RX7 55 yX7_isFour wsX7_isFour) := goodIn_app (goodIn_of _ (by decide +kernel)) ggX7_peel_X7_isFour
set_option maxRecDepth 20000 in
theorem ggX7_peel_X7_refuse : GoodIn wsX7_peel wsX7_refuse := goodIn_r _ [11, 12, 20, 21, 22, 23, 24, 25, 26, 27, 28, 29, 30] (by decide +kernel) (by decide +kernel)
set_option maxRecDepth 20000 in
theorem gX7_peel_X7_refuse : GoodIn wsX7_peel (wsV RX7 61 RX7 yX7_refuse wsX7_refuse) := goodIn_app (goodIn_of _ (by decide +kernel)) ggX7_peel_X7_refuse
set_option maxRecDepth 20000 in
theorem ggX7_peel_X7_againstRow : GoodIn wsX7_peel wsX7_againstRow := goodIn_r _ [16, 17, 18, 19, 20, 21, 22, 23, 24, 25, 26, 27, 28, 29, 30] (by decide +kernel) (by decide +kernel)
set_option maxRecDepth 20000 in
theorem gX7_peel_X7_againstRow : GoodIn wsX7_peel (wsV RX7 95 RX7 yX7_againstRow wsX7_againstRow) := goodIn_app (goodIn_of _ (by decide +kernel)) ggX7_peel_X7_againstRow
theorem dX7_peel_0 : decode cX7_peel 0 = .ok (.iload_n 1, 1) := by decide +kernel
theorem dX7_peel_1 : decode cX7_peel 1 = .ok (.invokestatic 55, 3) := by decide +kernel
theorem dX7_peel_4 : decode cX7_peel 4 = .ok (.ifCond .eq 10, 3) := by decide +kernel
theorem dX7_peel_7 : decode cX7_peel 7 = .ok (.iload_n 3, 1) := by decide +kernel
theorem dX7_peel_8 : decode cX7_peel 8 = .ok (.invokestatic 55, 3) := by decide +kernel
theorem dX7_peel_11 : decode cX7_peel 11 = .ok (.ifCond .ne 11, 3) := by decide +kernel
theorem dX7_peel_14 : decode cX7_peel 14 = .ok (.aload_n 0, 1) := by decide +kernel
theorem dX7_peel_15 : decode cX7_peel 15 = .ok (.ldc2_w 59, 3) := by decide +kernel
theorem dX7_peel_18 : decode cX7_peel 18 = .ok (.invokevirtual 61, 3) := by decide +kernel
theorem dX7_peel_21 : decode cX7_peel 21 = .ok (.lreturn, 1) := by decide +kernel
theorem dX7_peel_22 : decode cX7_peel 22 = .ok (.aload_n 0, 1) := by decide +kernel
theorem dX7_peel_23 : decode cX7_peel 23 = .ok (.iload_n 1, 1) := by decide +kernel
theorem dX7_peel_24 : decode cX7_peel 24 = .ok (.iload_n 2, 1) := by decide +kernel
theorem dX7_peel_25 : decode cX7_peel 25 = .ok (.invokevirtual 95, 3) := by decide +kernel
theorem dX7_peel_28 : decode cX7_peel 28 = .ok (.lstore 4, 2) := by decide +kernel
theorem dX7_peel_30 : decode cX7_peel 30 = .ok (.lload 4, 2) := by decide +kernel
theorem dX7_peel_32 : decode cX7_peel 32 = .ok (.lconst 0, 1) := by decide +kernel
theorem dX7_peel_33 : decode cX7_peel 33 = .ok (.lcmp, 1) := by decide +kernel
theorem dX7_peel_34 : decode cX7_peel 34 = .ok (.ifCond .eq 10, 3) := by decide +kernel
theorem dX7_peel_37 : decode cX7_peel 37 = .ok (.aload_n 0, 1) := by decide +kernel
theorem dX7_peel_38 : decode cX7_peel 38 = .ok (.lload 4, 2) := by decide +kernel
theorem dX7_peel_40 : decode cX7_peel 40 = .ok (.invokevirtual 61, 3) := by decide +kernel
theorem dX7_peel_43 : decode cX7_peel 43 = .ok (.lreturn, 1) := by decide +kernel
theorem dX7_peel_44 : decode cX7_peel 44 = .ok (.aload_n 0, 1) := by decide +kernel
theorem dX7_peel_45 : decode cX7_peel 45 = .ok (.getfield 7, 3) := by decide +kernel
theorem dX7_peel_48 : decode cX7_peel 48 = .ok (.iconst 4, 1) := by decide +kernel
theorem dX7_peel_49 : decode cX7_peel 49 = .ok (.iload_n 3, 1) := by decide +kernel
theorem dX7_peel_50 : decode cX7_peel 50 = .ok (.imul, 1) := by decide +kernel
theorem dX7_peel_51 : decode cX7_peel 51 = .ok (.iload_n 1, 1) := by decide +kernel
theorem dX7_peel_52 : decode cX7_peel 52 = .ok (.iadd, 1) := by decide +kernel
theorem dX7_peel_53 : decode cX7_peel 53 = .ok (.aload_n 0, 1) := by decide +kernel
theorem dX7_peel_54 : decode cX7_peel 54 = .ok (.getfield 16, 3) := by decide +kernel
theorem dX7_peel_57 : decode cX7_peel 57 = .ok (.bipush 12, 2) := by decide +kernel
theorem dX7_peel_59 : decode cX7_peel 59 = .ok (.iload_n 1, 1) := by decide +kernel
theorem dX7_peel_60 : decode cX7_peel 60 = .ok (.imul, 1) := by decide +kernel
theorem dX7_peel_61 : decode cX7_peel 61 = .ok (.iload_n 2, 1) := by decide +kernel
theorem dX7_peel_62 : decode cX7_peel 62 = .ok (.iadd, 1) := by decide +kernel
theorem dX7_peel_63 : decode cX7_peel 63 = .ok (.iaload, 1) := by decide +kernel
theorem dX7_peel_64 : decode cX7_peel 64 = .ok (.iastore, 1) := by decide +kernel
theorem dX7_peel_65 : decode cX7_peel 65 = .ok (.aload_n 0, 1) := by decide +kernel
theorem dX7_peel_66 : decode cX7_peel 66 = .ok (.getfield 16, 3) := by decide +kernel
theorem dX7_peel_69 : decode cX7_peel 69 = .ok (.bipush 12, 2) := by decide +kernel
theorem dX7_peel_71 : decode cX7_peel 71 = .ok (.iload_n 1, 1) := by decide +kernel
theorem dX7_peel_72 : decode cX7_peel 72 = .ok (.imul, 1) := by decide +kernel
theorem dX7_peel_73 : decode cX7_peel 73 = .ok (.iload_n 2, 1) := by decide +kernel
theorem dX7_peel_74 : decode cX7_peel 74 = .ok (.iadd, 1) := by decide +kernel
theorem dX7_peel_75 : decode cX7_peel 75 = .ok (.iaload, 1) := by decide +kernel
theorem dX7_peel_76 : decode cX7_peel 76 = .ok (.iconst (-1), 1) := by decide +kernel
theorem dX7_peel_77 : decode cX7_peel 77 = .ok (.if_icmp .ne 7, 3) := by decide +kernel
theorem dX7_peel_80 : decode cX7_peel 80 = .ok (.lconst 0, 1) := by decide +kernel
theorem dX7_peel_81 : decode cX7_peel 81 = .ok (.goto 4, 3) := by decide +kernel
theorem dX7_peel_84 : decode cX7_peel 84 = .ok (.lconst 1, 1) := by decide +kernel
theorem dX7_peel_85 : decode cX7_peel 85 = .ok (.lreturn, 1) := by decide +kernel
set_option maxRecDepth 20000 in
theorem ggX7_againstPlace_X7_againstRow : GoodIn wsX7_againstPlace wsX7_againstRow := goodIn_r _ [9, 10, 11, 4, 12, 13, 14, 15, 16, 17, 18, 19, 20, 21, 22] (by decide +kernel) (by decide +kernel)
set_option maxRecDepth 20000 in
theorem gX7_againstPlace_X7_againstRow : GoodIn wsX7_againstPlace (wsV RX7 95 RX7 yX7_againstRow wsX7_againstRow) := goodIn_app (goodIn_of _ (by decide +kernel)) ggX7_againstPlace_X7_againstRow
theorem dX7_againstPlace_0 : decode cX7_againstPlace 0 = .ok (.aload_n 0, 1) := by decide +kernel
theorem dX7_againstPlace_1 : decode cX7_againstPlace 1 = .ok (.iload_n 1, 1) := by decide +kernel
theorem dX7_againstPlace_2 : decode cX7_againstPlace 2 = .ok (.iload_n 2, 1) := by decide +kernel
theorem dX7_againstPlace_3 : decode cX7_againstPlace 3 = .ok (.invokevirtual 95, 3) := by decide +kernel
theorem dX7_againstPlace_6 : decode cX7_againstPlace 6 = .ok (.lstore 4, 2) := by decide +kernel
theorem dX7_againstPlace_8 : decode cX7_againstPlace 8 = .ok (.lload 4, 2) := by decide +kernel
theorem dX7_againstPlace_10 : decode cX7_againstPlace 10 = .ok (.lconst 0, 1) := by decide +kernel
theorem dX7_againstPlace_11 : decode cX7_againstPlace 11 = .ok (.lcmp, 1) := by decide +kernel
theorem dX7_againstPlace_12 : decode cX7_againstPlace 12 = .ok (.ifCond .eq 6, 3) := by decide +kernel
theorem dX7_againstPlace_15 : decode cX7_againstPlace 15 = .ok (.lload 4, 2) := by decide +kernel
theorem dX7_againstPlace_17 : decode cX7_againstPlace 17 = .ok (.lreturn, 1) := by decide +kernel
theorem dX7_againstPlace_18 : decode cX7_againstPlace 18 = .ok (.aload_n 0, 1) := by decide +kernel
theorem dX7_againstPlace_19 : decode cX7_againstPlace 19 = .ok (.getfield 16, 3) := by decide +kernel
theorem dX7_againstPlace_22 : decode cX7_againstPlace 22 = .ok (.bipush 12, 2) := by decide +kernel
theorem dX7_againstPlace_24 : decode cX7_againstPlace 24 = .ok (.iload_n 1, 1) := by decide +kernel
theorem dX7_againstPlace_25 : decode cX7_againstPlace 25 = .ok (.imul, 1) := by decide +kernel
theorem dX7_againstPlace_26 : decode cX7_againstPlace 26 = .ok (.iload_n 2, 1) := by decide +kernel
theorem dX7_againstPlace_27 : decode cX7_againstPlace 27 = .ok (.iadd, 1) := by decide +kernel
theorem dX7_againstPlace_28 : decode cX7_againstPlace 28 = .ok (.iaload, 1) := by decide +kernel
theorem dX7_againstPlace_29 : decode cX7_againstPlace 29 = .ok (.istore 6, 2) := by decide +kernel
theorem dX7_againstPlace_31 : decode cX7_againstPlace 31 = .ok (.iload 6, 2) := by decide +kernel
theorem dX7_againstPlace_33 : decode cX7_againstPlace 33 = .ok (.iconst (-1), 1) := by decide +kernel
theorem dX7_againstPlace_34 : decode cX7_againstPlace 34 = .ok (.if_icmp .ne 9, 3) := by decide +kernel
theorem dX7_againstPlace_37 : decode cX7_againstPlace 37 = .ok (.ldc2_w 98, 3) := by decide +kernel
theorem dX7_againstPlace_40 : decode cX7_againstPlace 40 = .ok (.goto 25, 3) := by decide +kernel
theorem dX7_againstPlace_43 : decode cX7_againstPlace 43 = .ok (.iload_n 3, 1) := by decide +kernel
theorem dX7_againstPlace_44 : decode cX7_againstPlace 44 = .ok (.ifCond .lt 14, 3) := by decide +kernel
theorem dX7_againstPlace_47 : decode cX7_againstPlace 47 = .ok (.iload_n 3, 1) := by decide +kernel
theorem dX7_againstPlace_48 : decode cX7_againstPlace 48 = .ok (.aload_n 0, 1) := by decide +kernel
theorem dX7_againstPlace_49 : decode cX7_againstPlace 49 = .ok (.getfield 19, 3) := by decide +kernel
theorem dX7_againstPlace_52 : decode cX7_againstPlace 52 = .ok (.iload 6, 2) := by decide +kernel
theorem dX7_againstPlace_54 : decode cX7_againstPlace 54 = .ok (.iaload, 1) := by decide +kernel
theorem dX7_againstPlace_55 : decode cX7_againstPlace 55 = .ok (.if_icmp .lt 9, 3) := by decide +kernel
theorem dX7_againstPlace_58 : decode cX7_againstPlace 58 = .ok (.ldc2_w 75, 3) := by decide +kernel
theorem dX7_againstPlace_61 : decode cX7_againstPlace 61 = .ok (.goto 4, 3) := by decide +kernel
theorem dX7_againstPlace_64 : decode cX7_againstPlace 64 = .ok (.lconst 0, 1) := by decide +kernel
theorem dX7_againstPlace_65 : decode cX7_againstPlace 65 = .ok (.lreturn, 1) := by decide +kernel
set_option maxRecDepth 20000 in
theorem ggX7_spot_X7_isFour : GoodIn wsX7_spot wsX7_isFour := goodIn_r _ [6] (by decide +kernel) (by decide +kernel)
set_option maxRecDepth 20000 in
theorem gX7_spot_X7_isFour : GoodIn wsX7_spot (va_wsS RX7 55 yX7_isFour wsX7_isFour) := goodIn_app (goodIn_of _ (by decide +kernel)) ggX7_spot_X7_isFour
set_option maxRecDepth 20000 in
theorem ggX7_spot_X7_refuse : GoodIn wsX7_spot wsX7_refuse := goodIn_r _ [10, 11, 32, 33, 34, 35, 36, 37, 38, 39, 40, 41, 42] (by decide +kernel) (by decide +kernel)
set_option maxRecDepth 20000 in
theorem gX7_spot_X7_refuse : GoodIn wsX7_spot (wsV RX7 61 RX7 yX7_refuse wsX7_refuse) := goodIn_app (goodIn_of _ (by decide +kernel)) ggX7_spot_X7_refuse
set_option maxRecDepth 20000 in
theorem ggX7_spot_X7_againstPlace : GoodIn wsX7_spot wsX7_againstPlace := goodIn_r _ [15, 2, 16, 17, 18, 19, 20, 21, 5, 22, 23, 24, 32, 33, 34, 35, 36, 37, 38, 39, 40, 41, 42] (by decide +kernel) (by decide +kernel)
set_option maxRecDepth 20000 in
theorem gX7_spot_X7_againstPlace : GoodIn wsX7_spot (wsV RX7 100 RX7 yX7_againstPlace wsX7_againstPlace) := goodIn_app (goodIn_of _ (by decide +kernel)) ggX7_spot_X7_againstPlace
set_option maxRecDepth 20000 in
theorem ggX7_spot_X7_told : GoodIn wsX7_spot wsX7_told := goodIn_r _ [28, 29, 30, 31, 32, 33, 34, 35, 36, 37, 38, 39, 40, 41, 42] (by decide +kernel) (by decide +kernel)
set_option maxRecDepth 20000 in
theorem gX7_spot_X7_told : GoodIn wsX7_spot (wsV RX7 81 RX7 yX7_told wsX7_told) := goodIn_app (goodIn_of _ (by decide +kernel)) ggX7_spot_X7_told
theorem dX7_spot_0 : decode cX7_spot 0 = .ok (.iload_n 1, 1) := by decide +kernel
theorem dX7_spot_1 : decode cX7_spot 1 = .ok (.invokestatic 55, 3) := by decide +kernel
theorem dX7_spot_4 : decode cX7_spot 4 = .ok (.ifCond .ne 11, 3) := by decide +kernel
theorem dX7_spot_7 : decode cX7_spot 7 = .ok (.aload_n 0, 1) := by decide +kernel
theorem dX7_spot_8 : decode cX7_spot 8 = .ok (.ldc2_w 59, 3) := by decide +kernel
theorem dX7_spot_11 : decode cX7_spot 11 = .ok (.invokevirtual 61, 3) := by decide +kernel
theorem dX7_spot_14 : decode cX7_spot 14 = .ok (.lreturn, 1) := by decide +kernel
theorem dX7_spot_15 : decode cX7_spot 15 = .ok (.aload_n 0, 1) := by decide +kernel
theorem dX7_spot_16 : decode cX7_spot 16 = .ok (.iload_n 1, 1) := by decide +kernel
theorem dX7_spot_17 : decode cX7_spot 17 = .ok (.iload_n 2, 1) := by decide +kernel
theorem dX7_spot_18 : decode cX7_spot 18 = .ok (.iload_n 3, 1) := by decide +kernel
theorem dX7_spot_19 : decode cX7_spot 19 = .ok (.invokevirtual 100, 3) := by decide +kernel
theorem dX7_spot_22 : decode cX7_spot 22 = .ok (.lstore 4, 2) := by decide +kernel
theorem dX7_spot_24 : decode cX7_spot 24 = .ok (.lload 4, 2) := by decide +kernel
theorem dX7_spot_26 : decode cX7_spot 26 = .ok (.lconst 0, 1) := by decide +kernel
theorem dX7_spot_27 : decode cX7_spot 27 = .ok (.lcmp, 1) := by decide +kernel
theorem dX7_spot_28 : decode cX7_spot 28 = .ok (.ifCond .eq 12, 3) := by decide +kernel
theorem dX7_spot_31 : decode cX7_spot 31 = .ok (.aload_n 0, 1) := by decide +kernel
theorem dX7_spot_32 : decode cX7_spot 32 = .ok (.lload 4, 2) := by decide +kernel
theorem dX7_spot_34 : decode cX7_spot 34 = .ok (.invokevirtual 61, 3) := by decide +kernel
theorem dX7_spot_37 : decode cX7_spot 37 = .ok (.goto 20, 3) := by decide +kernel
theorem dX7_spot_40 : decode cX7_spot 40 = .ok (.aload_n 0, 1) := by decide +kernel
theorem dX7_spot_41 : decode cX7_spot 41 = .ok (.iload_n 1, 1) := by decide +kernel
theorem dX7_spot_42 : decode cX7_spot 42 = .ok (.aload_n 0, 1) := by decide +kernel
theorem dX7_spot_43 : decode cX7_spot 43 = .ok (.getfield 16, 3) := by decide +kernel
theorem dX7_spot_46 : decode cX7_spot 46 = .ok (.bipush 12, 2) := by decide +kernel
theorem dX7_spot_48 : decode cX7_spot 48 = .ok (.iload_n 1, 1) := by decide +kernel
theorem dX7_spot_49 : decode cX7_spot 49 = .ok (.imul, 1) := by decide +kernel
theorem dX7_spot_50 : decode cX7_spot 50 = .ok (.iload_n 2, 1) := by decide +kernel
theorem dX7_spot_51 : decode cX7_spot 51 = .ok (.iadd, 1) := by decide +kernel
theorem dX7_spot_52 : decode cX7_spot 52 = .ok (.iaload, 1) := by decide +kernel
theorem dX7_spot_53 : decode cX7_spot 53 = .ok (.iload_n 3, 1) := by decide +kernel
theorem dX7_spot_54 : decode cX7_spot 54 = .ok (.invokevirtual 81, 3) := by decide +kernel
theorem dX7_spot_57 : decode cX7_spot 57 = .ok (.lreturn, 1) := by decide +kernel
set_option maxRecDepth 20000 in
theorem ggX7_paint_X7_isFour : GoodIn wsX7_paint wsX7_isFour := goodIn_r _ [6] (by decide +kernel) (by decide +kernel)
set_option maxRecDepth 20000 in
theorem gX7_paint_X7_isFour : GoodIn wsX7_paint (va_wsS RX7 55 yX7_isFour wsX7_isFour) := goodIn_app (goodIn_of _ (by decide +kernel)) ggX7_paint_X7_isFour
set_option maxRecDepth 20000 in
theorem ggX7_paint_X7_refuse : GoodIn wsX7_paint wsX7_refuse := goodIn_r _ [10, 11, 45, 46, 47, 48, 49, 50, 51, 52, 53, 54, 55] (by decide +kernel) (by decide +kernel)
set_option maxRecDepth 20000 in
theorem gX7_paint_X7_refuse : GoodIn wsX7_paint (wsV RX7 61 RX7 yX7_refuse wsX7_refuse) := goodIn_app (goodIn_of _ (by decide +kernel)) ggX7_paint_X7_refuse
set_option maxRecDepth 20000 in
theorem ggX7_paint_X7_againstPlace : GoodIn wsX7_paint wsX7_againstPlace := goodIn_r _ [15, 2, 16, 17, 18, 19, 20, 21, 5, 22, 23, 24, 45, 46, 47, 48, 49, 50, 51, 52, 53, 54, 55] (by decide +kernel) (by decide +kernel)
set_option maxRecDepth 20000 in
theorem gX7_paint_X7_againstPlace : GoodIn wsX7_paint (wsV RX7 100 RX7 yX7_againstPlace wsX7_againstPlace) := goodIn_app (goodIn_of _ (by decide +kernel)) ggX7_paint_X7_againstPlace
set_option maxRecDepth 20000 in
theorem ggX7_paint_X7_fill : GoodIn wsX7_paint wsX7_fill := goodIn_r _ [28, 29, 30, 31, 32, 33, 5, 34, 35, 36, 37, 38, 39, 40, 45, 46, 47, 48, 49, 50, 51, 52, 53, 54, 55] (by decide +kernel) (by decide +kernel)
set_option maxRecDepth 20000 in
theorem gX7_paint_X7_fill : GoodIn wsX7_paint (wsV RX7 85 RX7 yX7_fill wsX7_fill) := goodIn_app (goodIn_of _ (by decide +kernel)) ggX7_paint_X7_fill
set_option maxRecDepth 20000 in
theorem ggX7_paint_X7_told : GoodIn wsX7_paint wsX7_told := goodIn_r _ [44, 31, 35, 29, 45, 46, 47, 48, 49, 50, 51, 52, 53, 54, 55] (by decide +kernel) (by decide +kernel)
set_option maxRecDepth 20000 in
theorem gX7_paint_X7_told : GoodIn wsX7_paint (wsV RX7 81 RX7 yX7_told wsX7_told) := goodIn_app (goodIn_of _ (by decide +kernel)) ggX7_paint_X7_told
theorem dX7_paint_0 : decode cX7_paint 0 = .ok (.iload_n 1, 1) := by decide +kernel
theorem dX7_paint_1 : decode cX7_paint 1 = .ok (.invokestatic 55, 3) := by decide +kernel
theorem dX7_paint_4 : decode cX7_paint 4 = .ok (.ifCond .ne 11, 3) := by decide +kernel
theorem dX7_paint_7 : decode cX7_paint 7 = .ok (.aload_n 0, 1) := by decide +kernel
theorem dX7_paint_8 : decode cX7_paint 8 = .ok (.ldc2_w 59, 3) := by decide +kernel
theorem dX7_paint_11 : decode cX7_paint 11 = .ok (.invokevirtual 61, 3) := by decide +kernel
theorem dX7_paint_14 : decode cX7_paint 14 = .ok (.lreturn, 1) := by decide +kernel
theorem dX7_paint_15 : decode cX7_paint 15 = .ok (.aload_n 0, 1) := by decide +kernel
theorem dX7_paint_16 : decode cX7_paint 16 = .ok (.iload_n 1, 1) := by decide +kernel
theorem dX7_paint_17 : decode cX7_paint 17 = .ok (.iload_n 2, 1) := by decide +kernel
theorem dX7_paint_18 : decode cX7_paint 18 = .ok (.iload_n 3, 1) := by decide +kernel
theorem dX7_paint_19 : decode cX7_paint 19 = .ok (.invokevirtual 100, 3) := by decide +kernel
theorem dX7_paint_22 : decode cX7_paint 22 = .ok (.lstore 5, 2) := by decide +kernel
theorem dX7_paint_24 : decode cX7_paint 24 = .ok (.lload 5, 2) := by decide +kernel
theorem dX7_paint_26 : decode cX7_paint 26 = .ok (.lconst 0, 1) := by decide +kernel
theorem dX7_paint_27 : decode cX7_paint 27 = .ok (.lcmp, 1) := by decide +kernel
theorem dX7_paint_28 : decode cX7_paint 28 = .ok (.ifCond .eq 10, 3) := by decide +kernel
theorem dX7_paint_31 : decode cX7_paint 31 = .ok (.aload_n 0, 1) := by decide +kernel
theorem dX7_paint_32 : decode cX7_paint 32 = .ok (.lload 5, 2) := by decide +kernel
theorem dX7_paint_34 : decode cX7_paint 34 = .ok (.invokevirtual 61, 3) := by decide +kernel
theorem dX7_paint_37 : decode cX7_paint 37 = .ok (.lreturn, 1) := by decide +kernel
theorem dX7_paint_38 : decode cX7_paint 38 = .ok (.aload_n 0, 1) := by decide +kernel
theorem dX7_paint_39 : decode cX7_paint 39 = .ok (.iload_n 1, 1) := by decide +kernel
theorem dX7_paint_40 : decode cX7_paint 40 = .ok (.aload_n 0, 1) := by decide +kernel
theorem dX7_paint_41 : decode cX7_paint 41 = .ok (.getfield 16, 3) := by decide +kernel
theorem dX7_paint_44 : decode cX7_paint 44 = .ok (.bipush 12, 2) := by decide +kernel
theorem dX7_paint_46 : decode cX7_paint 46 = .ok (.iload_n 1, 1) := by decide +kernel
theorem dX7_paint_47 : decode cX7_paint 47 = .ok (.imul, 1) := by decide +kernel
theorem dX7_paint_48 : decode cX7_paint 48 = .ok (.iload_n 2, 1) := by decide +kernel
theorem dX7_paint_49 : decode cX7_paint 49 = .ok (.iadd, 1) := by decide +kernel
theorem dX7_paint_50 : decode cX7_paint 50 = .ok (.iaload, 1) := by decide +kernel
theorem dX7_paint_51 : decode cX7_paint 51 = .ok (.iload_n 3, 1) := by decide +kernel
theorem dX7_paint_52 : decode cX7_paint 52 = .ok (.iload 4, 2) := by decide +kernel
theorem dX7_paint_54 : decode cX7_paint 54 = .ok (.invokevirtual 85, 3) := by decide +kernel
theorem dX7_paint_57 : decode cX7_paint 57 = .ok (.aload_n 0, 1) := by decide +kernel
theorem dX7_paint_58 : decode cX7_paint 58 = .ok (.iload_n 1, 1) := by decide +kernel
theorem dX7_paint_59 : decode cX7_paint 59 = .ok (.aload_n 0, 1) := by decide +kernel
theorem dX7_paint_60 : decode cX7_paint 60 = .ok (.getfield 16, 3) := by decide +kernel
theorem dX7_paint_63 : decode cX7_paint 63 = .ok (.bipush 12, 2) := by decide +kernel
theorem dX7_paint_65 : decode cX7_paint 65 = .ok (.iload_n 1, 1) := by decide +kernel
theorem dX7_paint_66 : decode cX7_paint 66 = .ok (.imul, 1) := by decide +kernel
theorem dX7_paint_67 : decode cX7_paint 67 = .ok (.iload_n 2, 1) := by decide +kernel
theorem dX7_paint_68 : decode cX7_paint 68 = .ok (.iadd, 1) := by decide +kernel
theorem dX7_paint_69 : decode cX7_paint 69 = .ok (.iaload, 1) := by decide +kernel
theorem dX7_paint_70 : decode cX7_paint 70 = .ok (.iload_n 3, 1) := by decide +kernel
theorem dX7_paint_71 : decode cX7_paint 71 = .ok (.invokevirtual 81, 3) := by decide +kernel
theorem dX7_paint_74 : decode cX7_paint 74 = .ok (.lreturn, 1) := by decide +kernel
set_option maxRecDepth 20000 in
theorem ggX7_span_X7_isFour : GoodIn wsX7_span wsX7_isFour := goodIn_r _ [9] (by decide +kernel) (by decide +kernel)
set_option maxRecDepth 20000 in
theorem gX7_span_X7_isFour : GoodIn wsX7_span (va_wsS RX7 55 yX7_isFour wsX7_isFour) := goodIn_app (goodIn_of _ (by decide +kernel)) ggX7_span_X7_isFour
set_option maxRecDepth 20000 in
theorem ggX7_span_X7_refuse : GoodIn wsX7_span wsX7_refuse := goodIn_r _ [13, 14, 21, 22, 23, 24, 25, 26, 27, 28, 29, 30, 31] (by decide +kernel) (by decide +kernel)
set_option maxRecDepth 20000 in
theorem gX7_span_X7_refuse : GoodIn wsX7_span (wsV RX7 61 RX7 yX7_refuse wsX7_refuse) := goodIn_app (goodIn_of _ (by decide +kernel)) ggX7_span_X7_refuse
set_option maxRecDepth 20000 in
theorem ggX7_span_X7_againstRow : GoodIn wsX7_span wsX7_againstRow := goodIn_r _ [18, 2, 19, 20, 21, 22, 23, 24, 25, 26, 27, 28, 29, 30, 31] (by decide +kernel) (by decide +kernel)
set_option maxRecDepth 20000 in
theorem gX7_span_X7_againstRow : GoodIn wsX7_span (wsV RX7 95 RX7 yX7_againstRow wsX7_againstRow) := goodIn_app (goodIn_of _ (by decide +kernel)) ggX7_span_X7_againstRow
theorem dX7_span_0 : decode cX7_span 0 = .ok (.iload_n 1, 1) := by decide +kernel
theorem dX7_span_1 : decode cX7_span 1 = .ok (.invokestatic 55, 3) := by decide +kernel
theorem dX7_span_4 : decode cX7_span 4 = .ok (.ifCond .ne 11, 3) := by decide +kernel
theorem dX7_span_7 : decode cX7_span 7 = .ok (.aload_n 0, 1) := by decide +kernel
theorem dX7_span_8 : decode cX7_span 8 = .ok (.ldc2_w 59, 3) := by decide +kernel
theorem dX7_span_11 : decode cX7_span 11 = .ok (.invokevirtual 61, 3) := by decide +kernel
theorem dX7_span_14 : decode cX7_span 14 = .ok (.lreturn, 1) := by decide +kernel
theorem dX7_span_15 : decode cX7_span 15 = .ok (.aload_n 0, 1) := by decide +kernel
theorem dX7_span_16 : decode cX7_span 16 = .ok (.getfield 13, 3) := by decide +kernel
theorem dX7_span_19 : decode cX7_span 19 = .ok (.iload_n 1, 1) := by decide +kernel
theorem dX7_span_20 : decode cX7_span 20 = .ok (.iaload, 1) := by decide +kernel
theorem dX7_span_21 : decode cX7_span 21 = .ok (.iconst (-1), 1) := by decide +kernel
theorem dX7_span_22 : decode cX7_span 22 = .ok (.if_icmp .eq 16, 3) := by decide +kernel
theorem dX7_span_25 : decode cX7_span 25 = .ok (.iload_n 2, 1) := by decide +kernel
theorem dX7_span_26 : decode cX7_span 26 = .ok (.iconst (-1), 1) := by decide +kernel
theorem dX7_span_27 : decode cX7_span 27 = .ok (.if_icmp .ne 11, 3) := by decide +kernel
theorem dX7_span_30 : decode cX7_span 30 = .ok (.aload_n 0, 1) := by decide +kernel
theorem dX7_span_31 : decode cX7_span 31 = .ok (.getfield 13, 3) := by decide +kernel
theorem dX7_span_34 : decode cX7_span 34 = .ok (.iload_n 1, 1) := by decide +kernel
theorem dX7_span_35 : decode cX7_span 35 = .ok (.iaload, 1) := by decide +kernel
theorem dX7_span_36 : decode cX7_span 36 = .ok (.i2l, 1) := by decide +kernel
theorem dX7_span_37 : decode cX7_span 37 = .ok (.lreturn, 1) := by decide +kernel
theorem dX7_span_38 : decode cX7_span 38 = .ok (.aload_n 0, 1) := by decide +kernel
theorem dX7_span_39 : decode cX7_span 39 = .ok (.iload_n 1, 1) := by decide +kernel
theorem dX7_span_40 : decode cX7_span 40 = .ok (.iload_n 2, 1) := by decide +kernel
theorem dX7_span_41 : decode cX7_span 41 = .ok (.invokevirtual 95, 3) := by decide +kernel
theorem dX7_span_44 : decode cX7_span 44 = .ok (.lstore_n 3, 1) := by decide +kernel
theorem dX7_span_45 : decode cX7_span 45 = .ok (.lload_n 3, 1) := by decide +kernel
theorem dX7_span_46 : decode cX7_span 46 = .ok (.lconst 0, 1) := by decide +kernel
theorem dX7_span_47 : decode cX7_span 47 = .ok (.lcmp, 1) := by decide +kernel
theorem dX7_span_48 : decode cX7_span 48 = .ok (.ifCond .eq 9, 3) := by decide +kernel
theorem dX7_span_51 : decode cX7_span 51 = .ok (.aload_n 0, 1) := by decide +kernel
theorem dX7_span_52 : decode cX7_span 52 = .ok (.lload_n 3, 1) := by decide +kernel
theorem dX7_span_53 : decode cX7_span 53 = .ok (.invokevirtual 61, 3) := by decide +kernel
theorem dX7_span_56 : decode cX7_span 56 = .ok (.lreturn, 1) := by decide +kernel
theorem dX7_span_57 : decode cX7_span 57 = .ok (.aload_n 0, 1) := by decide +kernel
theorem dX7_span_58 : decode cX7_span 58 = .ok (.getfield 16, 3) := by decide +kernel
theorem dX7_span_61 : decode cX7_span 61 = .ok (.bipush 12, 2) := by decide +kernel
theorem dX7_span_63 : decode cX7_span 63 = .ok (.iload_n 1, 1) := by decide +kernel
theorem dX7_span_64 : decode cX7_span 64 = .ok (.imul, 1) := by decide +kernel
theorem dX7_span_65 : decode cX7_span 65 = .ok (.iload_n 2, 1) := by decide +kernel
theorem dX7_span_66 : decode cX7_span 66 = .ok (.iadd, 1) := by decide +kernel
theorem dX7_span_67 : decode cX7_span 67 = .ok (.iaload, 1) := by decide +kernel
theorem dX7_span_68 : decode cX7_span 68 = .ok (.istore 5, 2) := by decide +kernel
theorem dX7_span_70 : decode cX7_span 70 = .ok (.iload 5, 2) := by decide +kernel
theorem dX7_span_72 : decode cX7_span 72 = .ok (.iconst (-1), 1) := by decide +kernel
theorem dX7_span_73 : decode cX7_span 73 = .ok (.if_icmp .ne 13, 3) := by decide +kernel
theorem dX7_span_76 : decode cX7_span 76 = .ok (.aload_n 0, 1) := by decide +kernel
theorem dX7_span_77 : decode cX7_span 77 = .ok (.ldc2_w 98, 3) := by decide +kernel
theorem dX7_span_80 : decode cX7_span 80 = .ok (.invokevirtual 61, 3) := by decide +kernel
theorem dX7_span_83 : decode cX7_span 83 = .ok (.goto 11, 3) := by decide +kernel
theorem dX7_span_86 : decode cX7_span 86 = .ok (.aload_n 0, 1) := by decide +kernel
theorem dX7_span_87 : decode cX7_span 87 = .ok (.getfield 19, 3) := by decide +kernel
theorem dX7_span_90 : decode cX7_span 90 = .ok (.iload 5, 2) := by decide +kernel
theorem dX7_span_92 : decode cX7_span 92 = .ok (.iaload, 1) := by decide +kernel
theorem dX7_span_93 : decode cX7_span 93 = .ok (.i2l, 1) := by decide +kernel
theorem dX7_span_94 : decode cX7_span 94 = .ok (.lreturn, 1) := by decide +kernel
set_option maxRecDepth 20000 in
theorem ggX7_chart_X7_refuse : GoodIn wsX7_chart wsX7_refuse := goodIn_r _ [10, 11, 12, 13, 14, 15, 16, 17, 18, 19, 20, 21, 22] (by decide +kernel) (by decide +kernel)
set_option maxRecDepth 20000 in
theorem gX7_chart_X7_refuse : GoodIn wsX7_chart (wsV RX7 61 RX7 yX7_refuse wsX7_refuse) := goodIn_app (goodIn_of _ (by decide +kernel)) ggX7_chart_X7_refuse
theorem dX7_chart_0 : decode cX7_chart 0 = .ok (.iload_n 1, 1) := by decide +kernel
theorem dX7_chart_1 : decode cX7_chart 1 = .ok (.bipush 12, 2) := by decide +kernel
theorem dX7_chart_3 : decode cX7_chart 3 = .ok (.if_icmp .gt 9, 3) := by decide +kernel
theorem dX7_chart_6 : decode cX7_chart 6 = .ok (.iload_n 2, 1) := by decide +kernel
theorem dX7_chart_7 : decode cX7_chart 7 = .ok (.bipush 12, 2) := by decide +kernel
theorem dX7_chart_9 : decode cX7_chart 9 = .ok (.if_icmp .le 11, 3) := by decide +kernel
theorem dX7_chart_12 : decode cX7_chart 12 = .ok (.aload_n 0, 1) := by decide +kernel
theorem dX7_chart_13 : decode cX7_chart 13 = .ok (.ldc2_w 65, 3) := by decide +kernel
theorem dX7_chart_16 : decode cX7_chart 16 = .ok (.invokevirtual 61, 3) := by decide +kernel
theorem dX7_chart_19 : decode cX7_chart 19 = .ok (.lreturn, 1) := by decide +kernel
theorem dX7_chart_20 : decode cX7_chart 20 = .ok (.iload_n 1, 1) := by decide +kernel
theorem dX7_chart_21 : decode cX7_chart 21 = .ok (.ifCond .lt 7, 3) := by decide +kernel
theorem dX7_chart_24 : decode cX7_chart 24 = .ok (.iload_n 2, 1) := by decide +kernel
theorem dX7_chart_25 : decode cX7_chart 25 = .ok (.ifCond .ge 11, 3) := by decide +kernel
theorem dX7_chart_28 : decode cX7_chart 28 = .ok (.aload_n 0, 1) := by decide +kernel
theorem dX7_chart_29 : decode cX7_chart 29 = .ok (.ldc2_w 67, 3) := by decide +kernel
theorem dX7_chart_32 : decode cX7_chart 32 = .ok (.invokevirtual 61, 3) := by decide +kernel
theorem dX7_chart_35 : decode cX7_chart 35 = .ok (.lreturn, 1) := by decide +kernel
theorem dX7_chart_36 : decode cX7_chart 36 = .ok (.aload_n 0, 1) := by decide +kernel
theorem dX7_chart_37 : decode cX7_chart 37 = .ok (.iload_n 1, 1) := by decide +kernel
theorem dX7_chart_38 : decode cX7_chart 38 = .ok (.putfield 33, 3) := by decide +kernel
theorem dX7_chart_41 : decode cX7_chart 41 = .ok (.aload_n 0, 1) := by decide +kernel
theorem dX7_chart_42 : decode cX7_chart 42 = .ok (.iload_n 2, 1) := by decide +kernel
theorem dX7_chart_43 : decode cX7_chart 43 = .ok (.putfield 103, 3) := by decide +kernel
theorem dX7_chart_46 : decode cX7_chart 46 = .ok (.iconst 0, 1) := by decide +kernel
theorem dX7_chart_47 : decode cX7_chart 47 = .ok (.istore_n 3, 1) := by decide +kernel
theorem dX7_chart_48 : decode cX7_chart 48 = .ok (.iload_n 3, 1) := by decide +kernel
theorem dX7_chart_49 : decode cX7_chart 49 = .ok (.sipush 144, 3) := by decide +kernel
theorem dX7_chart_52 : decode cX7_chart 52 = .ok (.if_icmp .ge 16, 3) := by decide +kernel
theorem dX7_chart_55 : decode cX7_chart 55 = .ok (.aload_n 0, 1) := by decide +kernel
theorem dX7_chart_56 : decode cX7_chart 56 = .ok (.getfield 37, 3) := by decide +kernel
theorem dX7_chart_59 : decode cX7_chart 59 = .ok (.iload_n 3, 1) := by decide +kernel
theorem dX7_chart_60 : decode cX7_chart 60 = .ok (.iconst 0, 1) := by decide +kernel
theorem dX7_chart_61 : decode cX7_chart 61 = .ok (.iastore, 1) := by decide +kernel
theorem dX7_chart_62 : decode cX7_chart 62 = .ok (.iinc 3 1, 3) := by decide +kernel
theorem dX7_chart_65 : decode cX7_chart 65 = .ok (.goto (-17), 3) := by decide +kernel
theorem dX7_chart_68 : decode cX7_chart 68 = .ok (.iload_n 1, 1) := by decide +kernel
theorem dX7_chart_69 : decode cX7_chart 69 = .ok (.i2l, 1) := by decide +kernel
theorem dX7_chart_70 : decode cX7_chart 70 = .ok (.lreturn, 1) := by decide +kernel
set_option maxRecDepth 20000 in
theorem ggX7_note_X7_refuse : GoodIn wsX7_note wsX7_refuse := goodIn_r _ [10, 11, 12, 13, 14, 15, 16, 17, 18, 19, 20, 21, 22] (by decide +kernel) (by decide +kernel)
set_option maxRecDepth 20000 in
theorem gX7_note_X7_refuse : GoodIn wsX7_note (wsV RX7 61 RX7 yX7_refuse wsX7_refuse) := goodIn_app (goodIn_of _ (by decide +kernel)) ggX7_note_X7_refuse
theorem dX7_note_0 : decode cX7_note 0 = .ok (.aload_n 0, 1) := by decide +kernel
theorem dX7_note_1 : decode cX7_note 1 = .ok (.getfield 33, 3) := by decide +kernel
theorem dX7_note_4 : decode cX7_note 4 = .ok (.iconst (-1), 1) := by decide +kernel
theorem dX7_note_5 : decode cX7_note 5 = .ok (.if_icmp .ne 11, 3) := by decide +kernel
theorem dX7_note_8 : decode cX7_note 8 = .ok (.aload_n 0, 1) := by decide +kernel
theorem dX7_note_9 : decode cX7_note 9 = .ok (.ldc2_w 73, 3) := by decide +kernel
theorem dX7_note_12 : decode cX7_note 12 = .ok (.invokevirtual 61, 3) := by decide +kernel
theorem dX7_note_15 : decode cX7_note 15 = .ok (.lreturn, 1) := by decide +kernel
theorem dX7_note_16 : decode cX7_note 16 = .ok (.iload_n 1, 1) := by decide +kernel
theorem dX7_note_17 : decode cX7_note 17 = .ok (.ifCond .lt 23, 3) := by decide +kernel
theorem dX7_note_20 : decode cX7_note 20 = .ok (.iload_n 1, 1) := by decide +kernel
theorem dX7_note_21 : decode cX7_note 21 = .ok (.aload_n 0, 1) := by decide +kernel
theorem dX7_note_22 : decode cX7_note 22 = .ok (.getfield 33, 3) := by decide +kernel
theorem dX7_note_25 : decode cX7_note 25 = .ok (.if_icmp .ge 15, 3) := by decide +kernel
theorem dX7_note_28 : decode cX7_note 28 = .ok (.iload_n 2, 1) := by decide +kernel
theorem dX7_note_29 : decode cX7_note 29 = .ok (.ifCond .lt 11, 3) := by decide +kernel
theorem dX7_note_32 : decode cX7_note 32 = .ok (.iload_n 2, 1) := by decide +kernel
theorem dX7_note_33 : decode cX7_note 33 = .ok (.aload_n 0, 1) := by decide +kernel
theorem dX7_note_34 : decode cX7_note 34 = .ok (.getfield 103, 3) := by decide +kernel
theorem dX7_note_37 : decode cX7_note 37 = .ok (.if_icmp .lt 11, 3) := by decide +kernel
theorem dX7_note_40 : decode cX7_note 40 = .ok (.aload_n 0, 1) := by decide +kernel
theorem dX7_note_41 : decode cX7_note 41 = .ok (.ldc2_w 75, 3) := by decide +kernel
theorem dX7_note_44 : decode cX7_note 44 = .ok (.invokevirtual 61, 3) := by decide +kernel
theorem dX7_note_47 : decode cX7_note 47 = .ok (.lreturn, 1) := by decide +kernel
theorem dX7_note_48 : decode cX7_note 48 = .ok (.aload_n 0, 1) := by decide +kernel
theorem dX7_note_49 : decode cX7_note 49 = .ok (.getfield 37, 3) := by decide +kernel
theorem dX7_note_52 : decode cX7_note 52 = .ok (.bipush 12, 2) := by decide +kernel
theorem dX7_note_54 : decode cX7_note 54 = .ok (.iload_n 1, 1) := by decide +kernel
theorem dX7_note_55 : decode cX7_note 55 = .ok (.imul, 1) := by decide +kernel
theorem dX7_note_56 : decode cX7_note 56 = .ok (.iload_n 2, 1) := by decide +kernel
theorem dX7_note_57 : decode cX7_note 57 = .ok (.iadd, 1) := by decide +kernel
theorem dX7_note_58 : decode cX7_note 58 = .ok (.dup2, 1) := by decide +kernel
theorem dX7_note_59 : decode cX7_note 59 = .ok (.iaload, 1) := by decide +kernel
theorem dX7_note_60 : decode cX7_note 60 = .ok (.iload_n 3, 1) := by decide +kernel
theorem dX7_note_61 : decode cX7_note 61 = .ok (.iadd, 1) := by decide +kernel
theorem dX7_note_62 : decode cX7_note 62 = .ok (.iastore, 1) := by decide +kernel
theorem dX7_note_63 : decode cX7_note 63 = .ok (.aload_n 0, 1) := by decide +kernel
theorem dX7_note_64 : decode cX7_note 64 = .ok (.getfield 37, 3) := by decide +kernel
theorem dX7_note_67 : decode cX7_note 67 = .ok (.bipush 12, 2) := by decide +kernel
theorem dX7_note_69 : decode cX7_note 69 = .ok (.iload_n 1, 1) := by decide +kernel
theorem dX7_note_70 : decode cX7_note 70 = .ok (.imul, 1) := by decide +kernel
theorem dX7_note_71 : decode cX7_note 71 = .ok (.iload_n 2, 1) := by decide +kernel
theorem dX7_note_72 : decode cX7_note 72 = .ok (.iadd, 1) := by decide +kernel
theorem dX7_note_73 : decode cX7_note 73 = .ok (.iaload, 1) := by decide +kernel
theorem dX7_note_74 : decode cX7_note 74 = .ok (.i2l, 1) := by decide +kernel
theorem dX7_note_75 : decode cX7_note 75 = .ok (.lreturn, 1) := by decide +kernel
theorem dX7_tally_0 : decode cX7_tally 0 = .ok (.iload_n 1, 1) := by decide +kernel
theorem dX7_tally_1 : decode cX7_tally 1 = .ok (.ifCond .le 18, 3) := by decide +kernel
theorem dX7_tally_4 : decode cX7_tally 4 = .ok (.iload_n 1, 1) := by decide +kernel
theorem dX7_tally_5 : decode cX7_tally 5 = .ok (.bipush 8, 2) := by decide +kernel
theorem dX7_tally_7 : decode cX7_tally 7 = .ok (.if_icmp .ge 12, 3) := by decide +kernel
theorem dX7_tally_10 : decode cX7_tally 10 = .ok (.aload_n 0, 1) := by decide +kernel
theorem dX7_tally_11 : decode cX7_tally 11 = .ok (.getfield 40, 3) := by decide +kernel
theorem dX7_tally_14 : decode cX7_tally 14 = .ok (.iload_n 1, 1) := by decide +kernel
theorem dX7_tally_15 : decode cX7_tally 15 = .ok (.iaload, 1) := by decide +kernel
theorem dX7_tally_16 : decode cX7_tally 16 = .ok (.goto 4, 3) := by decide +kernel
theorem dX7_tally_19 : decode cX7_tally 19 = .ok (.iconst 0, 1) := by decide +kernel
theorem dX7_tally_20 : decode cX7_tally 20 = .ok (.ireturn, 1) := by decide +kernel
end
section
/-! ===== the frame of every contract here: one world of cells, one set of words of the tables ===== -/
abbrev zG : Type := va_G × (Nat → ClassId)
/-- the array classes: 0 float, 1 boolean, 2 char, 3 short, 4 int, 5 Reel, 6 Wall, 7 rows of ints -/
def zT (cy : Nat → ClassId) : List (ClassId × FieldType) := [(cy 0, .float), (cy 1, .boolean), (cy 2, .char), (cy 3, .short), (cy 4, .int), (cy 5, .object RX3), (cy 6, .object RX4), (cy 7, .array .int)]
def zOA (U : State) : Prop := (Cond.arrayOver (.array .int)).before #[] U = true
theorem zidx {u U : State} (hvm : u.vm.Alike U.vm) (comp : ClassId) : (U.vm.classes.findIdx? fun (x : Class) => match x.kind with | .array component _ => component == comp | _ => false) = (u.vm.classes.findIdx? fun (x : Class) => match x.kind with | .array component _ => component == comp | _ => false) := by
  have h1 := va_idx_bare U.vm comp
  have h2 := va_idx_bare u.vm comp
  first | rw [hvm.bare_eq] at h1 | rw [← hvm.bare_eq] at h1
  exact h1.symm.trans h2
def zOk (V : State) (o : Option Nat) : Prop := ((o.bind fun c => (V.vm.classes[c]?).map fun (k : Class) => match k.kind with | .array _ ty => decide (ty = FieldType.array FieldType.int) && decide (V.vm.findClass ("[" ++ (FieldType.array FieldType.int).toString) = some c) | _ => false) == some true) = true
theorem zOA_iff (V : State) : zOA V ↔ ∃ comp : ClassId, V.vm.findClass (FieldType.array FieldType.int).toString = some comp ∧ zOk V (V.vm.classes.findIdx? fun (x : Class) => match x.kind with | .array component _ => component == comp | _ => false) := by
  constructor
  · intro h
    unfold zOA Cond.before Cond.holds at h
    simp only [Cond.value] at h
    cases hc : V.vm.findClass (FieldType.array FieldType.int).toString with
    | none => rw [hc] at h; simp at h
    | some comp =>
      rw [hc, Option.bind_some] at h
      exact ⟨comp, rfl, h⟩
  · rintro ⟨comp, hc, h⟩
    unfold zOA Cond.before Cond.holds
    simp only [Cond.value]
    rw [hc, Option.bind_some]
    exact h
theorem zOA.moved {u U : State} (hvm : u.vm.Alike U.vm) (h : zOA u) : zOA U := by
  obtain ⟨comp, hc, h⟩ := (zOA_iff u).mp h
  refine (zOA_iff U).mpr ⟨comp, by rw [hvm.findClass]; exact hc, ?_⟩
  rw [zidx hvm comp]
  generalize (u.vm.classes.findIdx? fun (x : Class) => match x.kind with | .array component _ => component == comp | _ => false) = o at h ⊢
  cases o with
  | none => exact h
  | some j =>
    unfold zOk at h ⊢
    rw [Option.bind_some] at h ⊢
    cases hk : u.vm.classes[j]? with
    | none => rw [hk] at h; simp at h
    | some k =>
      obtain ⟨k', hk', he⟩ := hvm.2.2 _ _ hk
      have hkind : k'.kind = k.kind := by rw [he]
      rw [hk] at h
      rw [hk', hvm.findClass]
      simp only [Option.map_some] at h ⊢
      rw [hkind]
      exact h
def zK (G : zG) (U : State) : Prop :=
  va_K G.1 vwCl (zT G.2) U ∧
  (va_Nw (.declares ⟨"ReelBarn$Reel", "places", "()I"⟩) U ∧ va_Nw (.declares ⟨"ReelBarn$Reel", "told", "(I)I"⟩) U ∧ va_Nw (.declares ⟨"ReelBarn$Reel", "put", "(II)V"⟩) U) ∧
  (va_Nw (.methodLinkNest RX0 3 yX3_init RX6) U ∧ va_Nw (.methodLinkNest RX1 1 yX3_init RX6) U ∧ va_Nw (.methodLinkNest RX2 1 yX3_init RX6) U ∧ va_Nw (.methodLinkNest RX5 1 yX3_init RX6) U) ∧
  (va_Nw (.castable RX0 RX3) U ∧ va_Nw (.castable RX1 RX3) U ∧ va_Nw (.castable RX2 RX3) U ∧ va_Nw (.castable RX5 RX3) U) ∧
  (va_AO RX3 U ∧ va_AO RX4 U ∧ zOA U)
theorem zK.warm {G : zG} {s U : State} (hW : s.WarmedH U.vm) (h : zK G s) : zK G U := by
  obtain ⟨h0, ⟨a1, a2, a3⟩, ⟨b1, b2, b3, b4⟩, ⟨c1, c2, c3, c4⟩, d1, d2, d3⟩ := h
  exact ⟨h0.moved hW.alike, ⟨va_Nw.warmD hW a1, va_Nw.warmD hW a2, va_Nw.warmD hW a3⟩, ⟨va_Nw.warmM hW b1, va_Nw.warmM hW b2, va_Nw.warmM hW b3, va_Nw.warmM hW b4⟩, ⟨va_Nw.warmC hW c1, va_Nw.warmC hW c2, va_Nw.warmC hW c3, va_Nw.warmC hW c4⟩, d1.moved hW.alike, d2.moved hW.alike, d3.moved hW.alike⟩
theorem zK.same {G : zG} {u U : State} (hv : u.vm = U.vm) (h : zK G u) : zK G U := by
  obtain ⟨h0, ⟨a1, a2, a3⟩, ⟨b1, b2, b3, b4⟩, ⟨c1, c2, c3, c4⟩, d1, d2, d3⟩ := h
  have hA : u.vm.Alike U.vm := by rw [← hv]; exact Vm.Alike.refl u.vm
  exact ⟨h0.moved hA, ⟨a1.same rfl hv, a2.same rfl hv, a3.same rfl hv⟩, ⟨b1.same rfl hv, b2.same rfl hv, b3.same rfl hv, b4.same rfl hv⟩, ⟨c1.same rfl hv, c2.same rfl hv, c3.same rfl hv, c4.same rfl hv⟩, d1.moved hA, d2.moved hA, d3.moved hA⟩
/-- a method's start: its arguments, and a world of cells -/
def zPc (G : zG) (av : List Value) (ws : va_W) (sz : Nat) : Array Value → State → Prop := va_Pc av (fun U => U.heap.size = sz ∧ va_P G.1 vwCl ws U.heap ∧ zK G U ∧ va_D (fun _ => True) ws)
/-- the world behind it -/
def zB (G : zG) (A : Nat → Prop) (u : va_W) (t : State) : Prop := va_P G.1 vwCl u t.heap ∧ va_D A u
/-- the world on the way -/
def zW (G : zG) (A : Nat → Prop) (s : State) (H : Heap) (locs : List Loc) (ws : va_W) : Prop := va_P G.1 vwCl ws H ∧ va_D A ws ∧ va_S A s.heap H locs ∧ ∀ q, s.heap.size ≤ q → A q
abbrev zMl (l : Launch) (y : MethodName) (w : List Cond) (rm : Room) (G : zG) (av : List Value) (ws : va_W) (sz : Nat) (post : Int64 → va_W → Prop) (mc ms : Nat) : Prop := Met l y w rm (zPc G av ws sz) (va_Ql post (zB G (va_A ws sz)) (va_A ws sz)) mc ms (va_A ws sz)
abbrev zMi (l : Launch) (y : MethodName) (w : List Cond) (rm : Room) (G : zG) (av : List Value) (ws : va_W) (sz : Nat) (post : Int32 → va_W → Prop) (mc ms : Nat) : Prop := Met l y w rm (zPc G av ws sz) (va_Qi post (zB G (va_A ws sz)) (va_A ws sz)) mc ms (va_A ws sz)
abbrev zMf (l : Launch) (y : MethodName) (w : List Cond) (rm : Room) (G : zG) (av : List Value) (ws : va_W) (sz : Nat) (post : UInt32 → va_W → Prop) (mc ms : Nat) : Prop := Met l y w rm (zPc G av ws sz) (va_Qf post (zB G (va_A ws sz)) (va_A ws sz)) mc ms (va_A ws sz)
abbrev zMv (l : Launch) (y : MethodName) (w : List Cond) (rm : Room) (G : zG) (av : List Value) (ws : va_W) (sz : Nat) (post : va_W → Prop) (mc ms : Nat) : Prop := Met l y w rm (zPc G av ws sz) (va_Qv post (zB G (va_A ws sz)) (va_A ws sz)) mc ms (va_A ws sz)
abbrev zMq (l : Launch) (y : MethodName) (w : List Cond) (rm : Room) (G : zG) (av : List Value) (ws : va_W) (sz : Nat) (post : Option Nat → va_W → Prop) (mc ms : Nat) : Prop := Met l y w rm (zPc G av ws sz) (va_Qq post (zB G (va_A ws sz)) (va_A ws sz)) mc ms (va_A ws sz)
/-- a contract out of a walk -/
theorem zIn {l : Launch} {y : MethodName} {w w' : List Cond} {rm : Room} {G : zG} {av : List Value} {ws : va_W} {sz : Nat} {cc : ByteArray} {maxL : Nat} {ret : Option FieldType} {mc ms : Nat} {Qc : (Nat → Prop) → Array Value → State → Outcome → State → Prop} (hy : plainName y.cls = true) (hw : w = Cond.code y cc maxL ret :: w') (hlen : (lg_sl av).length ≤ maxL)
    (body : ∀ (p : Program) (e : Env) (s : State) (m : MethodId) (below : List Frame) (meth : Method) (c : Code) (A : Nat → Prop) (ls : Array Slot), p.tables.exec = Jvm.exec → c.code = cc → meth.sig.returnType = ret → meth.locks = false → c.maxLocals = maxL → (∀ x ∈ w, x.before av.toArray s = true) → s.vm.findClass y.cls = some m.cls → meth.name = y.name → zK G s → zW G A s s.heap [] ws → lv_has ls maxL (lv_args 0 av) → W p l e rm s m av.toArray below meth c s.heap [] 0 0 (MQ below (Qc A) av.toArray s mc ms A) (F0 m 0 ls [])) : Met l y w rm (zPc G av ws sz) (Qc (va_A ws sz)) mc ms (va_A ws sz) := by
  refine Met.ofW (cc := cc) (maxL := maxL) (ret := ret) hy hw ?_
  intro p e s m args below meth c s₁ B hml hv
  obtain ⟨rfl, hsz, hP, hK, hD0⟩ := hv
  subst hsz
  rw [lg_entry_eq]
  exact body p e s m below meth c _ _ B.exec B.bytes B.returns B.notSynchronized hml (atoms_spec (ws := w) B.pre) (findClass_of_methodNamed B.named) (name_of_methodNamed B.named B.method).1 hK ⟨hP, hD0.self, va_S.rf, fun q h => Or.inr h⟩ (lv_entry av hlen)
theorem zFree {G : zG} {A : Nat → Prop} {s : State} {H : Heap} {locs : List Loc} {ws : va_W} (w : zW G A s H locs ws) : ∀ q, va_A ws H.size q → A q := by
  intro q h
  rcases h with ⟨k, e, h⟩ | h
  · exact w.2.1.2 k (q, e) h
  · exact w.2.2.2 q (Nat.le_trans w.2.2.1.1 h)
section ZROWS
variable {p : Program} {l : Launch} {e : Env} {R : Room} {s : State} {m : MethodId} {args : Array Value} {below : List Frame} {meth : Method} {c : Code} {H : Heap} {locs : List Loc} {cells slots mc ms : Nat} {Q : State → Prop} {cc : ByteArray} {pc : Nat} {ls : Array Slot} {rest st0 : List Value} {G : zG} {A : Nat → Prop} {ws u : va_W} {av : Array Value}
theorem zRl {v : Int64} {post : Int64 → va_W → Prop} (hx : p.tables.exec = Jvm.exec) (hb : c.code = cc) (hr : meth.sig.returnType = some .long) (hlk : meth.locks = false) (w : zW G A s H locs u) (hdg : decode cc pc = .ok (.lreturn, 1)) (h1 : cells ≤ mc) (h2 : slots ≤ ms) (hp : post v u) : W p l e R s m args below meth c H locs cells slots (MQ below (va_Ql post (zB G A) A) args s mc ms A) (F0 m pc ls [.long v]) := by
  refine W.widen h1 h2 ?_
  exact W.lret hx hb hr (fun t ht hW => ⟨⟨v, u, rfl, hp, by rw [ht]; exact w.1, w.2.1⟩, w.2.2.1.F ht⟩) w.2.2.1.2.2 hdg hlk
theorem zRi {v : Int32} {post : Int32 → va_W → Prop} (hx : p.tables.exec = Jvm.exec) (hb : c.code = cc) (hr : meth.sig.returnType = some .int) (hlk : meth.locks = false) (w : zW G A s H locs u) (hdg : decode cc pc = .ok (.ireturn, 1)) (h1 : cells ≤ mc) (h2 : slots ≤ ms) (hp : post v u) : W p l e R s m args below meth c H locs cells slots (MQ below (va_Qi post (zB G A) A) args s mc ms A) (F0 m pc ls [.int v]) := by
  refine W.widen h1 h2 ?_
  exact W.iret hx hb hr (fun t ht hW => ⟨⟨v, u, rfl, hp, by rw [ht]; exact w.1, w.2.1⟩, w.2.2.1.F ht⟩) w.2.2.1.2.2 hdg hlk
theorem zRz {v : Int32} {post : Int32 → va_W → Prop} (hx : p.tables.exec = Jvm.exec) (hb : c.code = cc) (hr : meth.sig.returnType = some .boolean) (hlk : meth.locks = false) (hn : narrow .boolean (.int v) = .int v) (w : zW G A s H locs u) (hdg : decode cc pc = .ok (.ireturn, 1)) (h1 : cells ≤ mc) (h2 : slots ≤ ms) (hp : post v u) : W p l e R s m args below meth c H locs cells slots (MQ below (va_Qi post (zB G A) A) args s mc ms A) (F0 m pc ls [.int v]) := by
  refine W.widen h1 h2 ?_
  exact W.zret hx hb hr hn (fun t ht hW => ⟨⟨v, u, rfl, hp, by rw [ht]; exact w.1, w.2.1⟩, w.2.2.1.F ht⟩) w.2.2.1.2.2 hdg hlk
theorem zRf {v : UInt32} {post : UInt32 → va_W → Prop} (hx : p.tables.exec = Jvm.exec) (hb : c.code = cc) (hr : meth.sig.returnType = some .float) (hlk : meth.locks = false) (w : zW G A s H locs u) (hdg : decode cc pc = .ok (.freturn, 1)) (h1 : cells ≤ mc) (h2 : slots ≤ ms) (hp : post v u) : W p l e R s m args below meth c H locs cells slots (MQ below (va_Qf post (zB G A) A) args s mc ms A) (F0 m pc ls [.float v]) := by
  refine W.widen h1 h2 ?_
  exact W.fret hx hb hr (fun t ht hW => ⟨⟨v, u, rfl, hp, by rw [ht]; exact w.1, w.2.1⟩, w.2.2.1.F ht⟩) w.2.2.1.2.2 hdg hlk
theorem zRv {post : va_W → Prop} (hx : p.tables.exec = Jvm.exec) (hb : c.code = cc) (hr : meth.sig.returnType = none) (hlk : meth.locks = false) (w : zW G A s H locs u) (hdg : decode cc pc = .ok (.return_, 1)) (h1 : cells ≤ mc) (h2 : slots ≤ ms) (hp : post u) : W p l e R s m args below meth c H locs cells slots (MQ below (va_Qv post (zB G A) A) args s mc ms A) (F0 m pc ls []) := by
  refine W.widen h1 h2 ?_
  exact W.vret hx hb hr (fun t ht hW => ⟨⟨u, rfl, hp, by rw [ht]; exact w.1, w.2.1⟩, w.2.2.1.F ht⟩) w.2.2.1.2.2 hdg hlk
theorem zRq {v : Value} {r : Option Nat} {C : String} {post : Option Nat → va_W → Prop} (hx : p.tables.exec = Jvm.exec) (hb : c.code = cc) (hr : meth.sig.returnType = some (.object C)) (hlk : meth.locks = false) (w : zW G A s H locs u) (hv : v = va_rf r) (hdg : decode cc pc = .ok (.areturn, 1)) (h1 : cells ≤ mc) (h2 : slots ≤ ms) (hp : post r u) : W p l e R s m args below meth c H locs cells slots (MQ below (va_Qq post (zB G A) A) args s mc ms A) (F0 m pc ls [v]) := by
  subst hv
  refine W.widen h1 h2 ?_
  exact W.aret hx hb hr (Or.inl ⟨C, rfl⟩) (va_rf_or r) (fun t ht hW => ⟨⟨r, u, rfl, hp, by rw [ht]; exact w.1, w.2.1⟩, w.2.2.1.F ht⟩) w.2.2.1.2.2 hdg hlk
theorem zPV {b : Nat} {As : List Value} {C : String} (w : zW G A s H locs ws) (hK : zK G s) (hr : ∃ cell : Cell, H[b]? = some cell ∧ cell.vm.isStatics = false ∧ s.vm.findClass C = some cell.cls) : PreV s H C b (zPc G (.ref b :: As) ws H.size) As :=
  ⟨fun a U g mk q => by obtain ⟨q0, q1, qP, qK, qD⟩ := q; exact ⟨q0, q1, qP, zK.same rfl qK, qD⟩, hr, fun U hU hW => ⟨rfl, by rw [hU], by rw [hU]; exact w.1, hK.warm hW, w.2.1.weaken (fun _ _ _ _ => trivial)⟩⟩
theorem zPS {As : List Value} (w : zW G A s H locs ws) (hK : zK G s) : PreS s H (zPc G As ws H.size) As :=
  ⟨fun a U g mk q => by obtain ⟨q0, q1, qP, qK, qD⟩ := q; exact ⟨q0, q1, qP, zK.same rfl qK, qD⟩, fun U hU hW => ⟨rfl, by rw [hU], by rw [hU]; exact w.1, hK.warm hW, w.2.1.weaken (fun _ _ _ _ => trivial)⟩⟩
theorem zCl {post : Int64 → va_W → Prop} (w : zW G A s H locs ws) (hr : va_Run p l e R s m args below meth c H locs cells slots mc ms (F0 m pc ls st0) rest (va_Ql post (zB G (va_A ws H.size)) (va_A ws H.size) av) (va_A ws H.size)) (kk : ∀ (r : Int64) (u : va_W) (H1 : Heap) (locs1 : List Loc), post r u → zW G A s H1 locs1 u → W p l e R s m args below meth c H1 locs1 (cells + mc) (slots + ms) Q (F0 m (pc + 3) ls (.long r :: rest))) : W p l e R s m args below meth c H locs cells slots Q (F0 m pc ls st0) :=
  va_calll hr w.2.2.1 (fun q _ h => zFree w q h) (zFree w) (fun r u t H1 locs1 ht _ hq hB _ _ hS => kk r u H1 locs1 hq ⟨by rw [← ht]; exact hB.1, hB.2.weaken (fun _ q _ h => zFree w q.1 h), hS, w.2.2.2⟩)
theorem zCi {post : Int32 → va_W → Prop} (w : zW G A s H locs ws) (hr : va_Run p l e R s m args below meth c H locs cells slots mc ms (F0 m pc ls st0) rest (va_Qi post (zB G (va_A ws H.size)) (va_A ws H.size) av) (va_A ws H.size)) (kk : ∀ (r : Int32) (u : va_W) (H1 : Heap) (locs1 : List Loc), post r u → zW G A s H1 locs1 u → W p l e R s m args below meth c H1 locs1 (cells + mc) (slots + ms) Q (F0 m (pc + 3) ls (.int r :: rest))) : W p l e R s m args below meth c H locs cells slots Q (F0 m pc ls st0) :=
  va_calli hr w.2.2.1 (fun q _ h => zFree w q h) (zFree w) (fun r u t H1 locs1 ht _ hq hB _ _ hS => kk r u H1 locs1 hq ⟨by rw [← ht]; exact hB.1, hB.2.weaken (fun _ q _ h => zFree w q.1 h), hS, w.2.2.2⟩)
theorem zCf {post : UInt32 → va_W → Prop} (w : zW G A s H locs ws) (hr : va_Run p l e R s m args below meth c H locs cells slots mc ms (F0 m pc ls st0) rest (va_Qf post (zB G (va_A ws H.size)) (va_A ws H.size) av) (va_A ws H.size)) (kk : ∀ (r : UInt32) (u : va_W) (H1 : Heap) (locs1 : List Loc), post r u → zW G A s H1 locs1 u → W p l e R s m args below meth c H1 locs1 (cells + mc) (slots + ms) Q (F0 m (pc + 3) ls (.float r :: rest))) : W p l e R s m args below meth c H locs cells slots Q (F0 m pc ls st0) :=
  va_callf hr w.2.2.1 (fun q _ h => zFree w q h) (zFree w) (fun r u t H1 locs1 ht _ hq hB _ _ hS => kk r u H1 locs1 hq ⟨by rw [← ht]; exact hB.1, hB.2.weaken (fun _ q _ h => zFree w q.1 h), hS, w.2.2.2⟩)
theorem zCq {post : Option Nat → va_W → Prop} (w : zW G A s H locs ws) (hr : va_Run p l e R s m args below meth c H locs cells slots mc ms (F0 m pc ls st0) rest (va_Qq post (zB G (va_A ws H.size)) (va_A ws H.size) av) (va_A ws H.size)) (kk : ∀ (r : Option Nat) (u : va_W) (H1 : Heap) (locs1 : List Loc), post r u → zW G A s H1 locs1 u → W p l e R s m args below meth c H1 locs1 (cells + mc) (slots + ms) Q (F0 m (pc + 3) ls (va_rf r :: rest))) : W p l e R s m args below meth c H locs cells slots Q (F0 m pc ls st0) :=
  va_callq hr w.2.2.1 (fun q _ h => zFree w q h) (zFree w) (fun r u t H1 locs1 ht _ hq hB _ _ hS => kk r u H1 locs1 hq ⟨by rw [← ht]; exact hB.1, hB.2.weaken (fun _ q _ h => zFree w q.1 h), hS, w.2.2.2⟩)
theorem zCv {post : va_W → Prop} (w : zW G A s H locs ws) (hr : va_Run p l e R s m args below meth c H locs cells slots mc ms (F0 m pc ls st0) rest (va_Qv post (zB G (va_A ws H.size)) (va_A ws H.size) av) (va_A ws H.size)) (kk : ∀ (u : va_W) (H1 : Heap) (locs1 : List Loc), post u → zW G A s H1 locs1 u → W p l e R s m args below meth c H1 locs1 (cells + mc) (slots + ms) Q (F0 m (pc + 3) ls rest)) : W p l e R s m args below meth c H locs cells slots Q (F0 m pc ls st0) :=
  va_callv hr w.2.2.1 (fun q _ h => zFree w q h) (zFree w) (fun u t H1 locs1 ht _ hq hB _ _ hS => kk u H1 locs1 hq ⟨by rw [← ht]; exact hB.1, hB.2.weaken (fun _ q _ h => zFree w q.1 h), hS, w.2.2.2⟩)
/-! fields and arrays of a listed world -/
theorem zget (hx : p.tables.exec = Jvm.exec) (hb : c.code = cc) {own ref C : String} {T : u_T} {N ci index a : Nat} {Ts : List Cond} (hts : ∀ w ∈ Ts, w.before args s = true) (hown : s.vm.findClass own = some m.cls) (hK : zK G s) (w : zW G A s H locs ws) (hin : ∀ w ∈ u_ws C T N, w ∈ Ts) (q0 : Nat) {fs : List Value} (he : ws[q0]? = some (a, .inr (ci, fs))) (hc : vwCl[ci]? = some (C, T, N)) (k : Nat) (hk : k < N) (hlink : (Cond.fieldLink own index ref (T k).2.1 (T k).2.2.1).before args s = true) (hsame : ∀ x, s.fieldFound? (T k).1 (T k).2.1 (T k).2.2.1 = some x → s.fieldFound? ref (T k).2.1 (T k).2.2.1 = some x) {v : Value} (hv : fs[k]? = some v) (hdg : decode cc pc = .ok (.getfield index, 3))
    (kk : W p l e R s m args below meth c H locs cells slots Q (F0 m (pc + 3) ls (v :: rest))) : W p l e R s m args below meth c H locs cells slots Q (F0 m pc ls (.ref a :: rest)) :=
  va_get hx hb hts hin hown hK.1 w.1 q0 he hc k hk hlink hsame hv hdg kk
theorem pgIx {L : List Nat} {f : Nat → va_E} {a : Nat} (h : a ∈ L) : ∃ k : Nat, (va_pl L f)[k]? = some (a, f a) := va_pl_get (X := []) h
theorem pgSt {L : List Nat} {f : Nat → va_E} {a k : Nat} {x : va_E} (hD : va_D A (va_pl L f)) (h : a ∈ L) (hk : (va_pl L f)[k]? = some (a, f a)) : (va_pl L f).set k (a, x) = va_pl L (va_up f a x) := va_pl_set (X := []) hD h hk
end ZROWS
end
section
/-! ===== a world that is a pool: the addresses L, and what f says of each ===== -/
section ZPOOL
variable {p : Program} {l : Launch} {e : Env} {R : Room} {s : State} {m : MethodId} {args : Array Value} {below : List Frame} {meth : Method} {c : Code} {H : Heap} {locs : List Loc} {cells slots mc ms : Nat} {Q : State → Prop} {cc : ByteArray} {pc : Nat} {ls : Array Slot} {rest st0 : List Value} {G : zG} {A : Nat → Prop} {L : List Nat} {f : Nat → va_E} {a : Nat}
theorem px_get (hx : p.tables.exec = Jvm.exec) (hb : c.code = cc) {own ref C : String} {T : u_T} {N ci index : Nat} {Ts : List Cond} (hts : ∀ w ∈ Ts, w.before args s = true) (hown : s.vm.findClass own = some m.cls) (hK : zK G s) (w : zW G A s H locs (va_pl L f)) (ha : a ∈ L) (hin : ∀ w ∈ u_ws C T N, w ∈ Ts) {fs : List Value} (hf : f a = .inr (ci, fs)) (hc : vwCl[ci]? = some (C, T, N)) (k : Nat) (hk : k < N) (hlink : (Cond.fieldLink own index ref (T k).2.1 (T k).2.2.1).before args s = true) (hsame : ∀ x, s.fieldFound? (T k).1 (T k).2.1 (T k).2.2.1 = some x → s.fieldFound? ref (T k).2.1 (T k).2.2.1 = some x) {v : Value} (hv : fs[k]? = some v) (hdg : decode cc pc = .ok (.getfield index, 3))
    (kk : W p l e R s m args below meth c H locs cells slots Q (F0 m (pc + 3) ls (v :: rest))) : W p l e R s m args below meth c H locs cells slots Q (F0 m pc ls (.ref a :: rest)) := by
  obtain ⟨i, hi⟩ := pgIx (f := f) ha
  rw [hf] at hi
  exact va_get hx hb hts hin hown hK.1 w.1 i hi hc k hk hlink hsame hv hdg kk
theorem px_put (hx : p.tables.exec = Jvm.exec) (hb : c.code = cc) {own ref C : String} {T : u_T} {N ci index : Nat} {Ts : List Cond} (hts : ∀ w ∈ Ts, w.before args s = true) (hown : s.vm.findClass own = some m.cls) (hK : zK G s) (w : zW G A s H locs (va_pl L f)) (ha : a ∈ L) (hin : ∀ w ∈ u_ws C T N, w ∈ Ts) (ty0 : Nat → FieldType) (hty : ∀ k, k < N → parseFieldDescriptor (T k).2.2.1 = some (ty0 k)) (hnm : ∀ a, a < N → ∀ b, b < N → a ≠ b → (T a).2.1 ≠ (T b).2.1) {fs : List Value} (hf : f a = .inr (ci, fs)) (hc : vwCl[ci]? = some (C, T, N)) (k : Nat) (hk : k < N) (hlink : (Cond.fieldLink own index ref (T k).2.1 (T k).2.2.1).before args s = true) (hsame : ∀ x, s.fieldFound? (T k).1 (T k).2.1 (T k).2.2.1 = some x → s.fieldFound? ref (T k).2.1 (T k).2.2.1 = some x) (hfin : (T k).2.2.2 = false) {ty : FieldType} {v : Value} (hd : parseFieldDescriptor (T k).2.2.1 = some ty) (hn : narrow ty v = v) (hfit : fits ty v = true) (hl : k < fs.length) (hdg : decode cc pc = .ok (.putfield index, 3))
    (kk : ∀ (H1 : Heap) (locs1 : List Loc), zW G A s H1 locs1 (va_pl L (va_up f a (.inr (ci, fs.set k v)))) → W p l e R s m args below meth c H1 locs1 cells slots Q (F0 m (pc + 3) ls rest)) : W p l e R s m args below meth c H locs cells slots Q (F0 m pc ls (v :: .ref a :: rest)) := by
  obtain ⟨i, hi⟩ := pgIx (f := f) ha
  have hi2 := hi
  rw [hf] at hi2
  refine va_put hx hb hts hin ty0 hty hnm hown hK.1 w.1 w.2.1 w.2.2.1 i hi2 hc k hk hlink hsame hfin hd hn hfit hl hdg (fun H1 locs1 hP hD hS => ?_)
  rw [pgSt w.2.1 ha hi] at hP hD
  exact kk H1 locs1 ⟨hP, hD, hS, w.2.2.2⟩
theorem px_putF (hx : p.tables.exec = Jvm.exec) (hb : c.code = cc) {own ref C : String} {T : u_T} {N ci index : Nat} {Ts : List Cond} (hts : ∀ w ∈ Ts, w.before args s = true) (hown : s.vm.findClass own = some m.cls) (hK : zK G s) (w : zW G A s H locs (va_pl L f)) (ha : a ∈ L) (hin : ∀ w ∈ u_ws C T N, w ∈ Ts) (ty0 : Nat → FieldType) (hty : ∀ k, k < N → parseFieldDescriptor (T k).2.2.1 = some (ty0 k)) (hnm : ∀ a, a < N → ∀ b, b < N → a ≠ b → (T a).2.1 ≠ (T b).2.1) {fs : List Value} (hf : f a = .inr (ci, fs)) (hc : vwCl[ci]? = some (C, T, N)) (k : Nat) (hk : k < N) (hlink : (Cond.fieldLink own index ref (T k).2.1 (T k).2.2.1).before args s = true) (hsame : ∀ x, s.fieldFound? (T k).1 (T k).2.1 (T k).2.2.1 = some x → s.fieldFound? ref (T k).2.1 (T k).2.2.1 = some x) (hfin : (T k).2.2.2 = true) (hin2 : meth.name = "<init>") (hdecl : (T k).1 = own) {ty : FieldType} {v : Value} (hd : parseFieldDescriptor (T k).2.2.1 = some ty) (hn : narrow ty v = v) (hfit : fits ty v = true) (hl : k < fs.length) (hdg : decode cc pc = .ok (.putfield index, 3))
    (kk : ∀ (H1 : Heap) (locs1 : List Loc), zW G A s H1 locs1 (va_pl L (va_up f a (.inr (ci, fs.set k v)))) → W p l e R s m args below meth c H1 locs1 cells slots Q (F0 m (pc + 3) ls rest)) : W p l e R s m args below meth c H locs cells slots Q (F0 m pc ls (v :: .ref a :: rest)) := by
  obtain ⟨i, hi⟩ := pgIx (f := f) ha
  have hi2 := hi
  rw [hf] at hi2
  refine va_putF hx hb hts hin ty0 hty hnm hown hK.1 w.1 w.2.1 w.2.2.1 i hi2 hc k hk hlink hsame hfin hin2 hdecl hd hn hfit hl hdg (fun H1 locs1 hP hD hS => ?_)
  rw [pgSt w.2.1 ha hi] at hP hD
  exact kk H1 locs1 ⟨hP, hD, hS, w.2.2.2⟩
theorem px_iald (hx : p.tables.exec = Jvm.exec) (hb : c.code = cc) (hK : zK G s) (w : zW G A s H locs (va_pl L f)) (ha : a ∈ L) {n : Nat} {g : Nat → Int32} (hf : f a = .inl (G.2 4, n, .inl g)) {i : Int32} (hi : vp_in i n) (hdg : decode cc pc = .ok (.iaload, 1))
    (kk : W p l e R s m args below meth c H locs cells slots Q (F0 m (pc + 1) ls (.int (g i.toNatClampNeg) :: rest))) : W p l e R s m args below meth c H locs cells slots Q (F0 m pc ls (.int i :: .ref a :: rest)) := by
  obtain ⟨k, hk⟩ := pgIx (f := f) ha
  rw [hf] at hk
  exact va_iald hx hb hK.1 w.1 k 4 hk rfl hi hdg kk
theorem px_zald (hx : p.tables.exec = Jvm.exec) (hb : c.code = cc) (hK : zK G s) (w : zW G A s H locs (va_pl L f)) (ha : a ∈ L) {n : Nat} {g : Nat → Int32} (hf : f a = .inl (G.2 1, n, .inl g)) {i : Int32} (hi : vp_in i n) (hdg : decode cc pc = .ok (.baload, 1))
    (kk : W p l e R s m args below meth c H locs cells slots Q (F0 m (pc + 1) ls (.int (g i.toNatClampNeg) :: rest))) : W p l e R s m args below meth c H locs cells slots Q (F0 m pc ls (.int i :: .ref a :: rest)) := by
  obtain ⟨k, hk⟩ := pgIx (f := f) ha
  rw [hf] at hk
  exact va_zald hx hb hK.1 w.1 k 1 hk rfl hi hdg kk
theorem px_cald (hx : p.tables.exec = Jvm.exec) (hb : c.code = cc) (hK : zK G s) (w : zW G A s H locs (va_pl L f)) (ha : a ∈ L) {n : Nat} {g : Nat → Int32} (hf : f a = .inl (G.2 2, n, .inl g)) {i : Int32} (hi : vp_in i n) (hdg : decode cc pc = .ok (.caload, 1))
    (kk : W p l e R s m args below meth c H locs cells slots Q (F0 m (pc + 1) ls (.int (g i.toNatClampNeg) :: rest))) : W p l e R s m args below meth c H locs cells slots Q (F0 m pc ls (.int i :: .ref a :: rest)) := by
  obtain ⟨k, hk⟩ := pgIx (f := f) ha
  rw [hf] at hk
  exact va_cald hx hb hK.1 w.1 k 2 hk rfl hi hdg kk
theorem px_sald (hx : p.tables.exec = Jvm.exec) (hb : c.code = cc) (hK : zK G s) (w : zW G A s H locs (va_pl L f)) (ha : a ∈ L) {n : Nat} {g : Nat → Int32} (hf : f a = .inl (G.2 3, n, .inl g)) {i : Int32} (hi : vp_in i n) (hdg : decode cc pc = .ok (.saload, 1))
    (kk : W p l e R s m args below meth c H locs cells slots Q (F0 m (pc + 1) ls (.int (g i.toNatClampNeg) :: rest))) : W p l e R s m args below meth c H locs cells slots Q (F0 m pc ls (.int i :: .ref a :: rest)) := by
  obtain ⟨k, hk⟩ := pgIx (f := f) ha
  rw [hf] at hk
  exact va_sald hx hb hK.1 w.1 k 3 hk rfl hi hdg kk
theorem px_fald (hx : p.tables.exec = Jvm.exec) (hb : c.code = cc) (hK : zK G s) (w : zW G A s H locs (va_pl L f)) (ha : a ∈ L) {n : Nat} {g : Nat → UInt32} (hf : f a = .inl (G.2 0, n, .inr (.inr (.inl g)))) {i : Int32} (hi : vp_in i n) (hdg : decode cc pc = .ok (.faload, 1))
    (kk : W p l e R s m args below meth c H locs cells slots Q (F0 m (pc + 1) ls (.float (g i.toNatClampNeg) :: rest))) : W p l e R s m args below meth c H locs cells slots Q (F0 m pc ls (.int i :: .ref a :: rest)) := by
  obtain ⟨k, hk⟩ := pgIx (f := f) ha
  rw [hf] at hk
  exact va_fald hx hb hK.1 w.1 k 0 hk rfl hi hdg kk
theorem px_aldR (hx : p.tables.exec = Jvm.exec) (hb : c.code = cc) (hK : zK G s) (w : zW G A s H locs (va_pl L f)) (ha : a ∈ L) {n : Nat} {g : Nat → Option Nat} (hf : f a = .inl (G.2 5, n, .inr (.inr (.inr (.inr g))))) {i : Int32} (hi : vp_in i n) (hdg : decode cc pc = .ok (.aaload, 1))
    (kk : W p l e R s m args below meth c H locs cells slots Q (F0 m (pc + 1) ls (va_rf (g i.toNatClampNeg) :: rest))) : W p l e R s m args below meth c H locs cells slots Q (F0 m pc ls (.int i :: .ref a :: rest)) := by
  obtain ⟨k, hk⟩ := pgIx (f := f) ha
  rw [hf] at hk
  exact va_aldq (C := RX3) hx hb hK.1 w.1 k 5 hk rfl hi hdg kk
theorem px_aldW (hx : p.tables.exec = Jvm.exec) (hb : c.code = cc) (hK : zK G s) (w : zW G A s H locs (va_pl L f)) (ha : a ∈ L) {n : Nat} {g : Nat → Option Nat} (hf : f a = .inl (G.2 6, n, .inr (.inr (.inr (.inr g))))) {i : Int32} (hi : vp_in i n) (hdg : decode cc pc = .ok (.aaload, 1))
    (kk : W p l e R s m args below meth c H locs cells slots Q (F0 m (pc + 1) ls (va_rf (g i.toNatClampNeg) :: rest))) : W p l e R s m args below meth c H locs cells slots Q (F0 m pc ls (.int i :: .ref a :: rest)) := by
  obtain ⟨k, hk⟩ := pgIx (f := f) ha
  rw [hf] at hk
  exact va_aldq (C := RX4) hx hb hK.1 w.1 k 6 hk rfl hi hdg kk
theorem px_iast (hx : p.tables.exec = Jvm.exec) (hb : c.code = cc) (hK : zK G s) (w : zW G A s H locs (va_pl L f)) (ha : a ∈ L) {n : Nat} {g : Nat → Int32} (hf : f a = .inl (G.2 4, n, .inl g)) {i : Int32} {x : Int32} (hi : vp_in i n) (hdg : decode cc pc = .ok (.iastore, 1))
    (kk : ∀ (H1 : Heap) (locs1 : List Loc), zW G A s H1 locs1 (va_pl L (va_up f a (.inl (G.2 4, n, .inl (upd g i.toNatClampNeg x))))) → W p l e R s m args below meth c H1 locs1 cells slots Q (F0 m (pc + 1) ls rest)) : W p l e R s m args below meth c H locs cells slots Q (F0 m pc ls (.int x :: .int i :: .ref a :: rest)) := by
  obtain ⟨k, hk⟩ := pgIx (f := f) ha
  have hk2 := hk
  rw [hf] at hk2
  refine va_iast hx hb hK.1 w.1 w.2.1 w.2.2.1 k 4 hk2 rfl hi hdg (fun H1 locs1 hP hD hS => ?_)
  rw [pgSt w.2.1 ha hk] at hP hD
  exact kk H1 locs1 ⟨hP, hD, hS, w.2.2.2⟩
theorem px_zast (hx : p.tables.exec = Jvm.exec) (hb : c.code = cc) (hK : zK G s) (w : zW G A s H locs (va_pl L f)) (ha : a ∈ L) {n : Nat} {g : Nat → Int32} (hf : f a = .inl (G.2 1, n, .inl g)) {i : Int32} {x : Int32} (hi : vp_in i n) (hdg : decode cc pc = .ok (.bastore, 1))
    (kk : ∀ (H1 : Heap) (locs1 : List Loc), zW G A s H1 locs1 (va_pl L (va_up f a (.inl (G.2 1, n, .inl (upd g i.toNatClampNeg (vp_nar .boolean x)))))) → W p l e R s m args below meth c H1 locs1 cells slots Q (F0 m (pc + 1) ls rest)) : W p l e R s m args below meth c H locs cells slots Q (F0 m pc ls (.int x :: .int i :: .ref a :: rest)) := by
  obtain ⟨k, hk⟩ := pgIx (f := f) ha
  have hk2 := hk
  rw [hf] at hk2
  refine va_zast hx hb hK.1 w.1 w.2.1 w.2.2.1 k 1 hk2 rfl hi hdg (fun H1 locs1 hP hD hS => ?_)
  rw [pgSt w.2.1 ha hk] at hP hD
  exact kk H1 locs1 ⟨hP, hD, hS, w.2.2.2⟩
theorem px_cast (hx : p.tables.exec = Jvm.exec) (hb : c.code = cc) (hK : zK G s) (w : zW G A s H locs (va_pl L f)) (ha : a ∈ L) {n : Nat} {g : Nat → Int32} (hf : f a = .inl (G.2 2, n, .inl g)) {i : Int32} {x : Int32} (hi : vp_in i n) (hdg : decode cc pc = .ok (.castore, 1))
    (kk : ∀ (H1 : Heap) (locs1 : List Loc), zW G A s H1 locs1 (va_pl L (va_up f a (.inl (G.2 2, n, .inl (upd g i.toNatClampNeg (vp_nar .char x)))))) → W p l e R s m args below meth c H1 locs1 cells slots Q (F0 m (pc + 1) ls rest)) : W p l e R s m args below meth c H locs cells slots Q (F0 m pc ls (.int x :: .int i :: .ref a :: rest)) := by
  obtain ⟨k, hk⟩ := pgIx (f := f) ha
  have hk2 := hk
  rw [hf] at hk2
  refine va_cast hx hb hK.1 w.1 w.2.1 w.2.2.1 k 2 hk2 rfl hi hdg (fun H1 locs1 hP hD hS => ?_)
  rw [pgSt w.2.1 ha hk] at hP hD
  exact kk H1 locs1 ⟨hP, hD, hS, w.2.2.2⟩
theorem px_sast (hx : p.tables.exec = Jvm.exec) (hb : c.code = cc) (hK : zK G s) (w : zW G A s H locs (va_pl L f)) (ha : a ∈ L) {n : Nat} {g : Nat → Int32} (hf : f a = .inl (G.2 3, n, .inl g)) {i : Int32} {x : Int32} (hi : vp_in i n) (hdg : decode cc pc = .ok (.sastore, 1))
    (kk : ∀ (H1 : Heap) (locs1 : List Loc), zW G A s H1 locs1 (va_pl L (va_up f a (.inl (G.2 3, n, .inl (upd g i.toNatClampNeg (vp_nar .short x)))))) → W p l e R s m args below meth c H1 locs1 cells slots Q (F0 m (pc + 1) ls rest)) : W p l e R s m args below meth c H locs cells slots Q (F0 m pc ls (.int x :: .int i :: .ref a :: rest)) := by
  obtain ⟨k, hk⟩ := pgIx (f := f) ha
  have hk2 := hk
  rw [hf] at hk2
  refine va_sast hx hb hK.1 w.1 w.2.1 w.2.2.1 k 3 hk2 rfl hi hdg (fun H1 locs1 hP hD hS => ?_)
  rw [pgSt w.2.1 ha hk] at hP hD
  exact kk H1 locs1 ⟨hP, hD, hS, w.2.2.2⟩
theorem px_fast (hx : p.tables.exec = Jvm.exec) (hb : c.code = cc) (hK : zK G s) (w : zW G A s H locs (va_pl L f)) (ha : a ∈ L) {n : Nat} {g : Nat → UInt32} (hf : f a = .inl (G.2 0, n, .inr (.inr (.inl g)))) {i : Int32} {x : UInt32} (hi : vp_in i n) (hdg : decode cc pc = .ok (.fastore, 1))
    (kk : ∀ (H1 : Heap) (locs1 : List Loc), zW G A s H1 locs1 (va_pl L (va_up f a (.inl (G.2 0, n, .inr (.inr (.inl (vf_upd g i.toNatClampNeg x))))))) → W p l e R s m args below meth c H1 locs1 cells slots Q (F0 m (pc + 1) ls rest)) : W p l e R s m args below meth c H locs cells slots Q (F0 m pc ls (.float x :: .int i :: .ref a :: rest)) := by
  obtain ⟨k, hk⟩ := pgIx (f := f) ha
  have hk2 := hk
  rw [hf] at hk2
  refine va_fast hx hb hK.1 w.1 w.2.1 w.2.2.1 k 0 hk2 rfl hi hdg (fun H1 locs1 hP hD hS => ?_)
  rw [pgSt w.2.1 ha hk] at hP hD
  exact kk H1 locs1 ⟨hP, hD, hS, w.2.2.2⟩
theorem px_astRN (hx : p.tables.exec = Jvm.exec) (hb : c.code = cc) (hK : zK G s) (w : zW G A s H locs (va_pl L f)) (ha : a ∈ L) {n : Nat} {g : Nat → Option Nat} (hf : f a = .inl (G.2 5, n, .inr (.inr (.inr (.inr g))))) {i : Int32} (hi : vp_in i n) (hdg : decode cc pc = .ok (.aastore, 1))
    (kk : ∀ (H1 : Heap) (locs1 : List Loc), zW G A s H1 locs1 (va_pl L (va_up f a (.inl (G.2 5, n, .inr (.inr (.inr (.inr (va_up g i.toNatClampNeg none)))))))) → W p l e R s m args below meth c H1 locs1 cells slots Q (F0 m (pc + 1) ls rest)) : W p l e R s m args below meth c H locs cells slots Q (F0 m pc ls (.null :: .int i :: .ref a :: rest)) := by
  obtain ⟨k, hk⟩ := pgIx (f := f) ha
  have hk2 := hk
  rw [hf] at hk2
  refine va_astqN (C := RX3) hx hb hK.1 w.1 w.2.1 w.2.2.1 k 5 hk2 rfl hi hdg (fun H1 locs1 hP hD hS => ?_)
  rw [pgSt w.2.1 ha hk] at hP hD
  exact kk H1 locs1 ⟨hP, hD, hS, w.2.2.2⟩
/-- the four kinds of reel: their class's number, the place of the word that it is a Reel -/
def zRk (ci : Nat) : Prop := ci = 0 ∨ ci = 1 ∨ ci = 2 ∨ ci = 4
theorem px_astR (hx : p.tables.exec = Jvm.exec) (hb : c.code = cc) (hK : zK G s) (w : zW G A s H locs (va_pl L f)) (ha : a ∈ L) {n v ci : Nat} {fs : List Value} {g : Nat → Option Nat} (hf : f a = .inl (G.2 5, n, .inr (.inr (.inr (.inr g))))) (hv : v ∈ L) (hfv : f v = .inr (ci, fs)) (hci : zRk ci) {i : Int32} (hi : vp_in i n) (hdg : decode cc pc = .ok (.aastore, 1))
    (kk : ∀ (H1 : Heap) (locs1 : List Loc), zW G A s H1 locs1 (va_pl L (va_up f a (.inl (G.2 5, n, .inr (.inr (.inr (.inr (va_up g i.toNatClampNeg (some v))))))))) → W p l e R s m args below meth c H1 locs1 cells slots Q (F0 m (pc + 1) ls rest)) : W p l e R s m args below meth c H locs cells slots Q (F0 m pc ls (.ref v :: .int i :: .ref a :: rest)) := by
  obtain ⟨k, hk⟩ := pgIx (f := f) ha
  obtain ⟨kv, hkv⟩ := pgIx (f := f) hv
  have hk2 := hk
  rw [hf] at hk2
  rw [hfv] at hkv
  have go : ∀ (r : vw_C), vwCl[ci]? = some r → va_Nw (.castable r.1 RX3) s → W p l e R s m args below meth c H locs cells slots Q (F0 m pc ls (.ref v :: .int i :: .ref a :: rest)) := fun r hr hca => by
    refine va_astqO (E := RX3) hx hb hK.1 w.1 w.2.1 w.2.2.1 k 5 kv ci hk2 rfl hca hkv hr hi hdg (fun H1 locs1 hP hD hS => ?_)
    rw [pgSt w.2.1 ha hk] at hP hD
    exact kk H1 locs1 ⟨hP, hD, hS, w.2.2.2⟩
  obtain ⟨-, -, -, ⟨c1, c2, c3, c4⟩, -⟩ := hK
  rcases hci with rfl | rfl | rfl | rfl
  · exact go _ rfl c1
  · exact go _ rfl c2
  · exact go _ rfl c3
  · exact go _ rfl c4
theorem px_astW (hx : p.tables.exec = Jvm.exec) (hb : c.code = cc) (hK : zK G s) (w : zW G A s H locs (va_pl L f)) (ha : a ∈ L) {n v : Nat} {fs : List Value} {g : Nat → Option Nat} (hf : f a = .inl (G.2 6, n, .inr (.inr (.inr (.inr g))))) (hv : v ∈ L) (hfv : f v = .inr (3, fs)) {i : Int32} (hi : vp_in i n) (hdg : decode cc pc = .ok (.aastore, 1))
    (kk : ∀ (H1 : Heap) (locs1 : List Loc), zW G A s H1 locs1 (va_pl L (va_up f a (.inl (G.2 6, n, .inr (.inr (.inr (.inr (va_up g i.toNatClampNeg (some v))))))))) → W p l e R s m args below meth c H1 locs1 cells slots Q (F0 m (pc + 1) ls rest)) : W p l e R s m args below meth c H locs cells slots Q (F0 m pc ls (.ref v :: .int i :: .ref a :: rest)) := by
  obtain ⟨k, hk⟩ := pgIx (f := f) ha
  obtain ⟨kv, hkv⟩ := pgIx (f := f) hv
  have hk2 := hk
  rw [hf] at hk2
  rw [hfv] at hkv
  refine va_astq (r := (RX4, TX4, 1)) hx hb hK.1 w.1 w.2.1 w.2.2.1 k 6 kv 3 hk2 rfl hkv rfl hi hdg (fun H1 locs1 hP hD hS => ?_)
  rw [pgSt w.2.1 ha hk] at hP hD
  exact kk H1 locs1 ⟨hP, hD, hS, w.2.2.2⟩
theorem px_alen (hx : p.tables.exec = Jvm.exec) (hb : c.code = cc) (hK : zK G s) (w : zW G A s H locs (va_pl L f)) (ha : a ∈ L) {cA : ClassId} {x : vp_A} (hf : f a = .inl (cA, x)) (t0 : Nat) {ty : FieldType} (ht : (zT G.2)[t0]? = some (cA, ty)) (hdg : decode cc pc = .ok (.arraylength, 1))
    (kk : W p l e R s m args below meth c H locs cells slots Q (F0 m (pc + 1) ls (.int (nI x.1) :: rest))) : W p l e R s m args below meth c H locs cells slots Q (F0 m pc ls (.ref a :: rest)) := by
  obtain ⟨k, hk⟩ := pgIx (f := f) ha
  rw [hf] at hk
  exact va_alen hx hb hK.1 w.1 k t0 hk ht rfl hdg kk
theorem px_recv {ci : Nat} {fs : List Value} {r : vw_C} (hK : zK G s) (w : zW G A s H locs (va_pl L f)) (ha : a ∈ L) (hf : f a = .inr (ci, fs)) (hc : vwCl[ci]? = some r) : ∃ cell : Cell, H[a]? = some cell ∧ cell.vm.isStatics = false ∧ s.vm.findClass r.1 = some cell.cls := by
  obtain ⟨k, hk⟩ := pgIx (f := f) ha
  rw [hf] at hk
  exact va_recv hK.1 w.1 hc hk
set_option maxHeartbeats 200000 in
theorem px_new (hx : p.tables.exec = Jvm.exec) (hb : c.code = cc) {own C : String} {T : u_T} {N ci index : Nat} {Ts : List Cond} (hts : ∀ w ∈ Ts, w.before args s = true) (hown : s.vm.findClass own = some m.cls) (hK : zK G s) (w : zW G A s H locs (va_pl L f)) (hin : ∀ w ∈ u_ws C T N, w ∈ Ts) (ty : Nat → FieldType) (hty : ∀ k, k < N → parseFieldDescriptor (T k).2.2.1 = some (ty k)) (hcl : (Cond.classLink own index C).before args s = true) (hinst : (Cond.instantiable C N).before args s = true) (hini : (Cond.initialized C).before args s = true) (hc : vwCl[ci]? = some (C, T, N)) {fs : List Value} (hfs : ∀ j, j < N → defaultValue (ty j) = vp_V fs j) (hcells : cells + 1 ≤ R.cells) (hslots : slots + N ≤ R.slots) (hdg : decode cc pc = .ok (.new index, 3))
    (kk : ∀ (q : Nat) (H1 : Heap), q ∉ L → zW G A s H1 locs (va_pl (L ++ [q]) (va_up f q (.inr (ci, fs)))) → W p l e R s m args below meth c H1 locs (cells + 1) (slots + N) Q (F0 m (pc + 3) ls (.ref q :: rest))) : W p l e R s m args below meth c H locs cells slots Q (F0 m pc ls rest) := by
  refine va_new hx hb hts hin ty hty hown hcl hinst hini hK.1 w.1 w.2.1 w.2.2.1 w.2.2.2 hc hfs hcells hslots hdg (fun q H1 hP hD hS => ?_)
  have hq : q ∉ L := va_pl_fresh2 (X := []) hD
  rw [va_pl_push hq] at hP hD
  exact kk q H1 hq ⟨hP, hD, hS, w.2.2.2⟩
set_option maxHeartbeats 200000 in
theorem px_newI (hx : p.tables.exec = Jvm.exec) (hb : c.code = cc) (harr : (Cond.arrayClass .int).before args s = true) (hK : zK G s) (w : zW G A s H locs (va_pl L f)) {n : Int32} {N' : Nat} (hn : ¬ n < 0) (hN : n.toNatClampNeg = N') (hb2 : N' ≤ 4096) (hcells : cells + 1 ≤ R.cells) (hslots : slots + N' ≤ R.slots) (hdg : decode cc pc = .ok (.newarray .int, 2))
    (kk : ∀ (q : Nat) (H1 : Heap), q ∉ L → zW G A s H1 locs (va_pl (L ++ [q]) (va_up f q (.inl (G.2 4, N', .inl (fun _ => 0))))) → W p l e R s m args below meth c H1 locs (cells + 1) (slots + N') Q (F0 m (pc + 2) ls (.ref q :: rest))) : W p l e R s m args below meth c H locs cells slots Q (F0 m pc ls (.int n :: rest)) := by
  refine va_newa (a0 := (N', .inl (fun _ => 0))) (atype := .int) (ty := .int) hx hb harr rfl hK.1 w.1 w.2.1 w.2.2.1 w.2.2.2 (fun cA => rfl) hn hN (by show N' * 4 ≤ _; omega) hcells hslots hdg (fun q cA H1 hK2 hP hD hS => ?_)
  have e1 : s.vm.findClass ("[" ++ (FieldType.toString .int)) = some (G.2 4) := (hK.1.2 4 _ rfl).2
  have e2 : s.vm.findClass ("[" ++ (FieldType.toString .int)) = some cA := (hK2.2 8 _ rfl).2
  have e3 : cA = G.2 4 := Option.some.inj (e2.symm.trans e1)
  subst e3
  have hq : q ∉ L := va_pl_fresh2 (X := []) hD
  rw [va_pl_push hq] at hP hD
  exact kk q H1 hq ⟨hP, hD, hS, w.2.2.2⟩
set_option maxHeartbeats 200000 in
theorem px_newZ (hx : p.tables.exec = Jvm.exec) (hb : c.code = cc) (harr : (Cond.arrayClass .boolean).before args s = true) (hK : zK G s) (w : zW G A s H locs (va_pl L f)) {n : Int32} {N' : Nat} (hn : ¬ n < 0) (hN : n.toNatClampNeg = N') (hb2 : N' ≤ 4096) (hcells : cells + 1 ≤ R.cells) (hslots : slots + N' ≤ R.slots) (hdg : decode cc pc = .ok (.newarray .boolean, 2))
    (kk : ∀ (q : Nat) (H1 : Heap), q ∉ L → zW G A s H1 locs (va_pl (L ++ [q]) (va_up f q (.inl (G.2 1, N', .inl (fun _ => 0))))) → W p l e R s m args below meth c H1 locs (cells + 1) (slots + N') Q (F0 m (pc + 2) ls (.ref q :: rest))) : W p l e R s m args below meth c H locs cells slots Q (F0 m pc ls (.int n :: rest)) := by
  refine va_newa (a0 := (N', .inl (fun _ => 0))) (atype := .boolean) (ty := .boolean) hx hb harr rfl hK.1 w.1 w.2.1 w.2.2.1 w.2.2.2 (fun cA => rfl) hn hN (by show N' * 1 ≤ _; omega) hcells hslots hdg (fun q cA H1 hK2 hP hD hS => ?_)
  have e1 : s.vm.findClass ("[" ++ (FieldType.toString .boolean)) = some (G.2 1) := (hK.1.2 1 _ rfl).2
  have e2 : s.vm.findClass ("[" ++ (FieldType.toString .boolean)) = some cA := (hK2.2 8 _ rfl).2
  have e3 : cA = G.2 1 := Option.some.inj (e2.symm.trans e1)
  subst e3
  have hq : q ∉ L := va_pl_fresh2 (X := []) hD
  rw [va_pl_push hq] at hP hD
  exact kk q H1 hq ⟨hP, hD, hS, w.2.2.2⟩
set_option maxHeartbeats 200000 in
theorem px_newC (hx : p.tables.exec = Jvm.exec) (hb : c.code = cc) (harr : (Cond.arrayClass .char).before args s = true) (hK : zK G s) (w : zW G A s H locs (va_pl L f)) {n : Int32} {N' : Nat} (hn : ¬ n < 0) (hN : n.toNatClampNeg = N') (hb2 : N' ≤ 4096) (hcells : cells + 1 ≤ R.cells) (hslots : slots + N' ≤ R.slots) (hdg : decode cc pc = .ok (.newarray .char, 2))
    (kk : ∀ (q : Nat) (H1 : Heap), q ∉ L → zW G A s H1 locs (va_pl (L ++ [q]) (va_up f q (.inl (G.2 2, N', .inl (fun _ => 0))))) → W p l e R s m args below meth c H1 locs (cells + 1) (slots + N') Q (F0 m (pc + 2) ls (.ref q :: rest))) : W p l e R s m args below meth c H locs cells slots Q (F0 m pc ls (.int n :: rest)) := by
  refine va_newa (a0 := (N', .inl (fun _ => 0))) (atype := .char) (ty := .char) hx hb harr rfl hK.1 w.1 w.2.1 w.2.2.1 w.2.2.2 (fun cA => rfl) hn hN (by show N' * 2 ≤ _; omega) hcells hslots hdg (fun q cA H1 hK2 hP hD hS => ?_)
  have e1 : s.vm.findClass ("[" ++ (FieldType.toString .char)) = some (G.2 2) := (hK.1.2 2 _ rfl).2
  have e2 : s.vm.findClass ("[" ++ (FieldType.toString .char)) = some cA := (hK2.2 8 _ rfl).2
  have e3 : cA = G.2 2 := Option.some.inj (e2.symm.trans e1)
  subst e3
  have hq : q ∉ L := va_pl_fresh2 (X := []) hD
  rw [va_pl_push hq] at hP hD
  exact kk q H1 hq ⟨hP, hD, hS, w.2.2.2⟩
set_option maxHeartbeats 200000 in
theorem px_newS (hx : p.tables.exec = Jvm.exec) (hb : c.code = cc) (harr : (Cond.arrayClass .short).before args s = true) (hK : zK G s) (w : zW G A s H locs (va_pl L f)) {n : Int32} {N' : Nat} (hn : ¬ n < 0) (hN : n.toNatClampNeg = N') (hb2 : N' ≤ 4096) (hcells : cells + 1 ≤ R.cells) (hslots : slots + N' ≤ R.slots) (hdg : decode cc pc = .ok (.newarray .short, 2))
    (kk : ∀ (q : Nat) (H1 : Heap), q ∉ L → zW G A s H1 locs (va_pl (L ++ [q]) (va_up f q (.inl (G.2 3, N', .inl (fun _ => 0))))) → W p l e R s m args below meth c H1 locs (cells + 1) (slots + N') Q (F0 m (pc + 2) ls (.ref q :: rest))) : W p l e R s m args below meth c H locs cells slots Q (F0 m pc ls (.int n :: rest)) := by
  refine va_newa (a0 := (N', .inl (fun _ => 0))) (atype := .short) (ty := .short) hx hb harr rfl hK.1 w.1 w.2.1 w.2.2.1 w.2.2.2 (fun cA => rfl) hn hN (by show N' * 2 ≤ _; omega) hcells hslots hdg (fun q cA H1 hK2 hP hD hS => ?_)
  have e1 : s.vm.findClass ("[" ++ (FieldType.toString .short)) = some (G.2 3) := (hK.1.2 3 _ rfl).2
  have e2 : s.vm.findClass ("[" ++ (FieldType.toString .short)) = some cA := (hK2.2 8 _ rfl).2
  have e3 : cA = G.2 3 := Option.some.inj (e2.symm.trans e1)
  subst e3
  have hq : q ∉ L := va_pl_fresh2 (X := []) hD
  rw [va_pl_push hq] at hP hD
  exact kk q H1 hq ⟨hP, hD, hS, w.2.2.2⟩
set_option maxHeartbeats 200000 in
theorem px_newF (hx : p.tables.exec = Jvm.exec) (hb : c.code = cc) (harr : (Cond.arrayClass .float).before args s = true) (hK : zK G s) (w : zW G A s H locs (va_pl L f)) {n : Int32} {N' : Nat} (hn : ¬ n < 0) (hN : n.toNatClampNeg = N') (hb2 : N' ≤ 4096) (hcells : cells + 1 ≤ R.cells) (hslots : slots + N' ≤ R.slots) (hdg : decode cc pc = .ok (.newarray .float, 2))
    (kk : ∀ (q : Nat) (H1 : Heap), q ∉ L → zW G A s H1 locs (va_pl (L ++ [q]) (va_up f q (.inl (G.2 0, N', .inr (.inr (.inl (fun _ => 0))))))) → W p l e R s m args below meth c H1 locs (cells + 1) (slots + N') Q (F0 m (pc + 2) ls (.ref q :: rest))) : W p l e R s m args below meth c H locs cells slots Q (F0 m pc ls (.int n :: rest)) := by
  refine va_newa (a0 := (N', .inr (.inr (.inl (fun _ => 0))))) (atype := .float) (ty := .float) hx hb harr rfl hK.1 w.1 w.2.1 w.2.2.1 w.2.2.2 (fun cA => rfl) hn hN (by show N' * 4 ≤ _; omega) hcells hslots hdg (fun q cA H1 hK2 hP hD hS => ?_)
  have e1 : s.vm.findClass ("[" ++ (FieldType.toString .float)) = some (G.2 0) := (hK.1.2 0 _ rfl).2
  have e2 : s.vm.findClass ("[" ++ (FieldType.toString .float)) = some cA := (hK2.2 8 _ rfl).2
  have e3 : cA = G.2 0 := Option.some.inj (e2.symm.trans e1)
  subst e3
  have hq : q ∉ L := va_pl_fresh2 (X := []) hD
  rw [va_pl_push hq] at hP hD
  exact kk q H1 hq ⟨hP, hD, hS, w.2.2.2⟩
set_option maxHeartbeats 200000 in
theorem px_newR (hx : p.tables.exec = Jvm.exec) (hb : c.code = cc) {own : String} {index : Nat} (hown : s.vm.findClass own = some m.cls) (hcl : (Cond.classLink own index RX3).before args s = true) (hK : zK G s) (w : zW G A s H locs (va_pl L f)) {n : Int32} {N' : Nat} (hn : ¬ n < 0) (hN : n.toNatClampNeg = N') (hb2 : N' ≤ 4096) (hcells : cells + 1 ≤ R.cells) (hslots : slots + N' ≤ R.slots) (hdg : decode cc pc = .ok (.anewarray index, 3))
    (kk : ∀ (q : Nat) (H1 : Heap), q ∉ L → zW G A s H1 locs (va_pl (L ++ [q]) (va_up f q (.inl (G.2 5, N', .inr (.inr (.inr (.inr (fun _ => none)))))))) → W p l e R s m args below meth c H1 locs (cells + 1) (slots + N') Q (F0 m (pc + 3) ls (.ref q :: rest))) : W p l e R s m args below meth c H locs cells slots Q (F0 m pc ls (.int n :: rest)) := by
  refine va_newq hx hb hown hcl hK.2.2.2.2.1 hK.1 w.1 w.2.1 w.2.2.1 w.2.2.2 hn hN (by omega) hcells hslots hdg (fun q cA H1 hK2 hP hD hS => ?_)
  obtain ⟨-, -, -, -, -, e1⟩ := (hK.1.2 5 _ rfl).2
  obtain ⟨-, -, -, -, -, e2⟩ := (hK2.2 8 _ rfl).2
  have e3 : cA = G.2 5 := Option.some.inj (e2.symm.trans e1)
  subst e3
  have hq : q ∉ L := va_pl_fresh2 (X := []) hD
  rw [va_pl_push hq] at hP hD
  exact kk q H1 hq ⟨hP, hD, hS, w.2.2.2⟩
set_option maxHeartbeats 200000 in
theorem px_newW (hx : p.tables.exec = Jvm.exec) (hb : c.code = cc) {own : String} {index : Nat} (hown : s.vm.findClass own = some m.cls) (hcl : (Cond.classLink own index RX4).before args s = true) (hK : zK G s) (w : zW G A s H locs (va_pl L f)) {n : Int32} {N' : Nat} (hn : ¬ n < 0) (hN : n.toNatClampNeg = N') (hb2 : N' ≤ 4096) (hcells : cells + 1 ≤ R.cells) (hslots : slots + N' ≤ R.slots) (hdg : decode cc pc = .ok (.anewarray index, 3))
    (kk : ∀ (q : Nat) (H1 : Heap), q ∉ L → zW G A s H1 locs (va_pl (L ++ [q]) (va_up f q (.inl (G.2 6, N', .inr (.inr (.inr (.inr (fun _ => none)))))))) → W p l e R s m args below meth c H1 locs (cells + 1) (slots + N') Q (F0 m (pc + 3) ls (.ref q :: rest))) : W p l e R s m args below meth c H locs cells slots Q (F0 m pc ls (.int n :: rest)) := by
  refine va_newq hx hb hown hcl hK.2.2.2.2.2.1 hK.1 w.1 w.2.1 w.2.2.1 w.2.2.2 hn hN (by omega) hcells hslots hdg (fun q cA H1 hK2 hP hD hS => ?_)
  obtain ⟨-, -, -, -, -, e1⟩ := (hK.1.2 6 _ rfl).2
  obtain ⟨-, -, -, -, -, e2⟩ := (hK2.2 8 _ rfl).2
  have e3 : cA = G.2 6 := Option.some.inj (e2.symm.trans e1)
  subst e3
  have hq : q ∉ L := va_pl_fresh2 (X := []) hD
  rw [va_pl_push hq] at hP hD
  exact kk q H1 hq ⟨hP, hD, hS, w.2.2.2⟩
end ZPOOL
end
section
/-! ===== a reference that may be null ===== -/
section ZOPT
variable {p : Program} {l : Launch} {e : Env} {R : Room} {s : State} {m : MethodId} {args : Array Value} {below : List Frame} {meth : Method} {c : Code} {H : Heap} {locs : List Loc} {cells slots : Nat} {Q : State → Prop} {cc : ByteArray} {pc : Nat} {ls : Array Slot} {rest : List Value} {r : Option Nat}
theorem z_aloadQ_n (hx : p.tables.exec = Jvm.exec) (hb : c.code = cc) {k : Fin 4} {i : Nat} (hdg : decode cc pc = .ok (.aload_n k, 1)) (hi : (k : Nat) = i) (hl : ls[i]? = some (.val (va_rf r))) (kk : W p l e R s m args below meth c H locs cells slots Q (F0 m (pc + 1) ls (va_rf r :: rest))) : W p l e R s m args below meth c H locs cells slots Q (F0 m pc ls rest) := by
  cases r with
  | none => exact lv_aload_nN hx hb hdg hi hl kk
  | some a => exact lv_aload_n hx hb hdg hi hl kk
theorem z_aloadQ (hx : p.tables.exec = Jvm.exec) (hb : c.code = cc) {i : Nat} (hdg : decode cc pc = .ok (.aload i, 2)) (hl : ls[i]? = some (.val (va_rf r))) (kk : W p l e R s m args below meth c H locs cells slots Q (F0 m (pc + 2) ls (va_rf r :: rest))) : W p l e R s m args below meth c H locs cells slots Q (F0 m pc ls rest) := by
  cases r with
  | none => exact lv_aloadN hx hb hdg hl kk
  | some a => exact lv_aload hx hb hdg hl kk
theorem z_astoreQ_n (hx : p.tables.exec = Jvm.exec) (hb : c.code = cc) {k : Fin 4} {i nL : Nat} {lv lv' : List (Nat × Value)} (hdg : decode cc pc = .ok (.astore_n k, 1)) (hi : (k : Nat) = i) (h : lv_has ls nL lv) (hn : i < nL) (hl : (i, va_rf r) :: lv.filter (fun q => !(q.1 == i) && !(q.1 + 1 == i && q.2.category == 2)) = lv') (kk : ∀ ls' : Array Slot, lv_has ls' nL lv' → W p l e R s m args below meth c H locs cells slots Q (F0 m (pc + 1) ls' rest)) : W p l e R s m args below meth c H locs cells slots Q (F0 m pc ls (va_rf r :: rest)) := by
  cases r with
  | none => exact lv_astore_nN hx hb hdg hi h hn hl kk
  | some a => exact lv_astore_n hx hb hdg hi h hn hl kk
theorem z_astoreQ (hx : p.tables.exec = Jvm.exec) (hb : c.code = cc) {i nL : Nat} {lv lv' : List (Nat × Value)} (hdg : decode cc pc = .ok (.astore i, 2)) (h : lv_has ls nL lv) (hn : i < nL) (hl : (i, va_rf r) :: lv.filter (fun q => !(q.1 == i) && !(q.1 + 1 == i && q.2.category == 2)) = lv') (kk : ∀ ls' : Array Slot, lv_has ls' nL lv' → W p l e R s m args below meth c H locs cells slots Q (F0 m (pc + 2) ls' rest)) : W p l e R s m args below meth c H locs cells slots Q (F0 m pc ls (va_rf r :: rest)) := by
  cases r with
  | none => exact lv_astoreN hx hb hdg h hn hl kk
  | some a => exact lv_astore hx hb hdg h hn hl kk
theorem z_ifnonnullQ (hx : p.tables.exec = Jvm.exec) (hb : c.code = cc) {off : Int} {tgt : Nat} (hdg : decode cc pc = .ok (.ifnonnull off, 3)) (ht : (pc : Int) + off = (tgt : Int)) (kt : ¬ r = none → W p l e R s m args below meth c H locs cells slots Q (F0 m tgt ls rest)) (kf : r = none → W p l e R s m args below meth c H locs cells slots Q (F0 m (pc + 3) ls rest)) : W p l e R s m args below meth c H locs cells slots Q (F0 m pc ls (va_rf r :: rest)) := by
  cases r with
  | none => exact lv_ifnonnullN hx hb hdg (kf rfl)
  | some a => exact lv_ifnonnull hx hb hdg ht (kt (fun h => by cases h))
theorem z_ifnullQ (hx : p.tables.exec = Jvm.exec) (hb : c.code = cc) {off : Int} {tgt : Nat} (hdg : decode cc pc = .ok (.ifnull off, 3)) (ht : (pc : Int) + off = (tgt : Int)) (kt : r = none → W p l e R s m args below meth c H locs cells slots Q (F0 m tgt ls rest)) (kf : ¬ r = none → W p l e R s m args below meth c H locs cells slots Q (F0 m (pc + 3) ls rest)) : W p l e R s m args below meth c H locs cells slots Q (F0 m pc ls (va_rf r :: rest)) := by
  cases r with
  | none => exact lv_ifnullN hx hb hdg ht (kt rfl)
  | some a => exact lv_ifnull hx hb hdg (kf (fun h => by cases h))
end ZOPT
/-! ===== small facts that the walks use ===== -/
/-- a deck, a sort -/
abbrev zFour (x : Int32) : Prop := ¬ x < 0 ∧ ¬ 4 ≤ x
theorem z01 {P : Prop} {r : Int32} (hd : Decidable P) (h : r = if P then 1 else 0) (h0 : ¬ r = 0) : P := by
  by_cases hP : P
  · exact hP
  · rw [if_neg hP] at h; exact absurd h h0
theorem z00 {P : Prop} {r : Int32} (hd : Decidable P) (h : r = if P then 1 else 0) (h0 : r = 0) : ¬ P := by
  intro hP
  rw [if_pos hP] at h
  rw [h0] at h
  exact absurd h (by decide)
theorem zFour_of {x : Int32} (h : zFour x) : ∃ j : Nat, j < 4 ∧ x = nI j := by
  obtain ⟨j, hj, e⟩ := nI_of h.1
  refine ⟨j, ?_, e⟩
  rcases Nat.lt_or_ge j 4 with q | q
  · exact q
  · exact absurd (by rw [e]; exact nI_le q hj) h.2
theorem zFour_nI {j : Nat} (h : j < 4) : zFour (nI j) := by
  refine ⟨nI_pos (by omega), ?_⟩
  exact nI_ge (a := j) (b := 4) h (by decide)
theorem zcmp0 {x y : Int64} (h : lg_cmp x y = 0) : x = y := by
  unfold lg_cmp at h
  by_cases h1 : y < x
  · simp [h1] at h
  · by_cases h2 : x = y
    · exact h2
    · simp [h1, h2] at h
theorem zcmp1 {x y : Int64} (h : ¬ lg_cmp x y = 0) : ¬ x = y := by
  intro q
  subst q
  apply h
  unfold lg_cmp
  have h1 : ¬ x < x := Int64.lt_irrefl
  simp [h1]
end
section
/-! ===== floats that are numbers ===== -/
abbrev zFin (a : UInt32) : Prop := Jvm.FP.Core.FFin a
theorem zmask (a : UInt32) : (a &&& 0x7fffffff).toNat = a.toNat % 2 ^ 31 := by
  have := Jvm.FP.Core.mask_toNat32 a
  exact this
theorem zn32 {a : UInt32} (h : Jvm.FP.Core.fIsNaN a = false) : vf_n32 a := by
  have h1 : ¬ (2139095040 < a.toNat % 2 ^ 31) := fun q => by
    have := (Jvm.FP.Core.isNaN_bits32 a).mpr q
    rw [h] at this
    cases this
  show a &&& 0x7fffffff ≤ 0x7f800000
  rw [UInt32.le_iff_toNat_le, zmask]
  have e : (0x7f800000 : UInt32).toNat = 2139095040 := by decide
  omega
theorem zn32_of {a : UInt32} (h : vf_n32 a) : Jvm.FP.Core.fIsNaN a = false := by
  have h1 : a &&& 0x7fffffff ≤ 0x7f800000 := h
  rw [UInt32.le_iff_toNat_le, zmask] at h1
  have e : (0x7f800000 : UInt32).toNat = 2139095040 := by decide
  cases hq : Jvm.FP.Core.fIsNaN a with
  | false => rfl
  | true =>
    have := (Jvm.FP.Core.isNaN_bits32 a).mp hq
    omega
theorem zfin8 : zFin 1090519040 := by
  rw [zFin, Jvm.FP.Core.fin_bits32]; decide
theorem zfin1 : zFin FP.fconst1 := by
  rw [zFin, Jvm.FP.Core.fin_bits32]; decide
theorem zfin0 : zFin 0 := by
  rw [zFin, Jvm.FP.Core.fin_bits32]; decide
theorem zfinM : zFin 1232348160 := by
  rw [zFin, Jvm.FP.Core.fin_bits32]; decide
theorem zfinN : zFin 3379831808 := by
  rw [zFin, Jvm.FP.Core.fin_bits32]; decide
theorem zfin_i2f (n : Int32) : zFin (FP.i2f n) := Jvm.FP.Core.i2f_fin n
theorem zmul8 {a : UInt32} (h : zFin a) : vf_n32 (FP.fmul a 1090519040) := zn32 (Jvm.FP.Core.fmul_out h zfin8)
theorem zadd {a b : UInt32} (h : zFin a) (h2 : zFin b) : vf_n32 (FP.fadd a b) := zn32 (Jvm.FP.Core.fadd_out h.notNaN h2)
theorem zsub {a b : UInt32} (h : zFin a) (h2 : zFin b) : vf_n32 (FP.fsub a b) := zn32 (Jvm.FP.Core.fsub_out h.notNaN h2)
/-- n, divided by 8 -/
def zEi (n : Int32) : UInt32 := FP.fdiv (FP.i2f n) 1090519040
theorem zEi_fin (n : Int32) : zFin (zEi n) := by
  have h := Jvm.FP.Core.fdiv_mag (a := FP.i2f n) (b := 1090519040) (K := 160) (L := 130) (Jvm.FP.Core.i2f_mag n) (by decide) (by decide) (by decide) (by decide)
  have h2 : (zEi n).toNat % 2 ^ 31 < (160 + (149 - 23 - 1) - 130 + 3) * 2 ^ 23 := h
  exact Jvm.FP.Core.fin_of_lt32 h2 (by decide)
theorem zEi_n (n : Int32) : vf_n32 (FP.fdiv (FP.i2f n) 1090519040) := zn32 (zEi_fin n).notNaN
/-- within the bounds -/
def zHe (v : UInt32) : UInt32 := if Op.cmpValue (FP.fcmp v 1232348160) .l ≤ 0 then (if 0 ≤ Op.cmpValue (FP.fcmp v 3379831808) .g then v else 3379831808) else 1232348160
theorem zHe_fin {v : UInt32} (h : vf_n32 v) : zFin (zHe v) := by
  have hv : Jvm.FP.Core.val32 v ≠ .nan := (Jvm.FP.Core.notNaN_iff32 v).mp (zn32_of h)
  have hM : Jvm.FP.Core.val32 1232348160 ≠ .nan := zfinM.ne_nan
  have hN : Jvm.FP.Core.val32 3379831808 ≠ .nan := zfinN.ne_nan
  have kM : Jvm.FP.Core.fkey 1232348160 = 1232348160 := by decide +kernel
  have kN : Jvm.FP.Core.fkey 3379831808 = -1232348160 := by decide +kernel
  unfold zHe
  by_cases h1 : Op.cmpValue (FP.fcmp v 1232348160) .l ≤ 0
  · rw [if_pos h1]
    by_cases h2 : 0 ≤ Op.cmpValue (FP.fcmp v 3379831808) .g
    · rw [if_pos h2]
      have g1 : ¬ Jvm.FP.Core.fcmp v 1232348160 = some .gt := fun q => by
        have q2 : FP.fcmp v 1232348160 = some .gt := q
        rw [q2] at h1
        exact absurd h1 (by decide)
      have g2 : ¬ Jvm.FP.Core.fcmp v 3379831808 = some .lt := fun q => by
        have q2 : FP.fcmp v 3379831808 = some .lt := q
        rw [q2] at h2
        exact absurd h2 (by decide)
      rw [Jvm.FP.Core.fcmp_gt_key hv hM, kM] at g1
      rw [Jvm.FP.Core.fcmp_lt_key hv hN, kN] at g2
      rw [zFin, Jvm.FP.Core.fin_bits32]
      unfold Jvm.FP.Core.fkey at g1 g2
      have hlt := v.toNat_lt
      split at g1 <;> omega
    · rw [if_neg h2]; exact zfinN
  · rw [if_neg h1]; exact zfinM
/-! ===== reels, by their sort: 0 letters, 1 waves, 2 faders, 3 lamps ===== -/
def zKc (s : Nat) : Nat := match s with
  | 0 => 2
  | 1 => 4
  | 2 => 0
  | _ => 1
def zKa (s : Nat) : Nat := match s with
  | 0 => 2
  | 1 => 3
  | 2 => 0
  | _ => 1
abbrev zAr : Type := (Nat → Int32) ⊕ (Nat → Int64) ⊕ (Nat → UInt32) ⊕ (Nat → UInt64) ⊕ (Nat → Option Nat)
def zArr (s : Nat) (gi : Nat → Int32) (gf : Nat → UInt32) : zAr := match s with
  | 2 => .inr (.inr (.inl gf))
  | _ => .inl gi
/-- the reel's array, the reel itself -/
def zCel (G : zG) (s n : Nat) (gi : Nat → Int32) (gf : Nat → UInt32) : va_E := .inl (G.2 (zKa s), n, zArr s gi gf)
def zObj (s b : Nat) : va_E := .inr (zKc s, [.ref b])
/-- what a place tells -/
def zTold (s : Nat) (gi : Nat → Int32) (gf : Nat → UInt32) (i : Nat) : Int32 := match s with
  | 2 => FP.f2i (FP.fmul (gf i) 1090519040)
  | 3 => if gi i = 0 then 0 else 1
  | _ => gi i
/-- what is kept of an int -/
def zNar (s : Nat) (x : Int32) : Int32 := match s with
  | 0 => (x.toUInt32 % 65536).toInt32
  | 1 => x.toInt16.toInt32
  | _ => if x &&& 1 = 1 then 1 else 0
def zPuI (s : Nat) (gi : Nat → Int32) (i : Nat) (x : Int32) : Nat → Int32 := match s with
  | 2 => gi
  | _ => upd gi i (zNar s x)
def zPuF (s : Nat) (gf : Nat → UInt32) (i : Nat) (v : UInt32) : Nat → UInt32 := match s with
  | 2 => vf_upd gf i (zHe v)
  | _ => gf
/-- a reel of sort s at a, its array at b, n places -/
def zReel (G : zG) (L : List Nat) (f : Nat → va_E) (s a b n : Nat) (gi : Nat → Int32) (gf : Nat → UInt32) : Prop :=
  a ∈ L ∧ b ∈ L ∧ f a = zObj s b ∧ f b = zCel G s n gi gf ∧ n ≤ 40 ∧ ∀ j, j < n → zFin (gf j)
end
section
set_option maxHeartbeats 4000000 in
set_option maxRecDepth 100000 in
theorem kX3_init (l : Launch) (G : zG) (ws : va_W) (a : Nat) (sz : Nat) : zMv l yX3_init wsX3_init { frames := 1, cells := 0, slots := 0, locals := 12 } G [.ref a] (ws) sz (fun u => u = ws) 0 0 := by
  refine zIn (Qc := fun A => va_Qv _ (zB G A) A) (cc := cX3_init) (maxL := 1) (ret := none) (by decide) rfl (Nat.le_of_ble_eq_true rfl) ?_
  intro p e s m below meth c A ls hx hb hr hlk hml hts hown hnm hK w hl
  have hown : s.vm.findClass RX3 = some m.cls := hown
  have hl : lv_has ls 1 [(0, .ref a)] := hl
  refine lv_aload_n hx hb dX3_init_0 rfl (lv_at hl 0 rfl) ?_
  refine W.objInit hx hb hown (hts (.methodLink RX3 3 objectInit) (by decide +kernel)) (hts (.instanceMethod objectInit) (by decide +kernel)) (hts (.code objectInit ⟨#[0xb1]⟩ 1 none) (by decide +kernel)) rfl (by rw [hml]; exact hl.1) rfl dX3_init_1 (Nat.le_of_ble_eq_true rfl) (Nat.le_of_ble_eq_true rfl) ?_
  refine W.eq (g2 := F0 m 4 ls []) rfl ?_
  exact zRv hx hb hr hlk w dX3_init_4 (Nat.le_of_ble_eq_true rfl) (Nat.le_of_ble_eq_true rfl) rfl
set_option maxHeartbeats 4000000 in
set_option maxRecDepth 100000 in
theorem kX2_places (l : Launch) (G : zG) {L : List Nat} {f : Nat → va_E} {a b n : Nat} {gi : Nat → Int32} {gf : Nat → UInt32} (h : zReel G L f 0 a b n gi gf) (sz : Nat) : zMi l yX2_places wsX2_places { frames := 0, cells := 0, slots := 0, locals := 0 } G [.ref a] (va_pl L f) sz (fun r u => u = va_pl L f ∧ r = nI n) 0 0 := by
  refine zIn (Qc := fun A => va_Qi _ (zB G A) A) (cc := cX2_places) (maxL := 1) (ret := (some .int)) (by decide) rfl (Nat.le_of_ble_eq_true rfl) ?_
  intro p e s m below meth c A ls hx hb hr hlk hml hts hown hnm hK w hl
  have hown : s.vm.findClass RX2 = some m.cls := hown
  have hl : lv_has ls 1 [(0, .ref a)] := hl
  obtain ⟨ma, mb, fa, fb, hn, hfi⟩ := h
  have fa : f a = .inr (2, [.ref b]) := fa
  have fb : f b = .inl (G.2 2, n, .inl gi) := fb
  refine lv_aload_n hx hb dX2_places_0 rfl (lv_at hl 0 rfl) ?_
  refine px_get (ci := 2) (C := RX2) (T := TX2) (N := 1) hx hb hts hown hK w ma (by decide +kernel) fa rfl 0 (by decide) (hts (.fieldLink RX2 7 "ReelBarn$LetterReel" "letters" "[C") (by decide +kernel)) (fun _ h9 => h9) rfl dX2_places_1 ?_
  refine px_alen hx hb hK w mb fb 2 rfl dX2_places_4 ?_
  exact zRi hx hb hr hlk w dX2_places_5 (Nat.le_of_ble_eq_true rfl) (Nat.le_of_ble_eq_true rfl) ⟨rfl, rfl⟩
set_option maxHeartbeats 4000000 in
set_option maxRecDepth 100000 in
theorem kX2_told (l : Launch) (G : zG) {L : List Nat} {f : Nat → va_E} {a b n : Nat} {gi : Nat → Int32} {gf : Nat → UInt32} (h : zReel G L f 0 a b n gi gf) (i : Int32) (hi : vp_in i n) (sz : Nat) : zMi l yX2_told wsX2_told { frames := 0, cells := 0, slots := 0, locals := 0 } G [.ref a, .int i] (va_pl L f) sz (fun r u => u = va_pl L f ∧ r = zTold 0 gi gf i.toNatClampNeg) 0 0 := by
  refine zIn (Qc := fun A => va_Qi _ (zB G A) A) (cc := cX2_told) (maxL := 2) (ret := (some .int)) (by decide) rfl (Nat.le_of_ble_eq_true rfl) ?_
  intro p e s m below meth c A ls hx hb hr hlk hml hts hown hnm hK w hl
  have hown : s.vm.findClass RX2 = some m.cls := hown
  have hl : lv_has ls 2 [(0, .ref a), (1, .int i)] := hl
  obtain ⟨ma, mb, fa, fb, hn, hfi⟩ := h
  have fa : f a = .inr (2, [.ref b]) := fa
  have fb : f b = .inl (G.2 2, n, .inl gi) := fb
  refine lv_aload_n hx hb dX2_told_0 rfl (lv_at hl 0 rfl) ?_
  refine px_get (ci := 2) (C := RX2) (T := TX2) (N := 1) hx hb hts hown hK w ma (by decide +kernel) fa rfl 0 (by decide) (hts (.fieldLink RX2 7 "ReelBarn$LetterReel" "letters" "[C") (by decide +kernel)) (fun _ h9 => h9) rfl dX2_told_1 ?_
  refine lv_iload_n hx hb dX2_told_4 rfl (lv_at hl 1 rfl) ?_
  refine px_cald hx hb hK w mb fb hi dX2_told_5 ?_
  exact zRi hx hb hr hlk w dX2_told_6 (Nat.le_of_ble_eq_true rfl) (Nat.le_of_ble_eq_true rfl) ⟨rfl, rfl⟩
set_option maxHeartbeats 4000000 in
set_option maxRecDepth 100000 in
theorem kX5_places (l : Launch) (G : zG) {L : List Nat} {f : Nat → va_E} {a b n : Nat} {gi : Nat → Int32} {gf : Nat → UInt32} (h : zReel G L f 1 a b n gi gf) (sz : Nat) : zMi l yX5_places wsX5_places { frames := 0, cells := 0, slots := 0, locals := 0 } G [.ref a] (va_pl L f) sz (fun r u => u = va_pl L f ∧ r = nI n) 0 0 := by
  refine zIn (Qc := fun A => va_Qi _ (zB G A) A) (cc := cX5_places) (maxL := 1) (ret := (some .int)) (by decide) rfl (Nat.le_of_ble_eq_true rfl) ?_
  intro p e s m below meth c A ls hx hb hr hlk hml hts hown hnm hK w hl
  have hown : s.vm.findClass RX5 = some m.cls := hown
  have hl : lv_has ls 1 [(0, .ref a)] := hl
  obtain ⟨ma, mb, fa, fb, hn, hfi⟩ := h
  have fa : f a = .inr (4, [.ref b]) := fa
  have fb : f b = .inl (G.2 3, n, .inl gi) := fb
  refine lv_aload_n hx hb dX5_places_0 rfl (lv_at hl 0 rfl) ?_
  refine px_get (ci := 4) (C := RX5) (T := TX5) (N := 1) hx hb hts hown hK w ma (by decide +kernel) fa rfl 0 (by decide) (hts (.fieldLink RX5 7 "ReelBarn$WaveReel" "waves" "[S") (by decide +kernel)) (fun _ h9 => h9) rfl dX5_places_1 ?_
  refine px_alen hx hb hK w mb fb 3 rfl dX5_places_4 ?_
  exact zRi hx hb hr hlk w dX5_places_5 (Nat.le_of_ble_eq_true rfl) (Nat.le_of_ble_eq_true rfl) ⟨rfl, rfl⟩
set_option maxHeartbeats 4000000 in
set_option maxRecDepth 100000 in
theorem kX5_told (l : Launch) (G : zG) {L : List Nat} {f : Nat → va_E} {a b n : Nat} {gi : Nat → Int32} {gf : Nat → UInt32} (h : zReel G L f 1 a b n gi gf) (i : Int32) (hi : vp_in i n) (sz : Nat) : zMi l yX5_told wsX5_told { frames := 0, cells := 0, slots := 0, locals := 0 } G [.ref a, .int i] (va_pl L f) sz (fun r u => u = va_pl L f ∧ r = zTold 1 gi gf i.toNatClampNeg) 0 0 := by
  refine zIn (Qc := fun A => va_Qi _ (zB G A) A) (cc := cX5_told) (maxL := 2) (ret := (some .int)) (by decide) rfl (Nat.le_of_ble_eq_true rfl) ?_
  intro p e s m below meth c A ls hx hb hr hlk hml hts hown hnm hK w hl
  have hown : s.vm.findClass RX5 = some m.cls := hown
  have hl : lv_has ls 2 [(0, .ref a), (1, .int i)] := hl
  obtain ⟨ma, mb, fa, fb, hn, hfi⟩ := h
  have fa : f a = .inr (4, [.ref b]) := fa
  have fb : f b = .inl (G.2 3, n, .inl gi) := fb
  refine lv_aload_n hx hb dX5_told_0 rfl (lv_at hl 0 rfl) ?_
  refine px_get (ci := 4) (C := RX5) (T := TX5) (N := 1) hx hb hts hown hK w ma (by decide +kernel) fa rfl 0 (by decide) (hts (.fieldLink RX5 7 "ReelBarn$WaveReel" "waves" "[S") (by decide +kernel)) (fun _ h9 => h9) rfl dX5_told_1 ?_
  refine lv_iload_n hx hb dX5_told_4 rfl (lv_at hl 1 rfl) ?_
  refine px_sald hx hb hK w mb fb hi dX5_told_5 ?_
  exact zRi hx hb hr hlk w dX5_told_6 (Nat.le_of_ble_eq_true rfl) (Nat.le_of_ble_eq_true rfl) ⟨rfl, rfl⟩
set_option maxHeartbeats 4000000 in
set_option maxRecDepth 100000 in
theorem kX0_places (l : Launch) (G : zG) {L : List Nat} {f : Nat → va_E} {a b n : Nat} {gi : Nat → Int32} {gf : Nat → UInt32} (h : zReel G L f 2 a b n gi gf) (sz : Nat) : zMi l yX0_places wsX0_places { frames := 0, cells := 0, slots := 0, locals := 0 } G [.ref a] (va_pl L f) sz (fun r u => u = va_pl L f ∧ r = nI n) 0 0 := by
  refine zIn (Qc := fun A => va_Qi _ (zB G A) A) (cc := cX0_places) (maxL := 1) (ret := (some .int)) (by decide) rfl (Nat.le_of_ble_eq_true rfl) ?_
  intro p e s m below meth c A ls hx hb hr hlk hml hts hown hnm hK w hl
  have hown : s.vm.findClass RX0 = some m.cls := hown
  have hl : lv_has ls 1 [(0, .ref a)] := hl
  obtain ⟨ma, mb, fa, fb, hn, hfi⟩ := h
  have fa : f a = .inr (0, [.ref b]) := fa
  have fb : f b = .inl (G.2 0, n, .inr (.inr (.inl gf))) := fb
  refine lv_aload_n hx hb dX0_places_0 rfl (lv_at hl 0 rfl) ?_
  refine px_get (ci := 0) (C := RX0) (T := TX0) (N := 1) hx hb hts hown hK w ma (by decide +kernel) fa rfl 0 (by decide) (hts (.fieldLink RX0 9 "ReelBarn$FaderReel" "faders" "[F") (by decide +kernel)) (fun _ h9 => h9) rfl dX0_places_1 ?_
  refine px_alen hx hb hK w mb fb 0 rfl dX0_places_4 ?_
  exact zRi hx hb hr hlk w dX0_places_5 (Nat.le_of_ble_eq_true rfl) (Nat.le_of_ble_eq_true rfl) ⟨rfl, rfl⟩
set_option maxHeartbeats 4000000 in
set_option maxRecDepth 100000 in
theorem kX0_told (l : Launch) (G : zG) {L : List Nat} {f : Nat → va_E} {a b n : Nat} {gi : Nat → Int32} {gf : Nat → UInt32} (h : zReel G L f 2 a b n gi gf) (i : Int32) (hi : vp_in i n) (sz : Nat) : zMi l yX0_told wsX0_told { frames := 0, cells := 0, slots := 0, locals := 0 } G [.ref a, .int i] (va_pl L f) sz (fun r u => u = va_pl L f ∧ r = zTold 2 gi gf i.toNatClampNeg) 0 0 := by
  refine zIn (Qc := fun A => va_Qi _ (zB G A) A) (cc := cX0_told) (maxL := 2) (ret := (some .int)) (by decide) rfl (Nat.le_of_ble_eq_true rfl) ?_
  intro p e s m below meth c A ls hx hb hr hlk hml hts hown hnm hK w hl
  have hown : s.vm.findClass RX0 = some m.cls := hown
  have hl : lv_has ls 2 [(0, .ref a), (1, .int i)] := hl
  obtain ⟨ma, mb, fa, fb, hn, hfi⟩ := h
  have fa : f a = .inr (0, [.ref b]) := fa
  have fb : f b = .inl (G.2 0, n, .inr (.inr (.inl gf))) := fb
  refine lv_aload_n hx hb dX0_told_0 rfl (lv_at hl 0 rfl) ?_
  refine px_get (ci := 0) (C := RX0) (T := TX0) (N := 1) hx hb hts hown hK w ma (by decide +kernel) fa rfl 0 (by decide) (hts (.fieldLink RX0 9 "ReelBarn$FaderReel" "faders" "[F") (by decide +kernel)) (fun _ h9 => h9) rfl dX0_told_1 ?_
  refine lv_iload_n hx hb dX0_told_4 rfl (lv_at hl 1 rfl) ?_
  refine px_fald hx hb hK w mb fb hi dX0_told_5 ?_
  refine lv_ldcf hx hb hown (hts (.constantFloat RX0 15 (1090519040)) (by decide +kernel)) dX0_told_6 ?_
  refine lv_fmul hx hb dX0_told_8 (zmul8 (hfi _ (Nat.not_le.mp fun q => hi (Or.inr q)))) ?_
  refine lv_f2i hx hb dX0_told_9 ?_
  exact zRi hx hb hr hlk w dX0_told_10 (Nat.le_of_ble_eq_true rfl) (Nat.le_of_ble_eq_true rfl) ⟨rfl, rfl⟩
set_option maxHeartbeats 4000000 in
set_option maxRecDepth 100000 in
theorem kX1_places (l : Launch) (G : zG) {L : List Nat} {f : Nat → va_E} {a b n : Nat} {gi : Nat → Int32} {gf : Nat → UInt32} (h : zReel G L f 3 a b n gi gf) (sz : Nat) : zMi l yX1_places wsX1_places { frames := 0, cells := 0, slots := 0, locals := 0 } G [.ref a] (va_pl L f) sz (fun r u => u = va_pl L f ∧ r = nI n) 0 0 := by
  refine zIn (Qc := fun A => va_Qi _ (zB G A) A) (cc := cX1_places) (maxL := 1) (ret := (some .int)) (by decide) rfl (Nat.le_of_ble_eq_true rfl) ?_
  intro p e s m below meth c A ls hx hb hr hlk hml hts hown hnm hK w hl
  have hown : s.vm.findClass RX1 = some m.cls := hown
  have hl : lv_has ls 1 [(0, .ref a)] := hl
  obtain ⟨ma, mb, fa, fb, hn, hfi⟩ := h
  have fa : f a = .inr (1, [.ref b]) := fa
  have fb : f b = .inl (G.2 1, n, .inl gi) := fb
  refine lv_aload_n hx hb dX1_places_0 rfl (lv_at hl 0 rfl) ?_
  refine px_get (ci := 1) (C := RX1) (T := TX1) (N := 1) hx hb hts hown hK w ma (by decide +kernel) fa rfl 0 (by decide) (hts (.fieldLink RX1 7 "ReelBarn$LampReel" "lamps" "[Z") (by decide +kernel)) (fun _ h9 => h9) rfl dX1_places_1 ?_
  refine px_alen hx hb hK w mb fb 1 rfl dX1_places_4 ?_
  exact zRi hx hb hr hlk w dX1_places_5 (Nat.le_of_ble_eq_true rfl) (Nat.le_of_ble_eq_true rfl) ⟨rfl, rfl⟩
set_option maxHeartbeats 4000000 in
set_option maxRecDepth 100000 in
theorem kX1_told (l : Launch) (G : zG) {L : List Nat} {f : Nat → va_E} {a b n : Nat} {gi : Nat → Int32} {gf : Nat → UInt32} (h : zReel G L f 3 a b n gi gf) (i : Int32) (hi : vp_in i n) (sz : Nat) : zMi l yX1_told wsX1_told { frames := 0, cells := 0, slots := 0, locals := 0 } G [.ref a, .int i] (va_pl L f) sz (fun r u => u = va_pl L f ∧ r = zTold 3 gi gf i.toNatClampNeg) 0 0 := by
  refine zIn (Qc := fun A => va_Qi _ (zB G A) A) (cc := cX1_told) (maxL := 2) (ret := (some .int)) (by decide) rfl (Nat.le_of_ble_eq_true rfl) ?_
  intro p e s m below meth c A ls hx hb hr hlk hml hts hown hnm hK w hl
  have hown : s.vm.findClass RX1 = some m.cls := hown
  have hl : lv_has ls 2 [(0, .ref a), (1, .int i)] := hl
  obtain ⟨ma, mb, fa, fb, hn, hfi⟩ := h
  have fa : f a = .inr (1, [.ref b]) := fa
  have fb : f b = .inl (G.2 1, n, .inl gi) := fb
  refine lv_aload_n hx hb dX1_told_0 rfl (lv_at hl 0 rfl) ?_
  refine px_get (ci := 1) (C := RX1) (T := TX1) (N := 1) hx hb hts hown hK w ma (by decide +kernel) fa rfl 0 (by decide) (hts (.fieldLink RX1 7 "ReelBarn$LampReel" "lamps" "[Z") (by decide +kernel)) (fun _ h9 => h9) rfl dX1_told_1 ?_
  refine lv_iload_n hx hb dX1_told_4 rfl (lv_at hl 1 rfl) ?_
  refine px_zald hx hb hK w mb fb hi dX1_told_5 ?_
  refine lv_if_eq (tgt := 13) hx hb dX1_told_6 (by decide) (fun c_1 => ?_) (fun c_1 => ?_)
  · refine lv_iconst (v := 0) hx hb dX1_told_13 (by decide) ?_
    exact zRi hx hb hr hlk w dX1_told_14 (Nat.le_of_ble_eq_true rfl) (Nat.le_of_ble_eq_true rfl) ⟨rfl, by simp [zTold, c_1]⟩
  · refine lv_iconst (v := 1) hx hb dX1_told_9 (by decide) ?_
    refine lv_goto (tgt := 14) hx hb dX1_told_10 (by decide) ?_
    exact zRi hx hb hr hlk w dX1_told_14 (Nat.le_of_ble_eq_true rfl) (Nat.le_of_ble_eq_true rfl) ⟨rfl, by simp [zTold, c_1]⟩
set_option maxHeartbeats 4000000 in
set_option maxRecDepth 100000 in
theorem kX0_levelOf (l : Launch) (G : zG) (ws : va_W) (n : Int32) (sz : Nat) : zMf l yX0_levelOf wsX0_levelOf { frames := 0, cells := 0, slots := 0, locals := 0 } G [.int n] (ws) sz (fun r u => u = ws ∧ r = zEi n) 0 0 := by
  refine zIn (Qc := fun A => va_Qf _ (zB G A) A) (cc := cX0_levelOf) (maxL := 1) (ret := (some .float)) (by decide) rfl (Nat.le_of_ble_eq_true rfl) ?_
  intro p e s m below meth c A ls hx hb hr hlk hml hts hown hnm hK w hl
  have hown : s.vm.findClass RX0 = some m.cls := hown
  have hl : lv_has ls 1 [(0, .int n)] := hl
  refine lv_iload_n hx hb dX0_levelOf_0 rfl (lv_at hl 0 rfl) ?_
  refine lv_i2f hx hb dX0_levelOf_1 ?_
  refine lv_ldcf hx hb hown (hts (.constantFloat RX0 15 (1090519040)) (by decide +kernel)) dX0_levelOf_2 ?_
  refine lv_fdiv hx hb dX0_levelOf_4 (zEi_n n) ?_
  exact zRf hx hb hr hlk w dX0_levelOf_5 (Nat.le_of_ble_eq_true rfl) (Nat.le_of_ble_eq_true rfl) ⟨rfl, rfl⟩
set_option maxHeartbeats 4000000 in
set_option maxRecDepth 100000 in
theorem kX0_bounded (l : Launch) (G : zG) (ws : va_W) (v : UInt32) (sz : Nat) : zMf l yX0_bounded wsX0_bounded { frames := 0, cells := 0, slots := 0, locals := 0 } G [.float v] (ws) sz (fun r u => u = ws ∧ r = zHe v) 0 0 := by
  refine zIn (Qc := fun A => va_Qf _ (zB G A) A) (cc := cX0_bounded) (maxL := 1) (ret := (some .float)) (by decide) rfl (Nat.le_of_ble_eq_true rfl) ?_
  intro p e s m below meth c A ls hx hb hr hlk hml hts hown hnm hK w hl
  have hown : s.vm.findClass RX0 = some m.cls := hown
  have hl : lv_has ls 1 [(0, .float v)] := hl
  refine lv_fload_n hx hb dX0_bounded_0 rfl (lv_at hl 0 rfl) ?_
  refine lv_ldcf hx hb hown (hts (.constantFloat RX0 28 (1232348160)) (by decide +kernel)) dX0_bounded_1 ?_
  refine lv_fcmp hx hb dX0_bounded_3 ?_
  refine lv_if_le (tgt := 10) hx hb dX0_bounded_4 (by decide) (fun c_1 => ?_) (fun c_1 => ?_)
  · refine lv_fload_n hx hb dX0_bounded_10 rfl (lv_at hl 0 rfl) ?_
    refine lv_ldcf hx hb hown (hts (.constantFloat RX0 29 (3379831808)) (by decide +kernel)) dX0_bounded_11 ?_
    refine lv_fcmp hx hb dX0_bounded_13 ?_
    refine lv_if_ge (tgt := 22) hx hb dX0_bounded_14 (by decide) (fun c_2 => ?_) (fun c_2 => ?_)
    · refine lv_fload_n hx hb dX0_bounded_22 rfl (lv_at hl 0 rfl) ?_
      exact zRf hx hb hr hlk w dX0_bounded_23 (Nat.le_of_ble_eq_true rfl) (Nat.le_of_ble_eq_true rfl) ⟨rfl, by simp [zHe, c_1, c_2]⟩
    · refine lv_ldcf hx hb hown (hts (.constantFloat RX0 29 (3379831808)) (by decide +kernel)) dX0_bounded_17 ?_
      refine lv_goto (tgt := 23) hx hb dX0_bounded_19 (by decide) ?_
      exact zRf hx hb hr hlk w dX0_bounded_23 (Nat.le_of_ble_eq_true rfl) (Nat.le_of_ble_eq_true rfl) ⟨rfl, by simp [zHe, c_1, c_2]⟩
  · refine lv_ldcf hx hb hown (hts (.constantFloat RX0 28 (1232348160)) (by decide +kernel)) dX0_bounded_7 ?_
    exact zRf hx hb hr hlk w dX0_bounded_9 (Nat.le_of_ble_eq_true rfl) (Nat.le_of_ble_eq_true rfl) ⟨rfl, by simp [zHe, c_1]⟩
set_option maxHeartbeats 4000000 in
set_option maxRecDepth 100000 in
theorem kX0_putLevel (l : Launch) (G : zG) {L : List Nat} {f : Nat → va_E} {a b n : Nat} {gi : Nat → Int32} {gf : Nat → UInt32} (h : zReel G L f 2 a b n gi gf) (i : Int32) (v : UInt32) (hi : vp_in i n) (sz : Nat) : zMv l yX0_putLevel wsX0_putLevel { frames := 1, cells := 0, slots := 0, locals := 20 } G [.ref a, .int i, .float v] (va_pl L f) sz (fun u => u = va_pl L (va_up f b (zCel G 2 n gi (vf_upd gf i.toNatClampNeg (zHe v))))) 0 0 := by
  refine zIn (Qc := fun A => va_Qv _ (zB G A) A) (cc := cX0_putLevel) (maxL := 3) (ret := none) (by decide) rfl (Nat.le_of_ble_eq_true rfl) ?_
  intro p e s m below meth c A ls hx hb hr hlk hml hts hown hnm hK w hl
  have hown : s.vm.findClass RX0 = some m.cls := hown
  have hl : lv_has ls 3 [(0, .ref a), (1, .int i), (2, .float v)] := hl
  obtain ⟨ma, mb, fa, fb, hn, hfi⟩ := h
  have fa : f a = .inr (0, [.ref b]) := fa
  have fb : f b = .inl (G.2 0, n, .inr (.inr (.inl gf))) := fb
  refine lv_aload_n hx hb dX0_putLevel_0 rfl (lv_at hl 0 rfl) ?_
  refine px_get (ci := 0) (C := RX0) (T := TX0) (N := 1) hx hb hts hown hK w ma (by decide +kernel) fa rfl 0 (by decide) (hts (.fieldLink RX0 9 "ReelBarn$FaderReel" "faders" "[F") (by decide +kernel)) (fun _ h9 => h9) rfl dX0_putLevel_1 ?_
  refine lv_iload_n hx hb dX0_putLevel_4 rfl (lv_at hl 1 rfl) ?_
  refine lv_fload_n hx hb dX0_putLevel_5 rfl (lv_at hl 2 rfl) ?_
  refine zCf w (va_runS (As := [.float v]) (rest := [.int i, .ref b]) ⟨hx, hb, hml, hown, hts⟩ (kX0_bounded l G _ v s.heap.size) (va_cwS 1 hts gX0_putLevel_X0_bounded rfl rfl rfl (by decide +kernel) ⟨(Nat.le_of_ble_eq_true rfl), (Nat.le_of_ble_eq_true rfl)⟩) (zPS w hK) rfl rfl hl.1 rfl (lv_room (Nat.le_of_ble_eq_true rfl)) dX0_putLevel_6 ⟨(Nat.le_of_ble_eq_true rfl), (Nat.le_of_ble_eq_true rfl)⟩) (fun r_1 u H locs hq w => ?_)
  obtain ⟨rfl, e_r⟩ := hq
  subst e_r
  refine px_fast hx hb hK w mb fb hi dX0_putLevel_9 (fun H locs w => ?_)
  exact zRv hx hb hr hlk w dX0_putLevel_10 (Nat.le_of_ble_eq_true rfl) (Nat.le_of_ble_eq_true rfl) rfl
set_option maxHeartbeats 4000000 in
set_option maxRecDepth 100000 in
theorem kX2_put (l : Launch) (G : zG) {L : List Nat} {f : Nat → va_E} {a b n : Nat} {gi : Nat → Int32} {gf : Nat → UInt32} (h : zReel G L f 0 a b n gi gf) (i x : Int32) (hi : vp_in i n) (sz : Nat) : zMv l yX2_put wsX2_put { frames := 0, cells := 0, slots := 0, locals := 0 } G [.ref a, .int i, .int x] (va_pl L f) sz (fun u => u = va_pl L (va_up f b (zCel G 0 n (zPuI 0 gi i.toNatClampNeg x) (zPuF 0 gf i.toNatClampNeg (zEi x))))) 0 0 := by
  refine zIn (Qc := fun A => va_Qv _ (zB G A) A) (cc := cX2_put) (maxL := 3) (ret := none) (by decide) rfl (Nat.le_of_ble_eq_true rfl) ?_
  intro p e s m below meth c A ls hx hb hr hlk hml hts hown hnm hK w hl
  have hown : s.vm.findClass RX2 = some m.cls := hown
  have hl : lv_has ls 3 [(0, .ref a), (1, .int i), (2, .int x)] := hl
  obtain ⟨ma, mb, fa, fb, hn, hfi⟩ := h
  have fa : f a = .inr (2, [.ref b]) := fa
  have fb : f b = .inl (G.2 2, n, .inl gi) := fb
  refine lv_aload_n hx hb dX2_put_0 rfl (lv_at hl 0 rfl) ?_
  refine px_get (ci := 2) (C := RX2) (T := TX2) (N := 1) hx hb hts hown hK w ma (by decide +kernel) fa rfl 0 (by decide) (hts (.fieldLink RX2 7 "ReelBarn$LetterReel" "letters" "[C") (by decide +kernel)) (fun _ h9 => h9) rfl dX2_put_1 ?_
  refine lv_iload_n hx hb dX2_put_4 rfl (lv_at hl 1 rfl) ?_
  refine lv_iload_n hx hb dX2_put_5 rfl (lv_at hl 2 rfl) ?_
  refine lv_i2c hx hb dX2_put_6 rfl ?_
  refine px_cast hx hb hK w mb fb hi dX2_put_7 (fun H locs w => ?_)
  exact zRv hx hb hr hlk w dX2_put_8 (Nat.le_of_ble_eq_true rfl) (Nat.le_of_ble_eq_true rfl) (by rw [pk_vc]; rfl)
set_option maxHeartbeats 4000000 in
set_option maxRecDepth 100000 in
theorem kX5_put (l : Launch) (G : zG) {L : List Nat} {f : Nat → va_E} {a b n : Nat} {gi : Nat → Int32} {gf : Nat → UInt32} (h : zReel G L f 1 a b n gi gf) (i x : Int32) (hi : vp_in i n) (sz : Nat) : zMv l yX5_put wsX5_put { frames := 0, cells := 0, slots := 0, locals := 0 } G [.ref a, .int i, .int x] (va_pl L f) sz (fun u => u = va_pl L (va_up f b (zCel G 1 n (zPuI 1 gi i.toNatClampNeg x) (zPuF 1 gf i.toNatClampNeg (zEi x))))) 0 0 := by
  refine zIn (Qc := fun A => va_Qv _ (zB G A) A) (cc := cX5_put) (maxL := 3) (ret := none) (by decide) rfl (Nat.le_of_ble_eq_true rfl) ?_
  intro p e s m below meth c A ls hx hb hr hlk hml hts hown hnm hK w hl
  have hown : s.vm.findClass RX5 = some m.cls := hown
  have hl : lv_has ls 3 [(0, .ref a), (1, .int i), (2, .int x)] := hl
  obtain ⟨ma, mb, fa, fb, hn, hfi⟩ := h
  have fa : f a = .inr (4, [.ref b]) := fa
  have fb : f b = .inl (G.2 3, n, .inl gi) := fb
  refine lv_aload_n hx hb dX5_put_0 rfl (lv_at hl 0 rfl) ?_
  refine px_get (ci := 4) (C := RX5) (T := TX5) (N := 1) hx hb hts hown hK w ma (by decide +kernel) fa rfl 0 (by decide) (hts (.fieldLink RX5 7 "ReelBarn$WaveReel" "waves" "[S") (by decide +kernel)) (fun _ h9 => h9) rfl dX5_put_1 ?_
  refine lv_iload_n hx hb dX5_put_4 rfl (lv_at hl 1 rfl) ?_
  refine lv_iload_n hx hb dX5_put_5 rfl (lv_at hl 2 rfl) ?_
  refine lv_i2s hx hb dX5_put_6 rfl ?_
  refine px_sast hx hb hK w mb fb hi dX5_put_7 (fun H locs w => ?_)
  exact zRv hx hb hr hlk w dX5_put_8 (Nat.le_of_ble_eq_true rfl) (Nat.le_of_ble_eq_true rfl) (by rw [pk_vs]; rfl)
set_option maxHeartbeats 4000000 in
set_option maxRecDepth 100000 in
theorem kX0_put (l : Launch) (G : zG) {L : List Nat} {f : Nat → va_E} {a b n : Nat} {gi : Nat → Int32} {gf : Nat → UInt32} (h : zReel G L f 2 a b n gi gf) (i x : Int32) (hi : vp_in i n) (sz : Nat) : zMv l yX0_put wsX0_put { frames := 2, cells := 0, slots := 0, locals := 42 } G [.ref a, .int i, .int x] (va_pl L f) sz (fun u => u = va_pl L (va_up f b (zCel G 2 n (zPuI 2 gi i.toNatClampNeg x) (zPuF 2 gf i.toNatClampNeg (zEi x))))) 0 0 := by
  refine zIn (Qc := fun A => va_Qv _ (zB G A) A) (cc := cX0_put) (maxL := 3) (ret := none) (by decide) rfl (Nat.le_of_ble_eq_true rfl) ?_
  intro p e s m below meth c A ls hx hb hr hlk hml hts hown hnm hK w hl
  have hown : s.vm.findClass RX0 = some m.cls := hown
  have hl : lv_has ls 3 [(0, .ref a), (1, .int i), (2, .int x)] := hl
  have h0 := h
  obtain ⟨ma, mb, fa, fb, hn, hfi⟩ := h0
  have fa : f a = .inr (0, [.ref b]) := fa
  have fb : f b = .inl (G.2 0, n, .inr (.inr (.inl gf))) := fb
  refine lv_aload_n hx hb dX0_put_0 rfl (lv_at hl 0 rfl) ?_
  refine lv_iload_n hx hb dX0_put_1 rfl (lv_at hl 1 rfl) ?_
  refine lv_iload_n hx hb dX0_put_2 rfl (lv_at hl 2 rfl) ?_
  refine zCf w (va_runS (As := [.int x]) (rest := [.int i, .ref a]) ⟨hx, hb, hml, hown, hts⟩ (kX0_levelOf l G _ x s.heap.size) (va_cwS 1 hts gX0_put_X0_levelOf rfl rfl rfl (by decide +kernel) ⟨(Nat.le_of_ble_eq_true rfl), (Nat.le_of_ble_eq_true rfl)⟩) (zPS w hK) rfl rfl hl.1 rfl (lv_room (Nat.le_of_ble_eq_true rfl)) dX0_put_3 ⟨(Nat.le_of_ble_eq_true rfl), (Nat.le_of_ble_eq_true rfl)⟩) (fun r_1 u H locs hq w => ?_)
  obtain ⟨rfl, e_r⟩ := hq
  subst e_r
  refine zCv w (va_runV (As := [.int i, .float (zEi x)]) (rest := []) ⟨hx, hb, hml, hown, hts⟩ (kX0_putLevel l G h i (zEi x) hi H.size) (cwV 2 hts gX0_put_X0_putLevel rfl rfl rfl (by decide +kernel) ⟨(Nat.le_of_ble_eq_true rfl), (Nat.le_of_ble_eq_true rfl)⟩) (zPV w hK (px_recv (r := (RX0, TX0, 1)) hK w ma fa rfl)) rfl rfl hl.1 rfl (lv_room (Nat.le_of_ble_eq_true rfl)) dX0_put_6 ⟨(Nat.le_of_ble_eq_true rfl), (Nat.le_of_ble_eq_true rfl)⟩) (fun u H locs hq w => ?_)
  subst hq
  exact zRv hx hb hr hlk w dX0_put_9 (Nat.le_of_ble_eq_true rfl) (Nat.le_of_ble_eq_true rfl) rfl
set_option maxHeartbeats 4000000 in
set_option maxRecDepth 100000 in
theorem kX1_put (l : Launch) (G : zG) {L : List Nat} {f : Nat → va_E} {a b n : Nat} {gi : Nat → Int32} {gf : Nat → UInt32} (h : zReel G L f 3 a b n gi gf) (i x : Int32) (hi : vp_in i n) (sz : Nat) : zMv l yX1_put wsX1_put { frames := 0, cells := 0, slots := 0, locals := 0 } G [.ref a, .int i, .int x] (va_pl L f) sz (fun u => u = va_pl L (va_up f b (zCel G 3 n (zPuI 3 gi i.toNatClampNeg x) (zPuF 3 gf i.toNatClampNeg (zEi x))))) 0 0 := by
  refine zIn (Qc := fun A => va_Qv _ (zB G A) A) (cc := cX1_put) (maxL := 3) (ret := none) (by decide) rfl (Nat.le_of_ble_eq_true rfl) ?_
  intro p e s m below meth c A ls hx hb hr hlk hml hts hown hnm hK w hl
  have hown : s.vm.findClass RX1 = some m.cls := hown
  have hl : lv_has ls 3 [(0, .ref a), (1, .int i), (2, .int x)] := hl
  obtain ⟨ma, mb, fa, fb, hn, hfi⟩ := h
  have fa : f a = .inr (1, [.ref b]) := fa
  have fb : f b = .inl (G.2 1, n, .inl gi) := fb
  refine lv_aload_n hx hb dX1_put_0 rfl (lv_at hl 0 rfl) ?_
  refine px_get (ci := 1) (C := RX1) (T := TX1) (N := 1) hx hb hts hown hK w ma (by decide +kernel) fa rfl 0 (by decide) (hts (.fieldLink RX1 7 "ReelBarn$LampReel" "lamps" "[Z") (by decide +kernel)) (fun _ h9 => h9) rfl dX1_put_1 ?_
  refine lv_iload_n hx hb dX1_put_4 rfl (lv_at hl 1 rfl) ?_
  refine lv_iload_n hx hb dX1_put_5 rfl (lv_at hl 2 rfl) ?_
  refine lv_iconst (v := 1) hx hb dX1_put_6 (by decide) ?_
  refine lv_iand hx hb dX1_put_7 ?_
  refine lv_iconst (v := 1) hx hb dX1_put_8 (by decide) ?_
  refine lv_icmp_ne (tgt := 16) hx hb dX1_put_9 (by decide) (fun c_1 => ?_) (fun c_1 => ?_)
  · refine lv_iconst (v := 0) hx hb dX1_put_16 (by decide) ?_
    refine px_zast hx hb hK w mb fb hi dX1_put_17 (fun H locs w => ?_)
    exact zRv hx hb hr hlk w dX1_put_18 (Nat.le_of_ble_eq_true rfl) (Nat.le_of_ble_eq_true rfl) (by show va_pl L (va_up f b (.inl (G.2 1, n, .inl (upd gi i.toNatClampNeg (vp_nar .boolean 0))))) = va_pl L (va_up f b (.inl (G.2 1, n, .inl (upd gi i.toNatClampNeg (if x &&& 1 = 1 then 1 else 0))))); rw [if_neg c_1]; rfl)
  · refine lv_iconst (v := 1) hx hb dX1_put_12 (by decide) ?_
    refine lv_goto (tgt := 17) hx hb dX1_put_13 (by decide) ?_
    refine px_zast hx hb hK w mb fb hi dX1_put_17 (fun H locs w => ?_)
    exact zRv hx hb hr hlk w dX1_put_18 (Nat.le_of_ble_eq_true rfl) (Nat.le_of_ble_eq_true rfl) (by show va_pl L (va_up f b (.inl (G.2 1, n, .inl (upd gi i.toNatClampNeg (vp_nar .boolean 1))))) = va_pl L (va_up f b (.inl (G.2 1, n, .inl (upd gi i.toNatClampNeg (if x &&& 1 = 1 then 1 else 0))))); rw [if_pos c_1]; rfl)
set_option maxHeartbeats 4000000 in
set_option maxRecDepth 100000 in
theorem kX0_change (l : Launch) (G : zG) {L : List Nat} {f : Nat → va_E} {a b n : Nat} {gi : Nat → Int32} {gf : Nat → UInt32} (h : zReel G L f 2 a b n gi gf) (i how x : Int32) (hi : vp_in i n) (sz : Nat) : zMv l yX0_change wsX0_change { frames := 2, cells := 0, slots := 0, locals := 42 } G [.ref a, .int i, .int how, .int x] (va_pl L f) sz (fun u => u = va_pl L (va_up f b (zCel G 2 n gi (vf_upd gf i.toNatClampNeg (zHe (if how = 1 then FP.fsub (gf i.toNatClampNeg) (zEi x) else FP.fadd (gf i.toNatClampNeg) (zEi x))))))) 0 0 := by
  refine zIn (Qc := fun A => va_Qv _ (zB G A) A) (cc := cX0_change) (maxL := 5) (ret := none) (by decide) rfl (Nat.le_of_ble_eq_true rfl) ?_
  intro p e s m below meth c A ls hx hb hr hlk hml hts hown hnm hK w hl
  have hown : s.vm.findClass RX0 = some m.cls := hown
  have hl : lv_has ls 5 [(0, .ref a), (1, .int i), (2, .int how), (3, .int x)] := hl
  have h0 := h
  obtain ⟨ma, mb, fa, fb, hn, hfi⟩ := h0
  have fa : f a = .inr (0, [.ref b]) := fa
  have fb : f b = .inl (G.2 0, n, .inr (.inr (.inl gf))) := fb
  have hfg : zFin (gf i.toNatClampNeg) := hfi _ (Nat.not_le.mp fun q => hi (Or.inr q))
  refine lv_iload_n hx hb dX0_change_0 rfl (lv_at hl 3 rfl) ?_
  refine zCf w (va_runS (As := [.int x]) (rest := []) ⟨hx, hb, hml, hown, hts⟩ (kX0_levelOf l G _ x s.heap.size) (va_cwS 1 hts gX0_change_X0_levelOf rfl rfl rfl (by decide +kernel) ⟨(Nat.le_of_ble_eq_true rfl), (Nat.le_of_ble_eq_true rfl)⟩) (zPS w hK) rfl rfl hl.1 rfl (lv_room (Nat.le_of_ble_eq_true rfl)) dX0_change_1 ⟨(Nat.le_of_ble_eq_true rfl), (Nat.le_of_ble_eq_true rfl)⟩) (fun r_1 u H locs hq w => ?_)
  obtain ⟨rfl, e_r⟩ := hq
  subst e_r
  refine lv_fstore (lv' := [(4, .float (zEi x)), (0, .ref a), (1, .int i), (2, .int how), (3, .int x)]) hx hb dX0_change_4 hl (by decide) rfl (fun ls hl => ?_)
  refine lv_aload_n hx hb dX0_change_6 rfl (lv_at hl 1 rfl) ?_
  refine lv_iload_n hx hb dX0_change_7 rfl (lv_at hl 2 rfl) ?_
  refine lv_iload_n hx hb dX0_change_8 rfl (lv_at hl 3 rfl) ?_
  refine lv_iconst (v := 1) hx hb dX0_change_9 (by decide) ?_
  refine lv_icmp_ne (tgt := 25) hx hb dX0_change_10 (by decide) (fun c_2 => ?_) (fun c_2 => ?_)
  · refine lv_aload_n hx hb dX0_change_25 rfl (lv_at hl 1 rfl) ?_
    refine px_get (ci := 0) (C := RX0) (T := TX0) (N := 1) hx hb hts hown hK w ma (by decide +kernel) fa rfl 0 (by decide) (hts (.fieldLink RX0 9 "ReelBarn$FaderReel" "faders" "[F") (by decide +kernel)) (fun _ h9 => h9) rfl dX0_change_26 ?_
    refine lv_iload_n hx hb dX0_change_29 rfl (lv_at hl 2 rfl) ?_
    refine px_fald hx hb hK w mb fb hi dX0_change_30 ?_
    refine lv_fload hx hb dX0_change_31 (lv_at hl 0 rfl) ?_
    refine lv_fadd hx hb dX0_change_33 (zadd hfg (zEi_fin x)) ?_
    refine zCv w (va_runV (As := [.int i, .float (FP.fadd (gf i.toNatClampNeg) (zEi x))]) (rest := []) ⟨hx, hb, hml, hown, hts⟩ (kX0_putLevel l G h i (FP.fadd (gf i.toNatClampNeg) (zEi x)) hi H.size) (cwV 2 hts gX0_change_X0_putLevel rfl rfl rfl (by decide +kernel) ⟨(Nat.le_of_ble_eq_true rfl), (Nat.le_of_ble_eq_true rfl)⟩) (zPV w hK (px_recv (r := (RX0, TX0, 1)) hK w ma fa rfl)) rfl rfl hl.1 rfl (lv_room (Nat.le_of_ble_eq_true rfl)) dX0_change_34 ⟨(Nat.le_of_ble_eq_true rfl), (Nat.le_of_ble_eq_true rfl)⟩) (fun u H locs hq w => ?_)
    subst hq
    exact zRv hx hb hr hlk w dX0_change_37 (Nat.le_of_ble_eq_true rfl) (Nat.le_of_ble_eq_true rfl) (by simp [c_2])
  · refine lv_aload_n hx hb dX0_change_13 rfl (lv_at hl 1 rfl) ?_
    refine px_get (ci := 0) (C := RX0) (T := TX0) (N := 1) hx hb hts hown hK w ma (by decide +kernel) fa rfl 0 (by decide) (hts (.fieldLink RX0 9 "ReelBarn$FaderReel" "faders" "[F") (by decide +kernel)) (fun _ h9 => h9) rfl dX0_change_14 ?_
    refine lv_iload_n hx hb dX0_change_17 rfl (lv_at hl 2 rfl) ?_
    refine px_fald hx hb hK w mb fb hi dX0_change_18 ?_
    refine lv_fload hx hb dX0_change_19 (lv_at hl 0 rfl) ?_
    refine lv_fsub hx hb dX0_change_21 (zsub hfg (zEi_fin x)) ?_
    refine lv_goto (tgt := 34) hx hb dX0_change_22 (by decide) ?_
    refine zCv w (va_runV (As := [.int i, .float (FP.fsub (gf i.toNatClampNeg) (zEi x))]) (rest := []) ⟨hx, hb, hml, hown, hts⟩ (kX0_putLevel l G h i (FP.fsub (gf i.toNatClampNeg) (zEi x)) hi H.size) (cwV 2 hts gX0_change_X0_putLevel rfl rfl rfl (by decide +kernel) ⟨(Nat.le_of_ble_eq_true rfl), (Nat.le_of_ble_eq_true rfl)⟩) (zPV w hK (px_recv (r := (RX0, TX0, 1)) hK w ma fa rfl)) rfl rfl hl.1 rfl (lv_room (Nat.le_of_ble_eq_true rfl)) dX0_change_34 ⟨(Nat.le_of_ble_eq_true rfl), (Nat.le_of_ble_eq_true rfl)⟩) (fun u H locs hq w => ?_)
    subst hq
    exact zRv hx hb hr hlk w dX0_change_37 (Nat.le_of_ble_eq_true rfl) (Nat.le_of_ble_eq_true rfl) (by simp [c_2])
set_option maxHeartbeats 4000000 in
set_option maxRecDepth 100000 in
theorem kX0_stepUp (l : Launch) (G : zG) {L : List Nat} {f : Nat → va_E} {a b n : Nat} {gi : Nat → Int32} {gf : Nat → UInt32} (h : zReel G L f 2 a b n gi gf) (i : Int32) (hi : vp_in i n) (sz : Nat) : zMv l yX0_stepUp wsX0_stepUp { frames := 2, cells := 0, slots := 0, locals := 42 } G [.ref a, .int i] (va_pl L f) sz (fun u => u = va_pl L (va_up f b (zCel G 2 n gi (vf_upd gf i.toNatClampNeg (zHe (FP.fadd (gf i.toNatClampNeg) FP.fconst1)))))) 0 0 := by
  refine zIn (Qc := fun A => va_Qv _ (zB G A) A) (cc := cX0_stepUp) (maxL := 2) (ret := none) (by decide) rfl (Nat.le_of_ble_eq_true rfl) ?_
  intro p e s m below meth c A ls hx hb hr hlk hml hts hown hnm hK w hl
  have hown : s.vm.findClass RX0 = some m.cls := hown
  have hl : lv_has ls 2 [(0, .ref a), (1, .int i)] := hl
  have h0 := h
  obtain ⟨ma, mb, fa, fb, hn, hfi⟩ := h0
  have fa : f a = .inr (0, [.ref b]) := fa
  have fb : f b = .inl (G.2 0, n, .inr (.inr (.inl gf))) := fb
  have hfg : zFin (gf i.toNatClampNeg) := hfi _ (Nat.not_le.mp fun q => hi (Or.inr q))
  refine lv_aload_n hx hb dX0_stepUp_0 rfl (lv_at hl 0 rfl) ?_
  refine lv_iload_n hx hb dX0_stepUp_1 rfl (lv_at hl 1 rfl) ?_
  refine lv_aload_n hx hb dX0_stepUp_2 rfl (lv_at hl 0 rfl) ?_
  refine px_get (ci := 0) (C := RX0) (T := TX0) (N := 1) hx hb hts hown hK w ma (by decide +kernel) fa rfl 0 (by decide) (hts (.fieldLink RX0 9 "ReelBarn$FaderReel" "faders" "[F") (by decide +kernel)) (fun _ h9 => h9) rfl dX0_stepUp_3 ?_
  refine lv_iload_n hx hb dX0_stepUp_6 rfl (lv_at hl 1 rfl) ?_
  refine px_fald hx hb hK w mb fb hi dX0_stepUp_7 ?_
  refine lv_fconst1 hx hb dX0_stepUp_8 ?_
  refine lv_fadd hx hb dX0_stepUp_9 (zadd hfg zfin1) ?_
  refine zCv w (va_runV (As := [.int i, .float (FP.fadd (gf i.toNatClampNeg) FP.fconst1)]) (rest := []) ⟨hx, hb, hml, hown, hts⟩ (kX0_putLevel l G h i (FP.fadd (gf i.toNatClampNeg) FP.fconst1) hi s.heap.size) (cwV 2 hts gX0_stepUp_X0_putLevel rfl rfl rfl (by decide +kernel) ⟨(Nat.le_of_ble_eq_true rfl), (Nat.le_of_ble_eq_true rfl)⟩) (zPV w hK (px_recv (r := (RX0, TX0, 1)) hK w ma fa rfl)) rfl rfl hl.1 rfl (lv_room (Nat.le_of_ble_eq_true rfl)) dX0_stepUp_10 ⟨(Nat.le_of_ble_eq_true rfl), (Nat.le_of_ble_eq_true rfl)⟩) (fun u H locs hq w => ?_)
  subst hq
  exact zRv hx hb hr hlk w dX0_stepUp_13 (Nat.le_of_ble_eq_true rfl) (Nat.le_of_ble_eq_true rfl) rfl
set_option maxHeartbeats 4000000 in
set_option maxRecDepth 100000 in
theorem kX0_level (l : Launch) (G : zG) {L : List Nat} {f : Nat → va_E} {a b n : Nat} {gi : Nat → Int32} {gf : Nat → UInt32} (h : zReel G L f 2 a b n gi gf) (i : Int32) (hi : vp_in i n) (sz : Nat) : zMf l yX0_level wsX0_level { frames := 0, cells := 0, slots := 0, locals := 0 } G [.ref a, .int i] (va_pl L f) sz (fun r u => u = va_pl L f ∧ r = gf i.toNatClampNeg) 0 0 := by
  refine zIn (Qc := fun A => va_Qf _ (zB G A) A) (cc := cX0_level) (maxL := 2) (ret := (some .float)) (by decide) rfl (Nat.le_of_ble_eq_true rfl) ?_
  intro p e s m below meth c A ls hx hb hr hlk hml hts hown hnm hK w hl
  have hown : s.vm.findClass RX0 = some m.cls := hown
  have hl : lv_has ls 2 [(0, .ref a), (1, .int i)] := hl
  obtain ⟨ma, mb, fa, fb, hn, hfi⟩ := h
  have fa : f a = .inr (0, [.ref b]) := fa
  have fb : f b = .inl (G.2 0, n, .inr (.inr (.inl gf))) := fb
  refine lv_aload_n hx hb dX0_level_0 rfl (lv_at hl 0 rfl) ?_
  refine px_get (ci := 0) (C := RX0) (T := TX0) (N := 1) hx hb hts hown hK w ma (by decide +kernel) fa rfl 0 (by decide) (hts (.fieldLink RX0 9 "ReelBarn$FaderReel" "faders" "[F") (by decide +kernel)) (fun _ h9 => h9) rfl dX0_level_1 ?_
  refine lv_iload_n hx hb dX0_level_4 rfl (lv_at hl 1 rfl) ?_
  refine px_fald hx hb hK w mb fb hi dX0_level_5 ?_
  exact zRf hx hb hr hlk w dX0_level_6 (Nat.le_of_ble_eq_true rfl) (Nat.le_of_ble_eq_true rfl) ⟨rfl, rfl⟩
end
section
/-! ===== what the acts on a place make of it ===== -/
def zRek (x how n : Int32) : Int32 := if how = 0 then x + n else if how = 1 then x - n else if how = 2 then x * n else if how = 3 then x / n else if how = 4 then x <<< ((n &&& 31) &&& 31) else if how = 5 then (x.toUInt32 >>> ((n &&& 31).toUInt32 &&& Int32.toUInt32 31)).toInt32 else if how = 6 then x ^^^ n else if how = 7 then x &&& n else x ||| n
def zChI (s : Nat) (gi : Nat → Int32) (gf : Nat → UInt32) (i : Nat) (how x : Int32) : Nat → Int32 := match s with
  | 2 => gi
  | _ => upd gi i (zNar s (zRek (zTold s gi gf i) how x))
def zChF (s : Nat) (gf : Nat → UInt32) (i : Nat) (how x : Int32) : Nat → UInt32 := match s with
  | 2 => vf_upd gf i (zHe (if how = 1 then FP.fsub (gf i) (zEi x) else FP.fadd (gf i) (zEi x)))
  | _ => gf
def zSuI (s : Nat) (gi : Nat → Int32) (gf : Nat → UInt32) (i : Nat) : Nat → Int32 := match s with
  | 2 => gi
  | _ => upd gi i (zNar s (zTold s gi gf i + 1))
def zSuF (s : Nat) (gf : Nat → UInt32) (i : Nat) : Nat → UInt32 := match s with
  | 2 => vf_upd gf i (zHe (FP.fadd (gf i) FP.fconst1))
  | _ => gf
def zLev (s : Nat) (gi : Nat → Int32) (gf : Nat → UInt32) (i : Nat) : UInt32 := match s with
  | 2 => gf i
  | _ => FP.i2f (zTold s gi gf i)
def zPlI (s : Nat) (gi : Nat → Int32) (i : Nat) (v : UInt32) : Nat → Int32 := match s with
  | 2 => gi
  | _ => upd gi i (zNar s (FP.f2i v))
/-! ===== reading cells ===== -/
def vB (f : Nat → va_E) (a : Nat) : Nat := match f a with
  | .inr (_, [.ref b]) => b
  | _ => 0
def eN (x : va_E) : Nat := match x with
  | .inl (_, n, _) => n
  | _ => 0
def eI (x : va_E) : Nat → Int32 := match x with
  | .inl (_, _, .inl g) => g
  | _ => fun _ => 0
def eF (x : va_E) : Nat → UInt32 := match x with
  | .inl (_, _, .inr (.inr (.inl g))) => g
  | _ => fun _ => 0
def eQ (x : va_E) : Nat → Option Nat := match x with
  | .inl (_, _, .inr (.inr (.inr (.inr g)))) => g
  | _ => fun _ => none
abbrev vN (f : Nat → va_E) (a : Nat) : Nat := eN (f (vB f a))
abbrev vI (f : Nat → va_E) (a : Nat) : Nat → Int32 := eI (f (vB f a))
abbrev vF (f : Nat → va_E) (a : Nat) : Nat → UInt32 := eF (f (vB f a))
/-- a reel of sort s at a -/
def zRA (G : zG) (L : List Nat) (f : Nat → va_E) (s a : Nat) : Prop := zReel G L f s a (vB f a) (vN f a) (vI f a) (vF f a)
section ZRE
variable {G : zG} {L : List Nat} {f : Nat → va_E} {s a b n : Nat} {gi : Nat → Int32} {gf : Nat → UInt32}
theorem zRe_B (h : zReel G L f s a b n gi gf) : vB f a = b := by
  have h1 := h.2.2.1
  unfold vB
  rw [h1]
  rfl
theorem zRe_N (h : zReel G L f s a b n gi gf) : vN f a = n := by
  unfold vN
  rw [zRe_B h, h.2.2.2.1]
  rfl
theorem zRe_I (h : zReel G L f s a b n gi gf) (hs : ¬ s = 2) : vI f a = gi := by
  unfold vI
  rw [zRe_B h, h.2.2.2.1]
  unfold zCel zArr
  split
  · exact absurd rfl hs
  · rfl
theorem zRe_F (h : zReel G L f 2 a b n gi gf) : vF f a = gf := by
  unfold vF
  rw [zRe_B h, h.2.2.2.1]
  rfl
theorem zCel_i (G : zG) {s n : Nat} (hs : ¬ s = 2) (gi : Nat → Int32) (gf gf2 : Nat → UInt32) : zCel G s n gi gf = zCel G s n gi gf2 := by
  unfold zCel zArr
  split
  · exact absurd rfl hs
  · rfl
theorem zCel_f (G : zG) (n : Nat) (gi gi2 : Nat → Int32) (gf : Nat → UInt32) : zCel G 2 n gi gf = zCel G 2 n gi2 gf := rfl
/-- what a reel's cells are, read off the world -/
theorem zRA_of (h : zReel G L f s a b n gi gf) : zRA G L f s a := by
  have e1 := zRe_B h
  have e2 := zRe_N h
  unfold zRA
  rw [e1, e2]
  obtain ⟨h1, h2, h3, h4, h5, h6⟩ := id h
  by_cases hs : s = 2
  · subst hs
    rw [zRe_F h]
    exact ⟨h1, h2, h3, by rw [h4]; rfl, h5, h6⟩
  · rw [zRe_I h hs]
    refine ⟨h1, h2, h3, by rw [h4]; exact zCel_i G hs _ _ _, h5, fun j _ => ?_⟩
    have : vF f a = fun _ => 0 := by
      unfold vF
      rw [e1, h4]
      unfold zCel zArr
      split
      · exact absurd rfl hs
      · rfl
    rw [this]
    exact zfin0
theorem zRe_ne (h : zReel G L f s a b n gi gf) : a ≠ b := by
  intro q
  have h1 := h.2.2.1
  have h2 := h.2.2.2.1
  rw [q, h2] at h1
  unfold zCel zObj at h1
  cases h1
theorem zRe_up (h : zReel G L f s a b n gi gf) {gi2 : Nat → Int32} {gf2 : Nat → UInt32} (hf : ∀ j, j < n → zFin (gf2 j)) : zReel G L (va_up f b (zCel G s n gi2 gf2)) s a b n gi2 gf2 :=
  ⟨h.1, h.2.1, by rw [va_up_ne _ _ (zRe_ne h)]; exact h.2.2.1, va_up_self _ _ _, h.2.2.2.2.1, hf⟩
end ZRE
theorem zfin_up {gf : Nat → UInt32} {n i : Nat} {v : UInt32} (h : ∀ j, j < n → zFin (gf j)) (hv : vf_n32 v) : ∀ j, j < n → zFin (vf_upd gf i (zHe v) j) := by
  intro j hj
  unfold vf_upd
  split
  · exact zHe_fin hv
  · exact h j hj
/-! ===== the barn: its object, the decks' row, the walls' row, the tally's row ===== -/
abbrev zQ (g : Nat → Option Nat) : zAr := .inr (.inr (.inr (.inr g)))
def zBn (G : zG) (L : List Nat) (f : Nat → va_E) (o ac aw ar : Nat) (ch : Option Nat) (car wa : Nat → Option Nat) (ta : Nat → Int32) : Prop :=
  (o ∈ L ∧ ac ∈ L ∧ aw ∈ L ∧ ar ∈ L) ∧ f o = .inr (5, [.ref ac, .ref aw, .ref ar, va_rf ch]) ∧ f ac = .inl (G.2 5, 16, zQ car) ∧ f aw = .inl (G.2 6, 4, zQ wa) ∧ f ar = .inl (G.2 4, 8, .inl ta)
abbrev zix (d t : Int32) : Nat := (d * 4 + t).toNatClampNeg
abbrev zS (t : Int32) : Nat := t.toNatClampNeg
theorem zix_nI {a b : Nat} (ha : a < 4) (hb : b < 4) : (nI a * 4 + nI b) = nI (a * 4 + b) := by
  rw [show (4 : Int32) = nI 4 from rfl, pk_mul, nI_add]
theorem zix_of {d t : Int32} (hd : zFour d) (ht : zFour t) : ∃ a b, a < 4 ∧ b < 4 ∧ d = nI a ∧ t = nI b ∧ zix d t = a * 4 + b ∧ zS t = b := by
  obtain ⟨a, ha, ea⟩ := zFour_of hd
  obtain ⟨b, hb, eb⟩ := zFour_of ht
  refine ⟨a, b, ha, hb, ea, eb, ?_, ?_⟩
  · unfold zix
    rw [ea, eb, zix_nI ha hb, nI_clamp (by omega)]
  · unfold zS
    rw [eb, nI_clamp (by omega)]
theorem zix_in {d t : Int32} (hd : zFour d) (ht : zFour t) : vp_in (d * 4 + t) 16 := by
  obtain ⟨a, b, ha, hb, ea, eb, -, -⟩ := zix_of hd ht
  rw [ea, eb, zix_nI ha hb]
  exact vp_in_nI (by omega) (by decide)
theorem zfour_in {t : Int32} (ht : zFour t) : vp_in t 4 := by
  obtain ⟨b, hb, eb⟩ := zFour_of ht
  rw [eb]
  exact vp_in_nI hb (by decide)
theorem zS_lt {t : Int32} (ht : zFour t) : zS t < 4 := by
  obtain ⟨b, hb, eb⟩ := zFour_of ht
  unfold zS
  rw [eb, nI_clamp (by omega)]
  exact hb
theorem zS_or {t : Int32} (ht : zFour t) : zS t = 0 ∨ zS t = 1 ∨ zS t = 2 ∨ zS t = 3 := by
  have := zS_lt ht
  omega
/-- the tally's place of a refusal -/
abbrev zWi (why : Int64) : Int32 := (why >>> ((40 : Int32).toInt64 &&& 63)).toInt32
abbrev zWhy (why : Int64) : Prop := vp_in (zWi why) 8
def zTa (ta : Nat → Int32) (why : Int64) : Nat → Int32 := upd ta (zWi why).toNatClampNeg (ta (zWi why).toNatClampNeg + 1)
abbrev zNONE : Int64 := 1099511627776
abbrev zVACANT : Int64 := 2199023255552
abbrev zBEYOND : Int64 := 3298534883328
abbrev zNEGATIVE : Int64 := 4398046511104
abbrev zGREAT : Int64 := 5497558138880
abbrev zDIVIDED : Int64 := 6597069766656
abbrev zBARE : Int64 := 7696581394432
theorem zW1 : zWhy zNONE := by unfold zWhy vp_in; decide +kernel
theorem zW2 : zWhy zVACANT := by unfold zWhy vp_in; decide +kernel
theorem zW3 : zWhy zBEYOND := by unfold zWhy vp_in; decide +kernel
theorem zW4 : zWhy zNEGATIVE := by unfold zWhy vp_in; decide +kernel
theorem zW5 : zWhy zGREAT := by unfold zWhy vp_in; decide +kernel
theorem zW6 : zWhy zDIVIDED := by unfold zWhy vp_in; decide +kernel
theorem zW7 : zWhy zBARE := by unfold zWhy vp_in; decide +kernel
/-- which refusals an act may answer -/
abbrev zHas (n : Nat) (i : Int32) : Prop := ¬ i < 0 ∧ ¬ nI n ≤ i
theorem zHas_in {n : Nat} {i : Int32} (h : zHas n i) (hn : n < 2 ^ 31) : vp_in i n := by
  rintro (q | q)
  · exact h.1 q
  · apply h.2
    rw [Int32.le_iff_toInt_le, nI_toInt hn]
    have := h.1
    rw [Int32.lt_iff_toInt_lt] at this
    have e : i.toNatClampNeg = i.toInt.toNat := rfl
    rw [Int32.toInt_zero] at this
    omega
def zRF (car : Nat → Option Nat) (d t : Int32) : Int64 := if zFour d ∧ zFour t then (if car (zix d t) = none then zVACANT else 0) else zNONE
abbrev zA (car : Nat → Option Nat) (d t : Int32) : Nat := (car (zix d t)).getD 0
def zPF (f : Nat → va_E) (car : Nat → Option Nat) (d t i : Int32) : Int64 := if zRF car d t = 0 then (if zHas (vN f (zA car d t)) i then 0 else zBEYOND) else zRF car d t
def zGF (rows cols : Int32) : Int64 := if 12 < rows ∨ ¬ cols ≤ 12 then zGREAT else if rows < 0 ∨ ¬ 0 ≤ cols then zNEGATIVE else 0
theorem zRF_why {car : Nat → Option Nat} {d t : Int32} (h : ¬ zRF car d t = 0) : zWhy (zRF car d t) := by
  unfold zRF at h ⊢
  split
  · split
    · exact zW2
    · rename_i h1 h2; rw [if_pos h1, if_neg h2] at h; exact absurd rfl h
  · exact zW1
theorem zRF_0 {car : Nat → Option Nat} {d t : Int32} (h : zRF car d t = 0) : zFour d ∧ zFour t ∧ car (zix d t) = some (zA car d t) := by
  unfold zRF at h
  by_cases h1 : zFour d ∧ zFour t
  · rw [if_pos h1] at h
    by_cases h2 : car (zix d t) = none
    · rw [if_pos h2] at h; exact absurd h (by decide)
    · refine ⟨h1.1, h1.2, ?_⟩
      cases h3 : car (zix d t) with
      | none => exact absurd h3 h2
      | some a => unfold zA; rw [h3]; rfl
  · rw [if_neg h1] at h; exact absurd h (by decide)
theorem zPF_why {f : Nat → va_E} {car : Nat → Option Nat} {d t i : Int32} (h : ¬ zPF f car d t i = 0) : zWhy (zPF f car d t i) := by
  unfold zPF at h ⊢
  by_cases h1 : zRF car d t = 0
  · rw [if_pos h1] at h ⊢
    split
    · rename_i h2; rw [if_pos h2] at h; exact absurd rfl h
    · exact zW3
  · rw [if_neg h1] at h ⊢
    exact zRF_why h1
theorem zPF_0 {f : Nat → va_E} {car : Nat → Option Nat} {d t i : Int32} (h : zPF f car d t i = 0) : zRF car d t = 0 ∧ zHas (vN f (zA car d t)) i := by
  unfold zPF at h
  by_cases h1 : zRF car d t = 0
  · rw [if_pos h1] at h
    by_cases h2 : zHas (vN f (zA car d t)) i
    · exact ⟨h1, h2⟩
    · rw [if_neg h2] at h; exact absurd h (by decide)
  · rw [if_neg h1] at h; exact absurd h h1
theorem zGF_why {r c : Int32} (h : ¬ zGF r c = 0) : zWhy (zGF r c) := by
  unfold zGF at h ⊢
  split
  · exact zW5
  · split
    · exact zW4
    · rename_i h1 h2; rw [if_neg h1, if_neg h2] at h; exact absurd rfl h
abbrev zKnow (t how : Int32) : Prop := (t = 2 ∧ (how = 0 ∨ how = 1)) ∨ (¬ t = 2 ∧ t = 3 ∧ (how = 6 ∨ how = 7 ∨ how = 8)) ∨ (¬ t = 2 ∧ ¬ t = 3 ∧ ¬ how < 0 ∧ ¬ 8 < how)
/-- every deck carries reels of the right sort -/
def zCT (G : zG) (L : List Nat) (f : Nat → va_E) (car : Nat → Option Nat) : Prop := ∀ k, k < 16 → ∀ a, car k = some a → zRA G L f (k % 4) a
theorem zCT_at {G : zG} {L : List Nat} {f : Nat → va_E} {car : Nat → Option Nat} {d t : Int32} (h : zCT G L f car) (h0 : zRF car d t = 0) : zRA G L f (zS t) (zA car d t) := by
  obtain ⟨hd, ht, hc⟩ := zRF_0 h0
  obtain ⟨a, b, ha, hb, -, -, e1, e2⟩ := zix_of hd ht
  rw [e2]
  rw [e1] at hc
  have := h (a * 4 + b) (by omega) _ hc
  rw [show (a * 4 + b) % 4 = b by omega] at this
  exact this
theorem zRk_s (s : Nat) : zRk (zKc s) := by
  unfold zKc zRk
  split <;> simp
section ZPQ
variable {p : Program} {l : Launch} {e : Env} {R : Room} {s : State} {m : MethodId} {args : Array Value} {below : List Frame} {meth : Method} {c : Code} {H : Heap} {locs : List Loc} {cells slots mc ms : Nat} {Q : State → Prop} {cc : ByteArray} {pc : Nat} {ls : Array Slot} {rest st0 : List Value} {G : zG} {A : Nat → Prop} {L : List Nat} {f : Nat → va_E} {a : Nat}
theorem px_astRQ (hx : p.tables.exec = Jvm.exec) (hb : c.code = cc) (hK : zK G s) (w : zW G A s H locs (va_pl L f)) (ha : a ∈ L) {n : Nat} {q : Option Nat} {g : Nat → Option Nat} (hf : f a = .inl (G.2 5, n, .inr (.inr (.inr (.inr g))))) (hv : ∀ v, q = some v → ∃ s, zRA G L f s v) {i : Int32} (hi : vp_in i n) (hdg : decode cc pc = .ok (.aastore, 1))
    (kk : ∀ (H1 : Heap) (locs1 : List Loc), zW G A s H1 locs1 (va_pl L (va_up f a (.inl (G.2 5, n, zQ (va_up g i.toNatClampNeg q))))) → W p l e R s m args below meth c H1 locs1 cells slots Q (F0 m (pc + 1) ls rest)) : W p l e R s m args below meth c H locs cells slots Q (F0 m pc ls (va_rf q :: .int i :: .ref a :: rest)) := by
  cases q with
  | none => exact px_astRN hx hb hK w ha hf hi hdg kk
  | some v =>
    obtain ⟨t, h1, -, h3, -⟩ := hv v rfl
    exact px_astR (ci := zKc t) hx hb hK w ha hf h1 h3 (zRk_s t) hi hdg kk
end ZPQ
section ZNE
variable {s i : Nat} {gi : Nat → Int32} {gf : Nat → UInt32} {how x : Int32} {v : UInt32} (hs : s = 0 ∨ s = 1 ∨ s = 3)
theorem zne2 {s : Nat} (hs : s = 0 ∨ s = 1 ∨ s = 3) : ¬ s = 2 := by omega
theorem zPuF_of {s i : Nat} {gf : Nat → UInt32} {v : UInt32} (hs : ¬ s = 2) : zPuF s gf i v = gf := by
  unfold zPuF
  split
  · exact absurd rfl hs
  · rfl
theorem zPuI_of {s i : Nat} {gi : Nat → Int32} {x : Int32} (hs : ¬ s = 2) : zPuI s gi i x = upd gi i (zNar s x) := by
  unfold zPuI
  split
  · exact absurd rfl hs
  · rfl
theorem zChF_of {s i : Nat} {gf : Nat → UInt32} {how x : Int32} (hs : ¬ s = 2) : zChF s gf i how x = gf := by
  unfold zChF
  split
  · exact absurd rfl hs
  · rfl
theorem zChI_of {s i : Nat} {gi : Nat → Int32} {gf : Nat → UInt32} {how x : Int32} (hs : ¬ s = 2) : zChI s gi gf i how x = upd gi i (zNar s (zRek (zTold s gi gf i) how x)) := by
  unfold zChI
  split
  · exact absurd rfl hs
  · rfl
theorem zSuF_of {s i : Nat} {gf : Nat → UInt32} (hs : ¬ s = 2) : zSuF s gf i = gf := by
  unfold zSuF
  split
  · exact absurd rfl hs
  · rfl
theorem zSuI_of {s i : Nat} {gi : Nat → Int32} {gf : Nat → UInt32} (hs : ¬ s = 2) : zSuI s gi gf i = upd gi i (zNar s (zTold s gi gf i + 1)) := by
  unfold zSuI
  split
  · exact absurd rfl hs
  · rfl
theorem zPlI_of {s i : Nat} {gi : Nat → Int32} {v : UInt32} (hs : ¬ s = 2) : zPlI s gi i v = upd gi i (zNar s (FP.f2i v)) := by
  unfold zPlI
  split
  · exact absurd rfl hs
  · rfl
theorem zLev_of {s i : Nat} {gi : Nat → Int32} {gf : Nat → UInt32} (hs : ¬ s = 2) : zLev s gi gf i = FP.i2f (zTold s gi gf i) := by
  unfold zLev
  split
  · exact absurd rfl hs
  · rfl
end ZNE
end
section
set_option maxHeartbeats 4000000 in
set_option maxRecDepth 100000 in
theorem kX3_has (l : Launch) (G : zG) {s0 : Nat} (hs : s0 = 0 ∨ s0 = 1 ∨ s0 = 2 ∨ s0 = 3) {L : List Nat} {f : Nat → va_E} {a b n : Nat} {gi : Nat → Int32} {gf : Nat → UInt32} (h : zReel G L f s0 a b n gi gf) (i : Int32) (sz : Nat) : zMi l yX3_has wsX3_has { frames := 1, cells := 0, slots := 0, locals := 20 } G [.ref a, .int i] (va_pl L f) sz (fun r u => u = va_pl L f ∧ r = if zHas n i then 1 else 0) 0 0 := by
  refine zIn (Qc := fun A => va_Qi _ (zB G A) A) (cc := cX3_has) (maxL := 2) (ret := (some .boolean)) (by decide) rfl (Nat.le_of_ble_eq_true rfl) ?_
  intro p e s m below meth c A ls hx hb hr hlk hml hts hown hnm hK w hl
  have hown : s.vm.findClass RX3 = some m.cls := hown
  have hl : lv_has ls 2 [(0, .ref a), (1, .int i)] := hl
  refine lv_iload_n hx hb dX3_has_0 rfl (lv_at hl 1 rfl) ?_
  refine lv_if_lt (tgt := 16) hx hb dX3_has_1 (by decide) (fun c_1 => ?_) (fun c_1 => ?_)
  · refine lv_iconst (v := 0) hx hb dX3_has_16 (by decide) ?_
    exact zRz hx hb hr hlk rfl w dX3_has_17 (Nat.le_of_ble_eq_true rfl) (Nat.le_of_ble_eq_true rfl) ⟨rfl, by simp [zHas, c_1]⟩
  · refine lv_iload_n hx hb dX3_has_4 rfl (lv_at hl 1 rfl) ?_
    refine lv_aload_n hx hb dX3_has_5 rfl (lv_at hl 0 rfl) ?_
    refine zCi (post := fun r u => u = va_pl L f ∧ r = nI n) (mc := 0) (ms := 0) (rest := [.int i]) (av := (Value.ref a :: []).toArray) w (by
        rcases hs with rfl | rfl | rfl | rfl
        · exact va_runU (As := []) (rest := [.int i]) ⟨hx, hb, hml, hown, hts⟩ (kX2_places l G h s.heap.size) (va_cwA 0 hts gX3_has_X2_places_u9X2 rfl rfl rfl hK.2.1.1 (by decide +kernel) ⟨(Nat.le_of_ble_eq_true rfl), (Nat.le_of_ble_eq_true rfl)⟩) (zPV w hK (px_recv (ci := 2) (fs := [.ref b]) (r := (RX2, TX2, 1)) hK w (h.1) (h.2.2.1) rfl)) rfl rfl hl.1 rfl (lv_room (Nat.le_of_ble_eq_true rfl)) dX3_has_6 ⟨(Nat.le_of_ble_eq_true rfl), (Nat.le_of_ble_eq_true rfl)⟩
        · exact va_runU (As := []) (rest := [.int i]) ⟨hx, hb, hml, hown, hts⟩ (kX5_places l G h s.heap.size) (va_cwA 0 hts gX3_has_X5_places_u9X5 rfl rfl rfl hK.2.1.1 (by decide +kernel) ⟨(Nat.le_of_ble_eq_true rfl), (Nat.le_of_ble_eq_true rfl)⟩) (zPV w hK (px_recv (ci := 4) (fs := [.ref b]) (r := (RX5, TX5, 1)) hK w (h.1) (h.2.2.1) rfl)) rfl rfl hl.1 rfl (lv_room (Nat.le_of_ble_eq_true rfl)) dX3_has_6 ⟨(Nat.le_of_ble_eq_true rfl), (Nat.le_of_ble_eq_true rfl)⟩
        · exact va_runU (As := []) (rest := [.int i]) ⟨hx, hb, hml, hown, hts⟩ (kX0_places l G h s.heap.size) (va_cwA 0 hts gX3_has_X0_places_u9X0 rfl rfl rfl hK.2.1.1 (by decide +kernel) ⟨(Nat.le_of_ble_eq_true rfl), (Nat.le_of_ble_eq_true rfl)⟩) (zPV w hK (px_recv (ci := 0) (fs := [.ref b]) (r := (RX0, TX0, 1)) hK w (h.1) (h.2.2.1) rfl)) rfl rfl hl.1 rfl (lv_room (Nat.le_of_ble_eq_true rfl)) dX3_has_6 ⟨(Nat.le_of_ble_eq_true rfl), (Nat.le_of_ble_eq_true rfl)⟩
        · exact va_runU (As := []) (rest := [.int i]) ⟨hx, hb, hml, hown, hts⟩ (kX1_places l G h s.heap.size) (va_cwA 0 hts gX3_has_X1_places_u9X1 rfl rfl rfl hK.2.1.1 (by decide +kernel) ⟨(Nat.le_of_ble_eq_true rfl), (Nat.le_of_ble_eq_true rfl)⟩) (zPV w hK (px_recv (ci := 1) (fs := [.ref b]) (r := (RX1, TX1, 1)) hK w (h.1) (h.2.2.1) rfl)) rfl rfl hl.1 rfl (lv_room (Nat.le_of_ble_eq_true rfl)) dX3_has_6 ⟨(Nat.le_of_ble_eq_true rfl), (Nat.le_of_ble_eq_true rfl)⟩) (fun r_2 u H locs hq w => ?_)
    obtain ⟨rfl, e_r⟩ := hq
    subst e_r
    refine lv_icmp_ge (tgt := 16) hx hb dX3_has_9 (by decide) (fun c_3 => ?_) (fun c_3 => ?_)
    · refine lv_iconst (v := 0) hx hb dX3_has_16 (by decide) ?_
      exact zRz hx hb hr hlk rfl w dX3_has_17 (Nat.le_of_ble_eq_true rfl) (Nat.le_of_ble_eq_true rfl) ⟨rfl, by simp [zHas, c_1, c_3]⟩
    · refine lv_iconst (v := 1) hx hb dX3_has_12 (by decide) ?_
      refine lv_goto (tgt := 17) hx hb dX3_has_13 (by decide) ?_
      exact zRz hx hb hr hlk rfl w dX3_has_17 (Nat.le_of_ble_eq_true rfl) (Nat.le_of_ble_eq_true rfl) ⟨rfl, by simp [zHas, c_1, c_3]⟩
set_option maxHeartbeats 4000000 in
set_option maxRecDepth 100000 in
theorem kX3_reckon (l : Launch) (G : zG) (ws : va_W) (x how n : Int32) (hdv : ¬ (how = 3 ∧ n = 0)) (sz : Nat) : zMi l yX3_reckon wsX3_reckon { frames := 0, cells := 0, slots := 0, locals := 0 } G [.int x, .int how, .int n] (ws) sz (fun r u => u = ws ∧ r = zRek x how n) 0 0 := by
  refine zIn (Qc := fun A => va_Qi _ (zB G A) A) (cc := cX3_reckon) (maxL := 3) (ret := (some .int)) (by decide) rfl (Nat.le_of_ble_eq_true rfl) ?_
  intro p e s m below meth c A ls hx hb hr hlk hml hts hown hnm hK w hl
  have hown : s.vm.findClass RX3 = some m.cls := hown
  have hl : lv_has ls 3 [(0, .int x), (1, .int how), (2, .int n)] := hl
  refine lv_iload_n hx hb dX3_reckon_0 rfl (lv_at hl 1 rfl) ?_
  rcases Decidable.em (how = 0) with t_1 | t_1
  · refine lv_tableIn (tgt := 48) hx hb dX3_reckon_1 (by rw [t_1]; decide) (by rw [t_1]; decide) (by rw [t_1]; rfl) (by decide) ?_
    refine lv_iload_n hx hb dX3_reckon_48 rfl (lv_at hl 0 rfl) ?_
    refine lv_iload_n hx hb dX3_reckon_49 rfl (lv_at hl 2 rfl) ?_
    refine lv_iadd hx hb dX3_reckon_50 ?_
    exact zRi hx hb hr hlk w dX3_reckon_51 (Nat.le_of_ble_eq_true rfl) (Nat.le_of_ble_eq_true rfl) ⟨rfl, by simp [zRek, t_1]⟩
  · rcases Decidable.em (how = 1) with t_2 | t_2
    · refine lv_tableIn (tgt := 52) hx hb dX3_reckon_1 (by rw [t_2]; decide) (by rw [t_2]; decide) (by rw [t_2]; rfl) (by decide) ?_
      refine lv_iload_n hx hb dX3_reckon_52 rfl (lv_at hl 0 rfl) ?_
      refine lv_iload_n hx hb dX3_reckon_53 rfl (lv_at hl 2 rfl) ?_
      refine lv_isub hx hb dX3_reckon_54 ?_
      exact zRi hx hb hr hlk w dX3_reckon_55 (Nat.le_of_ble_eq_true rfl) (Nat.le_of_ble_eq_true rfl) ⟨rfl, by simp [zRek, t_1, t_2]⟩
    · rcases Decidable.em (how = 2) with t_3 | t_3
      · refine lv_tableIn (tgt := 56) hx hb dX3_reckon_1 (by rw [t_3]; decide) (by rw [t_3]; decide) (by rw [t_3]; rfl) (by decide) ?_
        refine lv_iload_n hx hb dX3_reckon_56 rfl (lv_at hl 0 rfl) ?_
        refine lv_iload_n hx hb dX3_reckon_57 rfl (lv_at hl 2 rfl) ?_
        refine lv_imul hx hb dX3_reckon_58 ?_
        exact zRi hx hb hr hlk w dX3_reckon_59 (Nat.le_of_ble_eq_true rfl) (Nat.le_of_ble_eq_true rfl) ⟨rfl, by simp [zRek, t_1, t_2, t_3]⟩
      · rcases Decidable.em (how = 3) with t_4 | t_4
        · refine lv_tableIn (tgt := 60) hx hb dX3_reckon_1 (by rw [t_4]; decide) (by rw [t_4]; decide) (by rw [t_4]; rfl) (by decide) ?_
          refine lv_iload_n hx hb dX3_reckon_60 rfl (lv_at hl 0 rfl) ?_
          refine lv_iload_n hx hb dX3_reckon_61 rfl (lv_at hl 2 rfl) ?_
          refine lv_idiv hx hb dX3_reckon_62 (fun q => hdv ⟨t_4, q⟩) ?_
          exact zRi hx hb hr hlk w dX3_reckon_63 (Nat.le_of_ble_eq_true rfl) (Nat.le_of_ble_eq_true rfl) ⟨rfl, by simp [zRek, t_1, t_2, t_3, t_4]⟩
        · rcases Decidable.em (how = 4) with t_5 | t_5
          · refine lv_tableIn (tgt := 64) hx hb dX3_reckon_1 (by rw [t_5]; decide) (by rw [t_5]; decide) (by rw [t_5]; rfl) (by decide) ?_
            refine lv_iload_n hx hb dX3_reckon_64 rfl (lv_at hl 0 rfl) ?_
            refine lv_iload_n hx hb dX3_reckon_65 rfl (lv_at hl 2 rfl) ?_
            refine lv_bipush (v := 31) hx hb dX3_reckon_66 (by decide) ?_
            refine lv_iand hx hb dX3_reckon_68 ?_
            refine lv_ishl hx hb dX3_reckon_69 ?_
            exact zRi hx hb hr hlk w dX3_reckon_70 (Nat.le_of_ble_eq_true rfl) (Nat.le_of_ble_eq_true rfl) ⟨rfl, by simp [zRek, t_1, t_2, t_3, t_4, t_5]⟩
          · rcases Decidable.em (how = 5) with t_6 | t_6
            · refine lv_tableIn (tgt := 71) hx hb dX3_reckon_1 (by rw [t_6]; decide) (by rw [t_6]; decide) (by rw [t_6]; rfl) (by decide) ?_
              refine lv_iload_n hx hb dX3_reckon_71 rfl (lv_at hl 0 rfl) ?_
              refine lv_iload_n hx hb dX3_reckon_72 rfl (lv_at hl 2 rfl) ?_
              refine lv_bipush (v := 31) hx hb dX3_reckon_73 (by decide) ?_
              refine lv_iand hx hb dX3_reckon_75 ?_
              refine lv_iushr hx hb dX3_reckon_76 rfl ?_
              exact zRi hx hb hr hlk w dX3_reckon_77 (Nat.le_of_ble_eq_true rfl) (Nat.le_of_ble_eq_true rfl) ⟨rfl, by simp [zRek, t_1, t_2, t_3, t_4, t_5, t_6]⟩
            · rcases Decidable.em (how = 6) with t_7 | t_7
              · refine lv_tableIn (tgt := 78) hx hb dX3_reckon_1 (by rw [t_7]; decide) (by rw [t_7]; decide) (by rw [t_7]; rfl) (by decide) ?_
                refine lv_iload_n hx hb dX3_reckon_78 rfl (lv_at hl 0 rfl) ?_
                refine lv_iload_n hx hb dX3_reckon_79 rfl (lv_at hl 2 rfl) ?_
                refine lv_ixor hx hb dX3_reckon_80 ?_
                exact zRi hx hb hr hlk w dX3_reckon_81 (Nat.le_of_ble_eq_true rfl) (Nat.le_of_ble_eq_true rfl) ⟨rfl, by simp [zRek, t_1, t_2, t_3, t_4, t_5, t_6, t_7]⟩
              · rcases Decidable.em (how = 7) with t_8 | t_8
                · refine lv_tableIn (tgt := 82) hx hb dX3_reckon_1 (by rw [t_8]; decide) (by rw [t_8]; decide) (by rw [t_8]; rfl) (by decide) ?_
                  refine lv_iload_n hx hb dX3_reckon_82 rfl (lv_at hl 0 rfl) ?_
                  refine lv_iload_n hx hb dX3_reckon_83 rfl (lv_at hl 2 rfl) ?_
                  refine lv_iand hx hb dX3_reckon_84 ?_
                  exact zRi hx hb hr hlk w dX3_reckon_85 (Nat.le_of_ble_eq_true rfl) (Nat.le_of_ble_eq_true rfl) ⟨rfl, by simp [zRek, t_1, t_2, t_3, t_4, t_5, t_6, t_7, t_8]⟩
                · refine lv_tableOut (tgt := 86) hx hb dX3_reckon_1 (by have q0 := lv_neT (k := 0) (a := 0) t_1 rfl; have q1 := lv_neT (k := 1) (a := 1) t_2 rfl; have q2 := lv_neT (k := 2) (a := 2) t_3 rfl; have q3 := lv_neT (k := 3) (a := 3) t_4 rfl; have q4 := lv_neT (k := 4) (a := 4) t_5 rfl; have q5 := lv_neT (k := 5) (a := 5) t_6 rfl; have q6 := lv_neT (k := 6) (a := 6) t_7 rfl; have q7 := lv_neT (k := 7) (a := 7) t_8 rfl; omega) (by decide) ?_
                  refine lv_iload_n hx hb dX3_reckon_86 rfl (lv_at hl 0 rfl) ?_
                  refine lv_iload_n hx hb dX3_reckon_87 rfl (lv_at hl 2 rfl) ?_
                  refine lv_ior hx hb dX3_reckon_88 ?_
                  exact zRi hx hb hr hlk w dX3_reckon_89 (Nat.le_of_ble_eq_true rfl) (Nat.le_of_ble_eq_true rfl) ⟨rfl, by simp [zRek, t_1, t_2, t_3, t_4, t_5, t_6, t_7, t_8]⟩
set_option maxHeartbeats 4000000 in
set_option maxRecDepth 100000 in
theorem kX3_change (l : Launch) (G : zG) {s0 : Nat} (hs : s0 = 0 ∨ s0 = 1 ∨ s0 = 3) {L : List Nat} {f : Nat → va_E} {a b n : Nat} {gi : Nat → Int32} {gf : Nat → UInt32} (h : zReel G L f s0 a b n gi gf) (i how x : Int32) (hi : vp_in i n) (hdv : ¬ (how = 3 ∧ x = 0)) (sz : Nat) : zMv l yX3_change wsX3_change { frames := 1, cells := 0, slots := 0, locals := 22 } G [.ref a, .int i, .int how, .int x] (va_pl L f) sz (fun u => u = va_pl L (va_up f b (zCel G s0 n (zChI s0 gi gf i.toNatClampNeg how x) (zChF s0 gf i.toNatClampNeg how x)))) 0 0 := by
  refine zIn (Qc := fun A => va_Qv _ (zB G A) A) (cc := cX3_change) (maxL := 4) (ret := none) (by decide) rfl (Nat.le_of_ble_eq_true rfl) ?_
  intro p e s m below meth c A ls hx hb hr hlk hml hts hown hnm hK w hl
  have hown : s.vm.findClass RX3 = some m.cls := hown
  have hl : lv_has ls 4 [(0, .ref a), (1, .int i), (2, .int how), (3, .int x)] := hl
  refine lv_aload_n hx hb dX3_change_0 rfl (lv_at hl 0 rfl) ?_
  refine lv_iload_n hx hb dX3_change_1 rfl (lv_at hl 1 rfl) ?_
  refine lv_aload_n hx hb dX3_change_2 rfl (lv_at hl 0 rfl) ?_
  refine lv_iload_n hx hb dX3_change_3 rfl (lv_at hl 1 rfl) ?_
  refine zCi (post := fun r u => u = va_pl L f ∧ r = zTold s0 gi gf i.toNatClampNeg) (mc := 0) (ms := 0) (rest := [.int i, .ref a]) (av := (Value.ref a :: [.int i]).toArray) w (by
      rcases hs with rfl | rfl | rfl
      · exact va_runU (As := [.int i]) (rest := [.int i, .ref a]) ⟨hx, hb, hml, hown, hts⟩ (kX2_told l G h i hi s.heap.size) (va_cwA 1 hts gX3_change_X2_told_u15X2 rfl rfl rfl hK.2.1.2.1 (by decide +kernel) ⟨(Nat.le_of_ble_eq_true rfl), (Nat.le_of_ble_eq_true rfl)⟩) (zPV w hK (px_recv (ci := 2) (fs := [.ref b]) (r := (RX2, TX2, 1)) hK w (h.1) (h.2.2.1) rfl)) rfl rfl hl.1 rfl (lv_room (Nat.le_of_ble_eq_true rfl)) dX3_change_4 ⟨(Nat.le_of_ble_eq_true rfl), (Nat.le_of_ble_eq_true rfl)⟩
      · exact va_runU (As := [.int i]) (rest := [.int i, .ref a]) ⟨hx, hb, hml, hown, hts⟩ (kX5_told l G h i hi s.heap.size) (va_cwA 1 hts gX3_change_X5_told_u15X5 rfl rfl rfl hK.2.1.2.1 (by decide +kernel) ⟨(Nat.le_of_ble_eq_true rfl), (Nat.le_of_ble_eq_true rfl)⟩) (zPV w hK (px_recv (ci := 4) (fs := [.ref b]) (r := (RX5, TX5, 1)) hK w (h.1) (h.2.2.1) rfl)) rfl rfl hl.1 rfl (lv_room (Nat.le_of_ble_eq_true rfl)) dX3_change_4 ⟨(Nat.le_of_ble_eq_true rfl), (Nat.le_of_ble_eq_true rfl)⟩
      · exact va_runU (As := [.int i]) (rest := [.int i, .ref a]) ⟨hx, hb, hml, hown, hts⟩ (kX1_told l G h i hi s.heap.size) (va_cwA 1 hts gX3_change_X1_told_u15X1 rfl rfl rfl hK.2.1.2.1 (by decide +kernel) ⟨(Nat.le_of_ble_eq_true rfl), (Nat.le_of_ble_eq_true rfl)⟩) (zPV w hK (px_recv (ci := 1) (fs := [.ref b]) (r := (RX1, TX1, 1)) hK w (h.1) (h.2.2.1) rfl)) rfl rfl hl.1 rfl (lv_room (Nat.le_of_ble_eq_true rfl)) dX3_change_4 ⟨(Nat.le_of_ble_eq_true rfl), (Nat.le_of_ble_eq_true rfl)⟩) (fun r_1 u H locs hq w => ?_)
  obtain ⟨rfl, e_r⟩ := hq
  subst e_r
  refine lv_iload_n hx hb dX3_change_7 rfl (lv_at hl 2 rfl) ?_
  refine lv_iload_n hx hb dX3_change_8 rfl (lv_at hl 3 rfl) ?_
  refine zCi w (va_runS (As := [.int (zTold s0 gi gf i.toNatClampNeg), .int how, .int x]) (rest := [.int i, .ref a]) ⟨hx, hb, hml, hown, hts⟩ (kX3_reckon l G _ (zTold s0 gi gf i.toNatClampNeg) how x hdv H.size) (va_cwS 3 hts gX3_change_X3_reckon rfl rfl rfl (by decide +kernel) ⟨(Nat.le_of_ble_eq_true rfl), (Nat.le_of_ble_eq_true rfl)⟩) (zPS w hK) rfl rfl hl.1 rfl (lv_room (Nat.le_of_ble_eq_true rfl)) dX3_change_9 ⟨(Nat.le_of_ble_eq_true rfl), (Nat.le_of_ble_eq_true rfl)⟩) (fun r_2 u H locs hq w => ?_)
  obtain ⟨rfl, e_r⟩ := hq
  subst e_r
  refine zCv (post := fun u => u = va_pl L (va_up f b (zCel G s0 n (zPuI s0 gi i.toNatClampNeg (zRek (zTold s0 gi gf i.toNatClampNeg) how x)) (zPuF s0 gf i.toNatClampNeg (zEi (zRek (zTold s0 gi gf i.toNatClampNeg) how x)))))) (mc := 0) (ms := 0) (rest := []) (av := (Value.ref a :: [.int i, .int (zRek (zTold s0 gi gf i.toNatClampNeg) how x)]).toArray) w (by
      rcases hs with rfl | rfl | rfl
      · exact va_runU (As := [.int i, .int (zRek (zTold 0 gi gf i.toNatClampNeg) how x)]) (rest := []) ⟨hx, hb, hml, hown, hts⟩ (kX2_put l G h i (zRek (zTold 0 gi gf i.toNatClampNeg) how x) hi H.size) (va_cwA 2 hts gX3_change_X2_put_u23X2 rfl rfl rfl hK.2.1.2.2 (by decide +kernel) ⟨(Nat.le_of_ble_eq_true rfl), (Nat.le_of_ble_eq_true rfl)⟩) (zPV w hK (px_recv (ci := 2) (fs := [.ref b]) (r := (RX2, TX2, 1)) hK w (h.1) (h.2.2.1) rfl)) rfl rfl hl.1 rfl (lv_room (Nat.le_of_ble_eq_true rfl)) dX3_change_12 ⟨(Nat.le_of_ble_eq_true rfl), (Nat.le_of_ble_eq_true rfl)⟩
      · exact va_runU (As := [.int i, .int (zRek (zTold 1 gi gf i.toNatClampNeg) how x)]) (rest := []) ⟨hx, hb, hml, hown, hts⟩ (kX5_put l G h i (zRek (zTold 1 gi gf i.toNatClampNeg) how x) hi H.size) (va_cwA 2 hts gX3_change_X5_put_u23X5 rfl rfl rfl hK.2.1.2.2 (by decide +kernel) ⟨(Nat.le_of_ble_eq_true rfl), (Nat.le_of_ble_eq_true rfl)⟩) (zPV w hK (px_recv (ci := 4) (fs := [.ref b]) (r := (RX5, TX5, 1)) hK w (h.1) (h.2.2.1) rfl)) rfl rfl hl.1 rfl (lv_room (Nat.le_of_ble_eq_true rfl)) dX3_change_12 ⟨(Nat.le_of_ble_eq_true rfl), (Nat.le_of_ble_eq_true rfl)⟩
      · exact va_runU (As := [.int i, .int (zRek (zTold 3 gi gf i.toNatClampNeg) how x)]) (rest := []) ⟨hx, hb, hml, hown, hts⟩ (kX1_put l G h i (zRek (zTold 3 gi gf i.toNatClampNeg) how x) hi H.size) (va_cwA 2 hts gX3_change_X1_put_u23X1 rfl rfl rfl hK.2.1.2.2 (by decide +kernel) ⟨(Nat.le_of_ble_eq_true rfl), (Nat.le_of_ble_eq_true rfl)⟩) (zPV w hK (px_recv (ci := 1) (fs := [.ref b]) (r := (RX1, TX1, 1)) hK w (h.1) (h.2.2.1) rfl)) rfl rfl hl.1 rfl (lv_room (Nat.le_of_ble_eq_true rfl)) dX3_change_12 ⟨(Nat.le_of_ble_eq_true rfl), (Nat.le_of_ble_eq_true rfl)⟩) (fun u H locs hq w => ?_)
  subst hq
  exact zRv hx hb hr hlk w dX3_change_15 (Nat.le_of_ble_eq_true rfl) (Nat.le_of_ble_eq_true rfl) (by rw [zChI_of (zne2 hs), zChF_of (zne2 hs), zPuF_of (zne2 hs), zPuI_of (zne2 hs)])
set_option maxHeartbeats 4000000 in
set_option maxRecDepth 100000 in
theorem kX3_stepUp (l : Launch) (G : zG) {s0 : Nat} (hs : s0 = 0 ∨ s0 = 1 ∨ s0 = 3) {L : List Nat} {f : Nat → va_E} {a b n : Nat} {gi : Nat → Int32} {gf : Nat → UInt32} (h : zReel G L f s0 a b n gi gf) (i : Int32) (hi : vp_in i n) (sz : Nat) : zMv l yX3_stepUp wsX3_stepUp { frames := 1, cells := 0, slots := 0, locals := 22 } G [.ref a, .int i] (va_pl L f) sz (fun u => u = va_pl L (va_up f b (zCel G s0 n (zSuI s0 gi gf i.toNatClampNeg) (zSuF s0 gf i.toNatClampNeg)))) 0 0 := by
  refine zIn (Qc := fun A => va_Qv _ (zB G A) A) (cc := cX3_stepUp) (maxL := 2) (ret := none) (by decide) rfl (Nat.le_of_ble_eq_true rfl) ?_
  intro p e s m below meth c A ls hx hb hr hlk hml hts hown hnm hK w hl
  have hown : s.vm.findClass RX3 = some m.cls := hown
  have hl : lv_has ls 2 [(0, .ref a), (1, .int i)] := hl
  refine lv_aload_n hx hb dX3_stepUp_0 rfl (lv_at hl 0 rfl) ?_
  refine lv_iload_n hx hb dX3_stepUp_1 rfl (lv_at hl 1 rfl) ?_
  refine lv_aload_n hx hb dX3_stepUp_2 rfl (lv_at hl 0 rfl) ?_
  refine lv_iload_n hx hb dX3_stepUp_3 rfl (lv_at hl 1 rfl) ?_
  refine zCi (post := fun r u => u = va_pl L f ∧ r = zTold s0 gi gf i.toNatClampNeg) (mc := 0) (ms := 0) (rest := [.int i, .ref a]) (av := (Value.ref a :: [.int i]).toArray) w (by
      rcases hs with rfl | rfl | rfl
      · exact va_runU (As := [.int i]) (rest := [.int i, .ref a]) ⟨hx, hb, hml, hown, hts⟩ (kX2_told l G h i hi s.heap.size) (va_cwA 1 hts gX3_stepUp_X2_told_u15X2 rfl rfl rfl hK.2.1.2.1 (by decide +kernel) ⟨(Nat.le_of_ble_eq_true rfl), (Nat.le_of_ble_eq_true rfl)⟩) (zPV w hK (px_recv (ci := 2) (fs := [.ref b]) (r := (RX2, TX2, 1)) hK w (h.1) (h.2.2.1) rfl)) rfl rfl hl.1 rfl (lv_room (Nat.le_of_ble_eq_true rfl)) dX3_stepUp_4 ⟨(Nat.le_of_ble_eq_true rfl), (Nat.le_of_ble_eq_true rfl)⟩
      · exact va_runU (As := [.int i]) (rest := [.int i, .ref a]) ⟨hx, hb, hml, hown, hts⟩ (kX5_told l G h i hi s.heap.size) (va_cwA 1 hts gX3_stepUp_X5_told_u15X5 rfl rfl rfl hK.2.1.2.1 (by decide +kernel) ⟨(Nat.le_of_ble_eq_true rfl), (Nat.le_of_ble_eq_true rfl)⟩) (zPV w hK (px_recv (ci := 4) (fs := [.ref b]) (r := (RX5, TX5, 1)) hK w (h.1) (h.2.2.1) rfl)) rfl rfl hl.1 rfl (lv_room (Nat.le_of_ble_eq_true rfl)) dX3_stepUp_4 ⟨(Nat.le_of_ble_eq_true rfl), (Nat.le_of_ble_eq_true rfl)⟩
      · exact va_runU (As := [.int i]) (rest := [.int i, .ref a]) ⟨hx, hb, hml, hown, hts⟩ (kX1_told l G h i hi s.heap.size) (va_cwA 1 hts gX3_stepUp_X1_told_u15X1 rfl rfl rfl hK.2.1.2.1 (by decide +kernel) ⟨(Nat.le_of_ble_eq_true rfl), (Nat.le_of_ble_eq_true rfl)⟩) (zPV w hK (px_recv (ci := 1) (fs := [.ref b]) (r := (RX1, TX1, 1)) hK w (h.1) (h.2.2.1) rfl)) rfl rfl hl.1 rfl (lv_room (Nat.le_of_ble_eq_true rfl)) dX3_stepUp_4 ⟨(Nat.le_of_ble_eq_true rfl), (Nat.le_of_ble_eq_true rfl)⟩) (fun r_1 u H locs hq w => ?_)
  obtain ⟨rfl, e_r⟩ := hq
  subst e_r
  refine lv_iconst (v := 1) hx hb dX3_stepUp_7 (by decide) ?_
  refine lv_iadd hx hb dX3_stepUp_8 ?_
  refine zCv (post := fun u => u = va_pl L (va_up f b (zCel G s0 n (zPuI s0 gi i.toNatClampNeg ((zTold s0 gi gf i.toNatClampNeg) + 1)) (zPuF s0 gf i.toNatClampNeg (zEi ((zTold s0 gi gf i.toNatClampNeg) + 1)))))) (mc := 0) (ms := 0) (rest := []) (av := (Value.ref a :: [.int i, .int ((zTold s0 gi gf i.toNatClampNeg) + 1)]).toArray) w (by
      rcases hs with rfl | rfl | rfl
      · exact va_runU (As := [.int i, .int ((zTold 0 gi gf i.toNatClampNeg) + 1)]) (rest := []) ⟨hx, hb, hml, hown, hts⟩ (kX2_put l G h i ((zTold 0 gi gf i.toNatClampNeg) + 1) hi H.size) (va_cwA 2 hts gX3_stepUp_X2_put_u23X2 rfl rfl rfl hK.2.1.2.2 (by decide +kernel) ⟨(Nat.le_of_ble_eq_true rfl), (Nat.le_of_ble_eq_true rfl)⟩) (zPV w hK (px_recv (ci := 2) (fs := [.ref b]) (r := (RX2, TX2, 1)) hK w (h.1) (h.2.2.1) rfl)) rfl rfl hl.1 rfl (lv_room (Nat.le_of_ble_eq_true rfl)) dX3_stepUp_9 ⟨(Nat.le_of_ble_eq_true rfl), (Nat.le_of_ble_eq_true rfl)⟩
      · exact va_runU (As := [.int i, .int ((zTold 1 gi gf i.toNatClampNeg) + 1)]) (rest := []) ⟨hx, hb, hml, hown, hts⟩ (kX5_put l G h i ((zTold 1 gi gf i.toNatClampNeg) + 1) hi H.size) (va_cwA 2 hts gX3_stepUp_X5_put_u23X5 rfl rfl rfl hK.2.1.2.2 (by decide +kernel) ⟨(Nat.le_of_ble_eq_true rfl), (Nat.le_of_ble_eq_true rfl)⟩) (zPV w hK (px_recv (ci := 4) (fs := [.ref b]) (r := (RX5, TX5, 1)) hK w (h.1) (h.2.2.1) rfl)) rfl rfl hl.1 rfl (lv_room (Nat.le_of_ble_eq_true rfl)) dX3_stepUp_9 ⟨(Nat.le_of_ble_eq_true rfl), (Nat.le_of_ble_eq_true rfl)⟩
      · exact va_runU (As := [.int i, .int ((zTold 3 gi gf i.toNatClampNeg) + 1)]) (rest := []) ⟨hx, hb, hml, hown, hts⟩ (kX1_put l G h i ((zTold 3 gi gf i.toNatClampNeg) + 1) hi H.size) (va_cwA 2 hts gX3_stepUp_X1_put_u23X1 rfl rfl rfl hK.2.1.2.2 (by decide +kernel) ⟨(Nat.le_of_ble_eq_true rfl), (Nat.le_of_ble_eq_true rfl)⟩) (zPV w hK (px_recv (ci := 1) (fs := [.ref b]) (r := (RX1, TX1, 1)) hK w (h.1) (h.2.2.1) rfl)) rfl rfl hl.1 rfl (lv_room (Nat.le_of_ble_eq_true rfl)) dX3_stepUp_9 ⟨(Nat.le_of_ble_eq_true rfl), (Nat.le_of_ble_eq_true rfl)⟩) (fun u H locs hq w => ?_)
  subst hq
  exact zRv hx hb hr hlk w dX3_stepUp_12 (Nat.le_of_ble_eq_true rfl) (Nat.le_of_ble_eq_true rfl) (by rw [zSuI_of (zne2 hs), zSuF_of (zne2 hs), zPuF_of (zne2 hs), zPuI_of (zne2 hs)])
set_option maxHeartbeats 4000000 in
set_option maxRecDepth 100000 in
theorem kX3_level (l : Launch) (G : zG) {s0 : Nat} (hs : s0 = 0 ∨ s0 = 1 ∨ s0 = 3) {L : List Nat} {f : Nat → va_E} {a b n : Nat} {gi : Nat → Int32} {gf : Nat → UInt32} (h : zReel G L f s0 a b n gi gf) (i : Int32) (hi : vp_in i n) (sz : Nat) : zMf l yX3_level wsX3_level { frames := 1, cells := 0, slots := 0, locals := 21 } G [.ref a, .int i] (va_pl L f) sz (fun r u => u = va_pl L f ∧ r = zLev s0 gi gf i.toNatClampNeg) 0 0 := by
  refine zIn (Qc := fun A => va_Qf _ (zB G A) A) (cc := cX3_level) (maxL := 2) (ret := (some .float)) (by decide) rfl (Nat.le_of_ble_eq_true rfl) ?_
  intro p e s m below meth c A ls hx hb hr hlk hml hts hown hnm hK w hl
  have hown : s.vm.findClass RX3 = some m.cls := hown
  have hl : lv_has ls 2 [(0, .ref a), (1, .int i)] := hl
  refine lv_aload_n hx hb dX3_level_0 rfl (lv_at hl 0 rfl) ?_
  refine lv_iload_n hx hb dX3_level_1 rfl (lv_at hl 1 rfl) ?_
  refine zCi (post := fun r u => u = va_pl L f ∧ r = zTold s0 gi gf i.toNatClampNeg) (mc := 0) (ms := 0) (rest := []) (av := (Value.ref a :: [.int i]).toArray) w (by
      rcases hs with rfl | rfl | rfl
      · exact va_runU (As := [.int i]) (rest := []) ⟨hx, hb, hml, hown, hts⟩ (kX2_told l G h i hi s.heap.size) (va_cwA 1 hts gX3_level_X2_told_u15X2 rfl rfl rfl hK.2.1.2.1 (by decide +kernel) ⟨(Nat.le_of_ble_eq_true rfl), (Nat.le_of_ble_eq_true rfl)⟩) (zPV w hK (px_recv (ci := 2) (fs := [.ref b]) (r := (RX2, TX2, 1)) hK w (h.1) (h.2.2.1) rfl)) rfl rfl hl.1 rfl (lv_room (Nat.le_of_ble_eq_true rfl)) dX3_level_2 ⟨(Nat.le_of_ble_eq_true rfl), (Nat.le_of_ble_eq_true rfl)⟩
      · exact va_runU (As := [.int i]) (rest := []) ⟨hx, hb, hml, hown, hts⟩ (kX5_told l G h i hi s.heap.size) (va_cwA 1 hts gX3_level_X5_told_u15X5 rfl rfl rfl hK.2.1.2.1 (by decide +kernel) ⟨(Nat.le_of_ble_eq_true rfl), (Nat.le_of_ble_eq_true rfl)⟩) (zPV w hK (px_recv (ci := 4) (fs := [.ref b]) (r := (RX5, TX5, 1)) hK w (h.1) (h.2.2.1) rfl)) rfl rfl hl.1 rfl (lv_room (Nat.le_of_ble_eq_true rfl)) dX3_level_2 ⟨(Nat.le_of_ble_eq_true rfl), (Nat.le_of_ble_eq_true rfl)⟩
      · exact va_runU (As := [.int i]) (rest := []) ⟨hx, hb, hml, hown, hts⟩ (kX1_told l G h i hi s.heap.size) (va_cwA 1 hts gX3_level_X1_told_u15X1 rfl rfl rfl hK.2.1.2.1 (by decide +kernel) ⟨(Nat.le_of_ble_eq_true rfl), (Nat.le_of_ble_eq_true rfl)⟩) (zPV w hK (px_recv (ci := 1) (fs := [.ref b]) (r := (RX1, TX1, 1)) hK w (h.1) (h.2.2.1) rfl)) rfl rfl hl.1 rfl (lv_room (Nat.le_of_ble_eq_true rfl)) dX3_level_2 ⟨(Nat.le_of_ble_eq_true rfl), (Nat.le_of_ble_eq_true rfl)⟩) (fun r_1 u H locs hq w => ?_)
  obtain ⟨rfl, e_r⟩ := hq
  subst e_r
  refine lv_i2f hx hb dX3_level_5 ?_
  exact zRf hx hb hr hlk w dX3_level_6 (Nat.le_of_ble_eq_true rfl) (Nat.le_of_ble_eq_true rfl) ⟨rfl, (zLev_of (zne2 hs)).symm⟩
set_option maxHeartbeats 4000000 in
set_option maxRecDepth 100000 in
theorem kX3_putLevel (l : Launch) (G : zG) {s0 : Nat} (hs : s0 = 0 ∨ s0 = 1 ∨ s0 = 3) {L : List Nat} {f : Nat → va_E} {a b n : Nat} {gi : Nat → Int32} {gf : Nat → UInt32} (h : zReel G L f s0 a b n gi gf) (i : Int32) (v : UInt32) (hi : vp_in i n) (sz : Nat) : zMv l yX3_putLevel wsX3_putLevel { frames := 1, cells := 0, slots := 0, locals := 22 } G [.ref a, .int i, .float v] (va_pl L f) sz (fun u => u = va_pl L (va_up f b (zCel G s0 n (zPlI s0 gi i.toNatClampNeg v) (zPuF s0 gf i.toNatClampNeg v)))) 0 0 := by
  refine zIn (Qc := fun A => va_Qv _ (zB G A) A) (cc := cX3_putLevel) (maxL := 3) (ret := none) (by decide) rfl (Nat.le_of_ble_eq_true rfl) ?_
  intro p e s m below meth c A ls hx hb hr hlk hml hts hown hnm hK w hl
  have hown : s.vm.findClass RX3 = some m.cls := hown
  have hl : lv_has ls 3 [(0, .ref a), (1, .int i), (2, .float v)] := hl
  refine lv_aload_n hx hb dX3_putLevel_0 rfl (lv_at hl 0 rfl) ?_
  refine lv_iload_n hx hb dX3_putLevel_1 rfl (lv_at hl 1 rfl) ?_
  refine lv_fload_n hx hb dX3_putLevel_2 rfl (lv_at hl 2 rfl) ?_
  refine lv_f2i hx hb dX3_putLevel_3 ?_
  refine zCv (post := fun u => u = va_pl L (va_up f b (zCel G s0 n (zPuI s0 gi i.toNatClampNeg (FP.f2i v)) (zPuF s0 gf i.toNatClampNeg (zEi (FP.f2i v)))))) (mc := 0) (ms := 0) (rest := []) (av := (Value.ref a :: [.int i, .int (FP.f2i v)]).toArray) w (by
      rcases hs with rfl | rfl | rfl
      · exact va_runU (As := [.int i, .int (FP.f2i v)]) (rest := []) ⟨hx, hb, hml, hown, hts⟩ (kX2_put l G h i (FP.f2i v) hi s.heap.size) (va_cwA 2 hts gX3_putLevel_X2_put_u23X2 rfl rfl rfl hK.2.1.2.2 (by decide +kernel) ⟨(Nat.le_of_ble_eq_true rfl), (Nat.le_of_ble_eq_true rfl)⟩) (zPV w hK (px_recv (ci := 2) (fs := [.ref b]) (r := (RX2, TX2, 1)) hK w (h.1) (h.2.2.1) rfl)) rfl rfl hl.1 rfl (lv_room (Nat.le_of_ble_eq_true rfl)) dX3_putLevel_4 ⟨(Nat.le_of_ble_eq_true rfl), (Nat.le_of_ble_eq_true rfl)⟩
      · exact va_runU (As := [.int i, .int (FP.f2i v)]) (rest := []) ⟨hx, hb, hml, hown, hts⟩ (kX5_put l G h i (FP.f2i v) hi s.heap.size) (va_cwA 2 hts gX3_putLevel_X5_put_u23X5 rfl rfl rfl hK.2.1.2.2 (by decide +kernel) ⟨(Nat.le_of_ble_eq_true rfl), (Nat.le_of_ble_eq_true rfl)⟩) (zPV w hK (px_recv (ci := 4) (fs := [.ref b]) (r := (RX5, TX5, 1)) hK w (h.1) (h.2.2.1) rfl)) rfl rfl hl.1 rfl (lv_room (Nat.le_of_ble_eq_true rfl)) dX3_putLevel_4 ⟨(Nat.le_of_ble_eq_true rfl), (Nat.le_of_ble_eq_true rfl)⟩
      · exact va_runU (As := [.int i, .int (FP.f2i v)]) (rest := []) ⟨hx, hb, hml, hown, hts⟩ (kX1_put l G h i (FP.f2i v) hi s.heap.size) (va_cwA 2 hts gX3_putLevel_X1_put_u23X1 rfl rfl rfl hK.2.1.2.2 (by decide +kernel) ⟨(Nat.le_of_ble_eq_true rfl), (Nat.le_of_ble_eq_true rfl)⟩) (zPV w hK (px_recv (ci := 1) (fs := [.ref b]) (r := (RX1, TX1, 1)) hK w (h.1) (h.2.2.1) rfl)) rfl rfl hl.1 rfl (lv_room (Nat.le_of_ble_eq_true rfl)) dX3_putLevel_4 ⟨(Nat.le_of_ble_eq_true rfl), (Nat.le_of_ble_eq_true rfl)⟩) (fun u H locs hq w => ?_)
  subst hq
  exact zRv hx hb hr hlk w dX3_putLevel_7 (Nat.le_of_ble_eq_true rfl) (Nat.le_of_ble_eq_true rfl) (by rw [zPlI_of (zne2 hs), zPuF_of (zne2 hs), zPuF_of (zne2 hs), zPuI_of (zne2 hs)])
end
section
set_option maxHeartbeats 4000000 in
set_option maxRecDepth 100000 in
theorem kX6_isDeck (l : Launch) (G : zG) (ws : va_W) (x : Int32) (sz : Nat) : zMi l yX6_isDeck wsX6_isDeck { frames := 0, cells := 0, slots := 0, locals := 0 } G [.int x] (ws) sz (fun r u => u = ws ∧ r = if zFour x then 1 else 0) 0 0 := by
  refine zIn (Qc := fun A => va_Qi _ (zB G A) A) (cc := cX6_isDeck) (maxL := 1) (ret := (some .boolean)) (by decide) rfl (Nat.le_of_ble_eq_true rfl) ?_
  intro p e s m below meth c A ls hx hb hr hlk hml hts hown hnm hK w hl
  have hown : s.vm.findClass RX6 = some m.cls := hown
  have hl : lv_has ls 1 [(0, .int x)] := hl
  refine lv_iload_n hx hb dX6_isDeck_0 rfl (lv_at hl 0 rfl) ?_
  refine lv_if_lt (tgt := 13) hx hb dX6_isDeck_1 (by decide) (fun c_1 => ?_) (fun c_1 => ?_)
  · refine lv_iconst (v := 0) hx hb dX6_isDeck_13 (by decide) ?_
    exact zRz hx hb hr hlk rfl w dX6_isDeck_14 (Nat.le_of_ble_eq_true rfl) (Nat.le_of_ble_eq_true rfl) ⟨rfl, by simp [zFour, c_1]⟩
  · refine lv_iload_n hx hb dX6_isDeck_4 rfl (lv_at hl 0 rfl) ?_
    refine lv_iconst (v := 4) hx hb dX6_isDeck_5 (by decide) ?_
    refine lv_icmp_ge (tgt := 13) hx hb dX6_isDeck_6 (by decide) (fun c_2 => ?_) (fun c_2 => ?_)
    · refine lv_iconst (v := 0) hx hb dX6_isDeck_13 (by decide) ?_
      exact zRz hx hb hr hlk rfl w dX6_isDeck_14 (Nat.le_of_ble_eq_true rfl) (Nat.le_of_ble_eq_true rfl) ⟨rfl, by simp [zFour, c_1, c_2]⟩
    · refine lv_iconst (v := 1) hx hb dX6_isDeck_9 (by decide) ?_
      refine lv_goto (tgt := 14) hx hb dX6_isDeck_10 (by decide) ?_
      exact zRz hx hb hr hlk rfl w dX6_isDeck_14 (Nat.le_of_ble_eq_true rfl) (Nat.le_of_ble_eq_true rfl) ⟨rfl, by simp [zFour, c_1, c_2]⟩
set_option maxHeartbeats 4000000 in
set_option maxRecDepth 100000 in
theorem kX6_isSort (l : Launch) (G : zG) (ws : va_W) (x : Int32) (sz : Nat) : zMi l yX6_isSort wsX6_isSort { frames := 0, cells := 0, slots := 0, locals := 0 } G [.int x] (ws) sz (fun r u => u = ws ∧ r = if zFour x then 1 else 0) 0 0 := by
  refine zIn (Qc := fun A => va_Qi _ (zB G A) A) (cc := cX6_isSort) (maxL := 1) (ret := (some .boolean)) (by decide) rfl (Nat.le_of_ble_eq_true rfl) ?_
  intro p e s m below meth c A ls hx hb hr hlk hml hts hown hnm hK w hl
  have hown : s.vm.findClass RX6 = some m.cls := hown
  have hl : lv_has ls 1 [(0, .int x)] := hl
  refine lv_iload_n hx hb dX6_isSort_0 rfl (lv_at hl 0 rfl) ?_
  refine lv_if_lt (tgt := 13) hx hb dX6_isSort_1 (by decide) (fun c_1 => ?_) (fun c_1 => ?_)
  · refine lv_iconst (v := 0) hx hb dX6_isSort_13 (by decide) ?_
    exact zRz hx hb hr hlk rfl w dX6_isSort_14 (Nat.le_of_ble_eq_true rfl) (Nat.le_of_ble_eq_true rfl) ⟨rfl, by simp [zFour, c_1]⟩
  · refine lv_iload_n hx hb dX6_isSort_4 rfl (lv_at hl 0 rfl) ?_
    refine lv_iconst (v := 4) hx hb dX6_isSort_5 (by decide) ?_
    refine lv_icmp_ge (tgt := 13) hx hb dX6_isSort_6 (by decide) (fun c_2 => ?_) (fun c_2 => ?_)
    · refine lv_iconst (v := 0) hx hb dX6_isSort_13 (by decide) ?_
      exact zRz hx hb hr hlk rfl w dX6_isSort_14 (Nat.le_of_ble_eq_true rfl) (Nat.le_of_ble_eq_true rfl) ⟨rfl, by simp [zFour, c_1, c_2]⟩
    · refine lv_iconst (v := 1) hx hb dX6_isSort_9 (by decide) ?_
      refine lv_goto (tgt := 14) hx hb dX6_isSort_10 (by decide) ?_
      exact zRz hx hb hr hlk rfl w dX6_isSort_14 (Nat.le_of_ble_eq_true rfl) (Nat.le_of_ble_eq_true rfl) ⟨rfl, by simp [zFour, c_1, c_2]⟩
set_option maxHeartbeats 4000000 in
set_option maxRecDepth 100000 in
theorem kX6_knowsHow (l : Launch) (G : zG) (ws : va_W) (t how : Int32) (sz : Nat) : zMi l yX6_knowsHow wsX6_knowsHow { frames := 0, cells := 0, slots := 0, locals := 0 } G [.int t, .int how] (ws) sz (fun r u => u = ws ∧ r = if zKnow t how then 1 else 0) 0 0 := by
  refine zIn (Qc := fun A => va_Qi _ (zB G A) A) (cc := cX6_knowsHow) (maxL := 2) (ret := (some .boolean)) (by decide) rfl (Nat.le_of_ble_eq_true rfl) ?_
  intro p e s m below meth c A ls hx hb hr hlk hml hts hown hnm hK w hl
  have hown : s.vm.findClass RX6 = some m.cls := hown
  have hl : lv_has ls 2 [(0, .int t), (1, .int how)] := hl
  refine lv_iload_n hx hb dX6_knowsHow_0 rfl (lv_at hl 0 rfl) ?_
  refine lv_iconst (v := 2) hx hb dX6_knowsHow_1 (by decide) ?_
  refine lv_icmp_ne (tgt := 20) hx hb dX6_knowsHow_2 (by decide) (fun c_1 => ?_) (fun c_1 => ?_)
  · refine lv_iload_n hx hb dX6_knowsHow_20 rfl (lv_at hl 0 rfl) ?_
    refine lv_iconst (v := 3) hx hb dX6_knowsHow_21 (by decide) ?_
    refine lv_icmp_ne (tgt := 49) hx hb dX6_knowsHow_22 (by decide) (fun c_2 => ?_) (fun c_2 => ?_)
    · refine lv_iload_n hx hb dX6_knowsHow_49 rfl (lv_at hl 1 rfl) ?_
      refine lv_if_lt (tgt := 63) hx hb dX6_knowsHow_50 (by decide) (fun c_3 => ?_) (fun c_3 => ?_)
      · refine lv_iconst (v := 0) hx hb dX6_knowsHow_63 (by decide) ?_
        exact zRz hx hb hr hlk rfl w dX6_knowsHow_64 (Nat.le_of_ble_eq_true rfl) (Nat.le_of_ble_eq_true rfl) ⟨rfl, by simp [zKnow, c_1, c_2, c_3]⟩
      · refine lv_iload_n hx hb dX6_knowsHow_53 rfl (lv_at hl 1 rfl) ?_
        refine lv_bipush (v := 8) hx hb dX6_knowsHow_54 (by decide) ?_
        refine lv_icmp_gt (tgt := 63) hx hb dX6_knowsHow_56 (by decide) (fun c_4 => ?_) (fun c_4 => ?_)
        · refine lv_iconst (v := 0) hx hb dX6_knowsHow_63 (by decide) ?_
          exact zRz hx hb hr hlk rfl w dX6_knowsHow_64 (Nat.le_of_ble_eq_true rfl) (Nat.le_of_ble_eq_true rfl) ⟨rfl, by simp [zKnow, c_1, c_2, c_3, c_4]⟩
        · refine lv_iconst (v := 1) hx hb dX6_knowsHow_59 (by decide) ?_
          refine lv_goto (tgt := 64) hx hb dX6_knowsHow_60 (by decide) ?_
          exact zRz hx hb hr hlk rfl w dX6_knowsHow_64 (Nat.le_of_ble_eq_true rfl) (Nat.le_of_ble_eq_true rfl) ⟨rfl, by simp [zKnow, c_1, c_2, c_3, c_4]⟩
    · refine lv_iload_n hx hb dX6_knowsHow_25 rfl (lv_at hl 1 rfl) ?_
      refine lv_bipush (v := 6) hx hb dX6_knowsHow_26 (by decide) ?_
      refine lv_icmp_eq (tgt := 43) hx hb dX6_knowsHow_28 (by decide) (fun c_5 => ?_) (fun c_5 => ?_)
      · refine lv_iconst (v := 1) hx hb dX6_knowsHow_43 (by decide) ?_
        refine lv_goto (tgt := 48) hx hb dX6_knowsHow_44 (by decide) ?_
        exact zRz hx hb hr hlk rfl w dX6_knowsHow_48 (Nat.le_of_ble_eq_true rfl) (Nat.le_of_ble_eq_true rfl) ⟨rfl, by simp [zKnow, c_1, c_2, c_5]⟩
      · refine lv_iload_n hx hb dX6_knowsHow_31 rfl (lv_at hl 1 rfl) ?_
        refine lv_bipush (v := 7) hx hb dX6_knowsHow_32 (by decide) ?_
        refine lv_icmp_eq (tgt := 43) hx hb dX6_knowsHow_34 (by decide) (fun c_6 => ?_) (fun c_6 => ?_)
        · refine lv_iconst (v := 1) hx hb dX6_knowsHow_43 (by decide) ?_
          refine lv_goto (tgt := 48) hx hb dX6_knowsHow_44 (by decide) ?_
          exact zRz hx hb hr hlk rfl w dX6_knowsHow_48 (Nat.le_of_ble_eq_true rfl) (Nat.le_of_ble_eq_true rfl) ⟨rfl, by simp [zKnow, c_1, c_2, c_5, c_6]⟩
        · refine lv_iload_n hx hb dX6_knowsHow_37 rfl (lv_at hl 1 rfl) ?_
          refine lv_bipush (v := 8) hx hb dX6_knowsHow_38 (by decide) ?_
          refine lv_icmp_ne (tgt := 47) hx hb dX6_knowsHow_40 (by decide) (fun c_7 => ?_) (fun c_7 => ?_)
          · refine lv_iconst (v := 0) hx hb dX6_knowsHow_47 (by decide) ?_
            exact zRz hx hb hr hlk rfl w dX6_knowsHow_48 (Nat.le_of_ble_eq_true rfl) (Nat.le_of_ble_eq_true rfl) ⟨rfl, by simp [zKnow, c_1, c_2, c_5, c_6, c_7]⟩
          · refine lv_iconst (v := 1) hx hb dX6_knowsHow_43 (by decide) ?_
            refine lv_goto (tgt := 48) hx hb dX6_knowsHow_44 (by decide) ?_
            exact zRz hx hb hr hlk rfl w dX6_knowsHow_48 (Nat.le_of_ble_eq_true rfl) (Nat.le_of_ble_eq_true rfl) ⟨rfl, by simp [zKnow, c_1, c_2, c_5, c_6, c_7]⟩
  · refine lv_iload_n hx hb dX6_knowsHow_5 rfl (lv_at hl 1 rfl) ?_
    refine lv_if_eq (tgt := 14) hx hb dX6_knowsHow_6 (by decide) (fun c_8 => ?_) (fun c_8 => ?_)
    · refine lv_iconst (v := 1) hx hb dX6_knowsHow_14 (by decide) ?_
      refine lv_goto (tgt := 19) hx hb dX6_knowsHow_15 (by decide) ?_
      exact zRz hx hb hr hlk rfl w dX6_knowsHow_19 (Nat.le_of_ble_eq_true rfl) (Nat.le_of_ble_eq_true rfl) ⟨rfl, by simp [zKnow, c_1, c_8]⟩
    · refine lv_iload_n hx hb dX6_knowsHow_9 rfl (lv_at hl 1 rfl) ?_
      refine lv_iconst (v := 1) hx hb dX6_knowsHow_10 (by decide) ?_
      refine lv_icmp_ne (tgt := 18) hx hb dX6_knowsHow_11 (by decide) (fun c_9 => ?_) (fun c_9 => ?_)
      · refine lv_iconst (v := 0) hx hb dX6_knowsHow_18 (by decide) ?_
        exact zRz hx hb hr hlk rfl w dX6_knowsHow_19 (Nat.le_of_ble_eq_true rfl) (Nat.le_of_ble_eq_true rfl) ⟨rfl, by simp [zKnow, c_1, c_8, c_9]⟩
      · refine lv_iconst (v := 1) hx hb dX6_knowsHow_14 (by decide) ?_
        refine lv_goto (tgt := 19) hx hb dX6_knowsHow_15 (by decide) ?_
        exact zRz hx hb hr hlk rfl w dX6_knowsHow_19 (Nat.le_of_ble_eq_true rfl) (Nat.le_of_ble_eq_true rfl) ⟨rfl, by simp [zKnow, c_1, c_8, c_9]⟩
set_option maxHeartbeats 4000000 in
set_option maxRecDepth 100000 in
theorem kX6_goTogether (l : Launch) (G : zG) (ws : va_W) (t u0 : Int32) (sz : Nat) : zMi l yX6_goTogether wsX6_goTogether { frames := 0, cells := 0, slots := 0, locals := 0 } G [.int t, .int u0] (ws) sz (fun r u => u = ws ∧ r = if (t = 3 ↔ u0 = 3) then 1 else 0) 0 0 := by
  refine zIn (Qc := fun A => va_Qi _ (zB G A) A) (cc := cX6_goTogether) (maxL := 2) (ret := (some .boolean)) (by decide) rfl (Nat.le_of_ble_eq_true rfl) ?_
  intro p e s m below meth c A ls hx hb hr hlk hml hts hown hnm hK w hl
  have hown : s.vm.findClass RX6 = some m.cls := hown
  have hl : lv_has ls 2 [(0, .int t), (1, .int u0)] := hl
  refine lv_iload_n hx hb dX6_goTogether_0 rfl (lv_at hl 0 rfl) ?_
  refine lv_iconst (v := 3) hx hb dX6_goTogether_1 (by decide) ?_
  refine lv_icmp_ne (tgt := 9) hx hb dX6_goTogether_2 (by decide) (fun c_1 => ?_) (fun c_1 => ?_)
  · refine lv_iconst (v := 0) hx hb dX6_goTogether_9 (by decide) ?_
    refine lv_iload_n hx hb dX6_goTogether_10 rfl (lv_at hl 1 rfl) ?_
    refine lv_iconst (v := 3) hx hb dX6_goTogether_11 (by decide) ?_
    refine lv_icmp_ne (tgt := 19) hx hb dX6_goTogether_12 (by decide) (fun c_2 => ?_) (fun c_2 => ?_)
    · refine lv_iconst (v := 0) hx hb dX6_goTogether_19 (by decide) ?_
      refine lv_icmp_ne (tgt := 27) hx hb dX6_goTogether_20 (by decide) (fun c_3 => ?_) (fun c_3 => ?_)
      · refine lv_iconst (v := 0) hx hb dX6_goTogether_27 (by decide) ?_
        exact zRz hx hb hr hlk rfl w dX6_goTogether_28 (Nat.le_of_ble_eq_true rfl) (Nat.le_of_ble_eq_true rfl) ⟨rfl, by simp_all⟩
      · refine lv_iconst (v := 1) hx hb dX6_goTogether_23 (by decide) ?_
        refine lv_goto (tgt := 28) hx hb dX6_goTogether_24 (by decide) ?_
        exact zRz hx hb hr hlk rfl w dX6_goTogether_28 (Nat.le_of_ble_eq_true rfl) (Nat.le_of_ble_eq_true rfl) ⟨rfl, by simp_all⟩
    · refine lv_iconst (v := 1) hx hb dX6_goTogether_15 (by decide) ?_
      refine lv_goto (tgt := 20) hx hb dX6_goTogether_16 (by decide) ?_
      refine lv_icmp_ne (tgt := 27) hx hb dX6_goTogether_20 (by decide) (fun c_4 => ?_) (fun c_4 => ?_)
      · refine lv_iconst (v := 0) hx hb dX6_goTogether_27 (by decide) ?_
        exact zRz hx hb hr hlk rfl w dX6_goTogether_28 (Nat.le_of_ble_eq_true rfl) (Nat.le_of_ble_eq_true rfl) ⟨rfl, by simp_all⟩
      · refine lv_iconst (v := 1) hx hb dX6_goTogether_23 (by decide) ?_
        refine lv_goto (tgt := 28) hx hb dX6_goTogether_24 (by decide) ?_
        exact zRz hx hb hr hlk rfl w dX6_goTogether_28 (Nat.le_of_ble_eq_true rfl) (Nat.le_of_ble_eq_true rfl) ⟨rfl, by simp_all⟩
  · refine lv_iconst (v := 1) hx hb dX6_goTogether_5 (by decide) ?_
    refine lv_goto (tgt := 10) hx hb dX6_goTogether_6 (by decide) ?_
    refine lv_iload_n hx hb dX6_goTogether_10 rfl (lv_at hl 1 rfl) ?_
    refine lv_iconst (v := 3) hx hb dX6_goTogether_11 (by decide) ?_
    refine lv_icmp_ne (tgt := 19) hx hb dX6_goTogether_12 (by decide) (fun c_5 => ?_) (fun c_5 => ?_)
    · refine lv_iconst (v := 0) hx hb dX6_goTogether_19 (by decide) ?_
      refine lv_icmp_ne (tgt := 27) hx hb dX6_goTogether_20 (by decide) (fun c_6 => ?_) (fun c_6 => ?_)
      · refine lv_iconst (v := 0) hx hb dX6_goTogether_27 (by decide) ?_
        exact zRz hx hb hr hlk rfl w dX6_goTogether_28 (Nat.le_of_ble_eq_true rfl) (Nat.le_of_ble_eq_true rfl) ⟨rfl, by simp_all⟩
      · refine lv_iconst (v := 1) hx hb dX6_goTogether_23 (by decide) ?_
        refine lv_goto (tgt := 28) hx hb dX6_goTogether_24 (by decide) ?_
        exact zRz hx hb hr hlk rfl w dX6_goTogether_28 (Nat.le_of_ble_eq_true rfl) (Nat.le_of_ble_eq_true rfl) ⟨rfl, by simp_all⟩
    · refine lv_iconst (v := 1) hx hb dX6_goTogether_15 (by decide) ?_
      refine lv_goto (tgt := 20) hx hb dX6_goTogether_16 (by decide) ?_
      refine lv_icmp_ne (tgt := 27) hx hb dX6_goTogether_20 (by decide) (fun c_7 => ?_) (fun c_7 => ?_)
      · refine lv_iconst (v := 0) hx hb dX6_goTogether_27 (by decide) ?_
        exact zRz hx hb hr hlk rfl w dX6_goTogether_28 (Nat.le_of_ble_eq_true rfl) (Nat.le_of_ble_eq_true rfl) ⟨rfl, by simp_all⟩
      · refine lv_iconst (v := 1) hx hb dX6_goTogether_23 (by decide) ?_
        refine lv_goto (tgt := 28) hx hb dX6_goTogether_24 (by decide) ?_
        exact zRz hx hb hr hlk rfl w dX6_goTogether_28 (Nat.le_of_ble_eq_true rfl) (Nat.le_of_ble_eq_true rfl) ⟨rfl, by simp_all⟩
set_option maxHeartbeats 4000000 in
set_option maxRecDepth 100000 in
theorem kX6_howToBlend (l : Launch) (G : zG) (ws : va_W) (t less : Int32) (sz : Nat) : zMi l yX6_howToBlend wsX6_howToBlend { frames := 0, cells := 0, slots := 0, locals := 0 } G [.int t, .int less] (ws) sz (fun r u => u = ws ∧ r = if t = 3 then 6 else if less = 0 then 0 else 1) 0 0 := by
  refine zIn (Qc := fun A => va_Qi _ (zB G A) A) (cc := cX6_howToBlend) (maxL := 2) (ret := (some .int)) (by decide) rfl (Nat.le_of_ble_eq_true rfl) ?_
  intro p e s m below meth c A ls hx hb hr hlk hml hts hown hnm hK w hl
  have hown : s.vm.findClass RX6 = some m.cls := hown
  have hl : lv_has ls 2 [(0, .int t), (1, .int less)] := hl
  refine lv_iload_n hx hb dX6_howToBlend_0 rfl (lv_at hl 0 rfl) ?_
  refine lv_iconst (v := 3) hx hb dX6_howToBlend_1 (by decide) ?_
  refine lv_icmp_ne (tgt := 8) hx hb dX6_howToBlend_2 (by decide) (fun c_1 => ?_) (fun c_1 => ?_)
  · refine lv_iload_n hx hb dX6_howToBlend_8 rfl (lv_at hl 1 rfl) ?_
    refine lv_if_eq (tgt := 16) hx hb dX6_howToBlend_9 (by decide) (fun c_2 => ?_) (fun c_2 => ?_)
    · refine lv_iconst (v := 0) hx hb dX6_howToBlend_16 (by decide) ?_
      exact zRi hx hb hr hlk w dX6_howToBlend_17 (Nat.le_of_ble_eq_true rfl) (Nat.le_of_ble_eq_true rfl) ⟨rfl, by simp [c_1, c_2]⟩
    · refine lv_iconst (v := 1) hx hb dX6_howToBlend_12 (by decide) ?_
      refine lv_goto (tgt := 17) hx hb dX6_howToBlend_13 (by decide) ?_
      exact zRi hx hb hr hlk w dX6_howToBlend_17 (Nat.le_of_ble_eq_true rfl) (Nat.le_of_ble_eq_true rfl) ⟨rfl, by simp [c_1, c_2]⟩
  · refine lv_bipush (v := 6) hx hb dX6_howToBlend_5 (by decide) ?_
    exact zRi hx hb hr hlk w dX6_howToBlend_7 (Nat.le_of_ble_eq_true rfl) (Nat.le_of_ble_eq_true rfl) ⟨rfl, by simp [c_1]⟩
set_option maxHeartbeats 4000000 in
set_option maxRecDepth 100000 in
theorem kX6_oneIfThere (l : Launch) (G : zG) (ws : va_W) (q : Option Nat) (sz : Nat) : zMl l yX6_oneIfThere wsX6_oneIfThere { frames := 0, cells := 0, slots := 0, locals := 0 } G [va_rf q] (ws) sz (fun (r : Int64) u => u = ws ∧ r = if q = none then 0 else 1) 0 0 := by
  refine zIn (Qc := fun A => va_Ql _ (zB G A) A) (cc := cX6_oneIfThere) (maxL := 1) (ret := (some .long)) (by decide) rfl (by cases q <;> exact (Nat.le_of_ble_eq_true rfl)) ?_
  intro p e s m below meth c A ls hx hb hr hlk hml hts hown hnm hK w hl
  have hown : s.vm.findClass RX6 = some m.cls := hown
  have hl : lv_has ls 1 [(0, va_rf q)] := hl
  refine z_aloadQ_n hx hb dX6_oneIfThere_0 rfl (lv_at hl 0 rfl) ?_
  refine z_ifnonnullQ (tgt := 8) hx hb dX6_oneIfThere_1 (by decide) (fun c_1 => ?_) (fun c_1 => ?_)
  · refine lv_lconst (v := 1) hx hb dX6_oneIfThere_8 (by decide) ?_
    exact zRl hx hb hr hlk w dX6_oneIfThere_9 (Nat.le_of_ble_eq_true rfl) (Nat.le_of_ble_eq_true rfl) ⟨rfl, by simp [c_1]⟩
  · refine lv_lconst (v := 0) hx hb dX6_oneIfThere_4 (by decide) ?_
    refine lv_goto (tgt := 9) hx hb dX6_oneIfThere_5 (by decide) ?_
    exact zRl hx hb hr hlk w dX6_oneIfThere_9 (Nat.le_of_ble_eq_true rfl) (Nat.le_of_ble_eq_true rfl) ⟨rfl, by simp [c_1]⟩
set_option maxHeartbeats 4000000 in
set_option maxRecDepth 100000 in
theorem kX6_gridFault (l : Launch) (G : zG) (ws : va_W) (rows cols : Int32) (sz : Nat) : zMl l yX6_gridFault wsX6_gridFault { frames := 0, cells := 0, slots := 0, locals := 0 } G [.int rows, .int cols] (ws) sz (fun r u => u = ws ∧ r = zGF rows cols) 0 0 := by
  refine zIn (Qc := fun A => va_Ql _ (zB G A) A) (cc := cX6_gridFault) (maxL := 2) (ret := (some .long)) (by decide) rfl (Nat.le_of_ble_eq_true rfl) ?_
  intro p e s m below meth c A ls hx hb hr hlk hml hts hown hnm hK w hl
  have hown : s.vm.findClass RX6 = some m.cls := hown
  have hl : lv_has ls 2 [(0, .int rows), (1, .int cols)] := hl
  refine lv_iload_n hx hb dX6_gridFault_0 rfl (lv_at hl 0 rfl) ?_
  refine lv_bipush (v := 12) hx hb dX6_gridFault_1 (by decide) ?_
  refine lv_icmp_gt (tgt := 12) hx hb dX6_gridFault_3 (by decide) (fun c_1 => ?_) (fun c_1 => ?_)
  · refine lv_ldc2 hx hb hown (hts (.constantLong RX6 42 (5497558138880)) (by decide +kernel)) dX6_gridFault_12 ?_
    exact zRl hx hb hr hlk w dX6_gridFault_15 (Nat.le_of_ble_eq_true rfl) (Nat.le_of_ble_eq_true rfl) ⟨rfl, by simp [zGF, c_1]⟩
  · refine lv_iload_n hx hb dX6_gridFault_6 rfl (lv_at hl 1 rfl) ?_
    refine lv_bipush (v := 12) hx hb dX6_gridFault_7 (by decide) ?_
    refine lv_icmp_le (tgt := 16) hx hb dX6_gridFault_9 (by decide) (fun c_2 => ?_) (fun c_2 => ?_)
    · refine lv_iload_n hx hb dX6_gridFault_16 rfl (lv_at hl 0 rfl) ?_
      refine lv_if_lt (tgt := 24) hx hb dX6_gridFault_17 (by decide) (fun c_3 => ?_) (fun c_3 => ?_)
      · refine lv_ldc2 hx hb hown (hts (.constantLong RX6 44 (4398046511104)) (by decide +kernel)) dX6_gridFault_24 ?_
        refine lv_goto (tgt := 31) hx hb dX6_gridFault_27 (by decide) ?_
        exact zRl hx hb hr hlk w dX6_gridFault_31 (Nat.le_of_ble_eq_true rfl) (Nat.le_of_ble_eq_true rfl) ⟨rfl, by simp [zGF, c_1, c_2, c_3]⟩
      · refine lv_iload_n hx hb dX6_gridFault_20 rfl (lv_at hl 1 rfl) ?_
        refine lv_if_ge (tgt := 30) hx hb dX6_gridFault_21 (by decide) (fun c_4 => ?_) (fun c_4 => ?_)
        · refine lv_lconst (v := 0) hx hb dX6_gridFault_30 (by decide) ?_
          exact zRl hx hb hr hlk w dX6_gridFault_31 (Nat.le_of_ble_eq_true rfl) (Nat.le_of_ble_eq_true rfl) ⟨rfl, by simp [zGF, c_1, c_2, c_3, c_4]⟩
        · refine lv_ldc2 hx hb hown (hts (.constantLong RX6 44 (4398046511104)) (by decide +kernel)) dX6_gridFault_24 ?_
          refine lv_goto (tgt := 31) hx hb dX6_gridFault_27 (by decide) ?_
          exact zRl hx hb hr hlk w dX6_gridFault_31 (Nat.le_of_ble_eq_true rfl) (Nat.le_of_ble_eq_true rfl) ⟨rfl, by simp [zGF, c_1, c_2, c_3, c_4]⟩
    · refine lv_ldc2 hx hb hown (hts (.constantLong RX6 42 (5497558138880)) (by decide +kernel)) dX6_gridFault_12 ?_
      exact zRl hx hb hr hlk w dX6_gridFault_15 (Nat.le_of_ble_eq_true rfl) (Nat.le_of_ble_eq_true rfl) ⟨rfl, by simp [zGF, c_1, c_2]⟩
set_option maxHeartbeats 4000000 in
set_option maxRecDepth 100000 in
theorem kX6_refuse (l : Launch) (G : zG) {L : List Nat} {f : Nat → va_E} {o ac aw ar : Nat} {ch : Option Nat} {car wa : Nat → Option Nat} {ta : Nat → Int32} (h : zBn G L f o ac aw ar ch car wa ta) (why : Int64) (hw : zWhy why) (sz : Nat) : zMl l yX6_refuse wsX6_refuse { frames := 0, cells := 0, slots := 0, locals := 0 } G [.ref o, .long why] (va_pl L f) sz (fun r u => u = va_pl L (va_up f ar (.inl (G.2 4, 8, .inl (zTa ta why)))) ∧ r = why) 0 0 := by
  refine zIn (Qc := fun A => va_Ql _ (zB G A) A) (cc := cX6_refuse) (maxL := 3) (ret := (some .long)) (by decide) rfl (Nat.le_of_ble_eq_true rfl) ?_
  intro p e s m below meth c A ls hx hb hr hlk hml hts hown hnm hK w hl
  have hown : s.vm.findClass RX6 = some m.cls := hown
  have hl : lv_has ls 3 [(0, .ref o), (1, .long why)] := hl
  obtain ⟨⟨mo, mc, mw, mr⟩, fo, fc, fw, fr⟩ := id h
  refine lv_aload_n hx hb dX6_refuse_0 rfl (lv_at hl 0 rfl) ?_
  refine px_get (ci := 5) (C := RX6) (T := TX6) (N := 4) hx hb hts hown hK w mo (by decide +kernel) fo rfl 2 (by decide) (hts (.fieldLink RX6 21 "ReelBarn" "refusals" "[I") (by decide +kernel)) (fun _ h9 => h9) rfl dX6_refuse_1 ?_
  refine lv_lload_n hx hb dX6_refuse_4 rfl (lv_at hl 1 rfl) ?_
  refine lv_bipush (v := 40) hx hb dX6_refuse_5 (by decide) ?_
  refine lv_lshr hx hb dX6_refuse_7 rfl ?_
  refine lv_l2i hx hb dX6_refuse_8 rfl ?_
  refine lv_dup2_11 hx hb dX6_refuse_9 rfl rfl ?_
  refine px_iald hx hb hK w mr fr hw dX6_refuse_10 ?_
  refine lv_iconst (v := 1) hx hb dX6_refuse_11 (by decide) ?_
  refine lv_iadd hx hb dX6_refuse_12 ?_
  refine px_iast hx hb hK w mr fr hw dX6_refuse_13 (fun H locs w => ?_)
  refine lv_lload_n hx hb dX6_refuse_14 rfl (lv_at hl 1 rfl) ?_
  exact zRl hx hb hr hlk w dX6_refuse_15 (Nat.le_of_ble_eq_true rfl) (Nat.le_of_ble_eq_true rfl) ⟨rfl, rfl⟩
set_option maxHeartbeats 4000000 in
set_option maxRecDepth 100000 in
theorem kX6_reelOn (l : Launch) (G : zG) {L : List Nat} {f : Nat → va_E} {o ac aw ar : Nat} {ch : Option Nat} {car wa : Nat → Option Nat} {ta : Nat → Int32} (h : zBn G L f o ac aw ar ch car wa ta) (d t : Int32) (hd : zFour d) (ht : zFour t) (sz : Nat) : zMq l yX6_reelOn wsX6_reelOn { frames := 0, cells := 0, slots := 0, locals := 0 } G [.ref o, .int d, .int t] (va_pl L f) sz (fun r u => u = va_pl L f ∧ r = car (zix d t)) 0 0 := by
  refine zIn (Qc := fun A => va_Qq _ (zB G A) A) (cc := cX6_reelOn) (maxL := 3) (ret := (some (.object "ReelBarn$Reel"))) (by decide) rfl (Nat.le_of_ble_eq_true rfl) ?_
  intro p e s m below meth c A ls hx hb hr hlk hml hts hown hnm hK w hl
  have hown : s.vm.findClass RX6 = some m.cls := hown
  have hl : lv_has ls 3 [(0, .ref o), (1, .int d), (2, .int t)] := hl
  obtain ⟨⟨mo, mc, mw, mr⟩, fo, fc, fw, fr⟩ := id h
  refine lv_aload_n hx hb dX6_reelOn_0 rfl (lv_at hl 0 rfl) ?_
  refine px_get (ci := 5) (C := RX6) (T := TX6) (N := 4) hx hb hts hown hK w mo (by decide +kernel) fo rfl 0 (by decide) (hts (.fieldLink RX6 11 "ReelBarn" "carried" "[LReelBarn$Reel;") (by decide +kernel)) (fun _ h9 => h9) rfl dX6_reelOn_1 ?_
  refine lv_iload_n hx hb dX6_reelOn_4 rfl (lv_at hl 1 rfl) ?_
  refine lv_iconst (v := 4) hx hb dX6_reelOn_5 (by decide) ?_
  refine lv_imul hx hb dX6_reelOn_6 ?_
  refine lv_iload_n hx hb dX6_reelOn_7 rfl (lv_at hl 2 rfl) ?_
  refine lv_iadd hx hb dX6_reelOn_8 ?_
  refine px_aldR hx hb hK w mc fc (zix_in hd ht) dX6_reelOn_9 ?_
  exact zRq hx hb hr hlk w rfl dX6_reelOn_10 (Nat.le_of_ble_eq_true rfl) (Nat.le_of_ble_eq_true rfl) ⟨rfl, rfl⟩
set_option maxHeartbeats 4000000 in
set_option maxRecDepth 100000 in
theorem kX6_carry (l : Launch) (G : zG) {L : List Nat} {f : Nat → va_E} {o ac aw ar : Nat} {ch : Option Nat} {car wa : Nat → Option Nat} {ta : Nat → Int32} (h : zBn G L f o ac aw ar ch car wa ta) (d t : Int32) (q : Option Nat) (hd : zFour d) (ht : zFour t) (hq0 : ∀ v, q = some v → ∃ s, zRA G L f s v) (sz : Nat) : zMv l yX6_carry wsX6_carry { frames := 0, cells := 0, slots := 0, locals := 0 } G [.ref o, .int d, .int t, va_rf q] (va_pl L f) sz (fun u => u = va_pl L (va_up f ac (.inl (G.2 5, 16, zQ (va_up car (zix d t) q))))) 0 0 := by
  refine zIn (Qc := fun A => va_Qv _ (zB G A) A) (cc := cX6_carry) (maxL := 4) (ret := none) (by decide) rfl (by cases q <;> exact (Nat.le_of_ble_eq_true rfl)) ?_
  intro p e s m below meth c A ls hx hb hr hlk hml hts hown hnm hK w hl
  have hown : s.vm.findClass RX6 = some m.cls := hown
  have hl : lv_has ls 4 [(0, .ref o), (1, .int d), (2, .int t), (3, va_rf q)] := hl
  obtain ⟨⟨mo, mc, mw, mr⟩, fo, fc, fw, fr⟩ := id h
  refine lv_aload_n hx hb dX6_carry_0 rfl (lv_at hl 0 rfl) ?_
  refine px_get (ci := 5) (C := RX6) (T := TX6) (N := 4) hx hb hts hown hK w mo (by decide +kernel) fo rfl 0 (by decide) (hts (.fieldLink RX6 11 "ReelBarn" "carried" "[LReelBarn$Reel;") (by decide +kernel)) (fun _ h9 => h9) rfl dX6_carry_1 ?_
  refine lv_iload_n hx hb dX6_carry_4 rfl (lv_at hl 1 rfl) ?_
  refine lv_iconst (v := 4) hx hb dX6_carry_5 (by decide) ?_
  refine lv_imul hx hb dX6_carry_6 ?_
  refine lv_iload_n hx hb dX6_carry_7 rfl (lv_at hl 2 rfl) ?_
  refine lv_iadd hx hb dX6_carry_8 ?_
  refine z_aloadQ_n hx hb dX6_carry_9 rfl (lv_at hl 3 rfl) ?_
  refine px_astRQ hx hb hK w mc fc hq0 (zix_in hd ht) dX6_carry_10 (fun H locs w => ?_)
  exact zRv hx hb hr hlk w dX6_carry_11 (Nat.le_of_ble_eq_true rfl) (Nat.le_of_ble_eq_true rfl) rfl
set_option maxHeartbeats 4000000 in
set_option maxRecDepth 100000 in
theorem kX6_reelFault (l : Launch) (G : zG) {L : List Nat} {f : Nat → va_E} {o ac aw ar : Nat} {ch : Option Nat} {car wa : Nat → Option Nat} {ta : Nat → Int32} (h : zBn G L f o ac aw ar ch car wa ta) (d t : Int32) (sz : Nat) : zMl l yX6_reelFault wsX6_reelFault { frames := 1, cells := 0, slots := 0, locals := 22 } G [.ref o, .int d, .int t] (va_pl L f) sz (fun r u => u = va_pl L f ∧ r = zRF car d t) 0 0 := by
  refine zIn (Qc := fun A => va_Ql _ (zB G A) A) (cc := cX6_reelFault) (maxL := 3) (ret := (some .long)) (by decide) rfl (Nat.le_of_ble_eq_true rfl) ?_
  intro p e s m below meth c A ls hx hb hr hlk hml hts hown hnm hK w hl
  have hown : s.vm.findClass RX6 = some m.cls := hown
  have hl : lv_has ls 3 [(0, .ref o), (1, .int d), (2, .int t)] := hl
  obtain ⟨⟨mo, mc, mw, mr⟩, fo, fc, fw, fr⟩ := id h
  refine lv_iload_n hx hb dX6_reelFault_0 rfl (lv_at hl 1 rfl) ?_
  refine zCi w (va_runS (As := [.int d]) (rest := []) ⟨hx, hb, hml, hown, hts⟩ (kX6_isDeck l G _ d s.heap.size) (va_cwS 1 hts gX6_reelFault_X6_isDeck rfl rfl rfl (by decide +kernel) ⟨(Nat.le_of_ble_eq_true rfl), (Nat.le_of_ble_eq_true rfl)⟩) (zPS w hK) rfl rfl hl.1 rfl (lv_room (Nat.le_of_ble_eq_true rfl)) dX6_reelFault_1 ⟨(Nat.le_of_ble_eq_true rfl), (Nat.le_of_ble_eq_true rfl)⟩) (fun r_1 u H locs hq w => ?_)
  obtain ⟨rfl, e_r_1⟩ := hq
  refine lv_if_eq (tgt := 14) hx hb dX6_reelFault_4 (by decide) (fun c_2 => ?_) (fun c_2 => ?_)
  · have p_d := z00 inferInstance e_r_1 c_2
    refine lv_ldc2 hx hb hown (hts (.constantLong RX6 36 (1099511627776)) (by decide +kernel)) dX6_reelFault_14 ?_
    exact zRl hx hb hr hlk w dX6_reelFault_17 (Nat.le_of_ble_eq_true rfl) (Nat.le_of_ble_eq_true rfl) ⟨rfl, by simp [zRF, p_d]⟩
  · have p_d := z01 inferInstance e_r_1 c_2
    refine lv_iload_n hx hb dX6_reelFault_7 rfl (lv_at hl 2 rfl) ?_
    refine zCi w (va_runS (As := [.int t]) (rest := []) ⟨hx, hb, hml, hown, hts⟩ (kX6_isSort l G _ t H.size) (va_cwS 1 hts gX6_reelFault_X6_isSort rfl rfl rfl (by decide +kernel) ⟨(Nat.le_of_ble_eq_true rfl), (Nat.le_of_ble_eq_true rfl)⟩) (zPS w hK) rfl rfl hl.1 rfl (lv_room (Nat.le_of_ble_eq_true rfl)) dX6_reelFault_8 ⟨(Nat.le_of_ble_eq_true rfl), (Nat.le_of_ble_eq_true rfl)⟩) (fun r_3 u H locs hq w => ?_)
    obtain ⟨rfl, e_r_3⟩ := hq
    refine lv_if_ne (tgt := 18) hx hb dX6_reelFault_11 (by decide) (fun c_4 => ?_) (fun c_4 => ?_)
    · have p_t := z01 inferInstance e_r_3 c_4
      refine lv_aload_n hx hb dX6_reelFault_18 rfl (lv_at hl 0 rfl) ?_
      refine lv_iload_n hx hb dX6_reelFault_19 rfl (lv_at hl 1 rfl) ?_
      refine lv_iload_n hx hb dX6_reelFault_20 rfl (lv_at hl 2 rfl) ?_
      refine zCq w (va_runV (As := [.int d, .int t]) (rest := []) ⟨hx, hb, hml, hown, hts⟩ (kX6_reelOn l G h d t p_d p_t H.size) (cwV 2 hts gX6_reelFault_X6_reelOn rfl rfl rfl (by decide +kernel) ⟨(Nat.le_of_ble_eq_true rfl), (Nat.le_of_ble_eq_true rfl)⟩) (zPV w hK (px_recv (r := (RX6, TX6, 4)) hK w mo fo rfl)) rfl rfl hl.1 rfl (lv_room (Nat.le_of_ble_eq_true rfl)) dX6_reelFault_21 ⟨(Nat.le_of_ble_eq_true rfl), (Nat.le_of_ble_eq_true rfl)⟩) (fun r_5 u H locs hq w => ?_)
      obtain ⟨rfl, e_r⟩ := hq
      subst e_r
      refine z_ifnonnullQ (tgt := 33) hx hb dX6_reelFault_24 (by decide) (fun c_6 => ?_) (fun c_6 => ?_)
      · refine lv_lconst (v := 0) hx hb dX6_reelFault_33 (by decide) ?_
        exact zRl hx hb hr hlk w dX6_reelFault_34 (Nat.le_of_ble_eq_true rfl) (Nat.le_of_ble_eq_true rfl) ⟨rfl, by simp [zRF, p_d, p_t, c_6]⟩
      · refine lv_ldc2 hx hb hown (hts (.constantLong RX6 134 (2199023255552)) (by decide +kernel)) dX6_reelFault_27 ?_
        refine lv_goto (tgt := 34) hx hb dX6_reelFault_30 (by decide) ?_
        exact zRl hx hb hr hlk w dX6_reelFault_34 (Nat.le_of_ble_eq_true rfl) (Nat.le_of_ble_eq_true rfl) ⟨rfl, by simp [zRF, p_d, p_t, c_6]⟩
    · have p_t := z00 inferInstance e_r_3 c_4
      refine lv_ldc2 hx hb hown (hts (.constantLong RX6 36 (1099511627776)) (by decide +kernel)) dX6_reelFault_14 ?_
      exact zRl hx hb hr hlk w dX6_reelFault_17 (Nat.le_of_ble_eq_true rfl) (Nat.le_of_ble_eq_true rfl) ⟨rfl, by simp [zRF, p_d, p_t]⟩
set_option maxHeartbeats 4000000 in
set_option maxRecDepth 100000 in
theorem kX6_placeFault (l : Launch) (G : zG) {L : List Nat} {f : Nat → va_E} {o ac aw ar : Nat} {ch : Option Nat} {car wa : Nat → Option Nat} {ta : Nat → Int32} (h : zBn G L f o ac aw ar ch car wa ta) (hct : zCT G L f car) (d t i : Int32) (sz : Nat) : zMl l yX6_placeFault wsX6_placeFault { frames := 2, cells := 0, slots := 0, locals := 44 } G [.ref o, .int d, .int t, .int i] (va_pl L f) sz (fun r u => u = va_pl L f ∧ r = zPF f car d t i) 0 0 := by
  refine zIn (Qc := fun A => va_Ql _ (zB G A) A) (cc := cX6_placeFault) (maxL := 6) (ret := (some .long)) (by decide) rfl (Nat.le_of_ble_eq_true rfl) ?_
  intro p e s m below meth c A ls hx hb hr hlk hml hts hown hnm hK w hl
  have hown : s.vm.findClass RX6 = some m.cls := hown
  have hl : lv_has ls 6 [(0, .ref o), (1, .int d), (2, .int t), (3, .int i)] := hl
  obtain ⟨⟨mo, mc, mw, mr⟩, fo, fc, fw, fr⟩ := id h
  refine lv_aload_n hx hb dX6_placeFault_0 rfl (lv_at hl 0 rfl) ?_
  refine lv_iload_n hx hb dX6_placeFault_1 rfl (lv_at hl 1 rfl) ?_
  refine lv_iload_n hx hb dX6_placeFault_2 rfl (lv_at hl 2 rfl) ?_
  refine zCl w (va_runV (As := [.int d, .int t]) (rest := []) ⟨hx, hb, hml, hown, hts⟩ (kX6_reelFault l G h d t s.heap.size) (cwV 2 hts gX6_placeFault_X6_reelFault rfl rfl rfl (by decide +kernel) ⟨(Nat.le_of_ble_eq_true rfl), (Nat.le_of_ble_eq_true rfl)⟩) (zPV w hK (px_recv (r := (RX6, TX6, 4)) hK w mo fo rfl)) rfl rfl hl.1 rfl (lv_room (Nat.le_of_ble_eq_true rfl)) dX6_placeFault_3 ⟨(Nat.le_of_ble_eq_true rfl), (Nat.le_of_ble_eq_true rfl)⟩) (fun r_1 u H locs hq w => ?_)
  obtain ⟨rfl, e_r⟩ := hq
  subst e_r
  refine lv_lstore (lv' := [(4, .long (zRF car d t)), (0, .ref o), (1, .int d), (2, .int t), (3, .int i)]) hx hb dX6_placeFault_6 hl (by decide) rfl (fun ls hl => ?_)
  refine lv_lload hx hb dX6_placeFault_8 (lv_at hl 0 rfl) ?_
  refine lv_lconst (v := 0) hx hb dX6_placeFault_10 (by decide) ?_
  refine W.lcmp hx hb dX6_placeFault_11 ?_
  refine lv_if_eq (tgt := 18) hx hb dX6_placeFault_12 (by decide) (fun c_2 => ?_) (fun c_2 => ?_)
  · have p_f := zcmp0 c_2
    obtain ⟨hd, ht, hca⟩ := zRF_0 p_f
    have hA := zCT_at hct p_f
    obtain ⟨sN, hsN⟩ : ∃ sN, sN = zS t := ⟨_, rfl⟩
    rw [← hsN] at hA
    have hs : sN = 0 ∨ sN = 1 ∨ sN = 2 ∨ sN = 3 := by rw [hsN]; exact zS_or ht
    unfold zRA at hA
    refine lv_aload_n hx hb dX6_placeFault_18 rfl (lv_at hl 1 rfl) ?_
    refine lv_iload_n hx hb dX6_placeFault_19 rfl (lv_at hl 2 rfl) ?_
    refine lv_iload_n hx hb dX6_placeFault_20 rfl (lv_at hl 3 rfl) ?_
    refine zCq w (va_runV (As := [.int d, .int t]) (rest := []) ⟨hx, hb, hml, hown, hts⟩ (kX6_reelOn l G h d t hd ht H.size) (cwV 2 hts gX6_placeFault_X6_reelOn rfl rfl rfl (by decide +kernel) ⟨(Nat.le_of_ble_eq_true rfl), (Nat.le_of_ble_eq_true rfl)⟩) (zPV w hK (px_recv (r := (RX6, TX6, 4)) hK w mo fo rfl)) rfl rfl hl.1 rfl (lv_room (Nat.le_of_ble_eq_true rfl)) dX6_placeFault_21 ⟨(Nat.le_of_ble_eq_true rfl), (Nat.le_of_ble_eq_true rfl)⟩) (fun r_3 u H locs hq w => ?_)
    obtain ⟨rfl, e_r⟩ := hq
    subst e_r
    rw [hca]
    refine lv_iload_n hx hb dX6_placeFault_24 rfl (lv_at hl 4 rfl) ?_
    refine zCi (post := fun r u => u = va_pl L f ∧ r = if zHas (vN f (zA car d t)) i then 1 else 0) (mc := 0) (ms := 0) (rest := []) (av := (Value.ref (zA car d t) :: [.int i]).toArray) w (by
        rcases hs with rfl | rfl | rfl | rfl
        · exact va_runU (As := [.int i]) (rest := []) ⟨hx, hb, hml, hown, hts⟩ (kX3_has l G (by omega) hA i H.size) (va_cwU 1 hts gX6_placeFault_X3_has_u142X2 rfl rfl rfl rfl (by decide +kernel) ⟨(Nat.le_of_ble_eq_true rfl), (Nat.le_of_ble_eq_true rfl)⟩) (zPV w hK (px_recv (ci := 2) (fs := [.ref (vB f (zA car d t))]) (r := (RX2, TX2, 1)) hK w (hA.1) (hA.2.2.1) rfl)) rfl rfl hl.1 rfl (lv_room (Nat.le_of_ble_eq_true rfl)) dX6_placeFault_25 ⟨(Nat.le_of_ble_eq_true rfl), (Nat.le_of_ble_eq_true rfl)⟩
        · exact va_runU (As := [.int i]) (rest := []) ⟨hx, hb, hml, hown, hts⟩ (kX3_has l G (by omega) hA i H.size) (va_cwU 1 hts gX6_placeFault_X3_has_u142X5 rfl rfl rfl rfl (by decide +kernel) ⟨(Nat.le_of_ble_eq_true rfl), (Nat.le_of_ble_eq_true rfl)⟩) (zPV w hK (px_recv (ci := 4) (fs := [.ref (vB f (zA car d t))]) (r := (RX5, TX5, 1)) hK w (hA.1) (hA.2.2.1) rfl)) rfl rfl hl.1 rfl (lv_room (Nat.le_of_ble_eq_true rfl)) dX6_placeFault_25 ⟨(Nat.le_of_ble_eq_true rfl), (Nat.le_of_ble_eq_true rfl)⟩
        · exact va_runU (As := [.int i]) (rest := []) ⟨hx, hb, hml, hown, hts⟩ (kX3_has l G (by omega) hA i H.size) (va_cwU 1 hts gX6_placeFault_X3_has_u142X0 rfl rfl rfl rfl (by decide +kernel) ⟨(Nat.le_of_ble_eq_true rfl), (Nat.le_of_ble_eq_true rfl)⟩) (zPV w hK (px_recv (ci := 0) (fs := [.ref (vB f (zA car d t))]) (r := (RX0, TX0, 1)) hK w (hA.1) (hA.2.2.1) rfl)) rfl rfl hl.1 rfl (lv_room (Nat.le_of_ble_eq_true rfl)) dX6_placeFault_25 ⟨(Nat.le_of_ble_eq_true rfl), (Nat.le_of_ble_eq_true rfl)⟩
        · exact va_runU (As := [.int i]) (rest := []) ⟨hx, hb, hml, hown, hts⟩ (kX3_has l G (by omega) hA i H.size) (va_cwU 1 hts gX6_placeFault_X3_has_u142X1 rfl rfl rfl rfl (by decide +kernel) ⟨(Nat.le_of_ble_eq_true rfl), (Nat.le_of_ble_eq_true rfl)⟩) (zPV w hK (px_recv (ci := 1) (fs := [.ref (vB f (zA car d t))]) (r := (RX1, TX1, 1)) hK w (hA.1) (hA.2.2.1) rfl)) rfl rfl hl.1 rfl (lv_room (Nat.le_of_ble_eq_true rfl)) dX6_placeFault_25 ⟨(Nat.le_of_ble_eq_true rfl), (Nat.le_of_ble_eq_true rfl)⟩) (fun r_4 u H locs hq w => ?_)
    obtain ⟨rfl, e_r_4⟩ := hq
    refine lv_if_eq (tgt := 35) hx hb dX6_placeFault_28 (by decide) (fun c_5 => ?_) (fun c_5 => ?_)
    · have p_h := z00 inferInstance e_r_4 c_5
      refine lv_ldc2 hx hb hown (hts (.constantLong RX6 136 (3298534883328)) (by decide +kernel)) dX6_placeFault_35 ?_
      exact zRl hx hb hr hlk w dX6_placeFault_38 (Nat.le_of_ble_eq_true rfl) (Nat.le_of_ble_eq_true rfl) ⟨rfl, by simp [zPF, p_f, p_h]⟩
    · have p_h := z01 inferInstance e_r_4 c_5
      refine lv_lconst (v := 0) hx hb dX6_placeFault_31 (by decide) ?_
      refine lv_goto (tgt := 38) hx hb dX6_placeFault_32 (by decide) ?_
      exact zRl hx hb hr hlk w dX6_placeFault_38 (Nat.le_of_ble_eq_true rfl) (Nat.le_of_ble_eq_true rfl) ⟨rfl, by simp [zPF, p_f, p_h]⟩
  · have p_f := zcmp1 c_2
    refine lv_lload hx hb dX6_placeFault_15 (lv_at hl 0 rfl) ?_
    exact zRl hx hb hr hlk w dX6_placeFault_17 (Nat.le_of_ble_eq_true rfl) (Nat.le_of_ble_eq_true rfl) ⟨rfl, by simp [zPF, p_f]⟩
end
section
/-! ===== walls ===== -/
abbrev vQ (f : Nat → va_E) (a : Nat) : Nat → Option Nat := eQ (f (vB f a))
def zWA (G : zG) (L : List Nat) (f : Nat → va_E) (s a : Nat) : Prop :=
  a ∈ L ∧ vB f a ∈ L ∧ f a = .inr (3, [.ref (vB f a)]) ∧ f (vB f a) = .inl (G.2 5, vN f a, zQ (vQ f a)) ∧ vN f a ≤ 12 ∧ ∀ i, i < vN f a → ∀ x, vQ f a i = some x → zRA G L f s x
def zWT (G : zG) (L : List Nat) (f : Nat → va_E) (wa : Nat → Option Nat) : Prop := ∀ s, s < 4 → ∀ a, wa s = some a → zWA G L f s a
abbrev zWa (wa : Nat → Option Nat) (t : Int32) : Nat := (wa (zS t)).getD 0
def zWF (wa : Nat → Option Nat) (t : Int32) : Int64 := if zFour t then (if wa (zS t) = none then zVACANT else 0) else zNONE
def zRoF (f : Nat → va_E) (wa : Nat → Option Nat) (t y : Int32) : Int64 := if zWF wa t = 0 then (if zHas (vN f (zWa wa t)) y then 0 else zBEYOND) else zWF wa t
def zWR (f : Nat → va_E) (wa : Nat → Option Nat) (t y : Int32) : Int64 := if zRoF f wa t y = 0 then (if vQ f (zWa wa t) y.toNatClampNeg = none then zBARE else 0) else zRoF f wa t y
abbrev zWx (f : Nat → va_E) (wa : Nat → Option Nat) (t y : Int32) : Nat := (vQ f (zWa wa t) y.toNatClampNeg).getD 0
def zWP (f : Nat → va_E) (wa : Nat → Option Nat) (t y k : Int32) : Int64 := if zWR f wa t y = 0 then (if zHas (vN f (zWx f wa t y)) k then 0 else zBEYOND) else zWR f wa t y
section ZWF
variable {G : zG} {L : List Nat} {f : Nat → va_E} {wa : Nat → Option Nat} {t y k : Int32}
theorem zget0 {q : Option Nat} (h : ¬ q = none) : q = some (q.getD 0) := by
  cases q with
  | none => exact absurd rfl h
  | some a => rfl
theorem zWF_why (h : ¬ zWF wa t = 0) : zWhy (zWF wa t) := by
  unfold zWF at h ⊢
  split
  · split
    · exact zW2
    · rename_i h1 h2; rw [if_pos h1, if_neg h2] at h; exact absurd rfl h
  · exact zW1
theorem zWF_0 (h : zWF wa t = 0) : zFour t ∧ wa (zS t) = some (zWa wa t) := by
  unfold zWF at h
  by_cases h1 : zFour t
  · rw [if_pos h1] at h
    by_cases h2 : wa (zS t) = none
    · rw [if_pos h2] at h; exact absurd h (by decide)
    · exact ⟨h1, zget0 h2⟩
  · rw [if_neg h1] at h; exact absurd h (by decide)
theorem zRoF_why (h : ¬ zRoF f wa t y = 0) : zWhy (zRoF f wa t y) := by
  unfold zRoF at h ⊢
  by_cases h1 : zWF wa t = 0
  · rw [if_pos h1] at h ⊢
    split
    · rename_i h2; rw [if_pos h2] at h; exact absurd rfl h
    · exact zW3
  · rw [if_neg h1] at h ⊢
    exact zWF_why h1
theorem zRoF_0 (h : zRoF f wa t y = 0) : zWF wa t = 0 ∧ zHas (vN f (zWa wa t)) y := by
  unfold zRoF at h
  by_cases h1 : zWF wa t = 0
  · rw [if_pos h1] at h
    by_cases h2 : zHas (vN f (zWa wa t)) y
    · exact ⟨h1, h2⟩
    · rw [if_neg h2] at h; exact absurd h (by decide)
  · rw [if_neg h1] at h; exact absurd h h1
theorem zWR_why (h : ¬ zWR f wa t y = 0) : zWhy (zWR f wa t y) := by
  unfold zWR at h ⊢
  by_cases h1 : zRoF f wa t y = 0
  · rw [if_pos h1] at h ⊢
    split
    · exact zW7
    · rename_i h2; rw [if_neg h2] at h; exact absurd rfl h
  · rw [if_neg h1] at h ⊢
    exact zRoF_why h1
theorem zWR_0 (h : zWR f wa t y = 0) : zRoF f wa t y = 0 ∧ vQ f (zWa wa t) y.toNatClampNeg = some (zWx f wa t y) := by
  unfold zWR at h
  by_cases h1 : zRoF f wa t y = 0
  · rw [if_pos h1] at h
    by_cases h2 : vQ f (zWa wa t) y.toNatClampNeg = none
    · rw [if_pos h2] at h; exact absurd h (by decide)
    · exact ⟨h1, zget0 h2⟩
  · rw [if_neg h1] at h; exact absurd h h1
theorem zWP_why (h : ¬ zWP f wa t y k = 0) : zWhy (zWP f wa t y k) := by
  unfold zWP at h ⊢
  by_cases h1 : zWR f wa t y = 0
  · rw [if_pos h1] at h ⊢
    split
    · rename_i h2; rw [if_pos h2] at h; exact absurd rfl h
    · exact zW3
  · rw [if_neg h1] at h ⊢
    exact zWR_why h1
theorem zWP_0 (h : zWP f wa t y k = 0) : zWR f wa t y = 0 ∧ zHas (vN f (zWx f wa t y)) k := by
  unfold zWP at h
  by_cases h1 : zWR f wa t y = 0
  · rw [if_pos h1] at h
    by_cases h2 : zHas (vN f (zWx f wa t y)) k
    · exact ⟨h1, h2⟩
    · rw [if_neg h2] at h; exact absurd h (by decide)
  · rw [if_neg h1] at h; exact absurd h h1
theorem zWT_at (h : zWT G L f wa) (h0 : zWF wa t = 0) : zWA G L f (zS t) (zWa wa t) := by
  obtain ⟨h1, h2⟩ := zWF_0 h0
  exact h _ (zS_lt h1) _ h2
theorem zWT_x (h : zWT G L f wa) (h0 : zWR f wa t y = 0) : zRA G L f (zS t) (zWx f wa t y) := by
  obtain ⟨h1, h2⟩ := zWR_0 h0
  obtain ⟨h3, h4⟩ := zRoF_0 h1
  obtain ⟨-, -, -, -, h5, h6⟩ := zWT_at h h3
  refine h6 _ ?_ _ h2
  have := zHas_in h4 (by omega)
  exact Nat.not_le.mp fun q => this (Or.inr q)
theorem zin12 {n : Nat} {y : Int32} (h : zHas n y) (hn : n ≤ 12) : vp_in y n := zHas_in h (by omega)
theorem zin40 {n : Nat} {y : Int32} (h : zHas n y) (hn : n ≤ 40) : vp_in y n := zHas_in h (by omega)
end ZWF
/-- an act that is refused -/
def zRefP (G : zG) (L : List Nat) (f : Nat → va_E) (ar : Nat) (ta : Nat → Int32) (why : Int64) (r : Int64) (u : va_W) : Prop := u = va_pl L (va_up f ar (.inl (G.2 4, 8, .inl (zTa ta why)))) ∧ r = why
/-- a reel's places are what they were, but gi2, gf2 -/
abbrev zPutW (G : zG) (L : List Nat) (f : Nat → va_E) (s a : Nat) (gi2 : Nat → Int32) (gf2 : Nat → UInt32) : va_W := va_pl L (va_up f (vB f a) (zCel G s (vN f a) gi2 gf2))
abbrev zCarW (G : zG) (L : List Nat) (f : Nat → va_E) (ac : Nat) (car2 : Nat → Option Nat) : va_W := va_pl L (va_up f ac (.inl (G.2 5, 16, zQ car2)))
section ZLV
variable {G : zG} {L : List Nat} {f : Nat → va_E} {s a b n : Nat} {gi : Nat → Int32} {gf : Nat → UInt32}
theorem zLev_fin (h : zReel G L f s a b n gi gf) {i : Nat} (hi : i < n) : zFin (zLev s gi gf i) := by
  unfold zLev
  split
  · exact h.2.2.2.2.2 i hi
  · exact zfin_i2f _
theorem zin_lt {i : Int32} {n : Nat} (h : vp_in i n) : i.toNatClampNeg < n := Nat.not_le.mp fun q => h (Or.inr q)
theorem zPuF_fin (h : zReel G L f s a b n gi gf) {i : Nat} {v : UInt32} (hv : vf_n32 v) : ∀ j, j < n → zFin (zPuF s gf i v j) := by
  unfold zPuF
  split
  · exact zfin_up h.2.2.2.2.2 hv
  · exact h.2.2.2.2.2
theorem zChF_fin (h : zReel G L f s a b n gi gf) {i : Nat} (hi : i < n) {how x : Int32} : ∀ j, j < n → zFin (zChF s gf i how x j) := by
  unfold zChF
  split
  · refine zfin_up h.2.2.2.2.2 ?_
    split
    · exact zsub (h.2.2.2.2.2 i hi) (zEi_fin x)
    · exact zadd (h.2.2.2.2.2 i hi) (zEi_fin x)
  · exact h.2.2.2.2.2
theorem zSuF_fin (h : zReel G L f s a b n gi gf) {i : Nat} (hi : i < n) : ∀ j, j < n → zFin (zSuF s gf i j) := by
  unfold zSuF
  split
  · exact zfin_up h.2.2.2.2.2 (zadd (h.2.2.2.2.2 i hi) zfin1)
  · exact h.2.2.2.2.2
end ZLV
end
section
set_option maxHeartbeats 4000000 in
set_option maxRecDepth 100000 in
theorem kX6_wallFault (l : Launch) (G : zG) {L : List Nat} {f : Nat → va_E} {o ac aw ar : Nat} {ch : Option Nat} {car wa : Nat → Option Nat} {ta : Nat → Int32} (h : zBn G L f o ac aw ar ch car wa ta) (t : Int32) (sz : Nat) : zMl l yX6_wallFault wsX6_wallFault { frames := 1, cells := 0, slots := 0, locals := 20 } G [.ref o, .int t] (va_pl L f) sz (fun r u => u = va_pl L f ∧ r = zWF wa t) 0 0 := by
  refine zIn (Qc := fun A => va_Ql _ (zB G A) A) (cc := cX6_wallFault) (maxL := 2) (ret := (some .long)) (by decide) rfl (Nat.le_of_ble_eq_true rfl) ?_
  intro p e s m below meth c A ls hx hb hr hlk hml hts hown hnm hK w hl
  have hown : s.vm.findClass RX6 = some m.cls := hown
  have hl : lv_has ls 2 [(0, .ref o), (1, .int t)] := hl
  obtain ⟨⟨mo, mc, mw, mr⟩, fo, fc, fw, fr⟩ := id h
  refine lv_iload_n hx hb dX6_wallFault_0 rfl (lv_at hl 1 rfl) ?_
  refine zCi w (va_runS (As := [.int t]) (rest := []) ⟨hx, hb, hml, hown, hts⟩ (kX6_isSort l G _ t s.heap.size) (va_cwS 1 hts gX6_wallFault_X6_isSort rfl rfl rfl (by decide +kernel) ⟨(Nat.le_of_ble_eq_true rfl), (Nat.le_of_ble_eq_true rfl)⟩) (zPS w hK) rfl rfl hl.1 rfl (lv_room (Nat.le_of_ble_eq_true rfl)) dX6_wallFault_1 ⟨(Nat.le_of_ble_eq_true rfl), (Nat.le_of_ble_eq_true rfl)⟩) (fun r_1 u H locs hq w => ?_)
  obtain ⟨rfl, e_r_1⟩ := hq
  refine lv_if_ne (tgt := 11) hx hb dX6_wallFault_4 (by decide) (fun c_2 => ?_) (fun c_2 => ?_)
  · have p_t := z01 inferInstance e_r_1 c_2
    refine lv_aload_n hx hb dX6_wallFault_11 rfl (lv_at hl 0 rfl) ?_
    refine px_get (ci := 5) (C := RX6) (T := TX6) (N := 4) hx hb hts hown hK w mo (by decide +kernel) fo rfl 1 (by decide) (hts (.fieldLink RX6 17 "ReelBarn" "walls" "[LReelBarn$Wall;") (by decide +kernel)) (fun _ h9 => h9) rfl dX6_wallFault_12 ?_
    refine lv_iload_n hx hb dX6_wallFault_15 rfl (lv_at hl 1 rfl) ?_
    refine px_aldW hx hb hK w mw fw (zfour_in p_t) dX6_wallFault_16 ?_
    refine z_ifnonnullQ (tgt := 26) hx hb dX6_wallFault_17 (by decide) (fun c_3 => ?_) (fun c_3 => ?_)
    · refine lv_lconst (v := 0) hx hb dX6_wallFault_26 (by decide) ?_
      exact zRl hx hb hr hlk w dX6_wallFault_27 (Nat.le_of_ble_eq_true rfl) (Nat.le_of_ble_eq_true rfl) ⟨rfl, by simp [zWF, p_t, c_3]⟩
    · refine lv_ldc2 hx hb hown (hts (.constantLong RX6 134 (2199023255552)) (by decide +kernel)) dX6_wallFault_20 ?_
      refine lv_goto (tgt := 27) hx hb dX6_wallFault_23 (by decide) ?_
      exact zRl hx hb hr hlk w dX6_wallFault_27 (Nat.le_of_ble_eq_true rfl) (Nat.le_of_ble_eq_true rfl) ⟨rfl, by simp [zWF, p_t, c_3]⟩
  · have p_t := z00 inferInstance e_r_1 c_2
    refine lv_ldc2 hx hb hown (hts (.constantLong RX6 36 (1099511627776)) (by decide +kernel)) dX6_wallFault_7 ?_
    exact zRl hx hb hr hlk w dX6_wallFault_10 (Nat.le_of_ble_eq_true rfl) (Nat.le_of_ble_eq_true rfl) ⟨rfl, by simp [zWF, p_t]⟩
set_option maxHeartbeats 4000000 in
set_option maxRecDepth 100000 in
theorem kX6_rowFault (l : Launch) (G : zG) {L : List Nat} {f : Nat → va_E} {o ac aw ar : Nat} {ch : Option Nat} {car wa : Nat → Option Nat} {ta : Nat → Int32} (h : zBn G L f o ac aw ar ch car wa ta) (hwt : zWT G L f wa) (t y : Int32) (sz : Nat) : zMl l yX6_rowFault wsX6_rowFault { frames := 2, cells := 0, slots := 0, locals := 41 } G [.ref o, .int t, .int y] (va_pl L f) sz (fun r u => u = va_pl L f ∧ r = zRoF f wa t y) 0 0 := by
  refine zIn (Qc := fun A => va_Ql _ (zB G A) A) (cc := cX6_rowFault) (maxL := 5) (ret := (some .long)) (by decide) rfl (Nat.le_of_ble_eq_true rfl) ?_
  intro p e s m below meth c A ls hx hb hr hlk hml hts hown hnm hK w hl
  have hown : s.vm.findClass RX6 = some m.cls := hown
  have hl : lv_has ls 5 [(0, .ref o), (1, .int t), (2, .int y)] := hl
  obtain ⟨⟨mo, mc, mw, mr⟩, fo, fc, fw, fr⟩ := id h
  refine lv_aload_n hx hb dX6_rowFault_0 rfl (lv_at hl 0 rfl) ?_
  refine lv_iload_n hx hb dX6_rowFault_1 rfl (lv_at hl 1 rfl) ?_
  refine zCl w (va_runV (As := [.int t]) (rest := []) ⟨hx, hb, hml, hown, hts⟩ (kX6_wallFault l G h t s.heap.size) (cwV 1 hts gX6_rowFault_X6_wallFault rfl rfl rfl (by decide +kernel) ⟨(Nat.le_of_ble_eq_true rfl), (Nat.le_of_ble_eq_true rfl)⟩) (zPV w hK (px_recv (r := (RX6, TX6, 4)) hK w mo fo rfl)) rfl rfl hl.1 rfl (lv_room (Nat.le_of_ble_eq_true rfl)) dX6_rowFault_2 ⟨(Nat.le_of_ble_eq_true rfl), (Nat.le_of_ble_eq_true rfl)⟩) (fun r_1 u H locs hq w => ?_)
  obtain ⟨rfl, e_r⟩ := hq
  subst e_r
  refine lv_lstore_n (lv' := [(3, .long (zWF wa t)), (0, .ref o), (1, .int t), (2, .int y)]) hx hb dX6_rowFault_5 rfl hl (by decide) rfl (fun ls hl => ?_)
  refine lv_lload_n hx hb dX6_rowFault_6 rfl (lv_at hl 0 rfl) ?_
  refine lv_lconst (v := 0) hx hb dX6_rowFault_7 (by decide) ?_
  refine W.lcmp hx hb dX6_rowFault_8 ?_
  refine lv_if_eq (tgt := 14) hx hb dX6_rowFault_9 (by decide) (fun c_2 => ?_) (fun c_2 => ?_)
  · have p_f := zcmp0 c_2
    obtain ⟨ht, hwa⟩ := zWF_0 p_f
    have hW := zWT_at hwt p_f
    refine lv_iload_n hx hb dX6_rowFault_14 rfl (lv_at hl 3 rfl) ?_
    refine lv_if_lt (tgt := 36) hx hb dX6_rowFault_15 (by decide) (fun c_3 => ?_) (fun c_3 => ?_)
    · refine lv_ldc2 hx hb hown (hts (.constantLong RX6 136 (3298534883328)) (by decide +kernel)) dX6_rowFault_36 ?_
      exact zRl hx hb hr hlk w dX6_rowFault_39 (Nat.le_of_ble_eq_true rfl) (Nat.le_of_ble_eq_true rfl) ⟨rfl, by simp [zRoF, zHas, p_f, c_3]⟩
    · refine lv_iload_n hx hb dX6_rowFault_18 rfl (lv_at hl 3 rfl) ?_
      refine lv_aload_n hx hb dX6_rowFault_19 rfl (lv_at hl 1 rfl) ?_
      refine px_get (ci := 5) (C := RX6) (T := TX6) (N := 4) hx hb hts hown hK w mo (by decide +kernel) fo rfl 1 (by decide) (hts (.fieldLink RX6 17 "ReelBarn" "walls" "[LReelBarn$Wall;") (by decide +kernel)) (fun _ h9 => h9) rfl dX6_rowFault_20 ?_
      refine lv_iload_n hx hb dX6_rowFault_23 rfl (lv_at hl 2 rfl) ?_
      refine px_aldW hx hb hK w mw fw (zfour_in ht) dX6_rowFault_24 ?_
      rw [hwa]
      refine px_get (ci := 3) (C := RX4) (T := TX4) (N := 1) hx hb hts hown hK w hW.1 (by decide +kernel) hW.2.2.1 rfl 0 (by decide) (hts (.fieldLink RX6 120 "ReelBarn$Wall" "rows" "[LReelBarn$Reel;") (by decide +kernel)) (fun _ h9 => h9) rfl dX6_rowFault_25 ?_
      refine px_alen hx hb hK w hW.2.1 hW.2.2.2.1 5 rfl dX6_rowFault_28 ?_
      refine lv_icmp_ge (tgt := 36) hx hb dX6_rowFault_29 (by decide) (fun c_4 => ?_) (fun c_4 => ?_)
      · refine lv_ldc2 hx hb hown (hts (.constantLong RX6 136 (3298534883328)) (by decide +kernel)) dX6_rowFault_36 ?_
        exact zRl hx hb hr hlk w dX6_rowFault_39 (Nat.le_of_ble_eq_true rfl) (Nat.le_of_ble_eq_true rfl) ⟨rfl, by simp [zRoF, zHas, p_f, c_3, c_4]⟩
      · refine lv_lconst (v := 0) hx hb dX6_rowFault_32 (by decide) ?_
        refine lv_goto (tgt := 39) hx hb dX6_rowFault_33 (by decide) ?_
        exact zRl hx hb hr hlk w dX6_rowFault_39 (Nat.le_of_ble_eq_true rfl) (Nat.le_of_ble_eq_true rfl) ⟨rfl, by simp [zRoF, zHas, p_f, c_3, c_4]⟩
  · have p_f := zcmp1 c_2
    refine lv_lload_n hx hb dX6_rowFault_12 rfl (lv_at hl 0 rfl) ?_
    exact zRl hx hb hr hlk w dX6_rowFault_13 (Nat.le_of_ble_eq_true rfl) (Nat.le_of_ble_eq_true rfl) ⟨rfl, by simp [zRoF, zHas, p_f]⟩
set_option maxHeartbeats 4000000 in
set_option maxRecDepth 100000 in
theorem kX6_wallReelFault (l : Launch) (G : zG) {L : List Nat} {f : Nat → va_E} {o ac aw ar : Nat} {ch : Option Nat} {car wa : Nat → Option Nat} {ta : Nat → Int32} (h : zBn G L f o ac aw ar ch car wa ta) (hwt : zWT G L f wa) (t y : Int32) (sz : Nat) : zMl l yX6_wallReelFault wsX6_wallReelFault { frames := 3, cells := 0, slots := 0, locals := 65 } G [.ref o, .int t, .int y] (va_pl L f) sz (fun r u => u = va_pl L f ∧ r = zWR f wa t y) 0 0 := by
  refine zIn (Qc := fun A => va_Ql _ (zB G A) A) (cc := cX6_wallReelFault) (maxL := 5) (ret := (some .long)) (by decide) rfl (Nat.le_of_ble_eq_true rfl) ?_
  intro p e s m below meth c A ls hx hb hr hlk hml hts hown hnm hK w hl
  have hown : s.vm.findClass RX6 = some m.cls := hown
  have hl : lv_has ls 5 [(0, .ref o), (1, .int t), (2, .int y)] := hl
  obtain ⟨⟨mo, mc, mw, mr⟩, fo, fc, fw, fr⟩ := id h
  refine lv_aload_n hx hb dX6_wallReelFault_0 rfl (lv_at hl 0 rfl) ?_
  refine lv_iload_n hx hb dX6_wallReelFault_1 rfl (lv_at hl 1 rfl) ?_
  refine lv_iload_n hx hb dX6_wallReelFault_2 rfl (lv_at hl 2 rfl) ?_
  refine zCl w (va_runV (As := [.int t, .int y]) (rest := []) ⟨hx, hb, hml, hown, hts⟩ (kX6_rowFault l G h hwt t y s.heap.size) (cwV 2 hts gX6_wallReelFault_X6_rowFault rfl rfl rfl (by decide +kernel) ⟨(Nat.le_of_ble_eq_true rfl), (Nat.le_of_ble_eq_true rfl)⟩) (zPV w hK (px_recv (r := (RX6, TX6, 4)) hK w mo fo rfl)) rfl rfl hl.1 rfl (lv_room (Nat.le_of_ble_eq_true rfl)) dX6_wallReelFault_3 ⟨(Nat.le_of_ble_eq_true rfl), (Nat.le_of_ble_eq_true rfl)⟩) (fun r_1 u H locs hq w => ?_)
  obtain ⟨rfl, e_r⟩ := hq
  subst e_r
  refine lv_lstore_n (lv' := [(3, .long (zRoF f wa t y)), (0, .ref o), (1, .int t), (2, .int y)]) hx hb dX6_wallReelFault_6 rfl hl (by decide) rfl (fun ls hl => ?_)
  refine lv_lload_n hx hb dX6_wallReelFault_7 rfl (lv_at hl 0 rfl) ?_
  refine lv_lconst (v := 0) hx hb dX6_wallReelFault_8 (by decide) ?_
  refine W.lcmp hx hb dX6_wallReelFault_9 ?_
  refine lv_if_eq (tgt := 15) hx hb dX6_wallReelFault_10 (by decide) (fun c_2 => ?_) (fun c_2 => ?_)
  · have p_f := zcmp0 c_2
    obtain ⟨hf0, hy⟩ := zRoF_0 p_f
    obtain ⟨ht, hwa⟩ := zWF_0 hf0
    have hW := zWT_at hwt hf0
    have hyi := zin12 hy hW.2.2.2.2.1
    refine lv_aload_n hx hb dX6_wallReelFault_15 rfl (lv_at hl 1 rfl) ?_
    refine px_get (ci := 5) (C := RX6) (T := TX6) (N := 4) hx hb hts hown hK w mo (by decide +kernel) fo rfl 1 (by decide) (hts (.fieldLink RX6 17 "ReelBarn" "walls" "[LReelBarn$Wall;") (by decide +kernel)) (fun _ h9 => h9) rfl dX6_wallReelFault_16 ?_
    refine lv_iload_n hx hb dX6_wallReelFault_19 rfl (lv_at hl 2 rfl) ?_
    refine px_aldW hx hb hK w mw fw (zfour_in ht) dX6_wallReelFault_20 ?_
    rw [hwa]
    refine px_get (ci := 3) (C := RX4) (T := TX4) (N := 1) hx hb hts hown hK w hW.1 (by decide +kernel) hW.2.2.1 rfl 0 (by decide) (hts (.fieldLink RX6 120 "ReelBarn$Wall" "rows" "[LReelBarn$Reel;") (by decide +kernel)) (fun _ h9 => h9) rfl dX6_wallReelFault_21 ?_
    refine lv_iload_n hx hb dX6_wallReelFault_24 rfl (lv_at hl 3 rfl) ?_
    refine px_aldR hx hb hK w hW.2.1 hW.2.2.2.1 hyi dX6_wallReelFault_25 ?_
    refine z_ifnonnullQ (tgt := 35) hx hb dX6_wallReelFault_26 (by decide) (fun c_3 => ?_) (fun c_3 => ?_)
    · refine lv_lconst (v := 0) hx hb dX6_wallReelFault_35 (by decide) ?_
      exact zRl hx hb hr hlk w dX6_wallReelFault_36 (Nat.le_of_ble_eq_true rfl) (Nat.le_of_ble_eq_true rfl) ⟨rfl, by simp [zWR, p_f, c_3]⟩
    · refine lv_ldc2 hx hb hown (hts (.constantLong RX6 145 (7696581394432)) (by decide +kernel)) dX6_wallReelFault_29 ?_
      refine lv_goto (tgt := 36) hx hb dX6_wallReelFault_32 (by decide) ?_
      exact zRl hx hb hr hlk w dX6_wallReelFault_36 (Nat.le_of_ble_eq_true rfl) (Nat.le_of_ble_eq_true rfl) ⟨rfl, by simp [zWR, p_f, c_3]⟩
  · have p_f := zcmp1 c_2
    refine lv_lload_n hx hb dX6_wallReelFault_13 rfl (lv_at hl 0 rfl) ?_
    exact zRl hx hb hr hlk w dX6_wallReelFault_14 (Nat.le_of_ble_eq_true rfl) (Nat.le_of_ble_eq_true rfl) ⟨rfl, by simp [zWR, p_f]⟩
set_option maxHeartbeats 4000000 in
set_option maxRecDepth 100000 in
theorem kX6_wallPlaceFault (l : Launch) (G : zG) {L : List Nat} {f : Nat → va_E} {o ac aw ar : Nat} {ch : Option Nat} {car wa : Nat → Option Nat} {ta : Nat → Int32} (h : zBn G L f o ac aw ar ch car wa ta) (hwt : zWT G L f wa) (t y k : Int32) (sz : Nat) : zMl l yX6_wallPlaceFault wsX6_wallPlaceFault { frames := 4, cells := 0, slots := 0, locals := 89 } G [.ref o, .int t, .int y, .int k] (va_pl L f) sz (fun r u => u = va_pl L f ∧ r = zWP f wa t y k) 0 0 := by
  refine zIn (Qc := fun A => va_Ql _ (zB G A) A) (cc := cX6_wallPlaceFault) (maxL := 6) (ret := (some .long)) (by decide) rfl (Nat.le_of_ble_eq_true rfl) ?_
  intro p e s m below meth c A ls hx hb hr hlk hml hts hown hnm hK w hl
  have hown : s.vm.findClass RX6 = some m.cls := hown
  have hl : lv_has ls 6 [(0, .ref o), (1, .int t), (2, .int y), (3, .int k)] := hl
  obtain ⟨⟨mo, mc, mw, mr⟩, fo, fc, fw, fr⟩ := id h
  refine lv_aload_n hx hb dX6_wallPlaceFault_0 rfl (lv_at hl 0 rfl) ?_
  refine lv_iload_n hx hb dX6_wallPlaceFault_1 rfl (lv_at hl 1 rfl) ?_
  refine lv_iload_n hx hb dX6_wallPlaceFault_2 rfl (lv_at hl 2 rfl) ?_
  refine zCl w (va_runV (As := [.int t, .int y]) (rest := []) ⟨hx, hb, hml, hown, hts⟩ (kX6_wallReelFault l G h hwt t y s.heap.size) (cwV 2 hts gX6_wallPlaceFault_X6_wallReelFault rfl rfl rfl (by decide +kernel) ⟨(Nat.le_of_ble_eq_true rfl), (Nat.le_of_ble_eq_true rfl)⟩) (zPV w hK (px_recv (r := (RX6, TX6, 4)) hK w mo fo rfl)) rfl rfl hl.1 rfl (lv_room (Nat.le_of_ble_eq_true rfl)) dX6_wallPlaceFault_3 ⟨(Nat.le_of_ble_eq_true rfl), (Nat.le_of_ble_eq_true rfl)⟩) (fun r_1 u H locs hq w => ?_)
  obtain ⟨rfl, e_r⟩ := hq
  subst e_r
  refine lv_lstore (lv' := [(4, .long (zWR f wa t y)), (0, .ref o), (1, .int t), (2, .int y), (3, .int k)]) hx hb dX6_wallPlaceFault_6 hl (by decide) rfl (fun ls hl => ?_)
  refine lv_lload hx hb dX6_wallPlaceFault_8 (lv_at hl 0 rfl) ?_
  refine lv_lconst (v := 0) hx hb dX6_wallPlaceFault_10 (by decide) ?_
  refine W.lcmp hx hb dX6_wallPlaceFault_11 ?_
  refine lv_if_eq (tgt := 18) hx hb dX6_wallPlaceFault_12 (by decide) (fun c_2 => ?_) (fun c_2 => ?_)
  · have p_f := zcmp0 c_2
    obtain ⟨hf1, hxe⟩ := zWR_0 p_f
    have hA := zWT_x hwt p_f
    obtain ⟨hf0, hy⟩ := zRoF_0 hf1
    obtain ⟨ht, hwa⟩ := zWF_0 hf0
    have hW := zWT_at hwt hf0
    have hyi := zin12 hy hW.2.2.2.2.1
    obtain ⟨sN, hsN⟩ : ∃ sN, sN = zS t := ⟨_, rfl⟩
    rw [← hsN] at hA
    have hs : sN = 0 ∨ sN = 1 ∨ sN = 2 ∨ sN = 3 := by rw [hsN]; exact zS_or ht
    unfold zRA at hA
    refine lv_aload_n hx hb dX6_wallPlaceFault_18 rfl (lv_at hl 1 rfl) ?_
    refine px_get (ci := 5) (C := RX6) (T := TX6) (N := 4) hx hb hts hown hK w mo (by decide +kernel) fo rfl 1 (by decide) (hts (.fieldLink RX6 17 "ReelBarn" "walls" "[LReelBarn$Wall;") (by decide +kernel)) (fun _ h9 => h9) rfl dX6_wallPlaceFault_19 ?_
    refine lv_iload_n hx hb dX6_wallPlaceFault_22 rfl (lv_at hl 2 rfl) ?_
    refine px_aldW hx hb hK w mw fw (zfour_in ht) dX6_wallPlaceFault_23 ?_
    rw [hwa]
    refine px_get (ci := 3) (C := RX4) (T := TX4) (N := 1) hx hb hts hown hK w hW.1 (by decide +kernel) hW.2.2.1 rfl 0 (by decide) (hts (.fieldLink RX6 120 "ReelBarn$Wall" "rows" "[LReelBarn$Reel;") (by decide +kernel)) (fun _ h9 => h9) rfl dX6_wallPlaceFault_24 ?_
    refine lv_iload_n hx hb dX6_wallPlaceFault_27 rfl (lv_at hl 3 rfl) ?_
    refine px_aldR hx hb hK w hW.2.1 hW.2.2.2.1 hyi dX6_wallPlaceFault_28 ?_
    rw [hxe]
    refine lv_iload_n hx hb dX6_wallPlaceFault_29 rfl (lv_at hl 4 rfl) ?_
    refine zCi (post := fun r u => u = va_pl L f ∧ r = if zHas (vN f (zWx f wa t y)) k then 1 else 0) (mc := 0) (ms := 0) (rest := []) (av := (Value.ref (zWx f wa t y) :: [.int k]).toArray) w (by
        rcases hs with rfl | rfl | rfl | rfl
        · exact va_runU (As := [.int k]) (rest := []) ⟨hx, hb, hml, hown, hts⟩ (kX3_has l G (by omega) hA k H.size) (va_cwU 1 hts gX6_wallPlaceFault_X3_has_u142X2 rfl rfl rfl rfl (by decide +kernel) ⟨(Nat.le_of_ble_eq_true rfl), (Nat.le_of_ble_eq_true rfl)⟩) (zPV w hK (px_recv (ci := 2) (fs := [.ref (vB f (zWx f wa t y))]) (r := (RX2, TX2, 1)) hK w (hA.1) (hA.2.2.1) rfl)) rfl rfl hl.1 rfl (lv_room (Nat.le_of_ble_eq_true rfl)) dX6_wallPlaceFault_30 ⟨(Nat.le_of_ble_eq_true rfl), (Nat.le_of_ble_eq_true rfl)⟩
        · exact va_runU (As := [.int k]) (rest := []) ⟨hx, hb, hml, hown, hts⟩ (kX3_has l G (by omega) hA k H.size) (va_cwU 1 hts gX6_wallPlaceFault_X3_has_u142X5 rfl rfl rfl rfl (by decide +kernel) ⟨(Nat.le_of_ble_eq_true rfl), (Nat.le_of_ble_eq_true rfl)⟩) (zPV w hK (px_recv (ci := 4) (fs := [.ref (vB f (zWx f wa t y))]) (r := (RX5, TX5, 1)) hK w (hA.1) (hA.2.2.1) rfl)) rfl rfl hl.1 rfl (lv_room (Nat.le_of_ble_eq_true rfl)) dX6_wallPlaceFault_30 ⟨(Nat.le_of_ble_eq_true rfl), (Nat.le_of_ble_eq_true rfl)⟩
        · exact va_runU (As := [.int k]) (rest := []) ⟨hx, hb, hml, hown, hts⟩ (kX3_has l G (by omega) hA k H.size) (va_cwU 1 hts gX6_wallPlaceFault_X3_has_u142X0 rfl rfl rfl rfl (by decide +kernel) ⟨(Nat.le_of_ble_eq_true rfl), (Nat.le_of_ble_eq_true rfl)⟩) (zPV w hK (px_recv (ci := 0) (fs := [.ref (vB f (zWx f wa t y))]) (r := (RX0, TX0, 1)) hK w (hA.1) (hA.2.2.1) rfl)) rfl rfl hl.1 rfl (lv_room (Nat.le_of_ble_eq_true rfl)) dX6_wallPlaceFault_30 ⟨(Nat.le_of_ble_eq_true rfl), (Nat.le_of_ble_eq_true rfl)⟩
        · exact va_runU (As := [.int k]) (rest := []) ⟨hx, hb, hml, hown, hts⟩ (kX3_has l G (by omega) hA k H.size) (va_cwU 1 hts gX6_wallPlaceFault_X3_has_u142X1 rfl rfl rfl rfl (by decide +kernel) ⟨(Nat.le_of_ble_eq_true rfl), (Nat.le_of_ble_eq_true rfl)⟩) (zPV w hK (px_recv (ci := 1) (fs := [.ref (vB f (zWx f wa t y))]) (r := (RX1, TX1, 1)) hK w (hA.1) (hA.2.2.1) rfl)) rfl rfl hl.1 rfl (lv_room (Nat.le_of_ble_eq_true rfl)) dX6_wallPlaceFault_30 ⟨(Nat.le_of_ble_eq_true rfl), (Nat.le_of_ble_eq_true rfl)⟩) (fun r_3 u H locs hq w => ?_)
    obtain ⟨rfl, e_r_3⟩ := hq
    refine lv_if_eq (tgt := 40) hx hb dX6_wallPlaceFault_33 (by decide) (fun c_4 => ?_) (fun c_4 => ?_)
    · have p_h := z00 inferInstance e_r_3 c_4
      refine lv_ldc2 hx hb hown (hts (.constantLong RX6 136 (3298534883328)) (by decide +kernel)) dX6_wallPlaceFault_40 ?_
      exact zRl hx hb hr hlk w dX6_wallPlaceFault_43 (Nat.le_of_ble_eq_true rfl) (Nat.le_of_ble_eq_true rfl) ⟨rfl, by simp [zWP, p_f, p_h]⟩
    · have p_h := z01 inferInstance e_r_3 c_4
      refine lv_lconst (v := 0) hx hb dX6_wallPlaceFault_36 (by decide) ?_
      refine lv_goto (tgt := 43) hx hb dX6_wallPlaceFault_37 (by decide) ?_
      exact zRl hx hb hr hlk w dX6_wallPlaceFault_43 (Nat.le_of_ble_eq_true rfl) (Nat.le_of_ble_eq_true rfl) ⟨rfl, by simp [zWP, p_f, p_h]⟩
  · have p_f := zcmp1 c_2
    refine lv_lload hx hb dX6_wallPlaceFault_15 (lv_at hl 0 rfl) ?_
    exact zRl hx hb hr hlk w dX6_wallPlaceFault_17 (Nat.le_of_ble_eq_true rfl) (Nat.le_of_ble_eq_true rfl) ⟨rfl, by simp [zWP, p_f]⟩
set_option maxHeartbeats 4000000 in
set_option maxRecDepth 100000 in
theorem kX6_size (l : Launch) (G : zG) {L : List Nat} {f : Nat → va_E} {o ac aw ar : Nat} {ch : Option Nat} {car wa : Nat → Option Nat} {ta : Nat → Int32} (h : zBn G L f o ac aw ar ch car wa ta) (hct : zCT G L f car) (hwt : zWT G L f wa) (d t : Int32) (sz : Nat) : zMl l yX6_size wsX6_size { frames := 2, cells := 0, slots := 0, locals := 44 } G [.ref o, .int d, .int t] (va_pl L f) sz (fun r u => if zRF car d t = 0 then (u = va_pl L f ∧ r = (nI (vN f (zA car d t))).toInt64) else zRefP G L f ar ta (zRF car d t) r u) 0 0 := by
  refine zIn (Qc := fun A => va_Ql _ (zB G A) A) (cc := cX6_size) (maxL := 5) (ret := (some .long)) (by decide) rfl (Nat.le_of_ble_eq_true rfl) ?_
  intro p e s m below meth c A ls hx hb hr hlk hml hts hown hnm hK w hl
  have hown : s.vm.findClass RX6 = some m.cls := hown
  have hl : lv_has ls 5 [(0, .ref o), (1, .int d), (2, .int t)] := hl
  obtain ⟨⟨mo, mc, mw, mr⟩, fo, fc, fw, fr⟩ := id h
  refine lv_aload_n hx hb dX6_size_0 rfl (lv_at hl 0 rfl) ?_
  refine lv_iload_n hx hb dX6_size_1 rfl (lv_at hl 1 rfl) ?_
  refine lv_iload_n hx hb dX6_size_2 rfl (lv_at hl 2 rfl) ?_
  refine zCl w (va_runV (As := [.int d, .int t]) (rest := []) ⟨hx, hb, hml, hown, hts⟩ (kX6_reelFault l G h d t s.heap.size) (cwV 2 hts gX6_size_X6_reelFault rfl rfl rfl (by decide +kernel) ⟨(Nat.le_of_ble_eq_true rfl), (Nat.le_of_ble_eq_true rfl)⟩) (zPV w hK (px_recv (r := (RX6, TX6, 4)) hK w mo fo rfl)) rfl rfl hl.1 rfl (lv_room (Nat.le_of_ble_eq_true rfl)) dX6_size_3 ⟨(Nat.le_of_ble_eq_true rfl), (Nat.le_of_ble_eq_true rfl)⟩) (fun r_1 u H locs hq w => ?_)
  obtain ⟨rfl, e_r⟩ := hq
  subst e_r
  refine lv_lstore_n (lv' := [(3, .long (zRF car d t)), (0, .ref o), (1, .int d), (2, .int t)]) hx hb dX6_size_6 rfl hl (by decide) rfl (fun ls hl => ?_)
  refine lv_lload_n hx hb dX6_size_7 rfl (lv_at hl 0 rfl) ?_
  refine lv_lconst (v := 0) hx hb dX6_size_8 (by decide) ?_
  refine W.lcmp hx hb dX6_size_9 ?_
  refine lv_if_eq (tgt := 19) hx hb dX6_size_10 (by decide) (fun c_2 => ?_) (fun c_2 => ?_)
  · have p_f := zcmp0 c_2
    obtain ⟨hd, ht, hca⟩ := zRF_0 p_f
    have hA := zCT_at hct p_f
    obtain ⟨sN, hsN⟩ : ∃ sN, sN = zS t := ⟨_, rfl⟩
    rw [← hsN] at hA
    have hs : sN = 0 ∨ sN = 1 ∨ sN = 2 ∨ sN = 3 := by rw [hsN]; exact zS_or ht
    unfold zRA at hA
    refine lv_aload_n hx hb dX6_size_19 rfl (lv_at hl 1 rfl) ?_
    refine lv_iload_n hx hb dX6_size_20 rfl (lv_at hl 2 rfl) ?_
    refine lv_iload_n hx hb dX6_size_21 rfl (lv_at hl 3 rfl) ?_
    refine zCq w (va_runV (As := [.int d, .int t]) (rest := []) ⟨hx, hb, hml, hown, hts⟩ (kX6_reelOn l G h d t hd ht H.size) (cwV 2 hts gX6_size_X6_reelOn rfl rfl rfl (by decide +kernel) ⟨(Nat.le_of_ble_eq_true rfl), (Nat.le_of_ble_eq_true rfl)⟩) (zPV w hK (px_recv (r := (RX6, TX6, 4)) hK w mo fo rfl)) rfl rfl hl.1 rfl (lv_room (Nat.le_of_ble_eq_true rfl)) dX6_size_22 ⟨(Nat.le_of_ble_eq_true rfl), (Nat.le_of_ble_eq_true rfl)⟩) (fun r_3 u H locs hq w => ?_)
    obtain ⟨rfl, e_r⟩ := hq
    subst e_r
    rw [hca]
    refine zCi (post := fun r u => u = va_pl L f ∧ r = nI (vN f (zA car d t))) (mc := 0) (ms := 0) (rest := []) (av := (Value.ref (zA car d t) :: []).toArray) w (by
        rcases hs with rfl | rfl | rfl | rfl
        · exact va_runU (As := []) (rest := []) ⟨hx, hb, hml, hown, hts⟩ (kX2_places l G hA H.size) (va_cwA 0 hts gX6_size_X2_places_u61X2 rfl rfl rfl hK.2.1.1 (by decide +kernel) ⟨(Nat.le_of_ble_eq_true rfl), (Nat.le_of_ble_eq_true rfl)⟩) (zPV w hK (px_recv (ci := 2) (fs := [.ref (vB f (zA car d t))]) (r := (RX2, TX2, 1)) hK w (hA.1) (hA.2.2.1) rfl)) rfl rfl hl.1 rfl (lv_room (Nat.le_of_ble_eq_true rfl)) dX6_size_25 ⟨(Nat.le_of_ble_eq_true rfl), (Nat.le_of_ble_eq_true rfl)⟩
        · exact va_runU (As := []) (rest := []) ⟨hx, hb, hml, hown, hts⟩ (kX5_places l G hA H.size) (va_cwA 0 hts gX6_size_X5_places_u61X5 rfl rfl rfl hK.2.1.1 (by decide +kernel) ⟨(Nat.le_of_ble_eq_true rfl), (Nat.le_of_ble_eq_true rfl)⟩) (zPV w hK (px_recv (ci := 4) (fs := [.ref (vB f (zA car d t))]) (r := (RX5, TX5, 1)) hK w (hA.1) (hA.2.2.1) rfl)) rfl rfl hl.1 rfl (lv_room (Nat.le_of_ble_eq_true rfl)) dX6_size_25 ⟨(Nat.le_of_ble_eq_true rfl), (Nat.le_of_ble_eq_true rfl)⟩
        · exact va_runU (As := []) (rest := []) ⟨hx, hb, hml, hown, hts⟩ (kX0_places l G hA H.size) (va_cwA 0 hts gX6_size_X0_places_u61X0 rfl rfl rfl hK.2.1.1 (by decide +kernel) ⟨(Nat.le_of_ble_eq_true rfl), (Nat.le_of_ble_eq_true rfl)⟩) (zPV w hK (px_recv (ci := 0) (fs := [.ref (vB f (zA car d t))]) (r := (RX0, TX0, 1)) hK w (hA.1) (hA.2.2.1) rfl)) rfl rfl hl.1 rfl (lv_room (Nat.le_of_ble_eq_true rfl)) dX6_size_25 ⟨(Nat.le_of_ble_eq_true rfl), (Nat.le_of_ble_eq_true rfl)⟩
        · exact va_runU (As := []) (rest := []) ⟨hx, hb, hml, hown, hts⟩ (kX1_places l G hA H.size) (va_cwA 0 hts gX6_size_X1_places_u61X1 rfl rfl rfl hK.2.1.1 (by decide +kernel) ⟨(Nat.le_of_ble_eq_true rfl), (Nat.le_of_ble_eq_true rfl)⟩) (zPV w hK (px_recv (ci := 1) (fs := [.ref (vB f (zA car d t))]) (r := (RX1, TX1, 1)) hK w (hA.1) (hA.2.2.1) rfl)) rfl rfl hl.1 rfl (lv_room (Nat.le_of_ble_eq_true rfl)) dX6_size_25 ⟨(Nat.le_of_ble_eq_true rfl), (Nat.le_of_ble_eq_true rfl)⟩) (fun r_4 u H locs hq w => ?_)
    obtain ⟨rfl, e_r⟩ := hq
    subst e_r
    refine lv_i2l hx hb dX6_size_28 rfl ?_
    exact zRl hx hb hr hlk w dX6_size_29 (Nat.le_of_ble_eq_true rfl) (Nat.le_of_ble_eq_true rfl) (by show (if _ then _ else _); (first | rw [if_pos p_f] | rw [if_neg p_f]); (first | exact ⟨rfl, rfl⟩ | exact ⟨rfl, by rw [hsN]⟩))
  · have p_f := zcmp1 c_2
    refine lv_aload_n hx hb dX6_size_13 rfl (lv_at hl 1 rfl) ?_
    refine lv_lload_n hx hb dX6_size_14 rfl (lv_at hl 0 rfl) ?_
    refine zCl w (va_runV (As := [.long (zRF car d t)]) (rest := []) ⟨hx, hb, hml, hown, hts⟩ (kX6_refuse l G h (zRF car d t) (zRF_why p_f) H.size) (cwV 1 hts gX6_size_X6_refuse rfl rfl rfl (by decide +kernel) ⟨(Nat.le_of_ble_eq_true rfl), (Nat.le_of_ble_eq_true rfl)⟩) (zPV w hK (px_recv (r := (RX6, TX6, 4)) hK w mo fo rfl)) rfl rfl hl.1 rfl (lv_room (Nat.le_of_ble_eq_true rfl)) dX6_size_15 ⟨(Nat.le_of_ble_eq_true rfl), (Nat.le_of_ble_eq_true rfl)⟩) (fun r_5 u H locs hq w => ?_)
    obtain ⟨rfl, e_r⟩ := hq
    subst e_r
    exact zRl hx hb hr hlk w dX6_size_18 (Nat.le_of_ble_eq_true rfl) (Nat.le_of_ble_eq_true rfl) (by show (if _ then _ else _); (first | rw [if_pos p_f] | rw [if_neg p_f]); (first | exact ⟨rfl, rfl⟩ | exact ⟨rfl, by rw [hsN]⟩))
set_option maxHeartbeats 4000000 in
set_option maxRecDepth 100000 in
theorem kX6_eject (l : Launch) (G : zG) {L : List Nat} {f : Nat → va_E} {o ac aw ar : Nat} {ch : Option Nat} {car wa : Nat → Option Nat} {ta : Nat → Int32} (h : zBn G L f o ac aw ar ch car wa ta) (hct : zCT G L f car) (hwt : zWT G L f wa) (d t : Int32) (sz : Nat) : zMl l yX6_eject wsX6_eject { frames := 2, cells := 0, slots := 0, locals := 44 } G [.ref o, .int d, .int t] (va_pl L f) sz (fun r u => if zRF car d t = 0 then (u = zCarW G L f ac (va_up car (zix d t) none) ∧ r = (nI (vN f (zA car d t))).toInt64) else zRefP G L f ar ta (zRF car d t) r u) 0 0 := by
  refine zIn (Qc := fun A => va_Ql _ (zB G A) A) (cc := cX6_eject) (maxL := 6) (ret := (some .long)) (by decide) rfl (Nat.le_of_ble_eq_true rfl) ?_
  intro p e s m below meth c A ls hx hb hr hlk hml hts hown hnm hK w hl
  have hown : s.vm.findClass RX6 = some m.cls := hown
  have hl : lv_has ls 6 [(0, .ref o), (1, .int d), (2, .int t)] := hl
  obtain ⟨⟨mo, mc, mw, mr⟩, fo, fc, fw, fr⟩ := id h
  refine lv_aload_n hx hb dX6_eject_0 rfl (lv_at hl 0 rfl) ?_
  refine lv_iload_n hx hb dX6_eject_1 rfl (lv_at hl 1 rfl) ?_
  refine lv_iload_n hx hb dX6_eject_2 rfl (lv_at hl 2 rfl) ?_
  refine zCl w (va_runV (As := [.int d, .int t]) (rest := []) ⟨hx, hb, hml, hown, hts⟩ (kX6_reelFault l G h d t s.heap.size) (cwV 2 hts gX6_eject_X6_reelFault rfl rfl rfl (by decide +kernel) ⟨(Nat.le_of_ble_eq_true rfl), (Nat.le_of_ble_eq_true rfl)⟩) (zPV w hK (px_recv (r := (RX6, TX6, 4)) hK w mo fo rfl)) rfl rfl hl.1 rfl (lv_room (Nat.le_of_ble_eq_true rfl)) dX6_eject_3 ⟨(Nat.le_of_ble_eq_true rfl), (Nat.le_of_ble_eq_true rfl)⟩) (fun r_1 u H locs hq w => ?_)
  obtain ⟨rfl, e_r⟩ := hq
  subst e_r
  refine lv_lstore_n (lv' := [(3, .long (zRF car d t)), (0, .ref o), (1, .int d), (2, .int t)]) hx hb dX6_eject_6 rfl hl (by decide) rfl (fun ls hl => ?_)
  refine lv_lload_n hx hb dX6_eject_7 rfl (lv_at hl 0 rfl) ?_
  refine lv_lconst (v := 0) hx hb dX6_eject_8 (by decide) ?_
  refine W.lcmp hx hb dX6_eject_9 ?_
  refine lv_if_eq (tgt := 19) hx hb dX6_eject_10 (by decide) (fun c_2 => ?_) (fun c_2 => ?_)
  · have p_f := zcmp0 c_2
    obtain ⟨hd, ht, hca⟩ := zRF_0 p_f
    have hA := zCT_at hct p_f
    obtain ⟨sN, hsN⟩ : ∃ sN, sN = zS t := ⟨_, rfl⟩
    rw [← hsN] at hA
    have hs : sN = 0 ∨ sN = 1 ∨ sN = 2 ∨ sN = 3 := by rw [hsN]; exact zS_or ht
    unfold zRA at hA
    refine lv_aload_n hx hb dX6_eject_19 rfl (lv_at hl 1 rfl) ?_
    refine lv_iload_n hx hb dX6_eject_20 rfl (lv_at hl 2 rfl) ?_
    refine lv_iload_n hx hb dX6_eject_21 rfl (lv_at hl 3 rfl) ?_
    refine zCq w (va_runV (As := [.int d, .int t]) (rest := []) ⟨hx, hb, hml, hown, hts⟩ (kX6_reelOn l G h d t hd ht H.size) (cwV 2 hts gX6_eject_X6_reelOn rfl rfl rfl (by decide +kernel) ⟨(Nat.le_of_ble_eq_true rfl), (Nat.le_of_ble_eq_true rfl)⟩) (zPV w hK (px_recv (r := (RX6, TX6, 4)) hK w mo fo rfl)) rfl rfl hl.1 rfl (lv_room (Nat.le_of_ble_eq_true rfl)) dX6_eject_22 ⟨(Nat.le_of_ble_eq_true rfl), (Nat.le_of_ble_eq_true rfl)⟩) (fun r_3 u H locs hq w => ?_)
    obtain ⟨rfl, e_r⟩ := hq
    subst e_r
    rw [hca]
    refine zCi (post := fun r u => u = va_pl L f ∧ r = nI (vN f (zA car d t))) (mc := 0) (ms := 0) (rest := []) (av := (Value.ref (zA car d t) :: []).toArray) w (by
        rcases hs with rfl | rfl | rfl | rfl
        · exact va_runU (As := []) (rest := []) ⟨hx, hb, hml, hown, hts⟩ (kX2_places l G hA H.size) (va_cwA 0 hts gX6_eject_X2_places_u61X2 rfl rfl rfl hK.2.1.1 (by decide +kernel) ⟨(Nat.le_of_ble_eq_true rfl), (Nat.le_of_ble_eq_true rfl)⟩) (zPV w hK (px_recv (ci := 2) (fs := [.ref (vB f (zA car d t))]) (r := (RX2, TX2, 1)) hK w (hA.1) (hA.2.2.1) rfl)) rfl rfl hl.1 rfl (lv_room (Nat.le_of_ble_eq_true rfl)) dX6_eject_25 ⟨(Nat.le_of_ble_eq_true rfl), (Nat.le_of_ble_eq_true rfl)⟩
        · exact va_runU (As := []) (rest := []) ⟨hx, hb, hml, hown, hts⟩ (kX5_places l G hA H.size) (va_cwA 0 hts gX6_eject_X5_places_u61X5 rfl rfl rfl hK.2.1.1 (by decide +kernel) ⟨(Nat.le_of_ble_eq_true rfl), (Nat.le_of_ble_eq_true rfl)⟩) (zPV w hK (px_recv (ci := 4) (fs := [.ref (vB f (zA car d t))]) (r := (RX5, TX5, 1)) hK w (hA.1) (hA.2.2.1) rfl)) rfl rfl hl.1 rfl (lv_room (Nat.le_of_ble_eq_true rfl)) dX6_eject_25 ⟨(Nat.le_of_ble_eq_true rfl), (Nat.le_of_ble_eq_true rfl)⟩
        · exact va_runU (As := []) (rest := []) ⟨hx, hb, hml, hown, hts⟩ (kX0_places l G hA H.size) (va_cwA 0 hts gX6_eject_X0_places_u61X0 rfl rfl rfl hK.2.1.1 (by decide +kernel) ⟨(Nat.le_of_ble_eq_true rfl), (Nat.le_of_ble_eq_true rfl)⟩) (zPV w hK (px_recv (ci := 0) (fs := [.ref (vB f (zA car d t))]) (r := (RX0, TX0, 1)) hK w (hA.1) (hA.2.2.1) rfl)) rfl rfl hl.1 rfl (lv_room (Nat.le_of_ble_eq_true rfl)) dX6_eject_25 ⟨(Nat.le_of_ble_eq_true rfl), (Nat.le_of_ble_eq_true rfl)⟩
        · exact va_runU (As := []) (rest := []) ⟨hx, hb, hml, hown, hts⟩ (kX1_places l G hA H.size) (va_cwA 0 hts gX6_eject_X1_places_u61X1 rfl rfl rfl hK.2.1.1 (by decide +kernel) ⟨(Nat.le_of_ble_eq_true rfl), (Nat.le_of_ble_eq_true rfl)⟩) (zPV w hK (px_recv (ci := 1) (fs := [.ref (vB f (zA car d t))]) (r := (RX1, TX1, 1)) hK w (hA.1) (hA.2.2.1) rfl)) rfl rfl hl.1 rfl (lv_room (Nat.le_of_ble_eq_true rfl)) dX6_eject_25 ⟨(Nat.le_of_ble_eq_true rfl), (Nat.le_of_ble_eq_true rfl)⟩) (fun r_4 u H locs hq w => ?_)
    obtain ⟨rfl, e_r⟩ := hq
    subst e_r
    refine lv_istore (lv' := [(5, .int (nI (vN f (zA car d t)))), (3, .long (zRF car d t)), (0, .ref o), (1, .int d), (2, .int t)]) hx hb dX6_eject_28 hl (by decide) rfl (fun ls hl => ?_)
    refine lv_aload_n hx hb dX6_eject_30 rfl (lv_at hl 2 rfl) ?_
    refine lv_iload_n hx hb dX6_eject_31 rfl (lv_at hl 3 rfl) ?_
    refine lv_iload_n hx hb dX6_eject_32 rfl (lv_at hl 4 rfl) ?_
    refine lv_null hx hb dX6_eject_33 ?_
    refine zCv w (va_runV (As := [.int d, .int t, .null]) (rest := []) ⟨hx, hb, hml, hown, hts⟩ (kX6_carry l G h d t none hd ht (fun v q => by cases q) H.size) (cwV 3 hts gX6_eject_X6_carry rfl rfl rfl (by decide +kernel) ⟨(Nat.le_of_ble_eq_true rfl), (Nat.le_of_ble_eq_true rfl)⟩) (zPV w hK (px_recv (r := (RX6, TX6, 4)) hK w mo fo rfl)) rfl rfl hl.1 rfl (lv_room (Nat.le_of_ble_eq_true rfl)) dX6_eject_34 ⟨(Nat.le_of_ble_eq_true rfl), (Nat.le_of_ble_eq_true rfl)⟩) (fun u H locs hq w => ?_)
    subst hq
    refine lv_iload hx hb dX6_eject_37 (lv_at hl 0 rfl) ?_
    refine lv_i2l hx hb dX6_eject_39 rfl ?_
    exact zRl hx hb hr hlk w dX6_eject_40 (Nat.le_of_ble_eq_true rfl) (Nat.le_of_ble_eq_true rfl) (by show (if _ then _ else _); (first | rw [if_pos p_f] | rw [if_neg p_f]); (first | exact ⟨rfl, rfl⟩ | exact ⟨rfl, by rw [hsN]⟩))
  · have p_f := zcmp1 c_2
    refine lv_aload_n hx hb dX6_eject_13 rfl (lv_at hl 1 rfl) ?_
    refine lv_lload_n hx hb dX6_eject_14 rfl (lv_at hl 0 rfl) ?_
    refine zCl w (va_runV (As := [.long (zRF car d t)]) (rest := []) ⟨hx, hb, hml, hown, hts⟩ (kX6_refuse l G h (zRF car d t) (zRF_why p_f) H.size) (cwV 1 hts gX6_eject_X6_refuse rfl rfl rfl (by decide +kernel) ⟨(Nat.le_of_ble_eq_true rfl), (Nat.le_of_ble_eq_true rfl)⟩) (zPV w hK (px_recv (r := (RX6, TX6, 4)) hK w mo fo rfl)) rfl rfl hl.1 rfl (lv_room (Nat.le_of_ble_eq_true rfl)) dX6_eject_15 ⟨(Nat.le_of_ble_eq_true rfl), (Nat.le_of_ble_eq_true rfl)⟩) (fun r_5 u H locs hq w => ?_)
    obtain ⟨rfl, e_r⟩ := hq
    subst e_r
    exact zRl hx hb hr hlk w dX6_eject_18 (Nat.le_of_ble_eq_true rfl) (Nat.le_of_ble_eq_true rfl) (by show (if _ then _ else _); (first | rw [if_pos p_f] | rw [if_neg p_f]); (first | exact ⟨rfl, rfl⟩ | exact ⟨rfl, by rw [hsN]⟩))
set_option maxHeartbeats 4000000 in
set_option maxRecDepth 100000 in
theorem kX6_read (l : Launch) (G : zG) {L : List Nat} {f : Nat → va_E} {o ac aw ar : Nat} {ch : Option Nat} {car wa : Nat → Option Nat} {ta : Nat → Int32} (h : zBn G L f o ac aw ar ch car wa ta) (hct : zCT G L f car) (hwt : zWT G L f wa) (d t i : Int32) (sz : Nat) : zMl l yX6_read wsX6_read { frames := 3, cells := 0, slots := 0, locals := 69 } G [.ref o, .int d, .int t, .int i] (va_pl L f) sz (fun r u => if zPF f car d t i = 0 then (u = va_pl L f ∧ r = (zTold (zS t) (vI f (zA car d t)) (vF f (zA car d t)) i.toNatClampNeg).toInt64) else zRefP G L f ar ta (zPF f car d t i) r u) 0 0 := by
  refine zIn (Qc := fun A => va_Ql _ (zB G A) A) (cc := cX6_read) (maxL := 6) (ret := (some .long)) (by decide) rfl (Nat.le_of_ble_eq_true rfl) ?_
  intro p e s m below meth c A ls hx hb hr hlk hml hts hown hnm hK w hl
  have hown : s.vm.findClass RX6 = some m.cls := hown
  have hl : lv_has ls 6 [(0, .ref o), (1, .int d), (2, .int t), (3, .int i)] := hl
  obtain ⟨⟨mo, mc, mw, mr⟩, fo, fc, fw, fr⟩ := id h
  refine lv_aload_n hx hb dX6_read_0 rfl (lv_at hl 0 rfl) ?_
  refine lv_iload_n hx hb dX6_read_1 rfl (lv_at hl 1 rfl) ?_
  refine lv_iload_n hx hb dX6_read_2 rfl (lv_at hl 2 rfl) ?_
  refine lv_iload_n hx hb dX6_read_3 rfl (lv_at hl 3 rfl) ?_
  refine zCl w (va_runV (As := [.int d, .int t, .int i]) (rest := []) ⟨hx, hb, hml, hown, hts⟩ (kX6_placeFault l G h hct d t i s.heap.size) (cwV 3 hts gX6_read_X6_placeFault rfl rfl rfl (by decide +kernel) ⟨(Nat.le_of_ble_eq_true rfl), (Nat.le_of_ble_eq_true rfl)⟩) (zPV w hK (px_recv (r := (RX6, TX6, 4)) hK w mo fo rfl)) rfl rfl hl.1 rfl (lv_room (Nat.le_of_ble_eq_true rfl)) dX6_read_4 ⟨(Nat.le_of_ble_eq_true rfl), (Nat.le_of_ble_eq_true rfl)⟩) (fun r_1 u H locs hq w => ?_)
  obtain ⟨rfl, e_r⟩ := hq
  subst e_r
  refine lv_lstore (lv' := [(4, .long (zPF f car d t i)), (0, .ref o), (1, .int d), (2, .int t), (3, .int i)]) hx hb dX6_read_7 hl (by decide) rfl (fun ls hl => ?_)
  refine lv_lload hx hb dX6_read_9 (lv_at hl 0 rfl) ?_
  refine lv_lconst (v := 0) hx hb dX6_read_11 (by decide) ?_
  refine W.lcmp hx hb dX6_read_12 ?_
  refine lv_if_eq (tgt := 23) hx hb dX6_read_13 (by decide) (fun c_2 => ?_) (fun c_2 => ?_)
  · have p_f := zcmp0 c_2
    obtain ⟨p_0, hh⟩ := zPF_0 p_f
    obtain ⟨hd, ht, hca⟩ := zRF_0 p_0
    have hA := zCT_at hct p_0
    obtain ⟨sN, hsN⟩ : ∃ sN, sN = zS t := ⟨_, rfl⟩
    rw [← hsN] at hA
    have hs : sN = 0 ∨ sN = 1 ∨ sN = 2 ∨ sN = 3 := by rw [hsN]; exact zS_or ht
    unfold zRA at hA
    have hi := zin40 hh hA.2.2.2.2.1
    refine lv_aload_n hx hb dX6_read_23 rfl (lv_at hl 1 rfl) ?_
    refine lv_iload_n hx hb dX6_read_24 rfl (lv_at hl 2 rfl) ?_
    refine lv_iload_n hx hb dX6_read_25 rfl (lv_at hl 3 rfl) ?_
    refine zCq w (va_runV (As := [.int d, .int t]) (rest := []) ⟨hx, hb, hml, hown, hts⟩ (kX6_reelOn l G h d t hd ht H.size) (cwV 2 hts gX6_read_X6_reelOn rfl rfl rfl (by decide +kernel) ⟨(Nat.le_of_ble_eq_true rfl), (Nat.le_of_ble_eq_true rfl)⟩) (zPV w hK (px_recv (r := (RX6, TX6, 4)) hK w mo fo rfl)) rfl rfl hl.1 rfl (lv_room (Nat.le_of_ble_eq_true rfl)) dX6_read_26 ⟨(Nat.le_of_ble_eq_true rfl), (Nat.le_of_ble_eq_true rfl)⟩) (fun r_3 u H locs hq w => ?_)
    obtain ⟨rfl, e_r⟩ := hq
    subst e_r
    rw [hca]
    refine lv_iload_n hx hb dX6_read_29 rfl (lv_at hl 4 rfl) ?_
    refine zCi (post := fun r u => u = va_pl L f ∧ r = zTold sN (vI f (zA car d t)) (vF f (zA car d t)) i.toNatClampNeg) (mc := 0) (ms := 0) (rest := []) (av := (Value.ref (zA car d t) :: [.int i]).toArray) w (by
        rcases hs with rfl | rfl | rfl | rfl
        · exact va_runU (As := [.int i]) (rest := []) ⟨hx, hb, hml, hown, hts⟩ (kX2_told l G hA i hi H.size) (va_cwA 1 hts gX6_read_X2_told_u73X2 rfl rfl rfl hK.2.1.2.1 (by decide +kernel) ⟨(Nat.le_of_ble_eq_true rfl), (Nat.le_of_ble_eq_true rfl)⟩) (zPV w hK (px_recv (ci := 2) (fs := [.ref (vB f (zA car d t))]) (r := (RX2, TX2, 1)) hK w (hA.1) (hA.2.2.1) rfl)) rfl rfl hl.1 rfl (lv_room (Nat.le_of_ble_eq_true rfl)) dX6_read_30 ⟨(Nat.le_of_ble_eq_true rfl), (Nat.le_of_ble_eq_true rfl)⟩
        · exact va_runU (As := [.int i]) (rest := []) ⟨hx, hb, hml, hown, hts⟩ (kX5_told l G hA i hi H.size) (va_cwA 1 hts gX6_read_X5_told_u73X5 rfl rfl rfl hK.2.1.2.1 (by decide +kernel) ⟨(Nat.le_of_ble_eq_true rfl), (Nat.le_of_ble_eq_true rfl)⟩) (zPV w hK (px_recv (ci := 4) (fs := [.ref (vB f (zA car d t))]) (r := (RX5, TX5, 1)) hK w (hA.1) (hA.2.2.1) rfl)) rfl rfl hl.1 rfl (lv_room (Nat.le_of_ble_eq_true rfl)) dX6_read_30 ⟨(Nat.le_of_ble_eq_true rfl), (Nat.le_of_ble_eq_true rfl)⟩
        · exact va_runU (As := [.int i]) (rest := []) ⟨hx, hb, hml, hown, hts⟩ (kX0_told l G hA i hi H.size) (va_cwA 1 hts gX6_read_X0_told_u73X0 rfl rfl rfl hK.2.1.2.1 (by decide +kernel) ⟨(Nat.le_of_ble_eq_true rfl), (Nat.le_of_ble_eq_true rfl)⟩) (zPV w hK (px_recv (ci := 0) (fs := [.ref (vB f (zA car d t))]) (r := (RX0, TX0, 1)) hK w (hA.1) (hA.2.2.1) rfl)) rfl rfl hl.1 rfl (lv_room (Nat.le_of_ble_eq_true rfl)) dX6_read_30 ⟨(Nat.le_of_ble_eq_true rfl), (Nat.le_of_ble_eq_true rfl)⟩
        · exact va_runU (As := [.int i]) (rest := []) ⟨hx, hb, hml, hown, hts⟩ (kX1_told l G hA i hi H.size) (va_cwA 1 hts gX6_read_X1_told_u73X1 rfl rfl rfl hK.2.1.2.1 (by decide +kernel) ⟨(Nat.le_of_ble_eq_true rfl), (Nat.le_of_ble_eq_true rfl)⟩) (zPV w hK (px_recv (ci := 1) (fs := [.ref (vB f (zA car d t))]) (r := (RX1, TX1, 1)) hK w (hA.1) (hA.2.2.1) rfl)) rfl rfl hl.1 rfl (lv_room (Nat.le_of_ble_eq_true rfl)) dX6_read_30 ⟨(Nat.le_of_ble_eq_true rfl), (Nat.le_of_ble_eq_true rfl)⟩) (fun r_4 u H locs hq w => ?_)
    obtain ⟨rfl, e_r⟩ := hq
    subst e_r
    refine lv_i2l hx hb dX6_read_33 rfl ?_
    exact zRl hx hb hr hlk w dX6_read_34 (Nat.le_of_ble_eq_true rfl) (Nat.le_of_ble_eq_true rfl) (by show (if _ then _ else _); (first | rw [if_pos p_f] | rw [if_neg p_f]); (first | exact ⟨rfl, rfl⟩ | exact ⟨rfl, by rw [hsN]⟩))
  · have p_f := zcmp1 c_2
    refine lv_aload_n hx hb dX6_read_16 rfl (lv_at hl 1 rfl) ?_
    refine lv_lload hx hb dX6_read_17 (lv_at hl 0 rfl) ?_
    refine zCl w (va_runV (As := [.long (zPF f car d t i)]) (rest := []) ⟨hx, hb, hml, hown, hts⟩ (kX6_refuse l G h (zPF f car d t i) (zPF_why p_f) H.size) (cwV 1 hts gX6_read_X6_refuse rfl rfl rfl (by decide +kernel) ⟨(Nat.le_of_ble_eq_true rfl), (Nat.le_of_ble_eq_true rfl)⟩) (zPV w hK (px_recv (r := (RX6, TX6, 4)) hK w mo fo rfl)) rfl rfl hl.1 rfl (lv_room (Nat.le_of_ble_eq_true rfl)) dX6_read_19 ⟨(Nat.le_of_ble_eq_true rfl), (Nat.le_of_ble_eq_true rfl)⟩) (fun r_5 u H locs hq w => ?_)
    obtain ⟨rfl, e_r⟩ := hq
    subst e_r
    exact zRl hx hb hr hlk w dX6_read_22 (Nat.le_of_ble_eq_true rfl) (Nat.le_of_ble_eq_true rfl) (by show (if _ then _ else _); (first | rw [if_pos p_f] | rw [if_neg p_f]); (first | exact ⟨rfl, rfl⟩ | exact ⟨rfl, by rw [hsN]⟩))
set_option maxHeartbeats 4000000 in
set_option maxRecDepth 100000 in
theorem kX6_write (l : Launch) (G : zG) {L : List Nat} {f : Nat → va_E} {o ac aw ar : Nat} {ch : Option Nat} {car wa : Nat → Option Nat} {ta : Nat → Int32} (h : zBn G L f o ac aw ar ch car wa ta) (hct : zCT G L f car) (hwt : zWT G L f wa) (d t i x : Int32) (sz : Nat) : zMl l yX6_write wsX6_write { frames := 3, cells := 0, slots := 0, locals := 69 } G [.ref o, .int d, .int t, .int i, .int x] (va_pl L f) sz (fun r u => if zPF f car d t i = 0 then (u = zPutW G L f (zS t) (zA car d t) (zPuI (zS t) (vI f (zA car d t)) i.toNatClampNeg x) (zPuF (zS t) (vF f (zA car d t)) i.toNatClampNeg (zEi x)) ∧ r = (zTold (zS t) (zPuI (zS t) (vI f (zA car d t)) i.toNatClampNeg x) (zPuF (zS t) (vF f (zA car d t)) i.toNatClampNeg (zEi x)) i.toNatClampNeg).toInt64) else zRefP G L f ar ta (zPF f car d t i) r u) 0 0 := by
  refine zIn (Qc := fun A => va_Ql _ (zB G A) A) (cc := cX6_write) (maxL := 8) (ret := (some .long)) (by decide) rfl (Nat.le_of_ble_eq_true rfl) ?_
  intro p e s m below meth c A ls hx hb hr hlk hml hts hown hnm hK w hl
  have hown : s.vm.findClass RX6 = some m.cls := hown
  have hl : lv_has ls 8 [(0, .ref o), (1, .int d), (2, .int t), (3, .int i), (4, .int x)] := hl
  obtain ⟨⟨mo, mc, mw, mr⟩, fo, fc, fw, fr⟩ := id h
  refine lv_aload_n hx hb dX6_write_0 rfl (lv_at hl 0 rfl) ?_
  refine lv_iload_n hx hb dX6_write_1 rfl (lv_at hl 1 rfl) ?_
  refine lv_iload_n hx hb dX6_write_2 rfl (lv_at hl 2 rfl) ?_
  refine lv_iload_n hx hb dX6_write_3 rfl (lv_at hl 3 rfl) ?_
  refine zCl w (va_runV (As := [.int d, .int t, .int i]) (rest := []) ⟨hx, hb, hml, hown, hts⟩ (kX6_placeFault l G h hct d t i s.heap.size) (cwV 3 hts gX6_write_X6_placeFault rfl rfl rfl (by decide +kernel) ⟨(Nat.le_of_ble_eq_true rfl), (Nat.le_of_ble_eq_true rfl)⟩) (zPV w hK (px_recv (r := (RX6, TX6, 4)) hK w mo fo rfl)) rfl rfl hl.1 rfl (lv_room (Nat.le_of_ble_eq_true rfl)) dX6_write_4 ⟨(Nat.le_of_ble_eq_true rfl), (Nat.le_of_ble_eq_true rfl)⟩) (fun r_1 u H locs hq w => ?_)
  obtain ⟨rfl, e_r⟩ := hq
  subst e_r
  refine lv_lstore (lv' := [(5, .long (zPF f car d t i)), (0, .ref o), (1, .int d), (2, .int t), (3, .int i), (4, .int x)]) hx hb dX6_write_7 hl (by decide) rfl (fun ls hl => ?_)
  refine lv_lload hx hb dX6_write_9 (lv_at hl 0 rfl) ?_
  refine lv_lconst (v := 0) hx hb dX6_write_11 (by decide) ?_
  refine W.lcmp hx hb dX6_write_12 ?_
  refine lv_if_eq (tgt := 23) hx hb dX6_write_13 (by decide) (fun c_2 => ?_) (fun c_2 => ?_)
  · have p_f := zcmp0 c_2
    obtain ⟨p_0, hh⟩ := zPF_0 p_f
    obtain ⟨hd, ht, hca⟩ := zRF_0 p_0
    have hA := zCT_at hct p_0
    obtain ⟨sN, hsN⟩ : ∃ sN, sN = zS t := ⟨_, rfl⟩
    rw [← hsN] at hA
    have hs : sN = 0 ∨ sN = 1 ∨ sN = 2 ∨ sN = 3 := by rw [hsN]; exact zS_or ht
    unfold zRA at hA
    have hi := zin40 hh hA.2.2.2.2.1
    refine lv_aload_n hx hb dX6_write_23 rfl (lv_at hl 1 rfl) ?_
    refine lv_iload_n hx hb dX6_write_24 rfl (lv_at hl 2 rfl) ?_
    refine lv_iload_n hx hb dX6_write_25 rfl (lv_at hl 3 rfl) ?_
    refine zCq w (va_runV (As := [.int d, .int t]) (rest := []) ⟨hx, hb, hml, hown, hts⟩ (kX6_reelOn l G h d t hd ht H.size) (cwV 2 hts gX6_write_X6_reelOn rfl rfl rfl (by decide +kernel) ⟨(Nat.le_of_ble_eq_true rfl), (Nat.le_of_ble_eq_true rfl)⟩) (zPV w hK (px_recv (r := (RX6, TX6, 4)) hK w mo fo rfl)) rfl rfl hl.1 rfl (lv_room (Nat.le_of_ble_eq_true rfl)) dX6_write_26 ⟨(Nat.le_of_ble_eq_true rfl), (Nat.le_of_ble_eq_true rfl)⟩) (fun r_3 u H locs hq w => ?_)
    obtain ⟨rfl, e_r⟩ := hq
    subst e_r
    rw [hca]
    refine lv_astore (lv' := [(7, .ref (zA car d t)), (5, .long (zPF f car d t i)), (0, .ref o), (1, .int d), (2, .int t), (3, .int i), (4, .int x)]) hx hb dX6_write_29 hl (by decide) rfl (fun ls hl => ?_)
    refine lv_aload hx hb dX6_write_31 (lv_at hl 0 rfl) ?_
    refine lv_iload_n hx hb dX6_write_33 rfl (lv_at hl 5 rfl) ?_
    refine lv_iload hx hb dX6_write_34 (lv_at hl 6 rfl) ?_
    refine zCv (post := fun u => u = zPutW G L f sN (zA car d t) (zPuI sN (vI f (zA car d t)) i.toNatClampNeg x) (zPuF sN (vF f (zA car d t)) i.toNatClampNeg (zEi x))) (mc := 0) (ms := 0) (rest := []) (av := (Value.ref (zA car d t) :: [.int i, .int x]).toArray) w (by
        rcases hs with rfl | rfl | rfl | rfl
        · exact va_runU (As := [.int i, .int x]) (rest := []) ⟨hx, hb, hml, hown, hts⟩ (kX2_put l G hA i x hi H.size) (va_cwA 2 hts gX6_write_X2_put_u77X2 rfl rfl rfl hK.2.1.2.2 (by decide +kernel) ⟨(Nat.le_of_ble_eq_true rfl), (Nat.le_of_ble_eq_true rfl)⟩) (zPV w hK (px_recv (ci := 2) (fs := [.ref (vB f (zA car d t))]) (r := (RX2, TX2, 1)) hK w (hA.1) (hA.2.2.1) rfl)) rfl rfl hl.1 rfl (lv_room (Nat.le_of_ble_eq_true rfl)) dX6_write_36 ⟨(Nat.le_of_ble_eq_true rfl), (Nat.le_of_ble_eq_true rfl)⟩
        · exact va_runU (As := [.int i, .int x]) (rest := []) ⟨hx, hb, hml, hown, hts⟩ (kX5_put l G hA i x hi H.size) (va_cwA 2 hts gX6_write_X5_put_u77X5 rfl rfl rfl hK.2.1.2.2 (by decide +kernel) ⟨(Nat.le_of_ble_eq_true rfl), (Nat.le_of_ble_eq_true rfl)⟩) (zPV w hK (px_recv (ci := 4) (fs := [.ref (vB f (zA car d t))]) (r := (RX5, TX5, 1)) hK w (hA.1) (hA.2.2.1) rfl)) rfl rfl hl.1 rfl (lv_room (Nat.le_of_ble_eq_true rfl)) dX6_write_36 ⟨(Nat.le_of_ble_eq_true rfl), (Nat.le_of_ble_eq_true rfl)⟩
        · exact va_runU (As := [.int i, .int x]) (rest := []) ⟨hx, hb, hml, hown, hts⟩ (kX0_put l G hA i x hi H.size) (va_cwA 2 hts gX6_write_X0_put_u77X0 rfl rfl rfl hK.2.1.2.2 (by decide +kernel) ⟨(Nat.le_of_ble_eq_true rfl), (Nat.le_of_ble_eq_true rfl)⟩) (zPV w hK (px_recv (ci := 0) (fs := [.ref (vB f (zA car d t))]) (r := (RX0, TX0, 1)) hK w (hA.1) (hA.2.2.1) rfl)) rfl rfl hl.1 rfl (lv_room (Nat.le_of_ble_eq_true rfl)) dX6_write_36 ⟨(Nat.le_of_ble_eq_true rfl), (Nat.le_of_ble_eq_true rfl)⟩
        · exact va_runU (As := [.int i, .int x]) (rest := []) ⟨hx, hb, hml, hown, hts⟩ (kX1_put l G hA i x hi H.size) (va_cwA 2 hts gX6_write_X1_put_u77X1 rfl rfl rfl hK.2.1.2.2 (by decide +kernel) ⟨(Nat.le_of_ble_eq_true rfl), (Nat.le_of_ble_eq_true rfl)⟩) (zPV w hK (px_recv (ci := 1) (fs := [.ref (vB f (zA car d t))]) (r := (RX1, TX1, 1)) hK w (hA.1) (hA.2.2.1) rfl)) rfl rfl hl.1 rfl (lv_room (Nat.le_of_ble_eq_true rfl)) dX6_write_36 ⟨(Nat.le_of_ble_eq_true rfl), (Nat.le_of_ble_eq_true rfl)⟩) (fun u H locs hq w => ?_)
    subst hq
    have hA2 := zRe_up (gi2 := zPuI sN (vI f (zA car d t)) i.toNatClampNeg x) (gf2 := zPuF sN (vF f (zA car d t)) i.toNatClampNeg (zEi x)) hA (zPuF_fin hA (zn32 (zEi_fin x).notNaN))
    refine lv_aload hx hb dX6_write_39 (lv_at hl 0 rfl) ?_
    refine lv_iload_n hx hb dX6_write_41 rfl (lv_at hl 5 rfl) ?_
    refine zCi (post := fun r u => u = zPutW G L f sN (zA car d t) (zPuI sN (vI f (zA car d t)) i.toNatClampNeg x) (zPuF sN (vF f (zA car d t)) i.toNatClampNeg (zEi x)) ∧ r = zTold sN (zPuI sN (vI f (zA car d t)) i.toNatClampNeg x) (zPuF sN (vF f (zA car d t)) i.toNatClampNeg (zEi x)) i.toNatClampNeg) (mc := 0) (ms := 0) (rest := []) (av := (Value.ref (zA car d t) :: [.int i]).toArray) w (by
        rcases hs with rfl | rfl | rfl | rfl
        · exact va_runU (As := [.int i]) (rest := []) ⟨hx, hb, hml, hown, hts⟩ (kX2_told l G hA2 i hi H.size) (va_cwA 1 hts gX6_write_X2_told_u73X2 rfl rfl rfl hK.2.1.2.1 (by decide +kernel) ⟨(Nat.le_of_ble_eq_true rfl), (Nat.le_of_ble_eq_true rfl)⟩) (zPV w hK (px_recv (ci := 2) (fs := [.ref (vB f (zA car d t))]) (r := (RX2, TX2, 1)) hK w (hA2.1) (hA2.2.2.1) rfl)) rfl rfl hl.1 rfl (lv_room (Nat.le_of_ble_eq_true rfl)) dX6_write_42 ⟨(Nat.le_of_ble_eq_true rfl), (Nat.le_of_ble_eq_true rfl)⟩
        · exact va_runU (As := [.int i]) (rest := []) ⟨hx, hb, hml, hown, hts⟩ (kX5_told l G hA2 i hi H.size) (va_cwA 1 hts gX6_write_X5_told_u73X5 rfl rfl rfl hK.2.1.2.1 (by decide +kernel) ⟨(Nat.le_of_ble_eq_true rfl), (Nat.le_of_ble_eq_true rfl)⟩) (zPV w hK (px_recv (ci := 4) (fs := [.ref (vB f (zA car d t))]) (r := (RX5, TX5, 1)) hK w (hA2.1) (hA2.2.2.1) rfl)) rfl rfl hl.1 rfl (lv_room (Nat.le_of_ble_eq_true rfl)) dX6_write_42 ⟨(Nat.le_of_ble_eq_true rfl), (Nat.le_of_ble_eq_true rfl)⟩
        · exact va_runU (As := [.int i]) (rest := []) ⟨hx, hb, hml, hown, hts⟩ (kX0_told l G hA2 i hi H.size) (va_cwA 1 hts gX6_write_X0_told_u73X0 rfl rfl rfl hK.2.1.2.1 (by decide +kernel) ⟨(Nat.le_of_ble_eq_true rfl), (Nat.le_of_ble_eq_true rfl)⟩) (zPV w hK (px_recv (ci := 0) (fs := [.ref (vB f (zA car d t))]) (r := (RX0, TX0, 1)) hK w (hA2.1) (hA2.2.2.1) rfl)) rfl rfl hl.1 rfl (lv_room (Nat.le_of_ble_eq_true rfl)) dX6_write_42 ⟨(Nat.le_of_ble_eq_true rfl), (Nat.le_of_ble_eq_true rfl)⟩
        · exact va_runU (As := [.int i]) (rest := []) ⟨hx, hb, hml, hown, hts⟩ (kX1_told l G hA2 i hi H.size) (va_cwA 1 hts gX6_write_X1_told_u73X1 rfl rfl rfl hK.2.1.2.1 (by decide +kernel) ⟨(Nat.le_of_ble_eq_true rfl), (Nat.le_of_ble_eq_true rfl)⟩) (zPV w hK (px_recv (ci := 1) (fs := [.ref (vB f (zA car d t))]) (r := (RX1, TX1, 1)) hK w (hA2.1) (hA2.2.2.1) rfl)) rfl rfl hl.1 rfl (lv_room (Nat.le_of_ble_eq_true rfl)) dX6_write_42 ⟨(Nat.le_of_ble_eq_true rfl), (Nat.le_of_ble_eq_true rfl)⟩) (fun r_4 u H locs hq w => ?_)
    obtain ⟨rfl, e_r⟩ := hq
    subst e_r
    refine lv_i2l hx hb dX6_write_45 rfl ?_
    exact zRl hx hb hr hlk w dX6_write_46 (Nat.le_of_ble_eq_true rfl) (Nat.le_of_ble_eq_true rfl) (by show (if _ then _ else _); (first | rw [if_pos p_f] | rw [if_neg p_f]); (first | exact ⟨rfl, rfl⟩ | (rw [← hsN]; exact ⟨rfl, rfl⟩)))
  · have p_f := zcmp1 c_2
    refine lv_aload_n hx hb dX6_write_16 rfl (lv_at hl 1 rfl) ?_
    refine lv_lload hx hb dX6_write_17 (lv_at hl 0 rfl) ?_
    refine zCl w (va_runV (As := [.long (zPF f car d t i)]) (rest := []) ⟨hx, hb, hml, hown, hts⟩ (kX6_refuse l G h (zPF f car d t i) (zPF_why p_f) H.size) (cwV 1 hts gX6_write_X6_refuse rfl rfl rfl (by decide +kernel) ⟨(Nat.le_of_ble_eq_true rfl), (Nat.le_of_ble_eq_true rfl)⟩) (zPV w hK (px_recv (r := (RX6, TX6, 4)) hK w mo fo rfl)) rfl rfl hl.1 rfl (lv_room (Nat.le_of_ble_eq_true rfl)) dX6_write_19 ⟨(Nat.le_of_ble_eq_true rfl), (Nat.le_of_ble_eq_true rfl)⟩) (fun r_5 u H locs hq w => ?_)
    obtain ⟨rfl, e_r⟩ := hq
    subst e_r
    exact zRl hx hb hr hlk w dX6_write_22 (Nat.le_of_ble_eq_true rfl) (Nat.le_of_ble_eq_true rfl) (by show (if _ then _ else _); (first | rw [if_pos p_f] | rw [if_neg p_f]); (first | exact ⟨rfl, rfl⟩ | (rw [← hsN]; exact ⟨rfl, rfl⟩)))
set_option maxHeartbeats 4000000 in
set_option maxRecDepth 100000 in
theorem kX6_nudge (l : Launch) (G : zG) {L : List Nat} {f : Nat → va_E} {o ac aw ar : Nat} {ch : Option Nat} {car wa : Nat → Option Nat} {ta : Nat → Int32} (h : zBn G L f o ac aw ar ch car wa ta) (hct : zCT G L f car) (hwt : zWT G L f wa) (d t i how x : Int32) (sz : Nat) : zMl l yX6_nudge wsX6_nudge { frames := 3, cells := 0, slots := 0, locals := 69 } G [.ref o, .int d, .int t, .int i, .int how, .int x] (va_pl L f) sz (fun r u => if zKnow t how then (if zPF f car d t i = 0 then (if how = 3 ∧ x = 0 then zRefP G L f ar ta zDIVIDED r u else (u = zPutW G L f (zS t) (zA car d t) (zChI (zS t) (vI f (zA car d t)) (vF f (zA car d t)) i.toNatClampNeg how x) (zChF (zS t) (vF f (zA car d t)) i.toNatClampNeg how x) ∧ r = (zTold (zS t) (zChI (zS t) (vI f (zA car d t)) (vF f (zA car d t)) i.toNatClampNeg how x) (zChF (zS t) (vF f (zA car d t)) i.toNatClampNeg how x) i.toNatClampNeg).toInt64)) else zRefP G L f ar ta (zPF f car d t i) r u) else zRefP G L f ar ta zNONE r u) 0 0 := by
  refine zIn (Qc := fun A => va_Ql _ (zB G A) A) (cc := cX6_nudge) (maxL := 9) (ret := (some .long)) (by decide) rfl (Nat.le_of_ble_eq_true rfl) ?_
  intro p e s m below meth c A ls hx hb hr hlk hml hts hown hnm hK w hl
  have hown : s.vm.findClass RX6 = some m.cls := hown
  have hl : lv_has ls 9 [(0, .ref o), (1, .int d), (2, .int t), (3, .int i), (4, .int how), (5, .int x)] := hl
  obtain ⟨⟨mo, mc, mw, mr⟩, fo, fc, fw, fr⟩ := id h
  refine lv_iload_n hx hb dX6_nudge_0 rfl (lv_at hl 2 rfl) ?_
  refine lv_iload hx hb dX6_nudge_1 (lv_at hl 4 rfl) ?_
  refine zCi w (va_runS (As := [.int t, .int how]) (rest := []) ⟨hx, hb, hml, hown, hts⟩ (kX6_knowsHow l G _ t how s.heap.size) (va_cwS 2 hts gX6_nudge_X6_knowsHow rfl rfl rfl (by decide +kernel) ⟨(Nat.le_of_ble_eq_true rfl), (Nat.le_of_ble_eq_true rfl)⟩) (zPS w hK) rfl rfl hl.1 rfl (lv_room (Nat.le_of_ble_eq_true rfl)) dX6_nudge_3 ⟨(Nat.le_of_ble_eq_true rfl), (Nat.le_of_ble_eq_true rfl)⟩) (fun r_1 u H locs hq w => ?_)
  obtain ⟨rfl, e_r_1⟩ := hq
  refine lv_if_ne (tgt := 17) hx hb dX6_nudge_6 (by decide) (fun c_2 => ?_) (fun c_2 => ?_)
  · have p_k := z01 inferInstance e_r_1 c_2
    refine lv_aload_n hx hb dX6_nudge_17 rfl (lv_at hl 0 rfl) ?_
    refine lv_iload_n hx hb dX6_nudge_18 rfl (lv_at hl 1 rfl) ?_
    refine lv_iload_n hx hb dX6_nudge_19 rfl (lv_at hl 2 rfl) ?_
    refine lv_iload_n hx hb dX6_nudge_20 rfl (lv_at hl 3 rfl) ?_
    refine zCl w (va_runV (As := [.int d, .int t, .int i]) (rest := []) ⟨hx, hb, hml, hown, hts⟩ (kX6_placeFault l G h hct d t i H.size) (cwV 3 hts gX6_nudge_X6_placeFault rfl rfl rfl (by decide +kernel) ⟨(Nat.le_of_ble_eq_true rfl), (Nat.le_of_ble_eq_true rfl)⟩) (zPV w hK (px_recv (r := (RX6, TX6, 4)) hK w mo fo rfl)) rfl rfl hl.1 rfl (lv_room (Nat.le_of_ble_eq_true rfl)) dX6_nudge_21 ⟨(Nat.le_of_ble_eq_true rfl), (Nat.le_of_ble_eq_true rfl)⟩) (fun r_3 u H locs hq w => ?_)
    obtain ⟨rfl, e_r⟩ := hq
    subst e_r
    refine lv_lstore (lv' := [(6, .long (zPF f car d t i)), (0, .ref o), (1, .int d), (2, .int t), (3, .int i), (4, .int how), (5, .int x)]) hx hb dX6_nudge_24 hl (by decide) rfl (fun ls hl => ?_)
    refine lv_lload hx hb dX6_nudge_26 (lv_at hl 0 rfl) ?_
    refine lv_lconst (v := 0) hx hb dX6_nudge_28 (by decide) ?_
    refine W.lcmp hx hb dX6_nudge_29 ?_
    refine lv_if_eq (tgt := 40) hx hb dX6_nudge_30 (by decide) (fun c_4 => ?_) (fun c_4 => ?_)
    · have p_f := zcmp0 c_4
      obtain ⟨p_0, hh⟩ := zPF_0 p_f
      obtain ⟨hd, ht, hca⟩ := zRF_0 p_0
      have hA := zCT_at hct p_0
      obtain ⟨sN, hsN⟩ : ∃ sN, sN = zS t := ⟨_, rfl⟩
      rw [← hsN] at hA
      have hs : sN = 0 ∨ sN = 1 ∨ sN = 2 ∨ sN = 3 := by rw [hsN]; exact zS_or ht
      unfold zRA at hA
      have hi := zin40 hh hA.2.2.2.2.1
      refine lv_iload hx hb dX6_nudge_40 (lv_at hl 5 rfl) ?_
      refine lv_iconst (v := 3) hx hb dX6_nudge_42 (by decide) ?_
      refine lv_icmp_ne (tgt := 59) hx hb dX6_nudge_43 (by decide) (fun c_5 => ?_) (fun c_5 => ?_)
      · have p_v : ¬ (how = 3 ∧ x = 0) := fun q => c_5 q.1
        refine lv_aload_n hx hb dX6_nudge_59 rfl (lv_at hl 1 rfl) ?_
        refine lv_iload_n hx hb dX6_nudge_60 rfl (lv_at hl 2 rfl) ?_
        refine lv_iload_n hx hb dX6_nudge_61 rfl (lv_at hl 3 rfl) ?_
        refine zCq w (va_runV (As := [.int d, .int t]) (rest := []) ⟨hx, hb, hml, hown, hts⟩ (kX6_reelOn l G h d t hd ht H.size) (cwV 2 hts gX6_nudge_X6_reelOn rfl rfl rfl (by decide +kernel) ⟨(Nat.le_of_ble_eq_true rfl), (Nat.le_of_ble_eq_true rfl)⟩) (zPV w hK (px_recv (r := (RX6, TX6, 4)) hK w mo fo rfl)) rfl rfl hl.1 rfl (lv_room (Nat.le_of_ble_eq_true rfl)) dX6_nudge_62 ⟨(Nat.le_of_ble_eq_true rfl), (Nat.le_of_ble_eq_true rfl)⟩) (fun r_6 u H locs hq w => ?_)
        obtain ⟨rfl, e_r⟩ := hq
        subst e_r
        rw [hca]
        refine lv_astore (lv' := [(8, .ref (zA car d t)), (6, .long (zPF f car d t i)), (0, .ref o), (1, .int d), (2, .int t), (3, .int i), (4, .int how), (5, .int x)]) hx hb dX6_nudge_65 hl (by decide) rfl (fun ls hl => ?_)
        refine lv_aload hx hb dX6_nudge_67 (lv_at hl 0 rfl) ?_
        refine lv_iload_n hx hb dX6_nudge_69 rfl (lv_at hl 5 rfl) ?_
        refine lv_iload hx hb dX6_nudge_70 (lv_at hl 6 rfl) ?_
        refine lv_iload hx hb dX6_nudge_72 (lv_at hl 7 rfl) ?_
        refine zCv (post := fun u => u = zPutW G L f sN (zA car d t) (zChI sN (vI f (zA car d t)) (vF f (zA car d t)) i.toNatClampNeg how x) (zChF sN (vF f (zA car d t)) i.toNatClampNeg how x)) (mc := 0) (ms := 0) (rest := []) (av := (Value.ref (zA car d t) :: [.int i, .int how, .int x]).toArray) w (by
            rcases hs with rfl | rfl | rfl | rfl
            · exact va_runU (As := [.int i, .int how, .int x]) (rest := []) ⟨hx, hb, hml, hown, hts⟩ (kX3_change l G (by omega) hA i how x hi p_v H.size) (va_cwU 3 hts gX6_nudge_X3_change_u87X2 rfl rfl rfl rfl (by decide +kernel) ⟨(Nat.le_of_ble_eq_true rfl), (Nat.le_of_ble_eq_true rfl)⟩) (zPV w hK (px_recv (ci := 2) (fs := [.ref (vB f (zA car d t))]) (r := (RX2, TX2, 1)) hK w (hA.1) (hA.2.2.1) rfl)) rfl rfl hl.1 rfl (lv_room (Nat.le_of_ble_eq_true rfl)) dX6_nudge_74 ⟨(Nat.le_of_ble_eq_true rfl), (Nat.le_of_ble_eq_true rfl)⟩
            · exact va_runU (As := [.int i, .int how, .int x]) (rest := []) ⟨hx, hb, hml, hown, hts⟩ (kX3_change l G (by omega) hA i how x hi p_v H.size) (va_cwU 3 hts gX6_nudge_X3_change_u87X5 rfl rfl rfl rfl (by decide +kernel) ⟨(Nat.le_of_ble_eq_true rfl), (Nat.le_of_ble_eq_true rfl)⟩) (zPV w hK (px_recv (ci := 4) (fs := [.ref (vB f (zA car d t))]) (r := (RX5, TX5, 1)) hK w (hA.1) (hA.2.2.1) rfl)) rfl rfl hl.1 rfl (lv_room (Nat.le_of_ble_eq_true rfl)) dX6_nudge_74 ⟨(Nat.le_of_ble_eq_true rfl), (Nat.le_of_ble_eq_true rfl)⟩
            · exact va_runU (As := [.int i, .int how, .int x]) (rest := []) ⟨hx, hb, hml, hown, hts⟩ (kX0_change l G hA i how x hi H.size) (va_cwO 3 hts gX6_nudge_X0_change_u87X0 rfl rfl rfl (b0 := cX3_change) (m0 := 4) (r0 := none) (by decide +kernel) (by decide +kernel) ⟨(Nat.le_of_ble_eq_true rfl), (Nat.le_of_ble_eq_true rfl)⟩) (zPV w hK (px_recv (ci := 0) (fs := [.ref (vB f (zA car d t))]) (r := (RX0, TX0, 1)) hK w (hA.1) (hA.2.2.1) rfl)) rfl rfl hl.1 rfl (lv_room (Nat.le_of_ble_eq_true rfl)) dX6_nudge_74 ⟨(Nat.le_of_ble_eq_true rfl), (Nat.le_of_ble_eq_true rfl)⟩
            · exact va_runU (As := [.int i, .int how, .int x]) (rest := []) ⟨hx, hb, hml, hown, hts⟩ (kX3_change l G (by omega) hA i how x hi p_v H.size) (va_cwU 3 hts gX6_nudge_X3_change_u87X1 rfl rfl rfl rfl (by decide +kernel) ⟨(Nat.le_of_ble_eq_true rfl), (Nat.le_of_ble_eq_true rfl)⟩) (zPV w hK (px_recv (ci := 1) (fs := [.ref (vB f (zA car d t))]) (r := (RX1, TX1, 1)) hK w (hA.1) (hA.2.2.1) rfl)) rfl rfl hl.1 rfl (lv_room (Nat.le_of_ble_eq_true rfl)) dX6_nudge_74 ⟨(Nat.le_of_ble_eq_true rfl), (Nat.le_of_ble_eq_true rfl)⟩) (fun u H locs hq w => ?_)
        subst hq
        have hA2 := zRe_up (gi2 := zChI sN (vI f (zA car d t)) (vF f (zA car d t)) i.toNatClampNeg how x) (gf2 := zChF sN (vF f (zA car d t)) i.toNatClampNeg how x) hA (zChF_fin hA (zin_lt hi))
        refine lv_aload hx hb dX6_nudge_77 (lv_at hl 0 rfl) ?_
        refine lv_iload_n hx hb dX6_nudge_79 rfl (lv_at hl 5 rfl) ?_
        refine zCi (post := fun r u => u = zPutW G L f sN (zA car d t) (zChI sN (vI f (zA car d t)) (vF f (zA car d t)) i.toNatClampNeg how x) (zChF sN (vF f (zA car d t)) i.toNatClampNeg how x) ∧ r = zTold sN (zChI sN (vI f (zA car d t)) (vF f (zA car d t)) i.toNatClampNeg how x) (zChF sN (vF f (zA car d t)) i.toNatClampNeg how x) i.toNatClampNeg) (mc := 0) (ms := 0) (rest := []) (av := (Value.ref (zA car d t) :: [.int i]).toArray) w (by
            rcases hs with rfl | rfl | rfl | rfl
            · exact va_runU (As := [.int i]) (rest := []) ⟨hx, hb, hml, hown, hts⟩ (kX2_told l G hA2 i hi H.size) (va_cwA 1 hts gX6_nudge_X2_told_u73X2 rfl rfl rfl hK.2.1.2.1 (by decide +kernel) ⟨(Nat.le_of_ble_eq_true rfl), (Nat.le_of_ble_eq_true rfl)⟩) (zPV w hK (px_recv (ci := 2) (fs := [.ref (vB f (zA car d t))]) (r := (RX2, TX2, 1)) hK w (hA2.1) (hA2.2.2.1) rfl)) rfl rfl hl.1 rfl (lv_room (Nat.le_of_ble_eq_true rfl)) dX6_nudge_80 ⟨(Nat.le_of_ble_eq_true rfl), (Nat.le_of_ble_eq_true rfl)⟩
            · exact va_runU (As := [.int i]) (rest := []) ⟨hx, hb, hml, hown, hts⟩ (kX5_told l G hA2 i hi H.size) (va_cwA 1 hts gX6_nudge_X5_told_u73X5 rfl rfl rfl hK.2.1.2.1 (by decide +kernel) ⟨(Nat.le_of_ble_eq_true rfl), (Nat.le_of_ble_eq_true rfl)⟩) (zPV w hK (px_recv (ci := 4) (fs := [.ref (vB f (zA car d t))]) (r := (RX5, TX5, 1)) hK w (hA2.1) (hA2.2.2.1) rfl)) rfl rfl hl.1 rfl (lv_room (Nat.le_of_ble_eq_true rfl)) dX6_nudge_80 ⟨(Nat.le_of_ble_eq_true rfl), (Nat.le_of_ble_eq_true rfl)⟩
            · exact va_runU (As := [.int i]) (rest := []) ⟨hx, hb, hml, hown, hts⟩ (kX0_told l G hA2 i hi H.size) (va_cwA 1 hts gX6_nudge_X0_told_u73X0 rfl rfl rfl hK.2.1.2.1 (by decide +kernel) ⟨(Nat.le_of_ble_eq_true rfl), (Nat.le_of_ble_eq_true rfl)⟩) (zPV w hK (px_recv (ci := 0) (fs := [.ref (vB f (zA car d t))]) (r := (RX0, TX0, 1)) hK w (hA2.1) (hA2.2.2.1) rfl)) rfl rfl hl.1 rfl (lv_room (Nat.le_of_ble_eq_true rfl)) dX6_nudge_80 ⟨(Nat.le_of_ble_eq_true rfl), (Nat.le_of_ble_eq_true rfl)⟩
            · exact va_runU (As := [.int i]) (rest := []) ⟨hx, hb, hml, hown, hts⟩ (kX1_told l G hA2 i hi H.size) (va_cwA 1 hts gX6_nudge_X1_told_u73X1 rfl rfl rfl hK.2.1.2.1 (by decide +kernel) ⟨(Nat.le_of_ble_eq_true rfl), (Nat.le_of_ble_eq_true rfl)⟩) (zPV w hK (px_recv (ci := 1) (fs := [.ref (vB f (zA car d t))]) (r := (RX1, TX1, 1)) hK w (hA2.1) (hA2.2.2.1) rfl)) rfl rfl hl.1 rfl (lv_room (Nat.le_of_ble_eq_true rfl)) dX6_nudge_80 ⟨(Nat.le_of_ble_eq_true rfl), (Nat.le_of_ble_eq_true rfl)⟩) (fun r_7 u H locs hq w => ?_)
        obtain ⟨rfl, e_r⟩ := hq
        subst e_r
        refine lv_i2l hx hb dX6_nudge_83 rfl ?_
        exact zRl hx hb hr hlk w dX6_nudge_84 (Nat.le_of_ble_eq_true rfl) (Nat.le_of_ble_eq_true rfl) (by show (if _ then _ else _); (first | rw [if_pos p_k] | rw [if_neg p_k]); (first | rw [if_pos p_f] | rw [if_neg p_f]); (first | rw [if_pos p_v] | rw [if_neg p_v]); (first | exact ⟨rfl, rfl⟩ | (rw [← hsN]; exact ⟨rfl, rfl⟩)))
      · have q_v := c_5
        refine lv_iload hx hb dX6_nudge_46 (lv_at hl 6 rfl) ?_
        refine lv_if_ne (tgt := 59) hx hb dX6_nudge_48 (by decide) (fun c_8 => ?_) (fun c_8 => ?_)
        · have p_v : ¬ (how = 3 ∧ x = 0) := fun q => c_8 q.2
          refine lv_aload_n hx hb dX6_nudge_59 rfl (lv_at hl 1 rfl) ?_
          refine lv_iload_n hx hb dX6_nudge_60 rfl (lv_at hl 2 rfl) ?_
          refine lv_iload_n hx hb dX6_nudge_61 rfl (lv_at hl 3 rfl) ?_
          refine zCq w (va_runV (As := [.int d, .int t]) (rest := []) ⟨hx, hb, hml, hown, hts⟩ (kX6_reelOn l G h d t hd ht H.size) (cwV 2 hts gX6_nudge_X6_reelOn rfl rfl rfl (by decide +kernel) ⟨(Nat.le_of_ble_eq_true rfl), (Nat.le_of_ble_eq_true rfl)⟩) (zPV w hK (px_recv (r := (RX6, TX6, 4)) hK w mo fo rfl)) rfl rfl hl.1 rfl (lv_room (Nat.le_of_ble_eq_true rfl)) dX6_nudge_62 ⟨(Nat.le_of_ble_eq_true rfl), (Nat.le_of_ble_eq_true rfl)⟩) (fun r_9 u H locs hq w => ?_)
          obtain ⟨rfl, e_r⟩ := hq
          subst e_r
          rw [hca]
          refine lv_astore (lv' := [(8, .ref (zA car d t)), (6, .long (zPF f car d t i)), (0, .ref o), (1, .int d), (2, .int t), (3, .int i), (4, .int how), (5, .int x)]) hx hb dX6_nudge_65 hl (by decide) rfl (fun ls hl => ?_)
          refine lv_aload hx hb dX6_nudge_67 (lv_at hl 0 rfl) ?_
          refine lv_iload_n hx hb dX6_nudge_69 rfl (lv_at hl 5 rfl) ?_
          refine lv_iload hx hb dX6_nudge_70 (lv_at hl 6 rfl) ?_
          refine lv_iload hx hb dX6_nudge_72 (lv_at hl 7 rfl) ?_
          refine zCv (post := fun u => u = zPutW G L f sN (zA car d t) (zChI sN (vI f (zA car d t)) (vF f (zA car d t)) i.toNatClampNeg how x) (zChF sN (vF f (zA car d t)) i.toNatClampNeg how x)) (mc := 0) (ms := 0) (rest := []) (av := (Value.ref (zA car d t) :: [.int i, .int how, .int x]).toArray) w (by
              rcases hs with rfl | rfl | rfl | rfl
              · exact va_runU (As := [.int i, .int how, .int x]) (rest := []) ⟨hx, hb, hml, hown, hts⟩ (kX3_change l G (by omega) hA i how x hi p_v H.size) (va_cwU 3 hts gX6_nudge_X3_change_u87X2 rfl rfl rfl rfl (by decide +kernel) ⟨(Nat.le_of_ble_eq_true rfl), (Nat.le_of_ble_eq_true rfl)⟩) (zPV w hK (px_recv (ci := 2) (fs := [.ref (vB f (zA car d t))]) (r := (RX2, TX2, 1)) hK w (hA.1) (hA.2.2.1) rfl)) rfl rfl hl.1 rfl (lv_room (Nat.le_of_ble_eq_true rfl)) dX6_nudge_74 ⟨(Nat.le_of_ble_eq_true rfl), (Nat.le_of_ble_eq_true rfl)⟩
              · exact va_runU (As := [.int i, .int how, .int x]) (rest := []) ⟨hx, hb, hml, hown, hts⟩ (kX3_change l G (by omega) hA i how x hi p_v H.size) (va_cwU 3 hts gX6_nudge_X3_change_u87X5 rfl rfl rfl rfl (by decide +kernel) ⟨(Nat.le_of_ble_eq_true rfl), (Nat.le_of_ble_eq_true rfl)⟩) (zPV w hK (px_recv (ci := 4) (fs := [.ref (vB f (zA car d t))]) (r := (RX5, TX5, 1)) hK w (hA.1) (hA.2.2.1) rfl)) rfl rfl hl.1 rfl (lv_room (Nat.le_of_ble_eq_true rfl)) dX6_nudge_74 ⟨(Nat.le_of_ble_eq_true rfl), (Nat.le_of_ble_eq_true rfl)⟩
              · exact va_runU (As := [.int i, .int how, .int x]) (rest := []) ⟨hx, hb, hml, hown, hts⟩ (kX0_change l G hA i how x hi H.size) (va_cwO 3 hts gX6_nudge_X0_change_u87X0 rfl rfl rfl (b0 := cX3_change) (m0 := 4) (r0 := none) (by decide +kernel) (by decide +kernel) ⟨(Nat.le_of_ble_eq_true rfl), (Nat.le_of_ble_eq_true rfl)⟩) (zPV w hK (px_recv (ci := 0) (fs := [.ref (vB f (zA car d t))]) (r := (RX0, TX0, 1)) hK w (hA.1) (hA.2.2.1) rfl)) rfl rfl hl.1 rfl (lv_room (Nat.le_of_ble_eq_true rfl)) dX6_nudge_74 ⟨(Nat.le_of_ble_eq_true rfl), (Nat.le_of_ble_eq_true rfl)⟩
              · exact va_runU (As := [.int i, .int how, .int x]) (rest := []) ⟨hx, hb, hml, hown, hts⟩ (kX3_change l G (by omega) hA i how x hi p_v H.size) (va_cwU 3 hts gX6_nudge_X3_change_u87X1 rfl rfl rfl rfl (by decide +kernel) ⟨(Nat.le_of_ble_eq_true rfl), (Nat.le_of_ble_eq_true rfl)⟩) (zPV w hK (px_recv (ci := 1) (fs := [.ref (vB f (zA car d t))]) (r := (RX1, TX1, 1)) hK w (hA.1) (hA.2.2.1) rfl)) rfl rfl hl.1 rfl (lv_room (Nat.le_of_ble_eq_true rfl)) dX6_nudge_74 ⟨(Nat.le_of_ble_eq_true rfl), (Nat.le_of_ble_eq_true rfl)⟩) (fun u H locs hq w => ?_)
          subst hq
          have hA2 := zRe_up (gi2 := zChI sN (vI f (zA car d t)) (vF f (zA car d t)) i.toNatClampNeg how x) (gf2 := zChF sN (vF f (zA car d t)) i.toNatClampNeg how x) hA (zChF_fin hA (zin_lt hi))
          refine lv_aload hx hb dX6_nudge_77 (lv_at hl 0 rfl) ?_
          refine lv_iload_n hx hb dX6_nudge_79 rfl (lv_at hl 5 rfl) ?_
          refine zCi (post := fun r u => u = zPutW G L f sN (zA car d t) (zChI sN (vI f (zA car d t)) (vF f (zA car d t)) i.toNatClampNeg how x) (zChF sN (vF f (zA car d t)) i.toNatClampNeg how x) ∧ r = zTold sN (zChI sN (vI f (zA car d t)) (vF f (zA car d t)) i.toNatClampNeg how x) (zChF sN (vF f (zA car d t)) i.toNatClampNeg how x) i.toNatClampNeg) (mc := 0) (ms := 0) (rest := []) (av := (Value.ref (zA car d t) :: [.int i]).toArray) w (by
              rcases hs with rfl | rfl | rfl | rfl
              · exact va_runU (As := [.int i]) (rest := []) ⟨hx, hb, hml, hown, hts⟩ (kX2_told l G hA2 i hi H.size) (va_cwA 1 hts gX6_nudge_X2_told_u73X2 rfl rfl rfl hK.2.1.2.1 (by decide +kernel) ⟨(Nat.le_of_ble_eq_true rfl), (Nat.le_of_ble_eq_true rfl)⟩) (zPV w hK (px_recv (ci := 2) (fs := [.ref (vB f (zA car d t))]) (r := (RX2, TX2, 1)) hK w (hA2.1) (hA2.2.2.1) rfl)) rfl rfl hl.1 rfl (lv_room (Nat.le_of_ble_eq_true rfl)) dX6_nudge_80 ⟨(Nat.le_of_ble_eq_true rfl), (Nat.le_of_ble_eq_true rfl)⟩
              · exact va_runU (As := [.int i]) (rest := []) ⟨hx, hb, hml, hown, hts⟩ (kX5_told l G hA2 i hi H.size) (va_cwA 1 hts gX6_nudge_X5_told_u73X5 rfl rfl rfl hK.2.1.2.1 (by decide +kernel) ⟨(Nat.le_of_ble_eq_true rfl), (Nat.le_of_ble_eq_true rfl)⟩) (zPV w hK (px_recv (ci := 4) (fs := [.ref (vB f (zA car d t))]) (r := (RX5, TX5, 1)) hK w (hA2.1) (hA2.2.2.1) rfl)) rfl rfl hl.1 rfl (lv_room (Nat.le_of_ble_eq_true rfl)) dX6_nudge_80 ⟨(Nat.le_of_ble_eq_true rfl), (Nat.le_of_ble_eq_true rfl)⟩
              · exact va_runU (As := [.int i]) (rest := []) ⟨hx, hb, hml, hown, hts⟩ (kX0_told l G hA2 i hi H.size) (va_cwA 1 hts gX6_nudge_X0_told_u73X0 rfl rfl rfl hK.2.1.2.1 (by decide +kernel) ⟨(Nat.le_of_ble_eq_true rfl), (Nat.le_of_ble_eq_true rfl)⟩) (zPV w hK (px_recv (ci := 0) (fs := [.ref (vB f (zA car d t))]) (r := (RX0, TX0, 1)) hK w (hA2.1) (hA2.2.2.1) rfl)) rfl rfl hl.1 rfl (lv_room (Nat.le_of_ble_eq_true rfl)) dX6_nudge_80 ⟨(Nat.le_of_ble_eq_true rfl), (Nat.le_of_ble_eq_true rfl)⟩
              · exact va_runU (As := [.int i]) (rest := []) ⟨hx, hb, hml, hown, hts⟩ (kX1_told l G hA2 i hi H.size) (va_cwA 1 hts gX6_nudge_X1_told_u73X1 rfl rfl rfl hK.2.1.2.1 (by decide +kernel) ⟨(Nat.le_of_ble_eq_true rfl), (Nat.le_of_ble_eq_true rfl)⟩) (zPV w hK (px_recv (ci := 1) (fs := [.ref (vB f (zA car d t))]) (r := (RX1, TX1, 1)) hK w (hA2.1) (hA2.2.2.1) rfl)) rfl rfl hl.1 rfl (lv_room (Nat.le_of_ble_eq_true rfl)) dX6_nudge_80 ⟨(Nat.le_of_ble_eq_true rfl), (Nat.le_of_ble_eq_true rfl)⟩) (fun r_10 u H locs hq w => ?_)
          obtain ⟨rfl, e_r⟩ := hq
          subst e_r
          refine lv_i2l hx hb dX6_nudge_83 rfl ?_
          exact zRl hx hb hr hlk w dX6_nudge_84 (Nat.le_of_ble_eq_true rfl) (Nat.le_of_ble_eq_true rfl) (by show (if _ then _ else _); (first | rw [if_pos p_k] | rw [if_neg p_k]); (first | rw [if_pos p_f] | rw [if_neg p_f]); (first | rw [if_pos p_v] | rw [if_neg p_v]); (first | exact ⟨rfl, rfl⟩ | (rw [← hsN]; exact ⟨rfl, rfl⟩)))
        · have p_v : how = 3 ∧ x = 0 := ⟨q_v, c_8⟩
          refine lv_aload_n hx hb dX6_nudge_51 rfl (lv_at hl 1 rfl) ?_
          refine lv_ldc2 hx hb hown (hts (.constantLong RX6 85 (6597069766656)) (by decide +kernel)) dX6_nudge_52 ?_
          refine zCl w (va_runV (As := [.long 6597069766656]) (rest := []) ⟨hx, hb, hml, hown, hts⟩ (kX6_refuse l G h zDIVIDED zW6 H.size) (cwV 1 hts gX6_nudge_X6_refuse rfl rfl rfl (by decide +kernel) ⟨(Nat.le_of_ble_eq_true rfl), (Nat.le_of_ble_eq_true rfl)⟩) (zPV w hK (px_recv (r := (RX6, TX6, 4)) hK w mo fo rfl)) rfl rfl hl.1 rfl (lv_room (Nat.le_of_ble_eq_true rfl)) dX6_nudge_55 ⟨(Nat.le_of_ble_eq_true rfl), (Nat.le_of_ble_eq_true rfl)⟩) (fun r_11 u H locs hq w => ?_)
          obtain ⟨rfl, e_r⟩ := hq
          subst e_r
          exact zRl hx hb hr hlk w dX6_nudge_58 (Nat.le_of_ble_eq_true rfl) (Nat.le_of_ble_eq_true rfl) (by show (if _ then _ else _); (first | rw [if_pos p_k] | rw [if_neg p_k]); (first | rw [if_pos p_f] | rw [if_neg p_f]); (first | rw [if_pos p_v] | rw [if_neg p_v]); (first | exact ⟨rfl, rfl⟩ | (rw [← hsN]; exact ⟨rfl, rfl⟩)))
    · have p_f := zcmp1 c_4
      refine lv_aload_n hx hb dX6_nudge_33 rfl (lv_at hl 1 rfl) ?_
      refine lv_lload hx hb dX6_nudge_34 (lv_at hl 0 rfl) ?_
      refine zCl w (va_runV (As := [.long (zPF f car d t i)]) (rest := []) ⟨hx, hb, hml, hown, hts⟩ (kX6_refuse l G h (zPF f car d t i) (zPF_why p_f) H.size) (cwV 1 hts gX6_nudge_X6_refuse rfl rfl rfl (by decide +kernel) ⟨(Nat.le_of_ble_eq_true rfl), (Nat.le_of_ble_eq_true rfl)⟩) (zPV w hK (px_recv (r := (RX6, TX6, 4)) hK w mo fo rfl)) rfl rfl hl.1 rfl (lv_room (Nat.le_of_ble_eq_true rfl)) dX6_nudge_36 ⟨(Nat.le_of_ble_eq_true rfl), (Nat.le_of_ble_eq_true rfl)⟩) (fun r_12 u H locs hq w => ?_)
      obtain ⟨rfl, e_r⟩ := hq
      subst e_r
      exact zRl hx hb hr hlk w dX6_nudge_39 (Nat.le_of_ble_eq_true rfl) (Nat.le_of_ble_eq_true rfl) (by show (if _ then _ else _); (first | rw [if_pos p_k] | rw [if_neg p_k]); (first | rw [if_pos p_f] | rw [if_neg p_f]); (first | exact ⟨rfl, rfl⟩ | (rw [← hsN]; exact ⟨rfl, rfl⟩)))
  · have p_k := z00 inferInstance e_r_1 c_2
    refine lv_aload_n hx hb dX6_nudge_9 rfl (lv_at hl 0 rfl) ?_
    refine lv_ldc2 hx hb hown (hts (.constantLong RX6 36 (1099511627776)) (by decide +kernel)) dX6_nudge_10 ?_
    refine zCl w (va_runV (As := [.long 1099511627776]) (rest := []) ⟨hx, hb, hml, hown, hts⟩ (kX6_refuse l G h zNONE zW1 H.size) (cwV 1 hts gX6_nudge_X6_refuse rfl rfl rfl (by decide +kernel) ⟨(Nat.le_of_ble_eq_true rfl), (Nat.le_of_ble_eq_true rfl)⟩) (zPV w hK (px_recv (r := (RX6, TX6, 4)) hK w mo fo rfl)) rfl rfl hl.1 rfl (lv_room (Nat.le_of_ble_eq_true rfl)) dX6_nudge_13 ⟨(Nat.le_of_ble_eq_true rfl), (Nat.le_of_ble_eq_true rfl)⟩) (fun r_13 u H locs hq w => ?_)
    obtain ⟨rfl, e_r⟩ := hq
    subst e_r
    exact zRl hx hb hr hlk w dX6_nudge_16 (Nat.le_of_ble_eq_true rfl) (Nat.le_of_ble_eq_true rfl) (by show (if _ then _ else _); (first | rw [if_pos p_k] | rw [if_neg p_k]); (first | exact ⟨rfl, rfl⟩ | (rw [← hsN]; exact ⟨rfl, rfl⟩)))
set_option maxHeartbeats 4000000 in
set_option maxRecDepth 100000 in
theorem kX6_tick (l : Launch) (G : zG) {L : List Nat} {f : Nat → va_E} {o ac aw ar : Nat} {ch : Option Nat} {car wa : Nat → Option Nat} {ta : Nat → Int32} (h : zBn G L f o ac aw ar ch car wa ta) (hct : zCT G L f car) (hwt : zWT G L f wa) (d t i ahead : Int32) (sz : Nat) : zMl l yX6_tick wsX6_tick { frames := 3, cells := 0, slots := 0, locals := 69 } G [.ref o, .int d, .int t, .int i, .int ahead] (va_pl L f) sz (fun r u => if t = 3 then zRefP G L f ar ta zNONE r u else if zPF f car d t i = 0 then (u = zPutW G L f (zS t) (zA car d t) (zSuI (zS t) (vI f (zA car d t)) (vF f (zA car d t)) i.toNatClampNeg) (zSuF (zS t) (vF f (zA car d t)) i.toNatClampNeg) ∧ r = if ahead = 0 then (zTold (zS t) (vI f (zA car d t)) (vF f (zA car d t)) i.toNatClampNeg).toInt64 else (zTold (zS t) (zSuI (zS t) (vI f (zA car d t)) (vF f (zA car d t)) i.toNatClampNeg) (zSuF (zS t) (vF f (zA car d t)) i.toNatClampNeg) i.toNatClampNeg).toInt64) else zRefP G L f ar ta (zPF f car d t i) r u) 0 0 := by
  refine zIn (Qc := fun A => va_Ql _ (zB G A) A) (cc := cX6_tick) (maxL := 9) (ret := (some .long)) (by decide) rfl (Nat.le_of_ble_eq_true rfl) ?_
  intro p e s m below meth c A ls hx hb hr hlk hml hts hown hnm hK w hl
  have hown : s.vm.findClass RX6 = some m.cls := hown
  have hl : lv_has ls 9 [(0, .ref o), (1, .int d), (2, .int t), (3, .int i), (4, .int ahead)] := hl
  obtain ⟨⟨mo, mc, mw, mr⟩, fo, fc, fw, fr⟩ := id h
  refine lv_iload_n hx hb dX6_tick_0 rfl (lv_at hl 2 rfl) ?_
  refine lv_iconst (v := 3) hx hb dX6_tick_1 (by decide) ?_
  refine lv_icmp_ne (tgt := 13) hx hb dX6_tick_2 (by decide) (fun c_1 => ?_) (fun c_1 => ?_)
  · have p_l := c_1
    refine lv_aload_n hx hb dX6_tick_13 rfl (lv_at hl 0 rfl) ?_
    refine lv_iload_n hx hb dX6_tick_14 rfl (lv_at hl 1 rfl) ?_
    refine lv_iload_n hx hb dX6_tick_15 rfl (lv_at hl 2 rfl) ?_
    refine lv_iload_n hx hb dX6_tick_16 rfl (lv_at hl 3 rfl) ?_
    refine zCl w (va_runV (As := [.int d, .int t, .int i]) (rest := []) ⟨hx, hb, hml, hown, hts⟩ (kX6_placeFault l G h hct d t i s.heap.size) (cwV 3 hts gX6_tick_X6_placeFault rfl rfl rfl (by decide +kernel) ⟨(Nat.le_of_ble_eq_true rfl), (Nat.le_of_ble_eq_true rfl)⟩) (zPV w hK (px_recv (r := (RX6, TX6, 4)) hK w mo fo rfl)) rfl rfl hl.1 rfl (lv_room (Nat.le_of_ble_eq_true rfl)) dX6_tick_17 ⟨(Nat.le_of_ble_eq_true rfl), (Nat.le_of_ble_eq_true rfl)⟩) (fun r_2 u H locs hq w => ?_)
    obtain ⟨rfl, e_r⟩ := hq
    subst e_r
    refine lv_lstore (lv' := [(5, .long (zPF f car d t i)), (0, .ref o), (1, .int d), (2, .int t), (3, .int i), (4, .int ahead)]) hx hb dX6_tick_20 hl (by decide) rfl (fun ls hl => ?_)
    refine lv_lload hx hb dX6_tick_22 (lv_at hl 0 rfl) ?_
    refine lv_lconst (v := 0) hx hb dX6_tick_24 (by decide) ?_
    refine W.lcmp hx hb dX6_tick_25 ?_
    refine lv_if_eq (tgt := 36) hx hb dX6_tick_26 (by decide) (fun c_3 => ?_) (fun c_3 => ?_)
    · have p_f := zcmp0 c_3
      obtain ⟨p_0, hh⟩ := zPF_0 p_f
      obtain ⟨hd, ht, hca⟩ := zRF_0 p_0
      have hA := zCT_at hct p_0
      obtain ⟨sN, hsN⟩ : ∃ sN, sN = zS t := ⟨_, rfl⟩
      rw [← hsN] at hA
      have hs : sN = 0 ∨ sN = 1 ∨ sN = 2 ∨ sN = 3 := by rw [hsN]; exact zS_or ht
      unfold zRA at hA
      have hi := zin40 hh hA.2.2.2.2.1
      refine lv_aload_n hx hb dX6_tick_36 rfl (lv_at hl 1 rfl) ?_
      refine lv_iload_n hx hb dX6_tick_37 rfl (lv_at hl 2 rfl) ?_
      refine lv_iload_n hx hb dX6_tick_38 rfl (lv_at hl 3 rfl) ?_
      refine zCq w (va_runV (As := [.int d, .int t]) (rest := []) ⟨hx, hb, hml, hown, hts⟩ (kX6_reelOn l G h d t hd ht H.size) (cwV 2 hts gX6_tick_X6_reelOn rfl rfl rfl (by decide +kernel) ⟨(Nat.le_of_ble_eq_true rfl), (Nat.le_of_ble_eq_true rfl)⟩) (zPV w hK (px_recv (r := (RX6, TX6, 4)) hK w mo fo rfl)) rfl rfl hl.1 rfl (lv_room (Nat.le_of_ble_eq_true rfl)) dX6_tick_39 ⟨(Nat.le_of_ble_eq_true rfl), (Nat.le_of_ble_eq_true rfl)⟩) (fun r_4 u H locs hq w => ?_)
      obtain ⟨rfl, e_r⟩ := hq
      subst e_r
      rw [hca]
      refine lv_astore (lv' := [(7, .ref (zA car d t)), (5, .long (zPF f car d t i)), (0, .ref o), (1, .int d), (2, .int t), (3, .int i), (4, .int ahead)]) hx hb dX6_tick_42 hl (by decide) rfl (fun ls hl => ?_)
      refine lv_aload hx hb dX6_tick_44 (lv_at hl 0 rfl) ?_
      refine lv_iload_n hx hb dX6_tick_46 rfl (lv_at hl 5 rfl) ?_
      refine zCi (post := fun r u => u = va_pl L f ∧ r = zTold sN (vI f (zA car d t)) (vF f (zA car d t)) i.toNatClampNeg) (mc := 0) (ms := 0) (rest := []) (av := (Value.ref (zA car d t) :: [.int i]).toArray) w (by
          rcases hs with rfl | rfl | rfl | rfl
          · exact va_runU (As := [.int i]) (rest := []) ⟨hx, hb, hml, hown, hts⟩ (kX2_told l G hA i hi H.size) (va_cwA 1 hts gX6_tick_X2_told_u73X2 rfl rfl rfl hK.2.1.2.1 (by decide +kernel) ⟨(Nat.le_of_ble_eq_true rfl), (Nat.le_of_ble_eq_true rfl)⟩) (zPV w hK (px_recv (ci := 2) (fs := [.ref (vB f (zA car d t))]) (r := (RX2, TX2, 1)) hK w (hA.1) (hA.2.2.1) rfl)) rfl rfl hl.1 rfl (lv_room (Nat.le_of_ble_eq_true rfl)) dX6_tick_47 ⟨(Nat.le_of_ble_eq_true rfl), (Nat.le_of_ble_eq_true rfl)⟩
          · exact va_runU (As := [.int i]) (rest := []) ⟨hx, hb, hml, hown, hts⟩ (kX5_told l G hA i hi H.size) (va_cwA 1 hts gX6_tick_X5_told_u73X5 rfl rfl rfl hK.2.1.2.1 (by decide +kernel) ⟨(Nat.le_of_ble_eq_true rfl), (Nat.le_of_ble_eq_true rfl)⟩) (zPV w hK (px_recv (ci := 4) (fs := [.ref (vB f (zA car d t))]) (r := (RX5, TX5, 1)) hK w (hA.1) (hA.2.2.1) rfl)) rfl rfl hl.1 rfl (lv_room (Nat.le_of_ble_eq_true rfl)) dX6_tick_47 ⟨(Nat.le_of_ble_eq_true rfl), (Nat.le_of_ble_eq_true rfl)⟩
          · exact va_runU (As := [.int i]) (rest := []) ⟨hx, hb, hml, hown, hts⟩ (kX0_told l G hA i hi H.size) (va_cwA 1 hts gX6_tick_X0_told_u73X0 rfl rfl rfl hK.2.1.2.1 (by decide +kernel) ⟨(Nat.le_of_ble_eq_true rfl), (Nat.le_of_ble_eq_true rfl)⟩) (zPV w hK (px_recv (ci := 0) (fs := [.ref (vB f (zA car d t))]) (r := (RX0, TX0, 1)) hK w (hA.1) (hA.2.2.1) rfl)) rfl rfl hl.1 rfl (lv_room (Nat.le_of_ble_eq_true rfl)) dX6_tick_47 ⟨(Nat.le_of_ble_eq_true rfl), (Nat.le_of_ble_eq_true rfl)⟩
          · exact va_runU (As := [.int i]) (rest := []) ⟨hx, hb, hml, hown, hts⟩ (kX1_told l G hA i hi H.size) (va_cwA 1 hts gX6_tick_X1_told_u73X1 rfl rfl rfl hK.2.1.2.1 (by decide +kernel) ⟨(Nat.le_of_ble_eq_true rfl), (Nat.le_of_ble_eq_true rfl)⟩) (zPV w hK (px_recv (ci := 1) (fs := [.ref (vB f (zA car d t))]) (r := (RX1, TX1, 1)) hK w (hA.1) (hA.2.2.1) rfl)) rfl rfl hl.1 rfl (lv_room (Nat.le_of_ble_eq_true rfl)) dX6_tick_47 ⟨(Nat.le_of_ble_eq_true rfl), (Nat.le_of_ble_eq_true rfl)⟩) (fun r_5 u H locs hq w => ?_)
      obtain ⟨rfl, e_r⟩ := hq
      subst e_r
      refine lv_istore (lv' := [(8, .int (zTold sN (vI f (zA car d t)) (vF f (zA car d t)) i.toNatClampNeg)), (7, .ref (zA car d t)), (5, .long (zPF f car d t i)), (0, .ref o), (1, .int d), (2, .int t), (3, .int i), (4, .int ahead)]) hx hb dX6_tick_50 hl (by decide) rfl (fun ls hl => ?_)
      refine lv_aload hx hb dX6_tick_52 (lv_at hl 1 rfl) ?_
      refine lv_iload_n hx hb dX6_tick_54 rfl (lv_at hl 6 rfl) ?_
      refine zCv (post := fun u => u = zPutW G L f sN (zA car d t) (zSuI sN (vI f (zA car d t)) (vF f (zA car d t)) i.toNatClampNeg) (zSuF sN (vF f (zA car d t)) i.toNatClampNeg)) (mc := 0) (ms := 0) (rest := []) (av := (Value.ref (zA car d t) :: [.int i]).toArray) w (by
          rcases hs with rfl | rfl | rfl | rfl
          · exact va_runU (As := [.int i]) (rest := []) ⟨hx, hb, hml, hown, hts⟩ (kX3_stepUp l G (by omega) hA i hi H.size) (va_cwU 1 hts gX6_tick_X3_stepUp_u91X2 rfl rfl rfl rfl (by decide +kernel) ⟨(Nat.le_of_ble_eq_true rfl), (Nat.le_of_ble_eq_true rfl)⟩) (zPV w hK (px_recv (ci := 2) (fs := [.ref (vB f (zA car d t))]) (r := (RX2, TX2, 1)) hK w (hA.1) (hA.2.2.1) rfl)) rfl rfl hl.1 rfl (lv_room (Nat.le_of_ble_eq_true rfl)) dX6_tick_55 ⟨(Nat.le_of_ble_eq_true rfl), (Nat.le_of_ble_eq_true rfl)⟩
          · exact va_runU (As := [.int i]) (rest := []) ⟨hx, hb, hml, hown, hts⟩ (kX3_stepUp l G (by omega) hA i hi H.size) (va_cwU 1 hts gX6_tick_X3_stepUp_u91X5 rfl rfl rfl rfl (by decide +kernel) ⟨(Nat.le_of_ble_eq_true rfl), (Nat.le_of_ble_eq_true rfl)⟩) (zPV w hK (px_recv (ci := 4) (fs := [.ref (vB f (zA car d t))]) (r := (RX5, TX5, 1)) hK w (hA.1) (hA.2.2.1) rfl)) rfl rfl hl.1 rfl (lv_room (Nat.le_of_ble_eq_true rfl)) dX6_tick_55 ⟨(Nat.le_of_ble_eq_true rfl), (Nat.le_of_ble_eq_true rfl)⟩
          · exact va_runU (As := [.int i]) (rest := []) ⟨hx, hb, hml, hown, hts⟩ (kX0_stepUp l G hA i hi H.size) (va_cwO 1 hts gX6_tick_X0_stepUp_u91X0 rfl rfl rfl (b0 := cX3_stepUp) (m0 := 2) (r0 := none) (by decide +kernel) (by decide +kernel) ⟨(Nat.le_of_ble_eq_true rfl), (Nat.le_of_ble_eq_true rfl)⟩) (zPV w hK (px_recv (ci := 0) (fs := [.ref (vB f (zA car d t))]) (r := (RX0, TX0, 1)) hK w (hA.1) (hA.2.2.1) rfl)) rfl rfl hl.1 rfl (lv_room (Nat.le_of_ble_eq_true rfl)) dX6_tick_55 ⟨(Nat.le_of_ble_eq_true rfl), (Nat.le_of_ble_eq_true rfl)⟩
          · exact va_runU (As := [.int i]) (rest := []) ⟨hx, hb, hml, hown, hts⟩ (kX3_stepUp l G (by omega) hA i hi H.size) (va_cwU 1 hts gX6_tick_X3_stepUp_u91X1 rfl rfl rfl rfl (by decide +kernel) ⟨(Nat.le_of_ble_eq_true rfl), (Nat.le_of_ble_eq_true rfl)⟩) (zPV w hK (px_recv (ci := 1) (fs := [.ref (vB f (zA car d t))]) (r := (RX1, TX1, 1)) hK w (hA.1) (hA.2.2.1) rfl)) rfl rfl hl.1 rfl (lv_room (Nat.le_of_ble_eq_true rfl)) dX6_tick_55 ⟨(Nat.le_of_ble_eq_true rfl), (Nat.le_of_ble_eq_true rfl)⟩) (fun u H locs hq w => ?_)
      subst hq
      have hA2 := zRe_up (gi2 := zSuI sN (vI f (zA car d t)) (vF f (zA car d t)) i.toNatClampNeg) (gf2 := zSuF sN (vF f (zA car d t)) i.toNatClampNeg) hA (zSuF_fin hA (zin_lt hi))
      refine lv_iload hx hb dX6_tick_58 (lv_at hl 7 rfl) ?_
      refine lv_if_eq (tgt := 73) hx hb dX6_tick_60 (by decide) (fun c_6 => ?_) (fun c_6 => ?_)
      · have p_a := c_6
        refine lv_iload hx hb dX6_tick_73 (lv_at hl 0 rfl) ?_
        refine lv_i2l hx hb dX6_tick_75 rfl ?_
        exact zRl hx hb hr hlk w dX6_tick_76 (Nat.le_of_ble_eq_true rfl) (Nat.le_of_ble_eq_true rfl) (by show (if _ then _ else _); (first | rw [if_pos p_l] | rw [if_neg p_l]); (first | rw [if_pos p_f] | rw [if_neg p_f]); (first | exact ⟨rfl, rfl⟩ | (rw [← hsN]; exact ⟨rfl, by (first | rw [if_pos p_a] | rw [if_neg p_a])⟩)))
      · have p_a := c_6
        refine lv_aload hx hb dX6_tick_63 (lv_at hl 1 rfl) ?_
        refine lv_iload_n hx hb dX6_tick_65 rfl (lv_at hl 6 rfl) ?_
        refine zCi (post := fun r u => u = zPutW G L f sN (zA car d t) (zSuI sN (vI f (zA car d t)) (vF f (zA car d t)) i.toNatClampNeg) (zSuF sN (vF f (zA car d t)) i.toNatClampNeg) ∧ r = zTold sN (zSuI sN (vI f (zA car d t)) (vF f (zA car d t)) i.toNatClampNeg) (zSuF sN (vF f (zA car d t)) i.toNatClampNeg) i.toNatClampNeg) (mc := 0) (ms := 0) (rest := []) (av := (Value.ref (zA car d t) :: [.int i]).toArray) w (by
            rcases hs with rfl | rfl | rfl | rfl
            · exact va_runU (As := [.int i]) (rest := []) ⟨hx, hb, hml, hown, hts⟩ (kX2_told l G hA2 i hi H.size) (va_cwA 1 hts gX6_tick_X2_told_u73X2 rfl rfl rfl hK.2.1.2.1 (by decide +kernel) ⟨(Nat.le_of_ble_eq_true rfl), (Nat.le_of_ble_eq_true rfl)⟩) (zPV w hK (px_recv (ci := 2) (fs := [.ref (vB f (zA car d t))]) (r := (RX2, TX2, 1)) hK w (hA2.1) (hA2.2.2.1) rfl)) rfl rfl hl.1 rfl (lv_room (Nat.le_of_ble_eq_true rfl)) dX6_tick_66 ⟨(Nat.le_of_ble_eq_true rfl), (Nat.le_of_ble_eq_true rfl)⟩
            · exact va_runU (As := [.int i]) (rest := []) ⟨hx, hb, hml, hown, hts⟩ (kX5_told l G hA2 i hi H.size) (va_cwA 1 hts gX6_tick_X5_told_u73X5 rfl rfl rfl hK.2.1.2.1 (by decide +kernel) ⟨(Nat.le_of_ble_eq_true rfl), (Nat.le_of_ble_eq_true rfl)⟩) (zPV w hK (px_recv (ci := 4) (fs := [.ref (vB f (zA car d t))]) (r := (RX5, TX5, 1)) hK w (hA2.1) (hA2.2.2.1) rfl)) rfl rfl hl.1 rfl (lv_room (Nat.le_of_ble_eq_true rfl)) dX6_tick_66 ⟨(Nat.le_of_ble_eq_true rfl), (Nat.le_of_ble_eq_true rfl)⟩
            · exact va_runU (As := [.int i]) (rest := []) ⟨hx, hb, hml, hown, hts⟩ (kX0_told l G hA2 i hi H.size) (va_cwA 1 hts gX6_tick_X0_told_u73X0 rfl rfl rfl hK.2.1.2.1 (by decide +kernel) ⟨(Nat.le_of_ble_eq_true rfl), (Nat.le_of_ble_eq_true rfl)⟩) (zPV w hK (px_recv (ci := 0) (fs := [.ref (vB f (zA car d t))]) (r := (RX0, TX0, 1)) hK w (hA2.1) (hA2.2.2.1) rfl)) rfl rfl hl.1 rfl (lv_room (Nat.le_of_ble_eq_true rfl)) dX6_tick_66 ⟨(Nat.le_of_ble_eq_true rfl), (Nat.le_of_ble_eq_true rfl)⟩
            · exact va_runU (As := [.int i]) (rest := []) ⟨hx, hb, hml, hown, hts⟩ (kX1_told l G hA2 i hi H.size) (va_cwA 1 hts gX6_tick_X1_told_u73X1 rfl rfl rfl hK.2.1.2.1 (by decide +kernel) ⟨(Nat.le_of_ble_eq_true rfl), (Nat.le_of_ble_eq_true rfl)⟩) (zPV w hK (px_recv (ci := 1) (fs := [.ref (vB f (zA car d t))]) (r := (RX1, TX1, 1)) hK w (hA2.1) (hA2.2.2.1) rfl)) rfl rfl hl.1 rfl (lv_room (Nat.le_of_ble_eq_true rfl)) dX6_tick_66 ⟨(Nat.le_of_ble_eq_true rfl), (Nat.le_of_ble_eq_true rfl)⟩) (fun r_7 u H locs hq w => ?_)
        obtain ⟨rfl, e_r⟩ := hq
        subst e_r
        refine lv_i2l hx hb dX6_tick_69 rfl ?_
        refine lv_goto (tgt := 76) hx hb dX6_tick_70 (by decide) ?_
        exact zRl hx hb hr hlk w dX6_tick_76 (Nat.le_of_ble_eq_true rfl) (Nat.le_of_ble_eq_true rfl) (by show (if _ then _ else _); (first | rw [if_pos p_l] | rw [if_neg p_l]); (first | rw [if_pos p_f] | rw [if_neg p_f]); (first | exact ⟨rfl, rfl⟩ | (rw [← hsN]; exact ⟨rfl, by (first | rw [if_pos p_a] | rw [if_neg p_a])⟩)))
    · have p_f := zcmp1 c_3
      refine lv_aload_n hx hb dX6_tick_29 rfl (lv_at hl 1 rfl) ?_
      refine lv_lload hx hb dX6_tick_30 (lv_at hl 0 rfl) ?_
      refine zCl w (va_runV (As := [.long (zPF f car d t i)]) (rest := []) ⟨hx, hb, hml, hown, hts⟩ (kX6_refuse l G h (zPF f car d t i) (zPF_why p_f) H.size) (cwV 1 hts gX6_tick_X6_refuse rfl rfl rfl (by decide +kernel) ⟨(Nat.le_of_ble_eq_true rfl), (Nat.le_of_ble_eq_true rfl)⟩) (zPV w hK (px_recv (r := (RX6, TX6, 4)) hK w mo fo rfl)) rfl rfl hl.1 rfl (lv_room (Nat.le_of_ble_eq_true rfl)) dX6_tick_32 ⟨(Nat.le_of_ble_eq_true rfl), (Nat.le_of_ble_eq_true rfl)⟩) (fun r_8 u H locs hq w => ?_)
      obtain ⟨rfl, e_r⟩ := hq
      subst e_r
      exact zRl hx hb hr hlk w dX6_tick_35 (Nat.le_of_ble_eq_true rfl) (Nat.le_of_ble_eq_true rfl) (by show (if _ then _ else _); (first | rw [if_pos p_l] | rw [if_neg p_l]); (first | rw [if_pos p_f] | rw [if_neg p_f]); (first | exact ⟨rfl, rfl⟩ | (rw [← hsN]; exact ⟨rfl, by skip⟩)))
  · have p_l := c_1
    refine lv_aload_n hx hb dX6_tick_5 rfl (lv_at hl 0 rfl) ?_
    refine lv_ldc2 hx hb hown (hts (.constantLong RX6 36 (1099511627776)) (by decide +kernel)) dX6_tick_6 ?_
    refine zCl w (va_runV (As := [.long 1099511627776]) (rest := []) ⟨hx, hb, hml, hown, hts⟩ (kX6_refuse l G h zNONE zW1 s.heap.size) (cwV 1 hts gX6_tick_X6_refuse rfl rfl rfl (by decide +kernel) ⟨(Nat.le_of_ble_eq_true rfl), (Nat.le_of_ble_eq_true rfl)⟩) (zPV w hK (px_recv (r := (RX6, TX6, 4)) hK w mo fo rfl)) rfl rfl hl.1 rfl (lv_room (Nat.le_of_ble_eq_true rfl)) dX6_tick_9 ⟨(Nat.le_of_ble_eq_true rfl), (Nat.le_of_ble_eq_true rfl)⟩) (fun r_9 u H locs hq w => ?_)
    obtain ⟨rfl, e_r⟩ := hq
    subst e_r
    exact zRl hx hb hr hlk w dX6_tick_12 (Nat.le_of_ble_eq_true rfl) (Nat.le_of_ble_eq_true rfl) (by show (if _ then _ else _); (first | rw [if_pos p_l] | rw [if_neg p_l]); (first | exact ⟨rfl, rfl⟩ | (rw [← hsN]; exact ⟨rfl, by skip⟩)))
end
section
/-! ===== the chart, the tally, blending ===== -/
abbrev zHas2 (n : Nat) (y : Int32) : Prop := ¬ y < 0 ∧ y < nI n
theorem zHas2_in {n : Nat} {y : Int32} (h : zHas2 n y) (hn : n < 2 ^ 31) : vp_in y n := by
  refine zHas_in ⟨h.1, fun q => ?_⟩ hn
  have h2 := h.2
  rw [Int32.le_iff_toInt_le] at q
  rw [Int32.lt_iff_toInt_lt] at h2
  omega
/-- a chart at q: rows of m ints -/
def zHA (G : zG) (L : List Nat) (f : Nat → va_E) (q m : Nat) : Prop :=
  q ∈ L ∧ f q = .inl (G.2 7, eN (f q), zQ (eQ (f q))) ∧ eN (f q) ≤ 12 ∧ m ≤ 12 ∧ ∀ i, i < eN (f q) → ∃ b, eQ (f q) i = some b ∧ b ∈ L ∧ f b = .inl (G.2 4, m, .inl (eI (f b)))
def zHT (G : zG) (L : List Nat) (f : Nat → va_E) (ch : Option Nat) (m : Nat) : Prop := ∀ q, ch = some q → zHA G L f q m
abbrev zHb (f : Nat → va_E) (q : Nat) (y : Int32) : Nat := (eQ (f q) y.toNatClampNeg).getD 0
theorem zHA_row {G : zG} {L : List Nat} {f : Nat → va_E} {q m : Nat} {y : Int32} (h : zHA G L f q m) (hy : vp_in y (eN (f q))) : eQ (f q) y.toNatClampNeg = some (zHb f q y) ∧ zHb f q y ∈ L ∧ f (zHb f q y) = .inl (G.2 4, m, .inl (eI (f (zHb f q y)))) := by
  obtain ⟨b, h1, h2, h3⟩ := h.2.2.2.2 _ (zin_lt hy)
  have e : zHb f q y = b := by unfold zHb; rw [h1]; rfl
  rw [e]
  exact ⟨h1, h2, h3⟩
theorem zS_ne2 {t : Int32} (ht : zFour t) (h : ¬ t = 2) : ¬ zS t = 2 := by
  obtain ⟨b, hb, eb⟩ := zFour_of ht
  unfold zS
  rw [eb, nI_clamp (by omega)]
  intro q
  apply h
  rw [eb, q]
  rfl
theorem zS_3 {s : Nat} (hs : s = 0 ∨ s = 1 ∨ s = 2 ∨ s = 3) (h : ¬ s = 2) : s = 0 ∨ s = 1 ∨ s = 3 := by omega
theorem zbl_dv {t less x : Int32} : ¬ ((if t = 3 then (6 : Int32) else if less = 0 then 0 else 1) = 3 ∧ x = 0) := by
  rintro ⟨h, -⟩
  split at h
  · exact absurd h (by decide)
  · split at h
    · exact absurd h (by decide)
    · exact absurd h (by decide)
abbrev zBv (less : Int32) (x v : UInt32) : UInt32 := if less = 0 then FP.fadd x v else FP.fsub x v
theorem zBv_n {less : Int32} {x v : UInt32} (h1 : zFin x) (h2 : zFin v) : vf_n32 (zBv less x v) := by
  unfold zBv
  split
  · exact zadd h1 h2
  · exact zsub h1 h2
abbrev zHow (t less : Int32) : Int32 := if t = 3 then 6 else if less = 0 then 0 else 1
section ZARR
variable {p : Program} {l : Launch} {e : Env} {R : Room} {s : State} {m : MethodId} {args : Array Value} {below : List Frame} {meth : Method} {c : Code} {H : Heap} {locs : List Loc} {cells slots mc ms : Nat} {Q : State → Prop} {cc : ByteArray} {pc : Nat} {ls : Array Slot} {rest st0 : List Value} {G : zG} {A : Nat → Prop} {L : List Nat} {f : Nat → va_E} {a : Nat}
theorem px_aldA (hx : p.tables.exec = Jvm.exec) (hb : c.code = cc) (hK : zK G s) (w : zW G A s H locs (va_pl L f)) (ha : a ∈ L) {n : Nat} {g : Nat → Option Nat} (hf : f a = .inl (G.2 7, n, .inr (.inr (.inr (.inr g))))) {i : Int32} (hi : vp_in i n) (hdg : decode cc pc = .ok (.aaload, 1))
    (kk : W p l e R s m args below meth c H locs cells slots Q (F0 m (pc + 1) ls (va_rf (g i.toNatClampNeg) :: rest))) : W p l e R s m args below meth c H locs cells slots Q (F0 m pc ls (.int i :: .ref a :: rest)) := by
  obtain ⟨k, hk⟩ := pgIx (f := f) ha
  rw [hf] at hk
  have hlt : i.toNatClampNeg < n := zin_lt hi
  exact W.aald (v := va_rf (g i.toNatClampNeg)) (ty := .array .int) hx hb (w.1 k _ hk) ((hK.1.2 7 _ rfl).1 n (fun j => va_rf (g j))) rfl (fun q => by cases q) (by show ¬ (i < 0 ∨ (arrV _ _ _).slots.size ≤ _); rw [arrV_size]; exact hi) (by show (arrV _ _ _).slots[_]? = _; rw [arrV_read _ _ hlt]) rfl rfl hdg kk
end ZARR
end
section
theorem zCT_q {G : zG} {L : List Nat} {f : Nat → va_E} {car : Nat → Option Nat} {d t : Int32} {v : Nat} (h : zCT G L f car) (hd : zFour d) (ht : zFour t) (hc : car (zix d t) = some v) : zRA G L f (zS t) v := by
  obtain ⟨a, b, ha, hb, -, -, e1, e2⟩ := zix_of hd ht
  rw [e2]
  rw [e1] at hc
  have := h (a * 4 + b) (by omega) _ hc
  rw [show (a * 4 + b) % 4 = b by omega] at this
  exact this
theorem zta_in {what : Int32} (h1 : ¬ what < 1) (h2 : ¬ 7 < what) : vp_in what 8 := by
  rw [vp_in_iff]
  rw [Int32.lt_iff_toInt_lt] at h1 h2
  have e1 : (1 : Int32).toInt = 1 := by decide
  have e2 : (7 : Int32).toInt = 7 := by decide
  omega
set_option maxHeartbeats 4000000 in
set_option maxRecDepth 100000 in
theorem kX6_share (l : Launch) (G : zG) {L : List Nat} {f : Nat → va_E} {o ac aw ar : Nat} {ch : Option Nat} {car wa : Nat → Option Nat} {ta : Nat → Int32} (h : zBn G L f o ac aw ar ch car wa ta) (hct : zCT G L f car) (hwt : zWT G L f wa) (d e2 t : Int32) (sz : Nat) : zMl l yX6_share wsX6_share { frames := 1, cells := 0, slots := 0, locals := 23 } G [.ref o, .int d, .int e2, .int t] (va_pl L f) sz (fun r u => if zFour d ∧ zFour e2 ∧ zFour t then (u = zCarW G L f ac (va_up car (zix e2 t) (car (zix d t))) ∧ r = if (car (zix d t)) = none then 0 else 1) else zRefP G L f ar ta zNONE r u) 0 0 := by
  refine zIn (Qc := fun A => va_Ql _ (zB G A) A) (cc := cX6_share) (maxL := 5) (ret := (some .long)) (by decide) rfl (Nat.le_of_ble_eq_true rfl) ?_
  intro p e s m below meth c A ls hx hb hr hlk hml hts hown hnm hK w hl
  have hown : s.vm.findClass RX6 = some m.cls := hown
  have hl : lv_has ls 5 [(0, .ref o), (1, .int d), (2, .int e2), (3, .int t)] := hl
  obtain ⟨⟨mo, mc, mw, mr⟩, fo, fc, fw, fr⟩ := id h
  refine lv_iload_n hx hb dX6_share_0 rfl (lv_at hl 1 rfl) ?_
  refine zCi w (va_runS (As := [.int d]) (rest := []) ⟨hx, hb, hml, hown, hts⟩ (kX6_isDeck l G _ d s.heap.size) (va_cwS 1 hts gX6_share_X6_isDeck rfl rfl rfl (by decide +kernel) ⟨(Nat.le_of_ble_eq_true rfl), (Nat.le_of_ble_eq_true rfl)⟩) (zPS w hK) rfl rfl hl.1 rfl (lv_room (Nat.le_of_ble_eq_true rfl)) dX6_share_1 ⟨(Nat.le_of_ble_eq_true rfl), (Nat.le_of_ble_eq_true rfl)⟩) (fun r_1 u H locs hq w => ?_)
  obtain ⟨rfl, e_r_1⟩ := hq
  refine lv_if_eq (tgt := 21) hx hb dX6_share_4 (by decide) (fun c_2 => ?_) (fun c_2 => ?_)
  · have p_d := z00 inferInstance e_r_1 c_2
    refine lv_aload_n hx hb dX6_share_21 rfl (lv_at hl 0 rfl) ?_
    refine lv_ldc2 hx hb hown (hts (.constantLong RX6 36 (1099511627776)) (by decide +kernel)) dX6_share_22 ?_
    refine zCl w (va_runV (As := [.long 1099511627776]) (rest := []) ⟨hx, hb, hml, hown, hts⟩ (kX6_refuse l G h zNONE zW1 H.size) (cwV 1 hts gX6_share_X6_refuse rfl rfl rfl (by decide +kernel) ⟨(Nat.le_of_ble_eq_true rfl), (Nat.le_of_ble_eq_true rfl)⟩) (zPV w hK (px_recv (r := (RX6, TX6, 4)) hK w mo fo rfl)) rfl rfl hl.1 rfl (lv_room (Nat.le_of_ble_eq_true rfl)) dX6_share_25 ⟨(Nat.le_of_ble_eq_true rfl), (Nat.le_of_ble_eq_true rfl)⟩) (fun r_3 u H locs hq w => ?_)
    obtain ⟨rfl, e_r⟩ := hq
    subst e_r
    exact zRl hx hb hr hlk w dX6_share_28 (Nat.le_of_ble_eq_true rfl) (Nat.le_of_ble_eq_true rfl) (by show (if _ then _ else _); first | (rw [if_pos ⟨p_d, p_e, p_t⟩]; exact ⟨rfl, rfl⟩) | (rw [if_neg (by intro q; simp_all)]; exact ⟨rfl, rfl⟩))
  · have p_d := z01 inferInstance e_r_1 c_2
    refine lv_iload_n hx hb dX6_share_7 rfl (lv_at hl 2 rfl) ?_
    refine zCi w (va_runS (As := [.int e2]) (rest := []) ⟨hx, hb, hml, hown, hts⟩ (kX6_isDeck l G _ e2 H.size) (va_cwS 1 hts gX6_share_X6_isDeck rfl rfl rfl (by decide +kernel) ⟨(Nat.le_of_ble_eq_true rfl), (Nat.le_of_ble_eq_true rfl)⟩) (zPS w hK) rfl rfl hl.1 rfl (lv_room (Nat.le_of_ble_eq_true rfl)) dX6_share_8 ⟨(Nat.le_of_ble_eq_true rfl), (Nat.le_of_ble_eq_true rfl)⟩) (fun r_4 u H locs hq w => ?_)
    obtain ⟨rfl, e_r_4⟩ := hq
    refine lv_if_eq (tgt := 21) hx hb dX6_share_11 (by decide) (fun c_5 => ?_) (fun c_5 => ?_)
    · have p_e := z00 inferInstance e_r_4 c_5
      refine lv_aload_n hx hb dX6_share_21 rfl (lv_at hl 0 rfl) ?_
      refine lv_ldc2 hx hb hown (hts (.constantLong RX6 36 (1099511627776)) (by decide +kernel)) dX6_share_22 ?_
      refine zCl w (va_runV (As := [.long 1099511627776]) (rest := []) ⟨hx, hb, hml, hown, hts⟩ (kX6_refuse l G h zNONE zW1 H.size) (cwV 1 hts gX6_share_X6_refuse rfl rfl rfl (by decide +kernel) ⟨(Nat.le_of_ble_eq_true rfl), (Nat.le_of_ble_eq_true rfl)⟩) (zPV w hK (px_recv (r := (RX6, TX6, 4)) hK w mo fo rfl)) rfl rfl hl.1 rfl (lv_room (Nat.le_of_ble_eq_true rfl)) dX6_share_25 ⟨(Nat.le_of_ble_eq_true rfl), (Nat.le_of_ble_eq_true rfl)⟩) (fun r_6 u H locs hq w => ?_)
      obtain ⟨rfl, e_r⟩ := hq
      subst e_r
      exact zRl hx hb hr hlk w dX6_share_28 (Nat.le_of_ble_eq_true rfl) (Nat.le_of_ble_eq_true rfl) (by show (if _ then _ else _); first | (rw [if_pos ⟨p_d, p_e, p_t⟩]; exact ⟨rfl, rfl⟩) | (rw [if_neg (by intro q; simp_all)]; exact ⟨rfl, rfl⟩))
    · have p_e := z01 inferInstance e_r_4 c_5
      refine lv_iload_n hx hb dX6_share_14 rfl (lv_at hl 3 rfl) ?_
      refine zCi w (va_runS (As := [.int t]) (rest := []) ⟨hx, hb, hml, hown, hts⟩ (kX6_isSort l G _ t H.size) (va_cwS 1 hts gX6_share_X6_isSort rfl rfl rfl (by decide +kernel) ⟨(Nat.le_of_ble_eq_true rfl), (Nat.le_of_ble_eq_true rfl)⟩) (zPS w hK) rfl rfl hl.1 rfl (lv_room (Nat.le_of_ble_eq_true rfl)) dX6_share_15 ⟨(Nat.le_of_ble_eq_true rfl), (Nat.le_of_ble_eq_true rfl)⟩) (fun r_7 u H locs hq w => ?_)
      obtain ⟨rfl, e_r_7⟩ := hq
      refine lv_if_ne (tgt := 29) hx hb dX6_share_18 (by decide) (fun c_8 => ?_) (fun c_8 => ?_)
      · have p_t := z01 inferInstance e_r_7 c_8
        refine lv_aload_n hx hb dX6_share_29 rfl (lv_at hl 0 rfl) ?_
        refine lv_iload_n hx hb dX6_share_30 rfl (lv_at hl 1 rfl) ?_
        refine lv_iload_n hx hb dX6_share_31 rfl (lv_at hl 3 rfl) ?_
        refine zCq w (va_runV (As := [.int d, .int t]) (rest := []) ⟨hx, hb, hml, hown, hts⟩ (kX6_reelOn l G h d t p_d p_t H.size) (cwV 2 hts gX6_share_X6_reelOn rfl rfl rfl (by decide +kernel) ⟨(Nat.le_of_ble_eq_true rfl), (Nat.le_of_ble_eq_true rfl)⟩) (zPV w hK (px_recv (r := (RX6, TX6, 4)) hK w mo fo rfl)) rfl rfl hl.1 rfl (lv_room (Nat.le_of_ble_eq_true rfl)) dX6_share_32 ⟨(Nat.le_of_ble_eq_true rfl), (Nat.le_of_ble_eq_true rfl)⟩) (fun r_9 u H locs hq w => ?_)
        obtain ⟨rfl, e_r⟩ := hq
        subst e_r
        refine z_astoreQ (lv' := [(4, va_rf (car (zix d t))), (0, .ref o), (1, .int d), (2, .int e2), (3, .int t)]) hx hb dX6_share_35 hl (by decide) rfl (fun ls hl => ?_)
        refine lv_aload_n hx hb dX6_share_37 rfl (lv_at hl 1 rfl) ?_
        refine lv_iload_n hx hb dX6_share_38 rfl (lv_at hl 3 rfl) ?_
        refine lv_iload_n hx hb dX6_share_39 rfl (lv_at hl 4 rfl) ?_
        refine z_aloadQ hx hb dX6_share_40 (lv_at hl 0 rfl) ?_
        refine zCv w (va_runV (As := [.int e2, .int t, va_rf (car (zix d t))]) (rest := []) ⟨hx, hb, hml, hown, hts⟩ (kX6_carry l G h e2 t (car (zix d t)) p_e p_t (fun v q => ⟨_, zCT_q hct p_d p_t q⟩) H.size) (cwV 3 hts gX6_share_X6_carry rfl rfl rfl (by decide +kernel) ⟨(Nat.le_of_ble_eq_true rfl), (Nat.le_of_ble_eq_true rfl)⟩) (zPV w hK (px_recv (r := (RX6, TX6, 4)) hK w mo fo rfl)) rfl rfl hl.1 rfl (lv_room (Nat.le_of_ble_eq_true rfl)) dX6_share_42 ⟨(Nat.le_of_ble_eq_true rfl), (Nat.le_of_ble_eq_true rfl)⟩) (fun u H locs hq w => ?_)
        subst hq
        refine z_aloadQ hx hb dX6_share_45 (lv_at hl 0 rfl) ?_
        refine zCl w (va_runS (As := [va_rf (car (zix d t))]) (rest := []) ⟨hx, hb, hml, hown, hts⟩ (kX6_oneIfThere l G _ (car (zix d t)) H.size) (va_cwS 1 hts gX6_share_X6_oneIfThere rfl rfl rfl (by decide +kernel) ⟨(Nat.le_of_ble_eq_true rfl), (Nat.le_of_ble_eq_true rfl)⟩) (zPS w hK) rfl rfl hl.1 rfl (lv_room (Nat.le_of_ble_eq_true rfl)) dX6_share_47 ⟨(Nat.le_of_ble_eq_true rfl), (Nat.le_of_ble_eq_true rfl)⟩) (fun r_10 u H locs hq w => ?_)
        obtain ⟨rfl, e_r⟩ := hq
        subst e_r
        exact zRl hx hb hr hlk w dX6_share_50 (Nat.le_of_ble_eq_true rfl) (Nat.le_of_ble_eq_true rfl) (by show (if _ then _ else _); first | (rw [if_pos ⟨p_d, p_e, p_t⟩]; exact ⟨rfl, rfl⟩) | (rw [if_neg (by intro q; simp_all)]; exact ⟨rfl, rfl⟩))
      · have p_t := z00 inferInstance e_r_7 c_8
        refine lv_aload_n hx hb dX6_share_21 rfl (lv_at hl 0 rfl) ?_
        refine lv_ldc2 hx hb hown (hts (.constantLong RX6 36 (1099511627776)) (by decide +kernel)) dX6_share_22 ?_
        refine zCl w (va_runV (As := [.long 1099511627776]) (rest := []) ⟨hx, hb, hml, hown, hts⟩ (kX6_refuse l G h zNONE zW1 H.size) (cwV 1 hts gX6_share_X6_refuse rfl rfl rfl (by decide +kernel) ⟨(Nat.le_of_ble_eq_true rfl), (Nat.le_of_ble_eq_true rfl)⟩) (zPV w hK (px_recv (r := (RX6, TX6, 4)) hK w mo fo rfl)) rfl rfl hl.1 rfl (lv_room (Nat.le_of_ble_eq_true rfl)) dX6_share_25 ⟨(Nat.le_of_ble_eq_true rfl), (Nat.le_of_ble_eq_true rfl)⟩) (fun r_11 u H locs hq w => ?_)
        obtain ⟨rfl, e_r⟩ := hq
        subst e_r
        exact zRl hx hb hr hlk w dX6_share_28 (Nat.le_of_ble_eq_true rfl) (Nat.le_of_ble_eq_true rfl) (by show (if _ then _ else _); first | (rw [if_pos ⟨p_d, p_e, p_t⟩]; exact ⟨rfl, rfl⟩) | (rw [if_neg (by intro q; simp_all)]; exact ⟨rfl, rfl⟩))
set_option maxHeartbeats 4000000 in
set_option maxRecDepth 100000 in
theorem kX6_pin (l : Launch) (G : zG) {L : List Nat} {f : Nat → va_E} {o ac aw ar : Nat} {ch : Option Nat} {car wa : Nat → Option Nat} {ta : Nat → Int32} (h : zBn G L f o ac aw ar ch car wa ta) (hct : zCT G L f car) (hwt : zWT G L f wa) (t y d : Int32) (sz : Nat) : zMl l yX6_pin wsX6_pin { frames := 3, cells := 0, slots := 0, locals := 65 } G [.ref o, .int t, .int y, .int d] (va_pl L f) sz (fun r u => if zFour d then (if zRoF f wa t y = 0 then (u = va_pl L (va_up f (vB f (zWa wa t)) (.inl (G.2 5, vN f (zWa wa t), zQ (va_up (vQ f (zWa wa t)) y.toNatClampNeg (car (zix d t)))))) ∧ r = if (car (zix d t)) = none then 0 else 1) else zRefP G L f ar ta (zRoF f wa t y) r u) else zRefP G L f ar ta zNONE r u) 0 0 := by
  refine zIn (Qc := fun A => va_Ql _ (zB G A) A) (cc := cX6_pin) (maxL := 7) (ret := (some .long)) (by decide) rfl (Nat.le_of_ble_eq_true rfl) ?_
  intro p e s m below meth c A ls hx hb hr hlk hml hts hown hnm hK w hl
  have hown : s.vm.findClass RX6 = some m.cls := hown
  have hl : lv_has ls 7 [(0, .ref o), (1, .int t), (2, .int y), (3, .int d)] := hl
  obtain ⟨⟨mo, mc, mw, mr⟩, fo, fc, fw, fr⟩ := id h
  refine lv_iload_n hx hb dX6_pin_0 rfl (lv_at hl 3 rfl) ?_
  refine zCi w (va_runS (As := [.int d]) (rest := []) ⟨hx, hb, hml, hown, hts⟩ (kX6_isDeck l G _ d s.heap.size) (va_cwS 1 hts gX6_pin_X6_isDeck rfl rfl rfl (by decide +kernel) ⟨(Nat.le_of_ble_eq_true rfl), (Nat.le_of_ble_eq_true rfl)⟩) (zPS w hK) rfl rfl hl.1 rfl (lv_room (Nat.le_of_ble_eq_true rfl)) dX6_pin_1 ⟨(Nat.le_of_ble_eq_true rfl), (Nat.le_of_ble_eq_true rfl)⟩) (fun r_1 u H locs hq w => ?_)
  obtain ⟨rfl, e_r_1⟩ := hq
  refine lv_if_ne (tgt := 15) hx hb dX6_pin_4 (by decide) (fun c_2 => ?_) (fun c_2 => ?_)
  · have p_d := z01 inferInstance e_r_1 c_2
    refine lv_aload_n hx hb dX6_pin_15 rfl (lv_at hl 0 rfl) ?_
    refine lv_iload_n hx hb dX6_pin_16 rfl (lv_at hl 1 rfl) ?_
    refine lv_iload_n hx hb dX6_pin_17 rfl (lv_at hl 2 rfl) ?_
    refine zCl w (va_runV (As := [.int t, .int y]) (rest := []) ⟨hx, hb, hml, hown, hts⟩ (kX6_rowFault l G h hwt t y H.size) (cwV 2 hts gX6_pin_X6_rowFault rfl rfl rfl (by decide +kernel) ⟨(Nat.le_of_ble_eq_true rfl), (Nat.le_of_ble_eq_true rfl)⟩) (zPV w hK (px_recv (r := (RX6, TX6, 4)) hK w mo fo rfl)) rfl rfl hl.1 rfl (lv_room (Nat.le_of_ble_eq_true rfl)) dX6_pin_18 ⟨(Nat.le_of_ble_eq_true rfl), (Nat.le_of_ble_eq_true rfl)⟩) (fun r_3 u H locs hq w => ?_)
    obtain ⟨rfl, e_r⟩ := hq
    subst e_r
    refine lv_lstore (lv' := [(4, .long (zRoF f wa t y)), (0, .ref o), (1, .int t), (2, .int y), (3, .int d)]) hx hb dX6_pin_21 hl (by decide) rfl (fun ls hl => ?_)
    refine lv_lload hx hb dX6_pin_23 (lv_at hl 0 rfl) ?_
    refine lv_lconst (v := 0) hx hb dX6_pin_25 (by decide) ?_
    refine W.lcmp hx hb dX6_pin_26 ?_
    refine lv_if_eq (tgt := 37) hx hb dX6_pin_27 (by decide) (fun c_4 => ?_) (fun c_4 => ?_)
    · have p_f := zcmp0 c_4
      obtain ⟨hf0, hy⟩ := zRoF_0 p_f
      obtain ⟨ht, hwa⟩ := zWF_0 hf0
      have hW := zWT_at hwt hf0
      have hyi := zin12 hy hW.2.2.2.2.1
      refine lv_aload_n hx hb dX6_pin_37 rfl (lv_at hl 1 rfl) ?_
      refine lv_iload_n hx hb dX6_pin_38 rfl (lv_at hl 4 rfl) ?_
      refine lv_iload_n hx hb dX6_pin_39 rfl (lv_at hl 2 rfl) ?_
      refine zCq w (va_runV (As := [.int d, .int t]) (rest := []) ⟨hx, hb, hml, hown, hts⟩ (kX6_reelOn l G h d t p_d ht H.size) (cwV 2 hts gX6_pin_X6_reelOn rfl rfl rfl (by decide +kernel) ⟨(Nat.le_of_ble_eq_true rfl), (Nat.le_of_ble_eq_true rfl)⟩) (zPV w hK (px_recv (r := (RX6, TX6, 4)) hK w mo fo rfl)) rfl rfl hl.1 rfl (lv_room (Nat.le_of_ble_eq_true rfl)) dX6_pin_40 ⟨(Nat.le_of_ble_eq_true rfl), (Nat.le_of_ble_eq_true rfl)⟩) (fun r_5 u H locs hq w => ?_)
      obtain ⟨rfl, e_r⟩ := hq
      subst e_r
      refine z_astoreQ (lv' := [(6, va_rf (car (zix d t))), (4, .long (zRoF f wa t y)), (0, .ref o), (1, .int t), (2, .int y), (3, .int d)]) hx hb dX6_pin_43 hl (by decide) rfl (fun ls hl => ?_)
      refine lv_aload_n hx hb dX6_pin_45 rfl (lv_at hl 2 rfl) ?_
      refine px_get (ci := 5) (C := RX6) (T := TX6) (N := 4) hx hb hts hown hK w mo (by decide +kernel) fo rfl 1 (by decide) (hts (.fieldLink RX6 17 "ReelBarn" "walls" "[LReelBarn$Wall;") (by decide +kernel)) (fun _ h9 => h9) rfl dX6_pin_46 ?_
      refine lv_iload_n hx hb dX6_pin_49 rfl (lv_at hl 3 rfl) ?_
      refine px_aldW hx hb hK w mw fw (zfour_in ht) dX6_pin_50 ?_
      rw [hwa]
      refine px_get (ci := 3) (C := RX4) (T := TX4) (N := 1) hx hb hts hown hK w hW.1 (by decide +kernel) hW.2.2.1 rfl 0 (by decide) (hts (.fieldLink RX6 120 "ReelBarn$Wall" "rows" "[LReelBarn$Reel;") (by decide +kernel)) (fun _ h9 => h9) rfl dX6_pin_51 ?_
      refine lv_iload_n hx hb dX6_pin_54 rfl (lv_at hl 4 rfl) ?_
      refine z_aloadQ hx hb dX6_pin_55 (lv_at hl 0 rfl) ?_
      refine px_astRQ hx hb hK w hW.2.1 hW.2.2.2.1 (fun v q => ⟨_, zCT_q hct p_d ht q⟩) hyi dX6_pin_57 (fun H locs w => ?_)
      refine z_aloadQ hx hb dX6_pin_58 (lv_at hl 0 rfl) ?_
      refine zCl w (va_runS (As := [va_rf (car (zix d t))]) (rest := []) ⟨hx, hb, hml, hown, hts⟩ (kX6_oneIfThere l G _ (car (zix d t)) H.size) (va_cwS 1 hts gX6_pin_X6_oneIfThere rfl rfl rfl (by decide +kernel) ⟨(Nat.le_of_ble_eq_true rfl), (Nat.le_of_ble_eq_true rfl)⟩) (zPS w hK) rfl rfl hl.1 rfl (lv_room (Nat.le_of_ble_eq_true rfl)) dX6_pin_60 ⟨(Nat.le_of_ble_eq_true rfl), (Nat.le_of_ble_eq_true rfl)⟩) (fun r_6 u H locs hq w => ?_)
      obtain ⟨rfl, e_r⟩ := hq
      subst e_r
      exact zRl hx hb hr hlk w dX6_pin_63 (Nat.le_of_ble_eq_true rfl) (Nat.le_of_ble_eq_true rfl) (by show (if _ then _ else _); (first | rw [if_pos p_d] | rw [if_neg p_d]); (first | rw [if_pos p_f] | rw [if_neg p_f]); (first | exact ⟨rfl, rfl⟩ | exact ⟨rfl, by rw [hsN]⟩))
    · have p_f := zcmp1 c_4
      refine lv_aload_n hx hb dX6_pin_30 rfl (lv_at hl 1 rfl) ?_
      refine lv_lload hx hb dX6_pin_31 (lv_at hl 0 rfl) ?_
      refine zCl w (va_runV (As := [.long (zRoF f wa t y)]) (rest := []) ⟨hx, hb, hml, hown, hts⟩ (kX6_refuse l G h (zRoF f wa t y) (zRoF_why p_f) H.size) (cwV 1 hts gX6_pin_X6_refuse rfl rfl rfl (by decide +kernel) ⟨(Nat.le_of_ble_eq_true rfl), (Nat.le_of_ble_eq_true rfl)⟩) (zPV w hK (px_recv (r := (RX6, TX6, 4)) hK w mo fo rfl)) rfl rfl hl.1 rfl (lv_room (Nat.le_of_ble_eq_true rfl)) dX6_pin_33 ⟨(Nat.le_of_ble_eq_true rfl), (Nat.le_of_ble_eq_true rfl)⟩) (fun r_7 u H locs hq w => ?_)
      obtain ⟨rfl, e_r⟩ := hq
      subst e_r
      exact zRl hx hb hr hlk w dX6_pin_36 (Nat.le_of_ble_eq_true rfl) (Nat.le_of_ble_eq_true rfl) (by show (if _ then _ else _); (first | rw [if_pos p_d] | rw [if_neg p_d]); (first | rw [if_pos p_f] | rw [if_neg p_f]); (first | exact ⟨rfl, rfl⟩ | exact ⟨rfl, by rw [hsN]⟩))
  · have p_d := z00 inferInstance e_r_1 c_2
    refine lv_aload_n hx hb dX6_pin_7 rfl (lv_at hl 0 rfl) ?_
    refine lv_ldc2 hx hb hown (hts (.constantLong RX6 36 (1099511627776)) (by decide +kernel)) dX6_pin_8 ?_
    refine zCl w (va_runV (As := [.long 1099511627776]) (rest := []) ⟨hx, hb, hml, hown, hts⟩ (kX6_refuse l G h zNONE zW1 H.size) (cwV 1 hts gX6_pin_X6_refuse rfl rfl rfl (by decide +kernel) ⟨(Nat.le_of_ble_eq_true rfl), (Nat.le_of_ble_eq_true rfl)⟩) (zPV w hK (px_recv (r := (RX6, TX6, 4)) hK w mo fo rfl)) rfl rfl hl.1 rfl (lv_room (Nat.le_of_ble_eq_true rfl)) dX6_pin_11 ⟨(Nat.le_of_ble_eq_true rfl), (Nat.le_of_ble_eq_true rfl)⟩) (fun r_8 u H locs hq w => ?_)
    obtain ⟨rfl, e_r⟩ := hq
    subst e_r
    exact zRl hx hb hr hlk w dX6_pin_14 (Nat.le_of_ble_eq_true rfl) (Nat.le_of_ble_eq_true rfl) (by show (if _ then _ else _); (first | rw [if_pos p_d] | rw [if_neg p_d]); (first | exact ⟨rfl, rfl⟩ | exact ⟨rfl, by rw [hsN]⟩))
set_option maxHeartbeats 4000000 in
set_option maxRecDepth 100000 in
theorem kX6_peel (l : Launch) (G : zG) {L : List Nat} {f : Nat → va_E} {o ac aw ar : Nat} {ch : Option Nat} {car wa : Nat → Option Nat} {ta : Nat → Int32} (h : zBn G L f o ac aw ar ch car wa ta) (hct : zCT G L f car) (hwt : zWT G L f wa) (t y d : Int32) (sz : Nat) : zMl l yX6_peel wsX6_peel { frames := 3, cells := 0, slots := 0, locals := 65 } G [.ref o, .int t, .int y, .int d] (va_pl L f) sz (fun r u => if zFour d then (if zRoF f wa t y = 0 then (u = zCarW G L f ac (va_up car (zix d t) (vQ f (zWa wa t) y.toNatClampNeg)) ∧ r = if (vQ f (zWa wa t) y.toNatClampNeg) = none then 0 else 1) else zRefP G L f ar ta (zRoF f wa t y) r u) else zRefP G L f ar ta zNONE r u) 0 0 := by
  refine zIn (Qc := fun A => va_Ql _ (zB G A) A) (cc := cX6_peel) (maxL := 7) (ret := (some .long)) (by decide) rfl (Nat.le_of_ble_eq_true rfl) ?_
  intro p e s m below meth c A ls hx hb hr hlk hml hts hown hnm hK w hl
  have hown : s.vm.findClass RX6 = some m.cls := hown
  have hl : lv_has ls 7 [(0, .ref o), (1, .int t), (2, .int y), (3, .int d)] := hl
  obtain ⟨⟨mo, mc, mw, mr⟩, fo, fc, fw, fr⟩ := id h
  refine lv_iload_n hx hb dX6_peel_0 rfl (lv_at hl 3 rfl) ?_
  refine zCi w (va_runS (As := [.int d]) (rest := []) ⟨hx, hb, hml, hown, hts⟩ (kX6_isDeck l G _ d s.heap.size) (va_cwS 1 hts gX6_peel_X6_isDeck rfl rfl rfl (by decide +kernel) ⟨(Nat.le_of_ble_eq_true rfl), (Nat.le_of_ble_eq_true rfl)⟩) (zPS w hK) rfl rfl hl.1 rfl (lv_room (Nat.le_of_ble_eq_true rfl)) dX6_peel_1 ⟨(Nat.le_of_ble_eq_true rfl), (Nat.le_of_ble_eq_true rfl)⟩) (fun r_1 u H locs hq w => ?_)
  obtain ⟨rfl, e_r_1⟩ := hq
  refine lv_if_ne (tgt := 15) hx hb dX6_peel_4 (by decide) (fun c_2 => ?_) (fun c_2 => ?_)
  · have p_d := z01 inferInstance e_r_1 c_2
    refine lv_aload_n hx hb dX6_peel_15 rfl (lv_at hl 0 rfl) ?_
    refine lv_iload_n hx hb dX6_peel_16 rfl (lv_at hl 1 rfl) ?_
    refine lv_iload_n hx hb dX6_peel_17 rfl (lv_at hl 2 rfl) ?_
    refine zCl w (va_runV (As := [.int t, .int y]) (rest := []) ⟨hx, hb, hml, hown, hts⟩ (kX6_rowFault l G h hwt t y H.size) (cwV 2 hts gX6_peel_X6_rowFault rfl rfl rfl (by decide +kernel) ⟨(Nat.le_of_ble_eq_true rfl), (Nat.le_of_ble_eq_true rfl)⟩) (zPV w hK (px_recv (r := (RX6, TX6, 4)) hK w mo fo rfl)) rfl rfl hl.1 rfl (lv_room (Nat.le_of_ble_eq_true rfl)) dX6_peel_18 ⟨(Nat.le_of_ble_eq_true rfl), (Nat.le_of_ble_eq_true rfl)⟩) (fun r_3 u H locs hq w => ?_)
    obtain ⟨rfl, e_r⟩ := hq
    subst e_r
    refine lv_lstore (lv' := [(4, .long (zRoF f wa t y)), (0, .ref o), (1, .int t), (2, .int y), (3, .int d)]) hx hb dX6_peel_21 hl (by decide) rfl (fun ls hl => ?_)
    refine lv_lload hx hb dX6_peel_23 (lv_at hl 0 rfl) ?_
    refine lv_lconst (v := 0) hx hb dX6_peel_25 (by decide) ?_
    refine W.lcmp hx hb dX6_peel_26 ?_
    refine lv_if_eq (tgt := 37) hx hb dX6_peel_27 (by decide) (fun c_4 => ?_) (fun c_4 => ?_)
    · have p_f := zcmp0 c_4
      obtain ⟨hf0, hy⟩ := zRoF_0 p_f
      obtain ⟨ht, hwa⟩ := zWF_0 hf0
      have hW := zWT_at hwt hf0
      have hyi := zin12 hy hW.2.2.2.2.1
      refine lv_aload_n hx hb dX6_peel_37 rfl (lv_at hl 1 rfl) ?_
      refine px_get (ci := 5) (C := RX6) (T := TX6) (N := 4) hx hb hts hown hK w mo (by decide +kernel) fo rfl 1 (by decide) (hts (.fieldLink RX6 17 "ReelBarn" "walls" "[LReelBarn$Wall;") (by decide +kernel)) (fun _ h9 => h9) rfl dX6_peel_38 ?_
      refine lv_iload_n hx hb dX6_peel_41 rfl (lv_at hl 2 rfl) ?_
      refine px_aldW hx hb hK w mw fw (zfour_in ht) dX6_peel_42 ?_
      rw [hwa]
      refine px_get (ci := 3) (C := RX4) (T := TX4) (N := 1) hx hb hts hown hK w hW.1 (by decide +kernel) hW.2.2.1 rfl 0 (by decide) (hts (.fieldLink RX6 120 "ReelBarn$Wall" "rows" "[LReelBarn$Reel;") (by decide +kernel)) (fun _ h9 => h9) rfl dX6_peel_43 ?_
      refine lv_iload_n hx hb dX6_peel_46 rfl (lv_at hl 3 rfl) ?_
      refine px_aldR hx hb hK w hW.2.1 hW.2.2.2.1 hyi dX6_peel_47 ?_
      refine z_astoreQ (lv' := [(6, va_rf (vQ f (zWa wa t) y.toNatClampNeg)), (4, .long (zRoF f wa t y)), (0, .ref o), (1, .int t), (2, .int y), (3, .int d)]) hx hb dX6_peel_48 hl (by decide) rfl (fun ls hl => ?_)
      refine lv_aload_n hx hb dX6_peel_50 rfl (lv_at hl 2 rfl) ?_
      refine lv_iload_n hx hb dX6_peel_51 rfl (lv_at hl 5 rfl) ?_
      refine lv_iload_n hx hb dX6_peel_52 rfl (lv_at hl 3 rfl) ?_
      refine z_aloadQ hx hb dX6_peel_53 (lv_at hl 0 rfl) ?_
      refine zCv w (va_runV (As := [.int d, .int t, va_rf (vQ f (zWa wa t) y.toNatClampNeg)]) (rest := []) ⟨hx, hb, hml, hown, hts⟩ (kX6_carry l G h d t (vQ f (zWa wa t) y.toNatClampNeg) p_d ht (fun v q => ⟨_, hW.2.2.2.2.2 _ (zin_lt hyi) v q⟩) H.size) (cwV 3 hts gX6_peel_X6_carry rfl rfl rfl (by decide +kernel) ⟨(Nat.le_of_ble_eq_true rfl), (Nat.le_of_ble_eq_true rfl)⟩) (zPV w hK (px_recv (r := (RX6, TX6, 4)) hK w mo fo rfl)) rfl rfl hl.1 rfl (lv_room (Nat.le_of_ble_eq_true rfl)) dX6_peel_55 ⟨(Nat.le_of_ble_eq_true rfl), (Nat.le_of_ble_eq_true rfl)⟩) (fun u H locs hq w => ?_)
      subst hq
      refine z_aloadQ hx hb dX6_peel_58 (lv_at hl 0 rfl) ?_
      refine zCl w (va_runS (As := [va_rf (vQ f (zWa wa t) y.toNatClampNeg)]) (rest := []) ⟨hx, hb, hml, hown, hts⟩ (kX6_oneIfThere l G _ (vQ f (zWa wa t) y.toNatClampNeg) H.size) (va_cwS 1 hts gX6_peel_X6_oneIfThere rfl rfl rfl (by decide +kernel) ⟨(Nat.le_of_ble_eq_true rfl), (Nat.le_of_ble_eq_true rfl)⟩) (zPS w hK) rfl rfl hl.1 rfl (lv_room (Nat.le_of_ble_eq_true rfl)) dX6_peel_60 ⟨(Nat.le_of_ble_eq_true rfl), (Nat.le_of_ble_eq_true rfl)⟩) (fun r_5 u H locs hq w => ?_)
      obtain ⟨rfl, e_r⟩ := hq
      subst e_r
      exact zRl hx hb hr hlk w dX6_peel_63 (Nat.le_of_ble_eq_true rfl) (Nat.le_of_ble_eq_true rfl) (by show (if _ then _ else _); (first | rw [if_pos p_d] | rw [if_neg p_d]); (first | rw [if_pos p_f] | rw [if_neg p_f]); (first | exact ⟨rfl, rfl⟩ | exact ⟨rfl, by rw [hsN]⟩))
    · have p_f := zcmp1 c_4
      refine lv_aload_n hx hb dX6_peel_30 rfl (lv_at hl 1 rfl) ?_
      refine lv_lload hx hb dX6_peel_31 (lv_at hl 0 rfl) ?_
      refine zCl w (va_runV (As := [.long (zRoF f wa t y)]) (rest := []) ⟨hx, hb, hml, hown, hts⟩ (kX6_refuse l G h (zRoF f wa t y) (zRoF_why p_f) H.size) (cwV 1 hts gX6_peel_X6_refuse rfl rfl rfl (by decide +kernel) ⟨(Nat.le_of_ble_eq_true rfl), (Nat.le_of_ble_eq_true rfl)⟩) (zPV w hK (px_recv (r := (RX6, TX6, 4)) hK w mo fo rfl)) rfl rfl hl.1 rfl (lv_room (Nat.le_of_ble_eq_true rfl)) dX6_peel_33 ⟨(Nat.le_of_ble_eq_true rfl), (Nat.le_of_ble_eq_true rfl)⟩) (fun r_6 u H locs hq w => ?_)
      obtain ⟨rfl, e_r⟩ := hq
      subst e_r
      exact zRl hx hb hr hlk w dX6_peel_36 (Nat.le_of_ble_eq_true rfl) (Nat.le_of_ble_eq_true rfl) (by show (if _ then _ else _); (first | rw [if_pos p_d] | rw [if_neg p_d]); (first | rw [if_pos p_f] | rw [if_neg p_f]); (first | exact ⟨rfl, rfl⟩ | exact ⟨rfl, by rw [hsN]⟩))
  · have p_d := z00 inferInstance e_r_1 c_2
    refine lv_aload_n hx hb dX6_peel_7 rfl (lv_at hl 0 rfl) ?_
    refine lv_ldc2 hx hb hown (hts (.constantLong RX6 36 (1099511627776)) (by decide +kernel)) dX6_peel_8 ?_
    refine zCl w (va_runV (As := [.long 1099511627776]) (rest := []) ⟨hx, hb, hml, hown, hts⟩ (kX6_refuse l G h zNONE zW1 H.size) (cwV 1 hts gX6_peel_X6_refuse rfl rfl rfl (by decide +kernel) ⟨(Nat.le_of_ble_eq_true rfl), (Nat.le_of_ble_eq_true rfl)⟩) (zPV w hK (px_recv (r := (RX6, TX6, 4)) hK w mo fo rfl)) rfl rfl hl.1 rfl (lv_room (Nat.le_of_ble_eq_true rfl)) dX6_peel_11 ⟨(Nat.le_of_ble_eq_true rfl), (Nat.le_of_ble_eq_true rfl)⟩) (fun r_7 u H locs hq w => ?_)
    obtain ⟨rfl, e_r⟩ := hq
    subst e_r
    exact zRl hx hb hr hlk w dX6_peel_14 (Nat.le_of_ble_eq_true rfl) (Nat.le_of_ble_eq_true rfl) (by show (if _ then _ else _); (first | rw [if_pos p_d] | rw [if_neg p_d]); (first | exact ⟨rfl, rfl⟩ | exact ⟨rfl, by rw [hsN]⟩))
set_option maxHeartbeats 4000000 in
set_option maxRecDepth 100000 in
theorem kX6_spot (l : Launch) (G : zG) {L : List Nat} {f : Nat → va_E} {o ac aw ar : Nat} {ch : Option Nat} {car wa : Nat → Option Nat} {ta : Nat → Int32} (h : zBn G L f o ac aw ar ch car wa ta) (hct : zCT G L f car) (hwt : zWT G L f wa) (t y i : Int32) (sz : Nat) : zMl l yX6_spot wsX6_spot { frames := 5, cells := 0, slots := 0, locals := 114 } G [.ref o, .int t, .int y, .int i] (va_pl L f) sz (fun r u => if zWP f wa t y i = 0 then (u = va_pl L f ∧ r = (zTold (zS t) (vI f (zWx f wa t y)) (vF f (zWx f wa t y)) i.toNatClampNeg).toInt64) else zRefP G L f ar ta (zWP f wa t y i) r u) 0 0 := by
  refine zIn (Qc := fun A => va_Ql _ (zB G A) A) (cc := cX6_spot) (maxL := 6) (ret := (some .long)) (by decide) rfl (Nat.le_of_ble_eq_true rfl) ?_
  intro p e s m below meth c A ls hx hb hr hlk hml hts hown hnm hK w hl
  have hown : s.vm.findClass RX6 = some m.cls := hown
  have hl : lv_has ls 6 [(0, .ref o), (1, .int t), (2, .int y), (3, .int i)] := hl
  obtain ⟨⟨mo, mc, mw, mr⟩, fo, fc, fw, fr⟩ := id h
  refine lv_aload_n hx hb dX6_spot_0 rfl (lv_at hl 0 rfl) ?_
  refine lv_iload_n hx hb dX6_spot_1 rfl (lv_at hl 1 rfl) ?_
  refine lv_iload_n hx hb dX6_spot_2 rfl (lv_at hl 2 rfl) ?_
  refine lv_iload_n hx hb dX6_spot_3 rfl (lv_at hl 3 rfl) ?_
  refine zCl w (va_runV (As := [.int t, .int y, .int i]) (rest := []) ⟨hx, hb, hml, hown, hts⟩ (kX6_wallPlaceFault l G h hwt t y i s.heap.size) (cwV 3 hts gX6_spot_X6_wallPlaceFault rfl rfl rfl (by decide +kernel) ⟨(Nat.le_of_ble_eq_true rfl), (Nat.le_of_ble_eq_true rfl)⟩) (zPV w hK (px_recv (r := (RX6, TX6, 4)) hK w mo fo rfl)) rfl rfl hl.1 rfl (lv_room (Nat.le_of_ble_eq_true rfl)) dX6_spot_4 ⟨(Nat.le_of_ble_eq_true rfl), (Nat.le_of_ble_eq_true rfl)⟩) (fun r_1 u H locs hq w => ?_)
  obtain ⟨rfl, e_r⟩ := hq
  subst e_r
  refine lv_lstore (lv' := [(4, .long (zWP f wa t y i)), (0, .ref o), (1, .int t), (2, .int y), (3, .int i)]) hx hb dX6_spot_7 hl (by decide) rfl (fun ls hl => ?_)
  refine lv_lload hx hb dX6_spot_9 (lv_at hl 0 rfl) ?_
  refine lv_lconst (v := 0) hx hb dX6_spot_11 (by decide) ?_
  refine W.lcmp hx hb dX6_spot_12 ?_
  refine lv_if_eq (tgt := 23) hx hb dX6_spot_13 (by decide) (fun c_2 => ?_) (fun c_2 => ?_)
  · have p_f := zcmp0 c_2
    obtain ⟨p_1, hh⟩ := zWP_0 p_f
    obtain ⟨hf1, hxe⟩ := zWR_0 p_1
    have hA := zWT_x hwt p_1
    obtain ⟨hf0, hy⟩ := zRoF_0 hf1
    obtain ⟨ht, hwa⟩ := zWF_0 hf0
    have hW := zWT_at hwt hf0
    have hyi := zin12 hy hW.2.2.2.2.1
    obtain ⟨sN, hsN⟩ : ∃ sN, sN = zS t := ⟨_, rfl⟩
    rw [← hsN] at hA
    have hs : sN = 0 ∨ sN = 1 ∨ sN = 2 ∨ sN = 3 := by rw [hsN]; exact zS_or ht
    unfold zRA at hA
    have hi := zin40 hh hA.2.2.2.2.1
    refine lv_aload_n hx hb dX6_spot_23 rfl (lv_at hl 1 rfl) ?_
    refine px_get (ci := 5) (C := RX6) (T := TX6) (N := 4) hx hb hts hown hK w mo (by decide +kernel) fo rfl 1 (by decide) (hts (.fieldLink RX6 17 "ReelBarn" "walls" "[LReelBarn$Wall;") (by decide +kernel)) (fun _ h9 => h9) rfl dX6_spot_24 ?_
    refine lv_iload_n hx hb dX6_spot_27 rfl (lv_at hl 2 rfl) ?_
    refine px_aldW hx hb hK w mw fw (zfour_in ht) dX6_spot_28 ?_
    rw [hwa]
    refine px_get (ci := 3) (C := RX4) (T := TX4) (N := 1) hx hb hts hown hK w hW.1 (by decide +kernel) hW.2.2.1 rfl 0 (by decide) (hts (.fieldLink RX6 120 "ReelBarn$Wall" "rows" "[LReelBarn$Reel;") (by decide +kernel)) (fun _ h9 => h9) rfl dX6_spot_29 ?_
    refine lv_iload_n hx hb dX6_spot_32 rfl (lv_at hl 3 rfl) ?_
    refine px_aldR hx hb hK w hW.2.1 hW.2.2.2.1 hyi dX6_spot_33 ?_
    rw [hxe]
    refine lv_iload_n hx hb dX6_spot_34 rfl (lv_at hl 4 rfl) ?_
    refine zCi (post := fun r u => u = va_pl L f ∧ r = zTold sN (vI f (zWx f wa t y)) (vF f (zWx f wa t y)) i.toNatClampNeg) (mc := 0) (ms := 0) (rest := []) (av := (Value.ref (zWx f wa t y) :: [.int i]).toArray) w (by
        rcases hs with rfl | rfl | rfl | rfl
        · exact va_runU (As := [.int i]) (rest := []) ⟨hx, hb, hml, hown, hts⟩ (kX2_told l G hA i hi H.size) (va_cwA 1 hts gX6_spot_X2_told_u73X2 rfl rfl rfl hK.2.1.2.1 (by decide +kernel) ⟨(Nat.le_of_ble_eq_true rfl), (Nat.le_of_ble_eq_true rfl)⟩) (zPV w hK (px_recv (ci := 2) (fs := [.ref (vB f (zWx f wa t y))]) (r := (RX2, TX2, 1)) hK w (hA.1) (hA.2.2.1) rfl)) rfl rfl hl.1 rfl (lv_room (Nat.le_of_ble_eq_true rfl)) dX6_spot_35 ⟨(Nat.le_of_ble_eq_true rfl), (Nat.le_of_ble_eq_true rfl)⟩
        · exact va_runU (As := [.int i]) (rest := []) ⟨hx, hb, hml, hown, hts⟩ (kX5_told l G hA i hi H.size) (va_cwA 1 hts gX6_spot_X5_told_u73X5 rfl rfl rfl hK.2.1.2.1 (by decide +kernel) ⟨(Nat.le_of_ble_eq_true rfl), (Nat.le_of_ble_eq_true rfl)⟩) (zPV w hK (px_recv (ci := 4) (fs := [.ref (vB f (zWx f wa t y))]) (r := (RX5, TX5, 1)) hK w (hA.1) (hA.2.2.1) rfl)) rfl rfl hl.1 rfl (lv_room (Nat.le_of_ble_eq_true rfl)) dX6_spot_35 ⟨(Nat.le_of_ble_eq_true rfl), (Nat.le_of_ble_eq_true rfl)⟩
        · exact va_runU (As := [.int i]) (rest := []) ⟨hx, hb, hml, hown, hts⟩ (kX0_told l G hA i hi H.size) (va_cwA 1 hts gX6_spot_X0_told_u73X0 rfl rfl rfl hK.2.1.2.1 (by decide +kernel) ⟨(Nat.le_of_ble_eq_true rfl), (Nat.le_of_ble_eq_true rfl)⟩) (zPV w hK (px_recv (ci := 0) (fs := [.ref (vB f (zWx f wa t y))]) (r := (RX0, TX0, 1)) hK w (hA.1) (hA.2.2.1) rfl)) rfl rfl hl.1 rfl (lv_room (Nat.le_of_ble_eq_true rfl)) dX6_spot_35 ⟨(Nat.le_of_ble_eq_true rfl), (Nat.le_of_ble_eq_true rfl)⟩
        · exact va_runU (As := [.int i]) (rest := []) ⟨hx, hb, hml, hown, hts⟩ (kX1_told l G hA i hi H.size) (va_cwA 1 hts gX6_spot_X1_told_u73X1 rfl rfl rfl hK.2.1.2.1 (by decide +kernel) ⟨(Nat.le_of_ble_eq_true rfl), (Nat.le_of_ble_eq_true rfl)⟩) (zPV w hK (px_recv (ci := 1) (fs := [.ref (vB f (zWx f wa t y))]) (r := (RX1, TX1, 1)) hK w (hA.1) (hA.2.2.1) rfl)) rfl rfl hl.1 rfl (lv_room (Nat.le_of_ble_eq_true rfl)) dX6_spot_35 ⟨(Nat.le_of_ble_eq_true rfl), (Nat.le_of_ble_eq_true rfl)⟩) (fun r_3 u H locs hq w => ?_)
    obtain ⟨rfl, e_r⟩ := hq
    subst e_r
    refine lv_i2l hx hb dX6_spot_38 rfl ?_
    exact zRl hx hb hr hlk w dX6_spot_39 (Nat.le_of_ble_eq_true rfl) (Nat.le_of_ble_eq_true rfl) (by show (if _ then _ else _); (first | rw [if_pos p_f] | rw [if_neg p_f]); (first | exact ⟨rfl, rfl⟩ | exact ⟨rfl, by rw [hsN]⟩))
  · have p_f := zcmp1 c_2
    refine lv_aload_n hx hb dX6_spot_16 rfl (lv_at hl 1 rfl) ?_
    refine lv_lload hx hb dX6_spot_17 (lv_at hl 0 rfl) ?_
    refine zCl w (va_runV (As := [.long (zWP f wa t y i)]) (rest := []) ⟨hx, hb, hml, hown, hts⟩ (kX6_refuse l G h (zWP f wa t y i) (zWP_why p_f) H.size) (cwV 1 hts gX6_spot_X6_refuse rfl rfl rfl (by decide +kernel) ⟨(Nat.le_of_ble_eq_true rfl), (Nat.le_of_ble_eq_true rfl)⟩) (zPV w hK (px_recv (r := (RX6, TX6, 4)) hK w mo fo rfl)) rfl rfl hl.1 rfl (lv_room (Nat.le_of_ble_eq_true rfl)) dX6_spot_19 ⟨(Nat.le_of_ble_eq_true rfl), (Nat.le_of_ble_eq_true rfl)⟩) (fun r_4 u H locs hq w => ?_)
    obtain ⟨rfl, e_r⟩ := hq
    subst e_r
    exact zRl hx hb hr hlk w dX6_spot_22 (Nat.le_of_ble_eq_true rfl) (Nat.le_of_ble_eq_true rfl) (by show (if _ then _ else _); (first | rw [if_pos p_f] | rw [if_neg p_f]); (first | exact ⟨rfl, rfl⟩ | exact ⟨rfl, by rw [hsN]⟩))
set_option maxHeartbeats 4000000 in
set_option maxRecDepth 100000 in
theorem kX6_paint (l : Launch) (G : zG) {L : List Nat} {f : Nat → va_E} {o ac aw ar : Nat} {ch : Option Nat} {car wa : Nat → Option Nat} {ta : Nat → Int32} (h : zBn G L f o ac aw ar ch car wa ta) (hct : zCT G L f car) (hwt : zWT G L f wa) (t y i x : Int32) (sz : Nat) : zMl l yX6_paint wsX6_paint { frames := 5, cells := 0, slots := 0, locals := 114 } G [.ref o, .int t, .int y, .int i, .int x] (va_pl L f) sz (fun r u => if zWP f wa t y i = 0 then (u = zPutW G L f (zS t) (zWx f wa t y) (zPuI (zS t) (vI f (zWx f wa t y)) i.toNatClampNeg x) (zPuF (zS t) (vF f (zWx f wa t y)) i.toNatClampNeg (zEi x)) ∧ r = (zTold (zS t) (zPuI (zS t) (vI f (zWx f wa t y)) i.toNatClampNeg x) (zPuF (zS t) (vF f (zWx f wa t y)) i.toNatClampNeg (zEi x)) i.toNatClampNeg).toInt64) else zRefP G L f ar ta (zWP f wa t y i) r u) 0 0 := by
  refine zIn (Qc := fun A => va_Ql _ (zB G A) A) (cc := cX6_paint) (maxL := 8) (ret := (some .long)) (by decide) rfl (Nat.le_of_ble_eq_true rfl) ?_
  intro p e s m below meth c A ls hx hb hr hlk hml hts hown hnm hK w hl
  have hown : s.vm.findClass RX6 = some m.cls := hown
  have hl : lv_has ls 8 [(0, .ref o), (1, .int t), (2, .int y), (3, .int i), (4, .int x)] := hl
  obtain ⟨⟨mo, mc, mw, mr⟩, fo, fc, fw, fr⟩ := id h
  refine lv_aload_n hx hb dX6_paint_0 rfl (lv_at hl 0 rfl) ?_
  refine lv_iload_n hx hb dX6_paint_1 rfl (lv_at hl 1 rfl) ?_
  refine lv_iload_n hx hb dX6_paint_2 rfl (lv_at hl 2 rfl) ?_
  refine lv_iload_n hx hb dX6_paint_3 rfl (lv_at hl 3 rfl) ?_
  refine zCl w (va_runV (As := [.int t, .int y, .int i]) (rest := []) ⟨hx, hb, hml, hown, hts⟩ (kX6_wallPlaceFault l G h hwt t y i s.heap.size) (cwV 3 hts gX6_paint_X6_wallPlaceFault rfl rfl rfl (by decide +kernel) ⟨(Nat.le_of_ble_eq_true rfl), (Nat.le_of_ble_eq_true rfl)⟩) (zPV w hK (px_recv (r := (RX6, TX6, 4)) hK w mo fo rfl)) rfl rfl hl.1 rfl (lv_room (Nat.le_of_ble_eq_true rfl)) dX6_paint_4 ⟨(Nat.le_of_ble_eq_true rfl), (Nat.le_of_ble_eq_true rfl)⟩) (fun r_1 u H locs hq w => ?_)
  obtain ⟨rfl, e_r⟩ := hq
  subst e_r
  refine lv_lstore (lv' := [(5, .long (zWP f wa t y i)), (0, .ref o), (1, .int t), (2, .int y), (3, .int i), (4, .int x)]) hx hb dX6_paint_7 hl (by decide) rfl (fun ls hl => ?_)
  refine lv_lload hx hb dX6_paint_9 (lv_at hl 0 rfl) ?_
  refine lv_lconst (v := 0) hx hb dX6_paint_11 (by decide) ?_
  refine W.lcmp hx hb dX6_paint_12 ?_
  refine lv_if_eq (tgt := 23) hx hb dX6_paint_13 (by decide) (fun c_2 => ?_) (fun c_2 => ?_)
  · have p_f := zcmp0 c_2
    obtain ⟨p_1, hh⟩ := zWP_0 p_f
    obtain ⟨hf1, hxe⟩ := zWR_0 p_1
    have hA := zWT_x hwt p_1
    obtain ⟨hf0, hy⟩ := zRoF_0 hf1
    obtain ⟨ht, hwa⟩ := zWF_0 hf0
    have hW := zWT_at hwt hf0
    have hyi := zin12 hy hW.2.2.2.2.1
    obtain ⟨sN, hsN⟩ : ∃ sN, sN = zS t := ⟨_, rfl⟩
    rw [← hsN] at hA
    have hs : sN = 0 ∨ sN = 1 ∨ sN = 2 ∨ sN = 3 := by rw [hsN]; exact zS_or ht
    unfold zRA at hA
    have hi := zin40 hh hA.2.2.2.2.1
    refine lv_aload_n hx hb dX6_paint_23 rfl (lv_at hl 1 rfl) ?_
    refine px_get (ci := 5) (C := RX6) (T := TX6) (N := 4) hx hb hts hown hK w mo (by decide +kernel) fo rfl 1 (by decide) (hts (.fieldLink RX6 17 "ReelBarn" "walls" "[LReelBarn$Wall;") (by decide +kernel)) (fun _ h9 => h9) rfl dX6_paint_24 ?_
    refine lv_iload_n hx hb dX6_paint_27 rfl (lv_at hl 2 rfl) ?_
    refine px_aldW hx hb hK w mw fw (zfour_in ht) dX6_paint_28 ?_
    rw [hwa]
    refine px_get (ci := 3) (C := RX4) (T := TX4) (N := 1) hx hb hts hown hK w hW.1 (by decide +kernel) hW.2.2.1 rfl 0 (by decide) (hts (.fieldLink RX6 120 "ReelBarn$Wall" "rows" "[LReelBarn$Reel;") (by decide +kernel)) (fun _ h9 => h9) rfl dX6_paint_29 ?_
    refine lv_iload_n hx hb dX6_paint_32 rfl (lv_at hl 3 rfl) ?_
    refine px_aldR hx hb hK w hW.2.1 hW.2.2.2.1 hyi dX6_paint_33 ?_
    rw [hxe]
    refine lv_astore (lv' := [(7, .ref (zWx f wa t y)), (5, .long (zWP f wa t y i)), (0, .ref o), (1, .int t), (2, .int y), (3, .int i), (4, .int x)]) hx hb dX6_paint_34 hl (by decide) rfl (fun ls hl => ?_)
    refine lv_aload hx hb dX6_paint_36 (lv_at hl 0 rfl) ?_
    refine lv_iload_n hx hb dX6_paint_38 rfl (lv_at hl 5 rfl) ?_
    refine lv_iload hx hb dX6_paint_39 (lv_at hl 6 rfl) ?_
    refine zCv (post := fun u => u = zPutW G L f sN (zWx f wa t y) (zPuI sN (vI f (zWx f wa t y)) i.toNatClampNeg x) (zPuF sN (vF f (zWx f wa t y)) i.toNatClampNeg (zEi x))) (mc := 0) (ms := 0) (rest := []) (av := (Value.ref (zWx f wa t y) :: [.int i, .int x]).toArray) w (by
        rcases hs with rfl | rfl | rfl | rfl
        · exact va_runU (As := [.int i, .int x]) (rest := []) ⟨hx, hb, hml, hown, hts⟩ (kX2_put l G hA i x hi H.size) (va_cwA 2 hts gX6_paint_X2_put_u77X2 rfl rfl rfl hK.2.1.2.2 (by decide +kernel) ⟨(Nat.le_of_ble_eq_true rfl), (Nat.le_of_ble_eq_true rfl)⟩) (zPV w hK (px_recv (ci := 2) (fs := [.ref (vB f (zWx f wa t y))]) (r := (RX2, TX2, 1)) hK w (hA.1) (hA.2.2.1) rfl)) rfl rfl hl.1 rfl (lv_room (Nat.le_of_ble_eq_true rfl)) dX6_paint_41 ⟨(Nat.le_of_ble_eq_true rfl), (Nat.le_of_ble_eq_true rfl)⟩
        · exact va_runU (As := [.int i, .int x]) (rest := []) ⟨hx, hb, hml, hown, hts⟩ (kX5_put l G hA i x hi H.size) (va_cwA 2 hts gX6_paint_X5_put_u77X5 rfl rfl rfl hK.2.1.2.2 (by decide +kernel) ⟨(Nat.le_of_ble_eq_true rfl), (Nat.le_of_ble_eq_true rfl)⟩) (zPV w hK (px_recv (ci := 4) (fs := [.ref (vB f (zWx f wa t y))]) (r := (RX5, TX5, 1)) hK w (hA.1) (hA.2.2.1) rfl)) rfl rfl hl.1 rfl (lv_room (Nat.le_of_ble_eq_true rfl)) dX6_paint_41 ⟨(Nat.le_of_ble_eq_true rfl), (Nat.le_of_ble_eq_true rfl)⟩
        · exact va_runU (As := [.int i, .int x]) (rest := []) ⟨hx, hb, hml, hown, hts⟩ (kX0_put l G hA i x hi H.size) (va_cwA 2 hts gX6_paint_X0_put_u77X0 rfl rfl rfl hK.2.1.2.2 (by decide +kernel) ⟨(Nat.le_of_ble_eq_true rfl), (Nat.le_of_ble_eq_true rfl)⟩) (zPV w hK (px_recv (ci := 0) (fs := [.ref (vB f (zWx f wa t y))]) (r := (RX0, TX0, 1)) hK w (hA.1) (hA.2.2.1) rfl)) rfl rfl hl.1 rfl (lv_room (Nat.le_of_ble_eq_true rfl)) dX6_paint_41 ⟨(Nat.le_of_ble_eq_true rfl), (Nat.le_of_ble_eq_true rfl)⟩
        · exact va_runU (As := [.int i, .int x]) (rest := []) ⟨hx, hb, hml, hown, hts⟩ (kX1_put l G hA i x hi H.size) (va_cwA 2 hts gX6_paint_X1_put_u77X1 rfl rfl rfl hK.2.1.2.2 (by decide +kernel) ⟨(Nat.le_of_ble_eq_true rfl), (Nat.le_of_ble_eq_true rfl)⟩) (zPV w hK (px_recv (ci := 1) (fs := [.ref (vB f (zWx f wa t y))]) (r := (RX1, TX1, 1)) hK w (hA.1) (hA.2.2.1) rfl)) rfl rfl hl.1 rfl (lv_room (Nat.le_of_ble_eq_true rfl)) dX6_paint_41 ⟨(Nat.le_of_ble_eq_true rfl), (Nat.le_of_ble_eq_true rfl)⟩) (fun u H locs hq w => ?_)
    subst hq
    have hA2 := zRe_up (gi2 := zPuI sN (vI f (zWx f wa t y)) i.toNatClampNeg x) (gf2 := zPuF sN (vF f (zWx f wa t y)) i.toNatClampNeg (zEi x)) hA (zPuF_fin hA (zn32 (zEi_fin x).notNaN))
    refine lv_aload hx hb dX6_paint_44 (lv_at hl 0 rfl) ?_
    refine lv_iload_n hx hb dX6_paint_46 rfl (lv_at hl 5 rfl) ?_
    refine zCi (post := fun r u => u = zPutW G L f sN (zWx f wa t y) (zPuI sN (vI f (zWx f wa t y)) i.toNatClampNeg x) (zPuF sN (vF f (zWx f wa t y)) i.toNatClampNeg (zEi x)) ∧ r = zTold sN (zPuI sN (vI f (zWx f wa t y)) i.toNatClampNeg x) (zPuF sN (vF f (zWx f wa t y)) i.toNatClampNeg (zEi x)) i.toNatClampNeg) (mc := 0) (ms := 0) (rest := []) (av := (Value.ref (zWx f wa t y) :: [.int i]).toArray) w (by
        rcases hs with rfl | rfl | rfl | rfl
        · exact va_runU (As := [.int i]) (rest := []) ⟨hx, hb, hml, hown, hts⟩ (kX2_told l G hA2 i hi H.size) (va_cwA 1 hts gX6_paint_X2_told_u73X2 rfl rfl rfl hK.2.1.2.1 (by decide +kernel) ⟨(Nat.le_of_ble_eq_true rfl), (Nat.le_of_ble_eq_true rfl)⟩) (zPV w hK (px_recv (ci := 2) (fs := [.ref (vB f (zWx f wa t y))]) (r := (RX2, TX2, 1)) hK w (hA2.1) (hA2.2.2.1) rfl)) rfl rfl hl.1 rfl (lv_room (Nat.le_of_ble_eq_true rfl)) dX6_paint_47 ⟨(Nat.le_of_ble_eq_true rfl), (Nat.le_of_ble_eq_true rfl)⟩
        · exact va_runU (As := [.int i]) (rest := []) ⟨hx, hb, hml, hown, hts⟩ (kX5_told l G hA2 i hi H.size) (va_cwA 1 hts gX6_paint_X5_told_u73X5 rfl rfl rfl hK.2.1.2.1 (by decide +kernel) ⟨(Nat.le_of_ble_eq_true rfl), (Nat.le_of_ble_eq_true rfl)⟩) (zPV w hK (px_recv (ci := 4) (fs := [.ref (vB f (zWx f wa t y))]) (r := (RX5, TX5, 1)) hK w (hA2.1) (hA2.2.2.1) rfl)) rfl rfl hl.1 rfl (lv_room (Nat.le_of_ble_eq_true rfl)) dX6_paint_47 ⟨(Nat.le_of_ble_eq_true rfl), (Nat.le_of_ble_eq_true rfl)⟩
        · exact va_runU (As := [.int i]) (rest := []) ⟨hx, hb, hml, hown, hts⟩ (kX0_told l G hA2 i hi H.size) (va_cwA 1 hts gX6_paint_X0_told_u73X0 rfl rfl rfl hK.2.1.2.1 (by decide +kernel) ⟨(Nat.le_of_ble_eq_true rfl), (Nat.le_of_ble_eq_true rfl)⟩) (zPV w hK (px_recv (ci := 0) (fs := [.ref (vB f (zWx f wa t y))]) (r := (RX0, TX0, 1)) hK w (hA2.1) (hA2.2.2.1) rfl)) rfl rfl hl.1 rfl (lv_room (Nat.le_of_ble_eq_true rfl)) dX6_paint_47 ⟨(Nat.le_of_ble_eq_true rfl), (Nat.le_of_ble_eq_true rfl)⟩
        · exact va_runU (As := [.int i]) (rest := []) ⟨hx, hb, hml, hown, hts⟩ (kX1_told l G hA2 i hi H.size) (va_cwA 1 hts gX6_paint_X1_told_u73X1 rfl rfl rfl hK.2.1.2.1 (by decide +kernel) ⟨(Nat.le_of_ble_eq_true rfl), (Nat.le_of_ble_eq_true rfl)⟩) (zPV w hK (px_recv (ci := 1) (fs := [.ref (vB f (zWx f wa t y))]) (r := (RX1, TX1, 1)) hK w (hA2.1) (hA2.2.2.1) rfl)) rfl rfl hl.1 rfl (lv_room (Nat.le_of_ble_eq_true rfl)) dX6_paint_47 ⟨(Nat.le_of_ble_eq_true rfl), (Nat.le_of_ble_eq_true rfl)⟩) (fun r_3 u H locs hq w => ?_)
    obtain ⟨rfl, e_r⟩ := hq
    subst e_r
    refine lv_i2l hx hb dX6_paint_50 rfl ?_
    exact zRl hx hb hr hlk w dX6_paint_51 (Nat.le_of_ble_eq_true rfl) (Nat.le_of_ble_eq_true rfl) (by show (if _ then _ else _); (first | rw [if_pos p_f] | rw [if_neg p_f]); (first | exact ⟨rfl, rfl⟩ | (rw [← hsN]; exact ⟨rfl, rfl⟩)))
  · have p_f := zcmp1 c_2
    refine lv_aload_n hx hb dX6_paint_16 rfl (lv_at hl 1 rfl) ?_
    refine lv_lload hx hb dX6_paint_17 (lv_at hl 0 rfl) ?_
    refine zCl w (va_runV (As := [.long (zWP f wa t y i)]) (rest := []) ⟨hx, hb, hml, hown, hts⟩ (kX6_refuse l G h (zWP f wa t y i) (zWP_why p_f) H.size) (cwV 1 hts gX6_paint_X6_refuse rfl rfl rfl (by decide +kernel) ⟨(Nat.le_of_ble_eq_true rfl), (Nat.le_of_ble_eq_true rfl)⟩) (zPV w hK (px_recv (r := (RX6, TX6, 4)) hK w mo fo rfl)) rfl rfl hl.1 rfl (lv_room (Nat.le_of_ble_eq_true rfl)) dX6_paint_19 ⟨(Nat.le_of_ble_eq_true rfl), (Nat.le_of_ble_eq_true rfl)⟩) (fun r_4 u H locs hq w => ?_)
    obtain ⟨rfl, e_r⟩ := hq
    subst e_r
    exact zRl hx hb hr hlk w dX6_paint_22 (Nat.le_of_ble_eq_true rfl) (Nat.le_of_ble_eq_true rfl) (by show (if _ then _ else _); (first | rw [if_pos p_f] | rw [if_neg p_f]); (first | exact ⟨rfl, rfl⟩ | (rw [← hsN]; exact ⟨rfl, rfl⟩)))
set_option maxHeartbeats 4000000 in
set_option maxRecDepth 100000 in
theorem kX6_span (l : Launch) (G : zG) {L : List Nat} {f : Nat → va_E} {o ac aw ar : Nat} {ch : Option Nat} {car wa : Nat → Option Nat} {ta : Nat → Int32} (h : zBn G L f o ac aw ar ch car wa ta) (hct : zCT G L f car) (hwt : zWT G L f wa) (t y : Int32) (sz : Nat) : zMl l yX6_span wsX6_span { frames := 4, cells := 0, slots := 0, locals := 89 } G [.ref o, .int t, .int y] (va_pl L f) sz (fun r u => if y = -1 then (if zWF wa t = 0 then (u = va_pl L f ∧ r = (nI (vN f (zWa wa t))).toInt64) else zRefP G L f ar ta (zWF wa t) r u) else (if zWR f wa t y = 0 then (u = va_pl L f ∧ r = (nI (vN f (zWx f wa t y))).toInt64) else zRefP G L f ar ta (zWR f wa t y) r u)) 0 0 := by
  refine zIn (Qc := fun A => va_Ql _ (zB G A) A) (cc := cX6_span) (maxL := 6) (ret := (some .long)) (by decide) rfl (Nat.le_of_ble_eq_true rfl) ?_
  intro p e s m below meth c A ls hx hb hr hlk hml hts hown hnm hK w hl
  have hown : s.vm.findClass RX6 = some m.cls := hown
  have hl : lv_has ls 6 [(0, .ref o), (1, .int t), (2, .int y)] := hl
  obtain ⟨⟨mo, mc, mw, mr⟩, fo, fc, fw, fr⟩ := id h
  refine lv_iload_n hx hb dX6_span_0 rfl (lv_at hl 2 rfl) ?_
  refine lv_iconst (v := (-1)) hx hb dX6_span_1 (by decide) ?_
  refine lv_icmp_ne (tgt := 13) hx hb dX6_span_2 (by decide) (fun c_1 => ?_) (fun c_1 => ?_)
  · have p_y := c_1
    refine lv_aload_n hx hb dX6_span_13 rfl (lv_at hl 0 rfl) ?_
    refine lv_iload_n hx hb dX6_span_14 rfl (lv_at hl 1 rfl) ?_
    refine lv_iload_n hx hb dX6_span_15 rfl (lv_at hl 2 rfl) ?_
    refine zCl w (va_runV (As := [.int t, .int y]) (rest := []) ⟨hx, hb, hml, hown, hts⟩ (kX6_wallReelFault l G h hwt t y s.heap.size) (cwV 2 hts gX6_span_X6_wallReelFault rfl rfl rfl (by decide +kernel) ⟨(Nat.le_of_ble_eq_true rfl), (Nat.le_of_ble_eq_true rfl)⟩) (zPV w hK (px_recv (r := (RX6, TX6, 4)) hK w mo fo rfl)) rfl rfl hl.1 rfl (lv_room (Nat.le_of_ble_eq_true rfl)) dX6_span_16 ⟨(Nat.le_of_ble_eq_true rfl), (Nat.le_of_ble_eq_true rfl)⟩) (fun r_2 u H locs hq w => ?_)
    obtain ⟨rfl, e_r⟩ := hq
    subst e_r
    refine lv_lstore_n (lv' := [(3, .long (zWR f wa t y)), (0, .ref o), (1, .int t), (2, .int y)]) hx hb dX6_span_19 rfl hl (by decide) rfl (fun ls hl => ?_)
    refine lv_lload_n hx hb dX6_span_20 rfl (lv_at hl 0 rfl) ?_
    refine lv_lconst (v := 0) hx hb dX6_span_21 (by decide) ?_
    refine W.lcmp hx hb dX6_span_22 ?_
    refine lv_if_eq (tgt := 32) hx hb dX6_span_23 (by decide) (fun c_3 => ?_) (fun c_3 => ?_)
    · have p_f := zcmp0 c_3
      obtain ⟨hf1, hxe⟩ := zWR_0 p_f
      have hA := zWT_x hwt p_f
      obtain ⟨hf0, hy⟩ := zRoF_0 hf1
      obtain ⟨ht, hwa⟩ := zWF_0 hf0
      have hW := zWT_at hwt hf0
      have hyi := zin12 hy hW.2.2.2.2.1
      obtain ⟨sN, hsN⟩ : ∃ sN, sN = zS t := ⟨_, rfl⟩
      rw [← hsN] at hA
      have hs : sN = 0 ∨ sN = 1 ∨ sN = 2 ∨ sN = 3 := by rw [hsN]; exact zS_or ht
      unfold zRA at hA
      refine lv_aload_n hx hb dX6_span_32 rfl (lv_at hl 1 rfl) ?_
      refine px_get (ci := 5) (C := RX6) (T := TX6) (N := 4) hx hb hts hown hK w mo (by decide +kernel) fo rfl 1 (by decide) (hts (.fieldLink RX6 17 "ReelBarn" "walls" "[LReelBarn$Wall;") (by decide +kernel)) (fun _ h9 => h9) rfl dX6_span_33 ?_
      refine lv_iload_n hx hb dX6_span_36 rfl (lv_at hl 2 rfl) ?_
      refine px_aldW hx hb hK w mw fw (zfour_in ht) dX6_span_37 ?_
      rw [hwa]
      refine lv_astore (lv' := [(5, .ref (zWa wa t)), (3, .long (zWR f wa t y)), (0, .ref o), (1, .int t), (2, .int y)]) hx hb dX6_span_38 hl (by decide) rfl (fun ls hl => ?_)
      refine lv_iload_n hx hb dX6_span_40 rfl (lv_at hl 4 rfl) ?_
      refine lv_iconst (v := (-1)) hx hb dX6_span_41 (by decide) ?_
      refine lv_icmp_ne (tgt := 55) hx hb dX6_span_42 (by decide) (fun c_4 => ?_) (fun c_4 => absurd c_4 p_y)
      refine lv_aload hx hb dX6_span_55 (lv_at hl 0 rfl) ?_
      refine px_get (ci := 3) (C := RX4) (T := TX4) (N := 1) hx hb hts hown hK w hW.1 (by decide +kernel) hW.2.2.1 rfl 0 (by decide) (hts (.fieldLink RX6 120 "ReelBarn$Wall" "rows" "[LReelBarn$Reel;") (by decide +kernel)) (fun _ h9 => h9) rfl dX6_span_57 ?_
      refine lv_iload_n hx hb dX6_span_60 rfl (lv_at hl 4 rfl) ?_
      refine px_aldR hx hb hK w hW.2.1 hW.2.2.2.1 hyi dX6_span_61 ?_
      rw [hxe]
      refine zCi (post := fun r u => u = va_pl L f ∧ r = nI (vN f (zWx f wa t y))) (mc := 0) (ms := 0) (rest := []) (av := (Value.ref (zWx f wa t y) :: []).toArray) w (by
          rcases hs with rfl | rfl | rfl | rfl
          · exact va_runU (As := []) (rest := []) ⟨hx, hb, hml, hown, hts⟩ (kX2_places l G hA H.size) (va_cwA 0 hts gX6_span_X2_places_u61X2 rfl rfl rfl hK.2.1.1 (by decide +kernel) ⟨(Nat.le_of_ble_eq_true rfl), (Nat.le_of_ble_eq_true rfl)⟩) (zPV w hK (px_recv (ci := 2) (fs := [.ref (vB f (zWx f wa t y))]) (r := (RX2, TX2, 1)) hK w (hA.1) (hA.2.2.1) rfl)) rfl rfl hl.1 rfl (lv_room (Nat.le_of_ble_eq_true rfl)) dX6_span_62 ⟨(Nat.le_of_ble_eq_true rfl), (Nat.le_of_ble_eq_true rfl)⟩
          · exact va_runU (As := []) (rest := []) ⟨hx, hb, hml, hown, hts⟩ (kX5_places l G hA H.size) (va_cwA 0 hts gX6_span_X5_places_u61X5 rfl rfl rfl hK.2.1.1 (by decide +kernel) ⟨(Nat.le_of_ble_eq_true rfl), (Nat.le_of_ble_eq_true rfl)⟩) (zPV w hK (px_recv (ci := 4) (fs := [.ref (vB f (zWx f wa t y))]) (r := (RX5, TX5, 1)) hK w (hA.1) (hA.2.2.1) rfl)) rfl rfl hl.1 rfl (lv_room (Nat.le_of_ble_eq_true rfl)) dX6_span_62 ⟨(Nat.le_of_ble_eq_true rfl), (Nat.le_of_ble_eq_true rfl)⟩
          · exact va_runU (As := []) (rest := []) ⟨hx, hb, hml, hown, hts⟩ (kX0_places l G hA H.size) (va_cwA 0 hts gX6_span_X0_places_u61X0 rfl rfl rfl hK.2.1.1 (by decide +kernel) ⟨(Nat.le_of_ble_eq_true rfl), (Nat.le_of_ble_eq_true rfl)⟩) (zPV w hK (px_recv (ci := 0) (fs := [.ref (vB f (zWx f wa t y))]) (r := (RX0, TX0, 1)) hK w (hA.1) (hA.2.2.1) rfl)) rfl rfl hl.1 rfl (lv_room (Nat.le_of_ble_eq_true rfl)) dX6_span_62 ⟨(Nat.le_of_ble_eq_true rfl), (Nat.le_of_ble_eq_true rfl)⟩
          · exact va_runU (As := []) (rest := []) ⟨hx, hb, hml, hown, hts⟩ (kX1_places l G hA H.size) (va_cwA 0 hts gX6_span_X1_places_u61X1 rfl rfl rfl hK.2.1.1 (by decide +kernel) ⟨(Nat.le_of_ble_eq_true rfl), (Nat.le_of_ble_eq_true rfl)⟩) (zPV w hK (px_recv (ci := 1) (fs := [.ref (vB f (zWx f wa t y))]) (r := (RX1, TX1, 1)) hK w (hA.1) (hA.2.2.1) rfl)) rfl rfl hl.1 rfl (lv_room (Nat.le_of_ble_eq_true rfl)) dX6_span_62 ⟨(Nat.le_of_ble_eq_true rfl), (Nat.le_of_ble_eq_true rfl)⟩) (fun r_5 u H locs hq w => ?_)
      obtain ⟨rfl, e_r⟩ := hq
      subst e_r
      refine lv_i2l hx hb dX6_span_65 rfl ?_
      exact zRl hx hb hr hlk w dX6_span_66 (Nat.le_of_ble_eq_true rfl) (Nat.le_of_ble_eq_true rfl) (by show (if _ then _ else _); (first | rw [if_pos p_y] | rw [if_neg p_y]); (first | rw [if_pos p_f] | rw [if_neg p_f]); (first | exact ⟨rfl, rfl⟩ | exact ⟨rfl, by rw [hsN]⟩))
    · have p_f := zcmp1 c_3
      refine lv_aload_n hx hb dX6_span_26 rfl (lv_at hl 1 rfl) ?_
      refine lv_lload_n hx hb dX6_span_27 rfl (lv_at hl 0 rfl) ?_
      refine zCl w (va_runV (As := [.long (zWR f wa t y)]) (rest := []) ⟨hx, hb, hml, hown, hts⟩ (kX6_refuse l G h (zWR f wa t y) (zWR_why p_f) H.size) (cwV 1 hts gX6_span_X6_refuse rfl rfl rfl (by decide +kernel) ⟨(Nat.le_of_ble_eq_true rfl), (Nat.le_of_ble_eq_true rfl)⟩) (zPV w hK (px_recv (r := (RX6, TX6, 4)) hK w mo fo rfl)) rfl rfl hl.1 rfl (lv_room (Nat.le_of_ble_eq_true rfl)) dX6_span_28 ⟨(Nat.le_of_ble_eq_true rfl), (Nat.le_of_ble_eq_true rfl)⟩) (fun r_6 u H locs hq w => ?_)
      obtain ⟨rfl, e_r⟩ := hq
      subst e_r
      exact zRl hx hb hr hlk w dX6_span_31 (Nat.le_of_ble_eq_true rfl) (Nat.le_of_ble_eq_true rfl) (by show (if _ then _ else _); (first | rw [if_pos p_y] | rw [if_neg p_y]); (first | rw [if_pos p_f] | rw [if_neg p_f]); (first | exact ⟨rfl, rfl⟩ | exact ⟨rfl, by rw [hsN]⟩))
  · have p_y := c_1
    refine lv_aload_n hx hb dX6_span_5 rfl (lv_at hl 0 rfl) ?_
    refine lv_iload_n hx hb dX6_span_6 rfl (lv_at hl 1 rfl) ?_
    refine zCl w (va_runV (As := [.int t]) (rest := []) ⟨hx, hb, hml, hown, hts⟩ (kX6_wallFault l G h t s.heap.size) (cwV 1 hts gX6_span_X6_wallFault rfl rfl rfl (by decide +kernel) ⟨(Nat.le_of_ble_eq_true rfl), (Nat.le_of_ble_eq_true rfl)⟩) (zPV w hK (px_recv (r := (RX6, TX6, 4)) hK w mo fo rfl)) rfl rfl hl.1 rfl (lv_room (Nat.le_of_ble_eq_true rfl)) dX6_span_7 ⟨(Nat.le_of_ble_eq_true rfl), (Nat.le_of_ble_eq_true rfl)⟩) (fun r_7 u H locs hq w => ?_)
    obtain ⟨rfl, e_r⟩ := hq
    subst e_r
    refine lv_goto (tgt := 19) hx hb dX6_span_10 (by decide) ?_
    refine lv_lstore_n (lv' := [(3, .long (zWF wa t)), (0, .ref o), (1, .int t), (2, .int y)]) hx hb dX6_span_19 rfl hl (by decide) rfl (fun ls hl => ?_)
    refine lv_lload_n hx hb dX6_span_20 rfl (lv_at hl 0 rfl) ?_
    refine lv_lconst (v := 0) hx hb dX6_span_21 (by decide) ?_
    refine W.lcmp hx hb dX6_span_22 ?_
    refine lv_if_eq (tgt := 32) hx hb dX6_span_23 (by decide) (fun c_8 => ?_) (fun c_8 => ?_)
    · have p_f := zcmp0 c_8
      obtain ⟨ht, hwa⟩ := zWF_0 p_f
      have hW := zWT_at hwt p_f
      refine lv_aload_n hx hb dX6_span_32 rfl (lv_at hl 1 rfl) ?_
      refine px_get (ci := 5) (C := RX6) (T := TX6) (N := 4) hx hb hts hown hK w mo (by decide +kernel) fo rfl 1 (by decide) (hts (.fieldLink RX6 17 "ReelBarn" "walls" "[LReelBarn$Wall;") (by decide +kernel)) (fun _ h9 => h9) rfl dX6_span_33 ?_
      refine lv_iload_n hx hb dX6_span_36 rfl (lv_at hl 2 rfl) ?_
      refine px_aldW hx hb hK w mw fw (zfour_in ht) dX6_span_37 ?_
      rw [hwa]
      refine lv_astore (lv' := [(5, .ref (zWa wa t)), (3, .long (zWF wa t)), (0, .ref o), (1, .int t), (2, .int y)]) hx hb dX6_span_38 hl (by decide) rfl (fun ls hl => ?_)
      refine lv_iload_n hx hb dX6_span_40 rfl (lv_at hl 4 rfl) ?_
      refine lv_iconst (v := (-1)) hx hb dX6_span_41 (by decide) ?_
      refine lv_icmp_ne (tgt := 55) hx hb dX6_span_42 (by decide) (fun c_9 => absurd p_y c_9) (fun c_9 => ?_)
      refine lv_aload hx hb dX6_span_45 (lv_at hl 0 rfl) ?_
      refine px_get (ci := 3) (C := RX4) (T := TX4) (N := 1) hx hb hts hown hK w hW.1 (by decide +kernel) hW.2.2.1 rfl 0 (by decide) (hts (.fieldLink RX6 120 "ReelBarn$Wall" "rows" "[LReelBarn$Reel;") (by decide +kernel)) (fun _ h9 => h9) rfl dX6_span_47 ?_
      refine px_alen hx hb hK w hW.2.1 hW.2.2.2.1 5 rfl dX6_span_50 ?_
      refine lv_i2l hx hb dX6_span_51 rfl ?_
      refine lv_goto (tgt := 66) hx hb dX6_span_52 (by decide) ?_
      exact zRl hx hb hr hlk w dX6_span_66 (Nat.le_of_ble_eq_true rfl) (Nat.le_of_ble_eq_true rfl) (by show (if _ then _ else _); (first | rw [if_pos p_y] | rw [if_neg p_y]); (first | rw [if_pos p_f] | rw [if_neg p_f]); (first | exact ⟨rfl, rfl⟩ | exact ⟨rfl, by rw [hsN]⟩))
    · have p_f := zcmp1 c_8
      refine lv_aload_n hx hb dX6_span_26 rfl (lv_at hl 1 rfl) ?_
      refine lv_lload_n hx hb dX6_span_27 rfl (lv_at hl 0 rfl) ?_
      refine zCl w (va_runV (As := [.long (zWF wa t)]) (rest := []) ⟨hx, hb, hml, hown, hts⟩ (kX6_refuse l G h (zWF wa t) (zWF_why p_f) H.size) (cwV 1 hts gX6_span_X6_refuse rfl rfl rfl (by decide +kernel) ⟨(Nat.le_of_ble_eq_true rfl), (Nat.le_of_ble_eq_true rfl)⟩) (zPV w hK (px_recv (r := (RX6, TX6, 4)) hK w mo fo rfl)) rfl rfl hl.1 rfl (lv_room (Nat.le_of_ble_eq_true rfl)) dX6_span_28 ⟨(Nat.le_of_ble_eq_true rfl), (Nat.le_of_ble_eq_true rfl)⟩) (fun r_10 u H locs hq w => ?_)
      obtain ⟨rfl, e_r⟩ := hq
      subst e_r
      exact zRl hx hb hr hlk w dX6_span_31 (Nat.le_of_ble_eq_true rfl) (Nat.le_of_ble_eq_true rfl) (by show (if _ then _ else _); (first | rw [if_pos p_y] | rw [if_neg p_y]); (first | rw [if_pos p_f] | rw [if_neg p_f]); (first | exact ⟨rfl, rfl⟩ | exact ⟨rfl, by rw [hsN]⟩))
set_option maxHeartbeats 4000000 in
set_option maxRecDepth 100000 in
theorem kX6_tally (l : Launch) (G : zG) {L : List Nat} {f : Nat → va_E} {o ac aw ar : Nat} {ch : Option Nat} {car wa : Nat → Option Nat} {ta : Nat → Int32} (h : zBn G L f o ac aw ar ch car wa ta) (hct : zCT G L f car) (hwt : zWT G L f wa) (what : Int32) (sz : Nat) : zMi l yX6_tally wsX6_tally { frames := 0, cells := 0, slots := 0, locals := 0 } G [.ref o, .int what] (va_pl L f) sz (fun r u => u = va_pl L f ∧ r = if ¬ what < 1 ∧ ¬ 7 < what then ta what.toNatClampNeg else 0) 0 0 := by
  refine zIn (Qc := fun A => va_Qi _ (zB G A) A) (cc := cX6_tally) (maxL := 2) (ret := (some .int)) (by decide) rfl (Nat.le_of_ble_eq_true rfl) ?_
  intro p e s m below meth c A ls hx hb hr hlk hml hts hown hnm hK w hl
  have hown : s.vm.findClass RX6 = some m.cls := hown
  have hl : lv_has ls 2 [(0, .ref o), (1, .int what)] := hl
  obtain ⟨⟨mo, mc, mw, mr⟩, fo, fc, fw, fr⟩ := id h
  refine lv_iload_n hx hb dX6_tally_0 rfl (lv_at hl 1 rfl) ?_
  refine lv_iconst (v := 1) hx hb dX6_tally_1 (by decide) ?_
  refine lv_icmp_lt (tgt := 20) hx hb dX6_tally_2 (by decide) (fun c_1 => ?_) (fun c_1 => ?_)
  · refine lv_iconst (v := 0) hx hb dX6_tally_20 (by decide) ?_
    exact zRi hx hb hr hlk w dX6_tally_21 (Nat.le_of_ble_eq_true rfl) (Nat.le_of_ble_eq_true rfl) ⟨rfl, by simp [c_1]⟩
  · refine lv_iload_n hx hb dX6_tally_5 rfl (lv_at hl 1 rfl) ?_
    refine lv_bipush (v := 7) hx hb dX6_tally_6 (by decide) ?_
    refine lv_icmp_gt (tgt := 20) hx hb dX6_tally_8 (by decide) (fun c_2 => ?_) (fun c_2 => ?_)
    · refine lv_iconst (v := 0) hx hb dX6_tally_20 (by decide) ?_
      exact zRi hx hb hr hlk w dX6_tally_21 (Nat.le_of_ble_eq_true rfl) (Nat.le_of_ble_eq_true rfl) ⟨rfl, by simp [c_1, c_2]⟩
    · refine lv_aload_n hx hb dX6_tally_11 rfl (lv_at hl 0 rfl) ?_
      refine px_get (ci := 5) (C := RX6) (T := TX6) (N := 4) hx hb hts hown hK w mo (by decide +kernel) fo rfl 2 (by decide) (hts (.fieldLink RX6 21 "ReelBarn" "refusals" "[I") (by decide +kernel)) (fun _ h9 => h9) rfl dX6_tally_12 ?_
      refine lv_iload_n hx hb dX6_tally_15 rfl (lv_at hl 1 rfl) ?_
      refine px_iald hx hb hK w mr fr (zta_in c_1 c_2) dX6_tally_16 ?_
      refine lv_goto (tgt := 21) hx hb dX6_tally_17 (by decide) ?_
      exact zRi hx hb hr hlk w dX6_tally_21 (Nat.le_of_ble_eq_true rfl) (Nat.le_of_ble_eq_true rfl) ⟨rfl, by simp [c_1, c_2]⟩
set_option maxHeartbeats 4000000 in
set_option maxRecDepth 100000 in
theorem kX6_note (l : Launch) (G : zG) {L : List Nat} {f : Nat → va_E} {o ac aw ar : Nat} {ch : Option Nat} {car wa : Nat → Option Nat} {ta : Nat → Int32} (h : zBn G L f o ac aw ar ch car wa ta) {m0 : Nat} (hht : zHT G L f ch m0) (y k x : Int32) (sz : Nat) : zMl l yX6_note wsX6_note { frames := 1, cells := 0, slots := 0, locals := 22 } G [.ref o, .int y, .int k, .int x] (va_pl L f) sz (fun r u => if ch = none then zRefP G L f ar ta zVACANT r u else if zHas2 (eN (f (ch.getD 0))) y then (if zHas2 m0 k then (u = va_pl L (va_up f (zHb f (ch.getD 0) y) (.inl (G.2 4, m0, .inl (upd (eI (f (zHb f (ch.getD 0) y))) k.toNatClampNeg (eI (f (zHb f (ch.getD 0) y)) k.toNatClampNeg + x))))) ∧ r = (eI (f (zHb f (ch.getD 0) y)) k.toNatClampNeg + x).toInt64) else zRefP G L f ar ta zBEYOND r u) else zRefP G L f ar ta zBEYOND r u) 0 0 := by
  refine zIn (Qc := fun A => va_Ql _ (zB G A) A) (cc := cX6_note) (maxL := 5) (ret := (some .long)) (by decide) rfl (Nat.le_of_ble_eq_true rfl) ?_
  intro p e s m below meth c A ls hx hb hr hlk hml hts hown hnm hK w hl
  have hown : s.vm.findClass RX6 = some m.cls := hown
  have hl : lv_has ls 5 [(0, .ref o), (1, .int y), (2, .int k), (3, .int x)] := hl
  obtain ⟨⟨mo, mc, mw, mr⟩, fo, fc, fw, fr⟩ := id h
  refine lv_aload_n hx hb dX6_note_0 rfl (lv_at hl 0 rfl) ?_
  refine px_get (ci := 5) (C := RX6) (T := TX6) (N := 4) hx hb hts hown hK w mo (by decide +kernel) fo rfl 3 (by decide) (hts (.fieldLink RX6 25 "ReelBarn" "chartRows" "[[I") (by decide +kernel)) (fun _ h9 => h9) rfl dX6_note_1 ?_
  refine z_ifnonnullQ (tgt := 15) hx hb dX6_note_4 (by decide) (fun c_1 => ?_) (fun c_1 => ?_)
  · have p_c := c_1
    obtain ⟨q, hq0⟩ : ∃ q, ch = some q := ⟨_, zget0 c_1⟩
    have hC := hht q hq0
    subst hq0
    have fo : f o = .inr (5, [.ref ac, .ref aw, .ref ar, .ref q]) := fo
    refine lv_iload_n hx hb dX6_note_15 rfl (lv_at hl 1 rfl) ?_
    refine lv_if_lt (tgt := 28) hx hb dX6_note_16 (by decide) (fun c_2 => ?_) (fun c_2 => ?_)
    · have p_y : ¬ zHas2 (eN (f q)) y := fun z => z.1 c_2
      refine lv_aload_n hx hb dX6_note_28 rfl (lv_at hl 0 rfl) ?_
      refine lv_ldc2 hx hb hown (hts (.constantLong RX6 136 (3298534883328)) (by decide +kernel)) dX6_note_29 ?_
      refine zCl w (va_runV (As := [.long 3298534883328]) (rest := []) ⟨hx, hb, hml, hown, hts⟩ (kX6_refuse l G h zBEYOND zW3 s.heap.size) (cwV 1 hts gX6_note_X6_refuse rfl rfl rfl (by decide +kernel) ⟨(Nat.le_of_ble_eq_true rfl), (Nat.le_of_ble_eq_true rfl)⟩) (zPV w hK (px_recv (r := (RX6, TX6, 4)) hK w mo fo rfl)) rfl rfl hl.1 rfl (lv_room (Nat.le_of_ble_eq_true rfl)) dX6_note_32 ⟨(Nat.le_of_ble_eq_true rfl), (Nat.le_of_ble_eq_true rfl)⟩) (fun r_3 u H locs hq w => ?_)
      obtain ⟨rfl, e_r⟩ := hq
      subst e_r
      exact zRl hx hb hr hlk w dX6_note_35 (Nat.le_of_ble_eq_true rfl) (Nat.le_of_ble_eq_true rfl) (by show (if _ then _ else _); rw [if_neg p_c]; simp only [Option.getD_some]; (first | rw [if_pos p_y] | rw [if_neg p_y]); (first | exact ⟨rfl, rfl⟩ | exact ⟨rfl, by simp [upd]⟩ | simp [upd]))
    · have q_y := c_2
      refine lv_iload_n hx hb dX6_note_19 rfl (lv_at hl 1 rfl) ?_
      refine lv_aload_n hx hb dX6_note_20 rfl (lv_at hl 0 rfl) ?_
      refine px_get (ci := 5) (C := RX6) (T := TX6) (N := 4) hx hb hts hown hK w mo (by decide +kernel) fo rfl 3 (by decide) (hts (.fieldLink RX6 25 "ReelBarn" "chartRows" "[[I") (by decide +kernel)) (fun _ h9 => h9) rfl dX6_note_21 ?_
      refine px_alen hx hb hK w hC.1 hC.2.1 7 rfl dX6_note_24 ?_
      refine lv_icmp_lt (tgt := 36) hx hb dX6_note_25 (by decide) (fun c_4 => ?_) (fun c_4 => ?_)
      · have p_y : zHas2 (eN (f q)) y := ⟨q_y, c_4⟩
        have hyi := zHas2_in p_y (by have := hC.2.2.1; omega)
        obtain ⟨hb1, hb2, hb3⟩ := zHA_row hC hyi
        refine lv_aload_n hx hb dX6_note_36 rfl (lv_at hl 0 rfl) ?_
        refine px_get (ci := 5) (C := RX6) (T := TX6) (N := 4) hx hb hts hown hK w mo (by decide +kernel) fo rfl 3 (by decide) (hts (.fieldLink RX6 25 "ReelBarn" "chartRows" "[[I") (by decide +kernel)) (fun _ h9 => h9) rfl dX6_note_37 ?_
        refine lv_iload_n hx hb dX6_note_40 rfl (lv_at hl 1 rfl) ?_
        refine px_aldA hx hb hK w hC.1 hC.2.1 hyi dX6_note_41 ?_
        rw [hb1]
        refine lv_astore (lv' := [(4, .ref (zHb f q y)), (0, .ref o), (1, .int y), (2, .int k), (3, .int x)]) hx hb dX6_note_42 hl (by decide) rfl (fun ls hl => ?_)
        refine lv_iload_n hx hb dX6_note_44 rfl (lv_at hl 3 rfl) ?_
        refine lv_if_lt (tgt := 55) hx hb dX6_note_45 (by decide) (fun c_5 => ?_) (fun c_5 => ?_)
        · have p_k : ¬ zHas2 m0 k := fun z => z.1 c_5
          refine lv_aload_n hx hb dX6_note_55 rfl (lv_at hl 1 rfl) ?_
          refine lv_ldc2 hx hb hown (hts (.constantLong RX6 136 (3298534883328)) (by decide +kernel)) dX6_note_56 ?_
          refine zCl w (va_runV (As := [.long 3298534883328]) (rest := []) ⟨hx, hb, hml, hown, hts⟩ (kX6_refuse l G h zBEYOND zW3 s.heap.size) (cwV 1 hts gX6_note_X6_refuse rfl rfl rfl (by decide +kernel) ⟨(Nat.le_of_ble_eq_true rfl), (Nat.le_of_ble_eq_true rfl)⟩) (zPV w hK (px_recv (r := (RX6, TX6, 4)) hK w mo fo rfl)) rfl rfl hl.1 rfl (lv_room (Nat.le_of_ble_eq_true rfl)) dX6_note_59 ⟨(Nat.le_of_ble_eq_true rfl), (Nat.le_of_ble_eq_true rfl)⟩) (fun r_6 u H locs hq w => ?_)
          obtain ⟨rfl, e_r⟩ := hq
          subst e_r
          exact zRl hx hb hr hlk w dX6_note_62 (Nat.le_of_ble_eq_true rfl) (Nat.le_of_ble_eq_true rfl) (by show (if _ then _ else _); rw [if_neg p_c]; simp only [Option.getD_some]; (first | rw [if_pos p_y] | rw [if_neg p_y]); (first | rw [if_pos p_k] | rw [if_neg p_k]); (first | exact ⟨rfl, rfl⟩ | exact ⟨rfl, by simp [upd]⟩ | simp [upd]))
        · have q_k := c_5
          refine lv_iload_n hx hb dX6_note_48 rfl (lv_at hl 3 rfl) ?_
          refine lv_aload hx hb dX6_note_49 (lv_at hl 0 rfl) ?_
          refine px_alen hx hb hK w hb2 hb3 4 rfl dX6_note_51 ?_
          refine lv_icmp_lt (tgt := 63) hx hb dX6_note_52 (by decide) (fun c_7 => ?_) (fun c_7 => ?_)
          · have p_k : zHas2 m0 k := ⟨q_k, c_7⟩
            have hki := zHas2_in p_k (by have := hC.2.2.2.1; omega)
            refine lv_aload hx hb dX6_note_63 (lv_at hl 0 rfl) ?_
            refine lv_iload_n hx hb dX6_note_65 rfl (lv_at hl 3 rfl) ?_
            refine lv_dup2_11 hx hb dX6_note_66 rfl rfl ?_
            refine px_iald hx hb hK w hb2 hb3 hki dX6_note_67 ?_
            refine lv_iload_n hx hb dX6_note_68 rfl (lv_at hl 4 rfl) ?_
            refine lv_iadd hx hb dX6_note_69 ?_
            refine px_iast hx hb hK w hb2 hb3 hki dX6_note_70 (fun H locs w => ?_)
            refine lv_aload hx hb dX6_note_71 (lv_at hl 0 rfl) ?_
            refine lv_iload_n hx hb dX6_note_73 rfl (lv_at hl 3 rfl) ?_
            refine px_iald hx hb hK w hb2 (va_up_self _ _ _) hki dX6_note_74 ?_
            refine lv_i2l hx hb dX6_note_75 rfl ?_
            exact zRl hx hb hr hlk w dX6_note_76 (Nat.le_of_ble_eq_true rfl) (Nat.le_of_ble_eq_true rfl) (by show (if _ then _ else _); rw [if_neg p_c]; simp only [Option.getD_some]; (first | rw [if_pos p_y] | rw [if_neg p_y]); (first | rw [if_pos p_k] | rw [if_neg p_k]); (first | exact ⟨rfl, rfl⟩ | exact ⟨rfl, by simp [upd]⟩ | simp [upd]))
          · have p_k : ¬ zHas2 m0 k := fun z => c_7 z.2
            refine lv_aload_n hx hb dX6_note_55 rfl (lv_at hl 1 rfl) ?_
            refine lv_ldc2 hx hb hown (hts (.constantLong RX6 136 (3298534883328)) (by decide +kernel)) dX6_note_56 ?_
            refine zCl w (va_runV (As := [.long 3298534883328]) (rest := []) ⟨hx, hb, hml, hown, hts⟩ (kX6_refuse l G h zBEYOND zW3 s.heap.size) (cwV 1 hts gX6_note_X6_refuse rfl rfl rfl (by decide +kernel) ⟨(Nat.le_of_ble_eq_true rfl), (Nat.le_of_ble_eq_true rfl)⟩) (zPV w hK (px_recv (r := (RX6, TX6, 4)) hK w mo fo rfl)) rfl rfl hl.1 rfl (lv_room (Nat.le_of_ble_eq_true rfl)) dX6_note_59 ⟨(Nat.le_of_ble_eq_true rfl), (Nat.le_of_ble_eq_true rfl)⟩) (fun r_8 u H locs hq w => ?_)
            obtain ⟨rfl, e_r⟩ := hq
            subst e_r
            exact zRl hx hb hr hlk w dX6_note_62 (Nat.le_of_ble_eq_true rfl) (Nat.le_of_ble_eq_true rfl) (by show (if _ then _ else _); rw [if_neg p_c]; simp only [Option.getD_some]; (first | rw [if_pos p_y] | rw [if_neg p_y]); (first | rw [if_pos p_k] | rw [if_neg p_k]); (first | exact ⟨rfl, rfl⟩ | exact ⟨rfl, by simp [upd]⟩ | simp [upd]))
      · have p_y : ¬ zHas2 (eN (f q)) y := fun z => c_4 z.2
        refine lv_aload_n hx hb dX6_note_28 rfl (lv_at hl 0 rfl) ?_
        refine lv_ldc2 hx hb hown (hts (.constantLong RX6 136 (3298534883328)) (by decide +kernel)) dX6_note_29 ?_
        refine zCl w (va_runV (As := [.long 3298534883328]) (rest := []) ⟨hx, hb, hml, hown, hts⟩ (kX6_refuse l G h zBEYOND zW3 s.heap.size) (cwV 1 hts gX6_note_X6_refuse rfl rfl rfl (by decide +kernel) ⟨(Nat.le_of_ble_eq_true rfl), (Nat.le_of_ble_eq_true rfl)⟩) (zPV w hK (px_recv (r := (RX6, TX6, 4)) hK w mo fo rfl)) rfl rfl hl.1 rfl (lv_room (Nat.le_of_ble_eq_true rfl)) dX6_note_32 ⟨(Nat.le_of_ble_eq_true rfl), (Nat.le_of_ble_eq_true rfl)⟩) (fun r_9 u H locs hq w => ?_)
        obtain ⟨rfl, e_r⟩ := hq
        subst e_r
        exact zRl hx hb hr hlk w dX6_note_35 (Nat.le_of_ble_eq_true rfl) (Nat.le_of_ble_eq_true rfl) (by show (if _ then _ else _); rw [if_neg p_c]; simp only [Option.getD_some]; (first | rw [if_pos p_y] | rw [if_neg p_y]); (first | exact ⟨rfl, rfl⟩ | exact ⟨rfl, by simp [upd]⟩ | simp [upd]))
  · have p_c := c_1
    refine lv_aload_n hx hb dX6_note_7 rfl (lv_at hl 0 rfl) ?_
    refine lv_ldc2 hx hb hown (hts (.constantLong RX6 134 (2199023255552)) (by decide +kernel)) dX6_note_8 ?_
    refine zCl w (va_runV (As := [.long 2199023255552]) (rest := []) ⟨hx, hb, hml, hown, hts⟩ (kX6_refuse l G h zVACANT zW2 s.heap.size) (cwV 1 hts gX6_note_X6_refuse rfl rfl rfl (by decide +kernel) ⟨(Nat.le_of_ble_eq_true rfl), (Nat.le_of_ble_eq_true rfl)⟩) (zPV w hK (px_recv (r := (RX6, TX6, 4)) hK w mo fo rfl)) rfl rfl hl.1 rfl (lv_room (Nat.le_of_ble_eq_true rfl)) dX6_note_11 ⟨(Nat.le_of_ble_eq_true rfl), (Nat.le_of_ble_eq_true rfl)⟩) (fun r_10 u H locs hq w => ?_)
    obtain ⟨rfl, e_r⟩ := hq
    subst e_r
    exact zRl hx hb hr hlk w dX6_note_14 (Nat.le_of_ble_eq_true rfl) (Nat.le_of_ble_eq_true rfl) (by show (if _ then _ else _); rw [if_pos p_c]; exact ⟨rfl, rfl⟩)
set_option maxHeartbeats 4000000 in
set_option maxRecDepth 100000 in
theorem kX6_blendFloats (l : Launch) (G : zG) {s0 : Nat} (hs : s0 = 0 ∨ s0 = 1 ∨ s0 = 2 ∨ s0 = 3) {L : List Nat} {f : Nat → va_E} {a b n : Nat} {gi : Nat → Int32} {gf : Nat → UInt32} (h : zReel G L f s0 a b n gi gf) (i : Int32) (v : UInt32) (less : Int32) (hi : vp_in i n) (hv : zFin v) (sz : Nat) : zMv l yX6_blendFloats wsX6_blendFloats { frames := 2, cells := 0, slots := 0, locals := 44 } G [.ref a, .int i, .float v, .int less] (va_pl L f) sz (fun u => u = va_pl L (va_up f b (zCel G s0 n (zPlI s0 gi i.toNatClampNeg (zBv less (zLev s0 gi gf i.toNatClampNeg) v)) (zPuF s0 gf i.toNatClampNeg (zBv less (zLev s0 gi gf i.toNatClampNeg) v))))) 0 0 := by
  refine zIn (Qc := fun A => va_Qv _ (zB G A) A) (cc := cX6_blendFloats) (maxL := 5) (ret := none) (by decide) rfl (Nat.le_of_ble_eq_true rfl) ?_
  intro p e s m below meth c A ls hx hb hr hlk hml hts hown hnm hK w hl
  have hown : s.vm.findClass RX6 = some m.cls := hown
  have hl : lv_has ls 5 [(0, .ref a), (1, .int i), (2, .float v), (3, .int less)] := hl
  refine lv_aload_n hx hb dX6_blendFloats_0 rfl (lv_at hl 0 rfl) ?_
  refine lv_iload_n hx hb dX6_blendFloats_1 rfl (lv_at hl 1 rfl) ?_
  refine zCf (post := fun r u => u = va_pl L f ∧ r = (zLev s0 gi gf i.toNatClampNeg)) (mc := 0) (ms := 0) (rest := []) (av := (Value.ref a :: [.int i]).toArray) w (by
      rcases hs with rfl | rfl | rfl | rfl
      · exact va_runU (As := [.int i]) (rest := []) ⟨hx, hb, hml, hown, hts⟩ (kX3_level l G (by omega) h i hi s.heap.size) (va_cwU 1 hts gX6_blendFloats_X3_level_u98X2 rfl rfl rfl rfl (by decide +kernel) ⟨(Nat.le_of_ble_eq_true rfl), (Nat.le_of_ble_eq_true rfl)⟩) (zPV w hK (px_recv (ci := 2) (fs := [.ref b]) (r := (RX2, TX2, 1)) hK w (h.1) (h.2.2.1) rfl)) rfl rfl hl.1 rfl (lv_room (Nat.le_of_ble_eq_true rfl)) dX6_blendFloats_2 ⟨(Nat.le_of_ble_eq_true rfl), (Nat.le_of_ble_eq_true rfl)⟩
      · exact va_runU (As := [.int i]) (rest := []) ⟨hx, hb, hml, hown, hts⟩ (kX3_level l G (by omega) h i hi s.heap.size) (va_cwU 1 hts gX6_blendFloats_X3_level_u98X5 rfl rfl rfl rfl (by decide +kernel) ⟨(Nat.le_of_ble_eq_true rfl), (Nat.le_of_ble_eq_true rfl)⟩) (zPV w hK (px_recv (ci := 4) (fs := [.ref b]) (r := (RX5, TX5, 1)) hK w (h.1) (h.2.2.1) rfl)) rfl rfl hl.1 rfl (lv_room (Nat.le_of_ble_eq_true rfl)) dX6_blendFloats_2 ⟨(Nat.le_of_ble_eq_true rfl), (Nat.le_of_ble_eq_true rfl)⟩
      · exact va_runU (As := [.int i]) (rest := []) ⟨hx, hb, hml, hown, hts⟩ (kX0_level l G h i hi s.heap.size) (va_cwO 1 hts gX6_blendFloats_X0_level_u98X0 rfl rfl rfl (b0 := cX3_level) (m0 := 2) (r0 := (some .float)) (by decide +kernel) (by decide +kernel) ⟨(Nat.le_of_ble_eq_true rfl), (Nat.le_of_ble_eq_true rfl)⟩) (zPV w hK (px_recv (ci := 0) (fs := [.ref b]) (r := (RX0, TX0, 1)) hK w (h.1) (h.2.2.1) rfl)) rfl rfl hl.1 rfl (lv_room (Nat.le_of_ble_eq_true rfl)) dX6_blendFloats_2 ⟨(Nat.le_of_ble_eq_true rfl), (Nat.le_of_ble_eq_true rfl)⟩
      · exact va_runU (As := [.int i]) (rest := []) ⟨hx, hb, hml, hown, hts⟩ (kX3_level l G (by omega) h i hi s.heap.size) (va_cwU 1 hts gX6_blendFloats_X3_level_u98X1 rfl rfl rfl rfl (by decide +kernel) ⟨(Nat.le_of_ble_eq_true rfl), (Nat.le_of_ble_eq_true rfl)⟩) (zPV w hK (px_recv (ci := 1) (fs := [.ref b]) (r := (RX1, TX1, 1)) hK w (h.1) (h.2.2.1) rfl)) rfl rfl hl.1 rfl (lv_room (Nat.le_of_ble_eq_true rfl)) dX6_blendFloats_2 ⟨(Nat.le_of_ble_eq_true rfl), (Nat.le_of_ble_eq_true rfl)⟩) (fun r_1 u H locs hq w => ?_)
  obtain ⟨rfl, e_r⟩ := hq
  subst e_r
  refine lv_fstore (lv' := [(4, .float (zLev s0 gi gf i.toNatClampNeg)), (0, .ref a), (1, .int i), (2, .float v), (3, .int less)]) hx hb dX6_blendFloats_5 hl (by decide) rfl (fun ls hl => ?_)
  refine lv_aload_n hx hb dX6_blendFloats_7 rfl (lv_at hl 1 rfl) ?_
  refine lv_iload_n hx hb dX6_blendFloats_8 rfl (lv_at hl 2 rfl) ?_
  refine lv_iload_n hx hb dX6_blendFloats_9 rfl (lv_at hl 4 rfl) ?_
  refine lv_if_eq (tgt := 20) hx hb dX6_blendFloats_10 (by decide) (fun c_2 => ?_) (fun c_2 => ?_)
  · refine lv_fload hx hb dX6_blendFloats_20 (lv_at hl 0 rfl) ?_
    refine lv_fload_n hx hb dX6_blendFloats_22 rfl (lv_at hl 3 rfl) ?_
    refine lv_fadd hx hb dX6_blendFloats_23 (zadd (zLev_fin h (zin_lt hi)) hv) ?_
    refine zCv (post := fun u => u = va_pl L (va_up f b (zCel G s0 n (zPlI s0 gi i.toNatClampNeg (FP.fadd (zLev s0 gi gf i.toNatClampNeg) v)) (zPuF s0 gf i.toNatClampNeg (FP.fadd (zLev s0 gi gf i.toNatClampNeg) v))))) (mc := 0) (ms := 0) (rest := []) (av := (Value.ref a :: [.int i, .float (FP.fadd (zLev s0 gi gf i.toNatClampNeg) v)]).toArray) w (by
        rcases hs with rfl | rfl | rfl | rfl
        · exact va_runU (As := [.int i, .float (FP.fadd (zLev 0 gi gf i.toNatClampNeg) v)]) (rest := []) ⟨hx, hb, hml, hown, hts⟩ (kX3_putLevel l G (by omega) h i (FP.fadd (zLev 0 gi gf i.toNatClampNeg) v) hi H.size) (va_cwU 2 hts gX6_blendFloats_X3_putLevel_u138X2 rfl rfl rfl rfl (by decide +kernel) ⟨(Nat.le_of_ble_eq_true rfl), (Nat.le_of_ble_eq_true rfl)⟩) (zPV w hK (px_recv (ci := 2) (fs := [.ref b]) (r := (RX2, TX2, 1)) hK w (h.1) (h.2.2.1) rfl)) rfl rfl hl.1 rfl (lv_room (Nat.le_of_ble_eq_true rfl)) dX6_blendFloats_24 ⟨(Nat.le_of_ble_eq_true rfl), (Nat.le_of_ble_eq_true rfl)⟩
        · exact va_runU (As := [.int i, .float (FP.fadd (zLev 1 gi gf i.toNatClampNeg) v)]) (rest := []) ⟨hx, hb, hml, hown, hts⟩ (kX3_putLevel l G (by omega) h i (FP.fadd (zLev 1 gi gf i.toNatClampNeg) v) hi H.size) (va_cwU 2 hts gX6_blendFloats_X3_putLevel_u138X5 rfl rfl rfl rfl (by decide +kernel) ⟨(Nat.le_of_ble_eq_true rfl), (Nat.le_of_ble_eq_true rfl)⟩) (zPV w hK (px_recv (ci := 4) (fs := [.ref b]) (r := (RX5, TX5, 1)) hK w (h.1) (h.2.2.1) rfl)) rfl rfl hl.1 rfl (lv_room (Nat.le_of_ble_eq_true rfl)) dX6_blendFloats_24 ⟨(Nat.le_of_ble_eq_true rfl), (Nat.le_of_ble_eq_true rfl)⟩
        · exact va_runU (As := [.int i, .float (FP.fadd (zLev 2 gi gf i.toNatClampNeg) v)]) (rest := []) ⟨hx, hb, hml, hown, hts⟩ (kX0_putLevel l G h i (FP.fadd (zLev 2 gi gf i.toNatClampNeg) v) hi H.size) (va_cwO 2 hts gX6_blendFloats_X0_putLevel_u138X0 rfl rfl rfl (b0 := cX3_putLevel) (m0 := 3) (r0 := none) (by decide +kernel) (by decide +kernel) ⟨(Nat.le_of_ble_eq_true rfl), (Nat.le_of_ble_eq_true rfl)⟩) (zPV w hK (px_recv (ci := 0) (fs := [.ref b]) (r := (RX0, TX0, 1)) hK w (h.1) (h.2.2.1) rfl)) rfl rfl hl.1 rfl (lv_room (Nat.le_of_ble_eq_true rfl)) dX6_blendFloats_24 ⟨(Nat.le_of_ble_eq_true rfl), (Nat.le_of_ble_eq_true rfl)⟩
        · exact va_runU (As := [.int i, .float (FP.fadd (zLev 3 gi gf i.toNatClampNeg) v)]) (rest := []) ⟨hx, hb, hml, hown, hts⟩ (kX3_putLevel l G (by omega) h i (FP.fadd (zLev 3 gi gf i.toNatClampNeg) v) hi H.size) (va_cwU 2 hts gX6_blendFloats_X3_putLevel_u138X1 rfl rfl rfl rfl (by decide +kernel) ⟨(Nat.le_of_ble_eq_true rfl), (Nat.le_of_ble_eq_true rfl)⟩) (zPV w hK (px_recv (ci := 1) (fs := [.ref b]) (r := (RX1, TX1, 1)) hK w (h.1) (h.2.2.1) rfl)) rfl rfl hl.1 rfl (lv_room (Nat.le_of_ble_eq_true rfl)) dX6_blendFloats_24 ⟨(Nat.le_of_ble_eq_true rfl), (Nat.le_of_ble_eq_true rfl)⟩) (fun u H locs hq w => ?_)
    subst hq
    exact zRv hx hb hr hlk w dX6_blendFloats_27 (Nat.le_of_ble_eq_true rfl) (Nat.le_of_ble_eq_true rfl) (by simp [zBv, c_2])
  · refine lv_fload hx hb dX6_blendFloats_13 (lv_at hl 0 rfl) ?_
    refine lv_fload_n hx hb dX6_blendFloats_15 rfl (lv_at hl 3 rfl) ?_
    refine lv_fsub hx hb dX6_blendFloats_16 (zsub (zLev_fin h (zin_lt hi)) hv) ?_
    refine lv_goto (tgt := 24) hx hb dX6_blendFloats_17 (by decide) ?_
    refine zCv (post := fun u => u = va_pl L (va_up f b (zCel G s0 n (zPlI s0 gi i.toNatClampNeg (FP.fsub (zLev s0 gi gf i.toNatClampNeg) v)) (zPuF s0 gf i.toNatClampNeg (FP.fsub (zLev s0 gi gf i.toNatClampNeg) v))))) (mc := 0) (ms := 0) (rest := []) (av := (Value.ref a :: [.int i, .float (FP.fsub (zLev s0 gi gf i.toNatClampNeg) v)]).toArray) w (by
        rcases hs with rfl | rfl | rfl | rfl
        · exact va_runU (As := [.int i, .float (FP.fsub (zLev 0 gi gf i.toNatClampNeg) v)]) (rest := []) ⟨hx, hb, hml, hown, hts⟩ (kX3_putLevel l G (by omega) h i (FP.fsub (zLev 0 gi gf i.toNatClampNeg) v) hi H.size) (va_cwU 2 hts gX6_blendFloats_X3_putLevel_u138X2 rfl rfl rfl rfl (by decide +kernel) ⟨(Nat.le_of_ble_eq_true rfl), (Nat.le_of_ble_eq_true rfl)⟩) (zPV w hK (px_recv (ci := 2) (fs := [.ref b]) (r := (RX2, TX2, 1)) hK w (h.1) (h.2.2.1) rfl)) rfl rfl hl.1 rfl (lv_room (Nat.le_of_ble_eq_true rfl)) dX6_blendFloats_24 ⟨(Nat.le_of_ble_eq_true rfl), (Nat.le_of_ble_eq_true rfl)⟩
        · exact va_runU (As := [.int i, .float (FP.fsub (zLev 1 gi gf i.toNatClampNeg) v)]) (rest := []) ⟨hx, hb, hml, hown, hts⟩ (kX3_putLevel l G (by omega) h i (FP.fsub (zLev 1 gi gf i.toNatClampNeg) v) hi H.size) (va_cwU 2 hts gX6_blendFloats_X3_putLevel_u138X5 rfl rfl rfl rfl (by decide +kernel) ⟨(Nat.le_of_ble_eq_true rfl), (Nat.le_of_ble_eq_true rfl)⟩) (zPV w hK (px_recv (ci := 4) (fs := [.ref b]) (r := (RX5, TX5, 1)) hK w (h.1) (h.2.2.1) rfl)) rfl rfl hl.1 rfl (lv_room (Nat.le_of_ble_eq_true rfl)) dX6_blendFloats_24 ⟨(Nat.le_of_ble_eq_true rfl), (Nat.le_of_ble_eq_true rfl)⟩
        · exact va_runU (As := [.int i, .float (FP.fsub (zLev 2 gi gf i.toNatClampNeg) v)]) (rest := []) ⟨hx, hb, hml, hown, hts⟩ (kX0_putLevel l G h i (FP.fsub (zLev 2 gi gf i.toNatClampNeg) v) hi H.size) (va_cwO 2 hts gX6_blendFloats_X0_putLevel_u138X0 rfl rfl rfl (b0 := cX3_putLevel) (m0 := 3) (r0 := none) (by decide +kernel) (by decide +kernel) ⟨(Nat.le_of_ble_eq_true rfl), (Nat.le_of_ble_eq_true rfl)⟩) (zPV w hK (px_recv (ci := 0) (fs := [.ref b]) (r := (RX0, TX0, 1)) hK w (h.1) (h.2.2.1) rfl)) rfl rfl hl.1 rfl (lv_room (Nat.le_of_ble_eq_true rfl)) dX6_blendFloats_24 ⟨(Nat.le_of_ble_eq_true rfl), (Nat.le_of_ble_eq_true rfl)⟩
        · exact va_runU (As := [.int i, .float (FP.fsub (zLev 3 gi gf i.toNatClampNeg) v)]) (rest := []) ⟨hx, hb, hml, hown, hts⟩ (kX3_putLevel l G (by omega) h i (FP.fsub (zLev 3 gi gf i.toNatClampNeg) v) hi H.size) (va_cwU 2 hts gX6_blendFloats_X3_putLevel_u138X1 rfl rfl rfl rfl (by decide +kernel) ⟨(Nat.le_of_ble_eq_true rfl), (Nat.le_of_ble_eq_true rfl)⟩) (zPV w hK (px_recv (ci := 1) (fs := [.ref b]) (r := (RX1, TX1, 1)) hK w (h.1) (h.2.2.1) rfl)) rfl rfl hl.1 rfl (lv_room (Nat.le_of_ble_eq_true rfl)) dX6_blendFloats_24 ⟨(Nat.le_of_ble_eq_true rfl), (Nat.le_of_ble_eq_true rfl)⟩) (fun u H locs hq w => ?_)
    subst hq
    exact zRv hx hb hr hlk w dX6_blendFloats_27 (Nat.le_of_ble_eq_true rfl) (Nat.le_of_ble_eq_true rfl) (by simp [zBv, c_2])
set_option maxHeartbeats 4000000 in
set_option maxRecDepth 100000 in
theorem kX6_blend (l : Launch) (G : zG) {L : List Nat} {f : Nat → va_E} {o ac aw ar : Nat} {ch : Option Nat} {car wa : Nat → Option Nat} {ta : Nat → Int32} (h : zBn G L f o ac aw ar ch car wa ta) (hct : zCT G L f car) (hwt : zWT G L f wa) (d t i d2 t2 j less : Int32) (sz : Nat) : zMl l yX6_blend wsX6_blend { frames := 3, cells := 0, slots := 0, locals := 69 } G [.ref o, .int d, .int t, .int i, .int d2, .int t2, .int j, .int less] (va_pl L f) sz (fun r u => if zFour d ∧ zFour t ∧ (t = 3 ↔ t2 = 3) then (if zPF f car d2 t2 j = 0 then (if zPF f car d t i = 0 then (if t = 2 ∨ t2 = 2 then (u = zPutW G L f (zS t) (zA car d t) (zPlI (zS t) (vI f (zA car d t)) i.toNatClampNeg (zBv less (zLev (zS t) (vI f (zA car d t)) (vF f (zA car d t)) i.toNatClampNeg) (zLev (zS t2) (vI f (zA car d2 t2)) (vF f (zA car d2 t2)) j.toNatClampNeg))) (zPuF (zS t) (vF f (zA car d t)) i.toNatClampNeg (zBv less (zLev (zS t) (vI f (zA car d t)) (vF f (zA car d t)) i.toNatClampNeg) (zLev (zS t2) (vI f (zA car d2 t2)) (vF f (zA car d2 t2)) j.toNatClampNeg))) ∧ r = (zTold (zS t) (zPlI (zS t) (vI f (zA car d t)) i.toNatClampNeg (zBv less (zLev (zS t) (vI f (zA car d t)) (vF f (zA car d t)) i.toNatClampNeg) (zLev (zS t2) (vI f (zA car d2 t2)) (vF f (zA car d2 t2)) j.toNatClampNeg))) (zPuF (zS t) (vF f (zA car d t)) i.toNatClampNeg (zBv less (zLev (zS t) (vI f (zA car d t)) (vF f (zA car d t)) i.toNatClampNeg) (zLev (zS t2) (vI f (zA car d2 t2)) (vF f (zA car d2 t2)) j.toNatClampNeg))) i.toNatClampNeg).toInt64) else (u = zPutW G L f (zS t) (zA car d t) (zChI (zS t) (vI f (zA car d t)) (vF f (zA car d t)) i.toNatClampNeg (zHow t less) (zTold (zS t2) (vI f (zA car d2 t2)) (vF f (zA car d2 t2)) j.toNatClampNeg)) (zChF (zS t) (vF f (zA car d t)) i.toNatClampNeg (zHow t less) (zTold (zS t2) (vI f (zA car d2 t2)) (vF f (zA car d2 t2)) j.toNatClampNeg)) ∧ r = (zTold (zS t) (zChI (zS t) (vI f (zA car d t)) (vF f (zA car d t)) i.toNatClampNeg (zHow t less) (zTold (zS t2) (vI f (zA car d2 t2)) (vF f (zA car d2 t2)) j.toNatClampNeg)) (zChF (zS t) (vF f (zA car d t)) i.toNatClampNeg (zHow t less) (zTold (zS t2) (vI f (zA car d2 t2)) (vF f (zA car d2 t2)) j.toNatClampNeg)) i.toNatClampNeg).toInt64)) else zRefP G L f ar ta (zPF f car d t i) r u) else zRefP G L f ar ta (zPF f car d2 t2 j) r u) else zRefP G L f ar ta zNONE r u) 0 0 := by
  refine zIn (Qc := fun A => va_Ql _ (zB G A) A) (cc := cX6_blend) (maxL := 12) (ret := (some .long)) (by decide) rfl (Nat.le_of_ble_eq_true rfl) ?_
  intro p e s m below meth c A ls hx hb hr hlk hml hts hown hnm hK w hl
  have hown : s.vm.findClass RX6 = some m.cls := hown
  have hl : lv_has ls 12 [(0, .ref o), (1, .int d), (2, .int t), (3, .int i), (4, .int d2), (5, .int t2), (6, .int j), (7, .int less)] := hl
  obtain ⟨⟨mo, mc, mw, mr⟩, fo, fc, fw, fr⟩ := id h
  refine lv_iload_n hx hb dX6_blend_0 rfl (lv_at hl 1 rfl) ?_
  refine zCi w (va_runS (As := [.int d]) (rest := []) ⟨hx, hb, hml, hown, hts⟩ (kX6_isDeck l G _ d s.heap.size) (va_cwS 1 hts gX6_blend_X6_isDeck rfl rfl rfl (by decide +kernel) ⟨(Nat.le_of_ble_eq_true rfl), (Nat.le_of_ble_eq_true rfl)⟩) (zPS w hK) rfl rfl hl.1 rfl (lv_room (Nat.le_of_ble_eq_true rfl)) dX6_blend_1 ⟨(Nat.le_of_ble_eq_true rfl), (Nat.le_of_ble_eq_true rfl)⟩) (fun r_1 u H locs hq w => ?_)
  obtain ⟨rfl, e_r_1⟩ := hq
  refine lv_if_eq (tgt := 23) hx hb dX6_blend_4 (by decide) (fun c_2 => ?_) (fun c_2 => ?_)
  · have p_d := z00 inferInstance e_r_1 c_2
    refine lv_aload_n hx hb dX6_blend_23 rfl (lv_at hl 0 rfl) ?_
    refine lv_ldc2 hx hb hown (hts (.constantLong RX6 36 (1099511627776)) (by decide +kernel)) dX6_blend_24 ?_
    refine zCl w (va_runV (As := [.long 1099511627776]) (rest := []) ⟨hx, hb, hml, hown, hts⟩ (kX6_refuse l G h zNONE zW1 H.size) (cwV 1 hts gX6_blend_X6_refuse rfl rfl rfl (by decide +kernel) ⟨(Nat.le_of_ble_eq_true rfl), (Nat.le_of_ble_eq_true rfl)⟩) (zPV w hK (px_recv (r := (RX6, TX6, 4)) hK w mo fo rfl)) rfl rfl hl.1 rfl (lv_room (Nat.le_of_ble_eq_true rfl)) dX6_blend_27 ⟨(Nat.le_of_ble_eq_true rfl), (Nat.le_of_ble_eq_true rfl)⟩) (fun r_3 u H locs hq w => ?_)
    obtain ⟨rfl, e_r⟩ := hq
    subst e_r
    exact zRl hx hb hr hlk w dX6_blend_30 (Nat.le_of_ble_eq_true rfl) (Nat.le_of_ble_eq_true rfl) (by show (if _ then _ else _); rw [if_neg (by intro q; simp_all)]; exact ⟨rfl, rfl⟩)
  · have p_d := z01 inferInstance e_r_1 c_2
    refine lv_iload_n hx hb dX6_blend_7 rfl (lv_at hl 2 rfl) ?_
    refine zCi w (va_runS (As := [.int t]) (rest := []) ⟨hx, hb, hml, hown, hts⟩ (kX6_isSort l G _ t H.size) (va_cwS 1 hts gX6_blend_X6_isSort rfl rfl rfl (by decide +kernel) ⟨(Nat.le_of_ble_eq_true rfl), (Nat.le_of_ble_eq_true rfl)⟩) (zPS w hK) rfl rfl hl.1 rfl (lv_room (Nat.le_of_ble_eq_true rfl)) dX6_blend_8 ⟨(Nat.le_of_ble_eq_true rfl), (Nat.le_of_ble_eq_true rfl)⟩) (fun r_4 u H locs hq w => ?_)
    obtain ⟨rfl, e_r_4⟩ := hq
    refine lv_if_eq (tgt := 23) hx hb dX6_blend_11 (by decide) (fun c_5 => ?_) (fun c_5 => ?_)
    · have p_t := z00 inferInstance e_r_4 c_5
      refine lv_aload_n hx hb dX6_blend_23 rfl (lv_at hl 0 rfl) ?_
      refine lv_ldc2 hx hb hown (hts (.constantLong RX6 36 (1099511627776)) (by decide +kernel)) dX6_blend_24 ?_
      refine zCl w (va_runV (As := [.long 1099511627776]) (rest := []) ⟨hx, hb, hml, hown, hts⟩ (kX6_refuse l G h zNONE zW1 H.size) (cwV 1 hts gX6_blend_X6_refuse rfl rfl rfl (by decide +kernel) ⟨(Nat.le_of_ble_eq_true rfl), (Nat.le_of_ble_eq_true rfl)⟩) (zPV w hK (px_recv (r := (RX6, TX6, 4)) hK w mo fo rfl)) rfl rfl hl.1 rfl (lv_room (Nat.le_of_ble_eq_true rfl)) dX6_blend_27 ⟨(Nat.le_of_ble_eq_true rfl), (Nat.le_of_ble_eq_true rfl)⟩) (fun r_6 u H locs hq w => ?_)
      obtain ⟨rfl, e_r⟩ := hq
      subst e_r
      exact zRl hx hb hr hlk w dX6_blend_30 (Nat.le_of_ble_eq_true rfl) (Nat.le_of_ble_eq_true rfl) (by show (if _ then _ else _); rw [if_neg (by intro q; simp_all)]; exact ⟨rfl, rfl⟩)
    · have p_t := z01 inferInstance e_r_4 c_5
      refine lv_iload_n hx hb dX6_blend_14 rfl (lv_at hl 2 rfl) ?_
      refine lv_iload hx hb dX6_blend_15 (lv_at hl 5 rfl) ?_
      refine zCi w (va_runS (As := [.int t, .int t2]) (rest := []) ⟨hx, hb, hml, hown, hts⟩ (kX6_goTogether l G _ t t2 H.size) (va_cwS 2 hts gX6_blend_X6_goTogether rfl rfl rfl (by decide +kernel) ⟨(Nat.le_of_ble_eq_true rfl), (Nat.le_of_ble_eq_true rfl)⟩) (zPS w hK) rfl rfl hl.1 rfl (lv_room (Nat.le_of_ble_eq_true rfl)) dX6_blend_17 ⟨(Nat.le_of_ble_eq_true rfl), (Nat.le_of_ble_eq_true rfl)⟩) (fun r_7 u H locs hq w => ?_)
      obtain ⟨rfl, e_r_7⟩ := hq
      refine lv_if_ne (tgt := 31) hx hb dX6_blend_20 (by decide) (fun c_8 => ?_) (fun c_8 => ?_)
      · have p_k := z01 inferInstance e_r_7 c_8
        refine lv_aload_n hx hb dX6_blend_31 rfl (lv_at hl 0 rfl) ?_
        refine lv_iload hx hb dX6_blend_32 (lv_at hl 4 rfl) ?_
        refine lv_iload hx hb dX6_blend_34 (lv_at hl 5 rfl) ?_
        refine lv_iload hx hb dX6_blend_36 (lv_at hl 6 rfl) ?_
        refine zCl w (va_runV (As := [.int d2, .int t2, .int j]) (rest := []) ⟨hx, hb, hml, hown, hts⟩ (kX6_placeFault l G h hct d2 t2 j H.size) (cwV 3 hts gX6_blend_X6_placeFault rfl rfl rfl (by decide +kernel) ⟨(Nat.le_of_ble_eq_true rfl), (Nat.le_of_ble_eq_true rfl)⟩) (zPV w hK (px_recv (r := (RX6, TX6, 4)) hK w mo fo rfl)) rfl rfl hl.1 rfl (lv_room (Nat.le_of_ble_eq_true rfl)) dX6_blend_38 ⟨(Nat.le_of_ble_eq_true rfl), (Nat.le_of_ble_eq_true rfl)⟩) (fun r_9 u H locs hq w => ?_)
        obtain ⟨rfl, e_r⟩ := hq
        subst e_r
        refine lv_lstore (lv' := [(8, .long (zPF f car d2 t2 j)), (0, .ref o), (1, .int d), (2, .int t), (3, .int i), (4, .int d2), (5, .int t2), (6, .int j), (7, .int less)]) hx hb dX6_blend_41 hl (by decide) rfl (fun ls hl => ?_)
        refine lv_lload hx hb dX6_blend_43 (lv_at hl 0 rfl) ?_
        refine lv_lconst (v := 0) hx hb dX6_blend_45 (by decide) ?_
        refine W.lcmp hx hb dX6_blend_46 ?_
        refine lv_if_ne (tgt := 59) hx hb dX6_blend_47 (by decide) (fun c_10 => ?_) (fun c_10 => ?_)
        · have p_g := zcmp1 c_10
          refine lv_lload hx hb dX6_blend_59 (lv_at hl 0 rfl) ?_
          refine lv_lconst (v := 0) hx hb dX6_blend_61 (by decide) ?_
          refine W.lcmp hx hb dX6_blend_62 ?_
          refine lv_if_eq (tgt := 73) hx hb dX6_blend_63 (by decide) (fun c_11 => absurd c_11 c_10) (fun c_11 => ?_)
          refine lv_aload_n hx hb dX6_blend_66 rfl (lv_at hl 1 rfl) ?_
          refine lv_lload hx hb dX6_blend_67 (lv_at hl 0 rfl) ?_
          refine zCl w (va_runV (As := [.long (zPF f car d2 t2 j)]) (rest := []) ⟨hx, hb, hml, hown, hts⟩ (kX6_refuse l G h (zPF f car d2 t2 j) (zPF_why p_g) H.size) (cwV 1 hts gX6_blend_X6_refuse rfl rfl rfl (by decide +kernel) ⟨(Nat.le_of_ble_eq_true rfl), (Nat.le_of_ble_eq_true rfl)⟩) (zPV w hK (px_recv (r := (RX6, TX6, 4)) hK w mo fo rfl)) rfl rfl hl.1 rfl (lv_room (Nat.le_of_ble_eq_true rfl)) dX6_blend_69 ⟨(Nat.le_of_ble_eq_true rfl), (Nat.le_of_ble_eq_true rfl)⟩) (fun r_12 u H locs hq w => ?_)
          obtain ⟨rfl, e_r⟩ := hq
          subst e_r
          exact zRl hx hb hr hlk w dX6_blend_72 (Nat.le_of_ble_eq_true rfl) (Nat.le_of_ble_eq_true rfl) (by show (if _ then _ else _); rw [if_pos ⟨p_d, p_t, p_k⟩]; (first | rw [if_pos p_g] | rw [if_neg p_g]); (first | exact ⟨rfl, rfl⟩ | (rw [← hsN, ← hsM]; exact ⟨rfl, rfl⟩)))
        · have p_g := zcmp0 c_10
          obtain ⟨p_0, hh2⟩ := zPF_0 p_g
          obtain ⟨hd2, ht2, hca2⟩ := zRF_0 p_0
          have hB := zCT_at hct p_0
          obtain ⟨sM, hsM⟩ : ∃ sM, sM = zS t2 := ⟨_, rfl⟩
          rw [← hsM] at hB
          have hs2 : sM = 0 ∨ sM = 1 ∨ sM = 2 ∨ sM = 3 := by rw [hsM]; exact zS_or ht2
          unfold zRA at hB
          have hj := zin40 hh2 hB.2.2.2.2.1
          refine lv_aload_n hx hb dX6_blend_50 rfl (lv_at hl 1 rfl) ?_
          refine lv_iload_n hx hb dX6_blend_51 rfl (lv_at hl 2 rfl) ?_
          refine lv_iload_n hx hb dX6_blend_52 rfl (lv_at hl 3 rfl) ?_
          refine lv_iload_n hx hb dX6_blend_53 rfl (lv_at hl 4 rfl) ?_
          refine zCl w (va_runV (As := [.int d, .int t, .int i]) (rest := []) ⟨hx, hb, hml, hown, hts⟩ (kX6_placeFault l G h hct d t i H.size) (cwV 3 hts gX6_blend_X6_placeFault rfl rfl rfl (by decide +kernel) ⟨(Nat.le_of_ble_eq_true rfl), (Nat.le_of_ble_eq_true rfl)⟩) (zPV w hK (px_recv (r := (RX6, TX6, 4)) hK w mo fo rfl)) rfl rfl hl.1 rfl (lv_room (Nat.le_of_ble_eq_true rfl)) dX6_blend_54 ⟨(Nat.le_of_ble_eq_true rfl), (Nat.le_of_ble_eq_true rfl)⟩) (fun r_13 u H locs hq w => ?_)
          obtain ⟨rfl, e_r⟩ := hq
          subst e_r
          refine lv_lstore (lv' := [(8, .long (zPF f car d t i)), (0, .ref o), (1, .int d), (2, .int t), (3, .int i), (4, .int d2), (5, .int t2), (6, .int j), (7, .int less)]) hx hb dX6_blend_57 hl (by decide) rfl (fun ls hl => ?_)
          refine lv_lload hx hb dX6_blend_59 (lv_at hl 0 rfl) ?_
          refine lv_lconst (v := 0) hx hb dX6_blend_61 (by decide) ?_
          refine W.lcmp hx hb dX6_blend_62 ?_
          refine lv_if_eq (tgt := 73) hx hb dX6_blend_63 (by decide) (fun c_14 => ?_) (fun c_14 => ?_)
          · have p_f := zcmp0 c_14
            obtain ⟨p_00, hh⟩ := zPF_0 p_f
            obtain ⟨hd, ht, hca⟩ := zRF_0 p_00
            have hA := zCT_at hct p_00
            obtain ⟨sN, hsN⟩ : ∃ sN, sN = zS t := ⟨_, rfl⟩
            rw [← hsN] at hA
            have hs : sN = 0 ∨ sN = 1 ∨ sN = 2 ∨ sN = 3 := by rw [hsN]; exact zS_or ht
            unfold zRA at hA
            have hi := zin40 hh hA.2.2.2.2.1
            refine lv_aload_n hx hb dX6_blend_73 rfl (lv_at hl 1 rfl) ?_
            refine lv_iload_n hx hb dX6_blend_74 rfl (lv_at hl 2 rfl) ?_
            refine lv_iload_n hx hb dX6_blend_75 rfl (lv_at hl 3 rfl) ?_
            refine zCq w (va_runV (As := [.int d, .int t]) (rest := []) ⟨hx, hb, hml, hown, hts⟩ (kX6_reelOn l G h d t hd ht H.size) (cwV 2 hts gX6_blend_X6_reelOn rfl rfl rfl (by decide +kernel) ⟨(Nat.le_of_ble_eq_true rfl), (Nat.le_of_ble_eq_true rfl)⟩) (zPV w hK (px_recv (r := (RX6, TX6, 4)) hK w mo fo rfl)) rfl rfl hl.1 rfl (lv_room (Nat.le_of_ble_eq_true rfl)) dX6_blend_76 ⟨(Nat.le_of_ble_eq_true rfl), (Nat.le_of_ble_eq_true rfl)⟩) (fun r_15 u H locs hq w => ?_)
            obtain ⟨rfl, e_r⟩ := hq
            subst e_r
            rw [hca]
            refine lv_astore (lv' := [(10, .ref (zA car d t)), (8, .long (zPF f car d t i)), (0, .ref o), (1, .int d), (2, .int t), (3, .int i), (4, .int d2), (5, .int t2), (6, .int j), (7, .int less)]) hx hb dX6_blend_79 hl (by decide) rfl (fun ls hl => ?_)
            refine lv_aload_n hx hb dX6_blend_81 rfl (lv_at hl 2 rfl) ?_
            refine lv_iload hx hb dX6_blend_82 (lv_at hl 6 rfl) ?_
            refine lv_iload hx hb dX6_blend_84 (lv_at hl 7 rfl) ?_
            refine zCq w (va_runV (As := [.int d2, .int t2]) (rest := []) ⟨hx, hb, hml, hown, hts⟩ (kX6_reelOn l G h d2 t2 hd2 ht2 H.size) (cwV 2 hts gX6_blend_X6_reelOn rfl rfl rfl (by decide +kernel) ⟨(Nat.le_of_ble_eq_true rfl), (Nat.le_of_ble_eq_true rfl)⟩) (zPV w hK (px_recv (r := (RX6, TX6, 4)) hK w mo fo rfl)) rfl rfl hl.1 rfl (lv_room (Nat.le_of_ble_eq_true rfl)) dX6_blend_86 ⟨(Nat.le_of_ble_eq_true rfl), (Nat.le_of_ble_eq_true rfl)⟩) (fun r_16 u H locs hq w => ?_)
            obtain ⟨rfl, e_r⟩ := hq
            subst e_r
            rw [hca2]
            refine lv_astore (lv' := [(11, .ref (zA car d2 t2)), (10, .ref (zA car d t)), (8, .long (zPF f car d t i)), (0, .ref o), (1, .int d), (2, .int t), (3, .int i), (4, .int d2), (5, .int t2), (6, .int j), (7, .int less)]) hx hb dX6_blend_89 hl (by decide) rfl (fun ls hl => ?_)
            refine lv_iload_n hx hb dX6_blend_91 rfl (lv_at hl 5 rfl) ?_
            refine lv_iconst (v := 2) hx hb dX6_blend_92 (by decide) ?_
            refine lv_icmp_eq (tgt := 102) hx hb dX6_blend_93 (by decide) (fun c_17 => ?_) (fun c_17 => ?_)
            · have p_2 : t = 2 ∨ t2 = 2 := Or.inl c_17
              refine lv_aload hx hb dX6_blend_102 (lv_at hl 1 rfl) ?_
              refine lv_iload_n hx hb dX6_blend_104 rfl (lv_at hl 6 rfl) ?_
              refine lv_aload hx hb dX6_blend_105 (lv_at hl 0 rfl) ?_
              refine lv_iload hx hb dX6_blend_107 (lv_at hl 9 rfl) ?_
              refine zCf (post := fun r u => u = va_pl L f ∧ r = (zLev sM (vI f (zA car d2 t2)) (vF f (zA car d2 t2)) j.toNatClampNeg)) (mc := 0) (ms := 0) (rest := [.int i, .ref (zA car d t)]) (av := (Value.ref (zA car d2 t2) :: [.int j]).toArray) w (by
                  rcases hs2 with rfl | rfl | rfl | rfl
                  · exact va_runU (As := [.int j]) (rest := [.int i, .ref (zA car d t)]) ⟨hx, hb, hml, hown, hts⟩ (kX3_level l G (by omega) hB j hj H.size) (va_cwU 1 hts gX6_blend_X3_level_u98X2 rfl rfl rfl rfl (by decide +kernel) ⟨(Nat.le_of_ble_eq_true rfl), (Nat.le_of_ble_eq_true rfl)⟩) (zPV w hK (px_recv (ci := 2) (fs := [.ref (vB f (zA car d2 t2))]) (r := (RX2, TX2, 1)) hK w (hB.1) (hB.2.2.1) rfl)) rfl rfl hl.1 rfl (lv_room (Nat.le_of_ble_eq_true rfl)) dX6_blend_109 ⟨(Nat.le_of_ble_eq_true rfl), (Nat.le_of_ble_eq_true rfl)⟩
                  · exact va_runU (As := [.int j]) (rest := [.int i, .ref (zA car d t)]) ⟨hx, hb, hml, hown, hts⟩ (kX3_level l G (by omega) hB j hj H.size) (va_cwU 1 hts gX6_blend_X3_level_u98X5 rfl rfl rfl rfl (by decide +kernel) ⟨(Nat.le_of_ble_eq_true rfl), (Nat.le_of_ble_eq_true rfl)⟩) (zPV w hK (px_recv (ci := 4) (fs := [.ref (vB f (zA car d2 t2))]) (r := (RX5, TX5, 1)) hK w (hB.1) (hB.2.2.1) rfl)) rfl rfl hl.1 rfl (lv_room (Nat.le_of_ble_eq_true rfl)) dX6_blend_109 ⟨(Nat.le_of_ble_eq_true rfl), (Nat.le_of_ble_eq_true rfl)⟩
                  · exact va_runU (As := [.int j]) (rest := [.int i, .ref (zA car d t)]) ⟨hx, hb, hml, hown, hts⟩ (kX0_level l G hB j hj H.size) (va_cwO 1 hts gX6_blend_X0_level_u98X0 rfl rfl rfl (b0 := cX3_level) (m0 := 2) (r0 := (some .float)) (by decide +kernel) (by decide +kernel) ⟨(Nat.le_of_ble_eq_true rfl), (Nat.le_of_ble_eq_true rfl)⟩) (zPV w hK (px_recv (ci := 0) (fs := [.ref (vB f (zA car d2 t2))]) (r := (RX0, TX0, 1)) hK w (hB.1) (hB.2.2.1) rfl)) rfl rfl hl.1 rfl (lv_room (Nat.le_of_ble_eq_true rfl)) dX6_blend_109 ⟨(Nat.le_of_ble_eq_true rfl), (Nat.le_of_ble_eq_true rfl)⟩
                  · exact va_runU (As := [.int j]) (rest := [.int i, .ref (zA car d t)]) ⟨hx, hb, hml, hown, hts⟩ (kX3_level l G (by omega) hB j hj H.size) (va_cwU 1 hts gX6_blend_X3_level_u98X1 rfl rfl rfl rfl (by decide +kernel) ⟨(Nat.le_of_ble_eq_true rfl), (Nat.le_of_ble_eq_true rfl)⟩) (zPV w hK (px_recv (ci := 1) (fs := [.ref (vB f (zA car d2 t2))]) (r := (RX1, TX1, 1)) hK w (hB.1) (hB.2.2.1) rfl)) rfl rfl hl.1 rfl (lv_room (Nat.le_of_ble_eq_true rfl)) dX6_blend_109 ⟨(Nat.le_of_ble_eq_true rfl), (Nat.le_of_ble_eq_true rfl)⟩) (fun r_18 u H locs hq w => ?_)
              obtain ⟨rfl, e_r⟩ := hq
              subst e_r
              refine lv_iload hx hb dX6_blend_112 (lv_at hl 10 rfl) ?_
              refine zCv w (va_runS (As := [.ref (zA car d t), .int i, .float (zLev sM (vI f (zA car d2 t2)) (vF f (zA car d2 t2)) j.toNatClampNeg), .int less]) (rest := []) ⟨hx, hb, hml, hown, hts⟩ (kX6_blendFloats l G hs hA i (zLev sM (vI f (zA car d2 t2)) (vF f (zA car d2 t2)) j.toNatClampNeg) less hi (zLev_fin hB (zin_lt hj)) H.size) (va_cwS 4 hts gX6_blend_X6_blendFloats rfl rfl rfl (by decide +kernel) ⟨(Nat.le_of_ble_eq_true rfl), (Nat.le_of_ble_eq_true rfl)⟩) (zPS w hK) rfl rfl hl.1 rfl (lv_room (Nat.le_of_ble_eq_true rfl)) dX6_blend_114 ⟨(Nat.le_of_ble_eq_true rfl), (Nat.le_of_ble_eq_true rfl)⟩) (fun u H locs hq w => ?_)
              subst hq
              have hA2 := zRe_up (gi2 := zPlI sN (vI f (zA car d t)) i.toNatClampNeg (zBv less (zLev sN (vI f (zA car d t)) (vF f (zA car d t)) i.toNatClampNeg) (zLev sM (vI f (zA car d2 t2)) (vF f (zA car d2 t2)) j.toNatClampNeg))) (gf2 := zPuF sN (vF f (zA car d t)) i.toNatClampNeg (zBv less (zLev sN (vI f (zA car d t)) (vF f (zA car d t)) i.toNatClampNeg) (zLev sM (vI f (zA car d2 t2)) (vF f (zA car d2 t2)) j.toNatClampNeg))) hA (zPuF_fin hA (zBv_n (zLev_fin hA (zin_lt hi)) (zLev_fin hB (zin_lt hj))))
              refine lv_goto (tgt := 139) hx hb dX6_blend_117 (by decide) ?_
              refine lv_aload hx hb dX6_blend_139 (lv_at hl 1 rfl) ?_
              refine lv_iload_n hx hb dX6_blend_141 rfl (lv_at hl 6 rfl) ?_
              refine zCi (post := fun r u => u = zPutW G L f sN (zA car d t) (zPlI sN (vI f (zA car d t)) i.toNatClampNeg (zBv less (zLev sN (vI f (zA car d t)) (vF f (zA car d t)) i.toNatClampNeg) (zLev sM (vI f (zA car d2 t2)) (vF f (zA car d2 t2)) j.toNatClampNeg))) (zPuF sN (vF f (zA car d t)) i.toNatClampNeg (zBv less (zLev sN (vI f (zA car d t)) (vF f (zA car d t)) i.toNatClampNeg) (zLev sM (vI f (zA car d2 t2)) (vF f (zA car d2 t2)) j.toNatClampNeg))) ∧ r = zTold sN (zPlI sN (vI f (zA car d t)) i.toNatClampNeg (zBv less (zLev sN (vI f (zA car d t)) (vF f (zA car d t)) i.toNatClampNeg) (zLev sM (vI f (zA car d2 t2)) (vF f (zA car d2 t2)) j.toNatClampNeg))) (zPuF sN (vF f (zA car d t)) i.toNatClampNeg (zBv less (zLev sN (vI f (zA car d t)) (vF f (zA car d t)) i.toNatClampNeg) (zLev sM (vI f (zA car d2 t2)) (vF f (zA car d2 t2)) j.toNatClampNeg))) i.toNatClampNeg) (mc := 0) (ms := 0) (rest := []) (av := (Value.ref (zA car d t) :: [.int i]).toArray) w (by
                  rcases hs with rfl | rfl | rfl | rfl
                  · exact va_runU (As := [.int i]) (rest := []) ⟨hx, hb, hml, hown, hts⟩ (kX2_told l G hA2 i hi H.size) (va_cwA 1 hts gX6_blend_X2_told_u73X2 rfl rfl rfl hK.2.1.2.1 (by decide +kernel) ⟨(Nat.le_of_ble_eq_true rfl), (Nat.le_of_ble_eq_true rfl)⟩) (zPV w hK (px_recv (ci := 2) (fs := [.ref (vB f (zA car d t))]) (r := (RX2, TX2, 1)) hK w (hA2.1) (hA2.2.2.1) rfl)) rfl rfl hl.1 rfl (lv_room (Nat.le_of_ble_eq_true rfl)) dX6_blend_142 ⟨(Nat.le_of_ble_eq_true rfl), (Nat.le_of_ble_eq_true rfl)⟩
                  · exact va_runU (As := [.int i]) (rest := []) ⟨hx, hb, hml, hown, hts⟩ (kX5_told l G hA2 i hi H.size) (va_cwA 1 hts gX6_blend_X5_told_u73X5 rfl rfl rfl hK.2.1.2.1 (by decide +kernel) ⟨(Nat.le_of_ble_eq_true rfl), (Nat.le_of_ble_eq_true rfl)⟩) (zPV w hK (px_recv (ci := 4) (fs := [.ref (vB f (zA car d t))]) (r := (RX5, TX5, 1)) hK w (hA2.1) (hA2.2.2.1) rfl)) rfl rfl hl.1 rfl (lv_room (Nat.le_of_ble_eq_true rfl)) dX6_blend_142 ⟨(Nat.le_of_ble_eq_true rfl), (Nat.le_of_ble_eq_true rfl)⟩
                  · exact va_runU (As := [.int i]) (rest := []) ⟨hx, hb, hml, hown, hts⟩ (kX0_told l G hA2 i hi H.size) (va_cwA 1 hts gX6_blend_X0_told_u73X0 rfl rfl rfl hK.2.1.2.1 (by decide +kernel) ⟨(Nat.le_of_ble_eq_true rfl), (Nat.le_of_ble_eq_true rfl)⟩) (zPV w hK (px_recv (ci := 0) (fs := [.ref (vB f (zA car d t))]) (r := (RX0, TX0, 1)) hK w (hA2.1) (hA2.2.2.1) rfl)) rfl rfl hl.1 rfl (lv_room (Nat.le_of_ble_eq_true rfl)) dX6_blend_142 ⟨(Nat.le_of_ble_eq_true rfl), (Nat.le_of_ble_eq_true rfl)⟩
                  · exact va_runU (As := [.int i]) (rest := []) ⟨hx, hb, hml, hown, hts⟩ (kX1_told l G hA2 i hi H.size) (va_cwA 1 hts gX6_blend_X1_told_u73X1 rfl rfl rfl hK.2.1.2.1 (by decide +kernel) ⟨(Nat.le_of_ble_eq_true rfl), (Nat.le_of_ble_eq_true rfl)⟩) (zPV w hK (px_recv (ci := 1) (fs := [.ref (vB f (zA car d t))]) (r := (RX1, TX1, 1)) hK w (hA2.1) (hA2.2.2.1) rfl)) rfl rfl hl.1 rfl (lv_room (Nat.le_of_ble_eq_true rfl)) dX6_blend_142 ⟨(Nat.le_of_ble_eq_true rfl), (Nat.le_of_ble_eq_true rfl)⟩) (fun r_19 u H locs hq w => ?_)
              obtain ⟨rfl, e_r⟩ := hq
              subst e_r
              refine lv_i2l hx hb dX6_blend_145 rfl ?_
              exact zRl hx hb hr hlk w dX6_blend_146 (Nat.le_of_ble_eq_true rfl) (Nat.le_of_ble_eq_true rfl) (by show (if _ then _ else _); rw [if_pos ⟨p_d, p_t, p_k⟩]; (first | rw [if_pos p_g] | rw [if_neg p_g]); (first | rw [if_pos p_f] | rw [if_neg p_f]); (first | rw [if_pos p_2] | rw [if_neg p_2]); (first | exact ⟨rfl, rfl⟩ | (rw [← hsN, ← hsM]; exact ⟨rfl, rfl⟩)))
            · have q_2 := c_17
              refine lv_iload hx hb dX6_blend_96 (lv_at hl 8 rfl) ?_
              refine lv_iconst (v := 2) hx hb dX6_blend_98 (by decide) ?_
              refine lv_icmp_ne (tgt := 120) hx hb dX6_blend_99 (by decide) (fun c_20 => ?_) (fun c_20 => ?_)
              · have p_2 : ¬ (t = 2 ∨ t2 = 2) := fun q => q.elim q_2 c_20
                have hs3 := zS_3 hs (by rw [hsN]; exact zS_ne2 ht q_2)
                refine lv_aload hx hb dX6_blend_120 (lv_at hl 1 rfl) ?_
                refine lv_iload_n hx hb dX6_blend_122 rfl (lv_at hl 6 rfl) ?_
                refine lv_iload_n hx hb dX6_blend_123 rfl (lv_at hl 5 rfl) ?_
                refine lv_iload hx hb dX6_blend_124 (lv_at hl 10 rfl) ?_
                refine zCi w (va_runS (As := [.int t, .int less]) (rest := [.int i, .ref (zA car d t)]) ⟨hx, hb, hml, hown, hts⟩ (kX6_howToBlend l G _ t less H.size) (va_cwS 2 hts gX6_blend_X6_howToBlend rfl rfl rfl (by decide +kernel) ⟨(Nat.le_of_ble_eq_true rfl), (Nat.le_of_ble_eq_true rfl)⟩) (zPS w hK) rfl rfl hl.1 rfl (lv_room (Nat.le_of_ble_eq_true rfl)) dX6_blend_126 ⟨(Nat.le_of_ble_eq_true rfl), (Nat.le_of_ble_eq_true rfl)⟩) (fun r_21 u H locs hq w => ?_)
                obtain ⟨rfl, e_r⟩ := hq
                subst e_r
                refine lv_aload hx hb dX6_blend_129 (lv_at hl 0 rfl) ?_
                refine lv_iload hx hb dX6_blend_131 (lv_at hl 9 rfl) ?_
                refine zCi (post := fun r u => u = va_pl L f ∧ r = (zTold sM (vI f (zA car d2 t2)) (vF f (zA car d2 t2)) j.toNatClampNeg)) (mc := 0) (ms := 0) (rest := [.int (zHow t less), .int i, .ref (zA car d t)]) (av := (Value.ref (zA car d2 t2) :: [.int j]).toArray) w (by
                    rcases hs2 with rfl | rfl | rfl | rfl
                    · exact va_runU (As := [.int j]) (rest := [.int (zHow t less), .int i, .ref (zA car d t)]) ⟨hx, hb, hml, hown, hts⟩ (kX2_told l G hB j hj H.size) (va_cwA 1 hts gX6_blend_X2_told_u73X2 rfl rfl rfl hK.2.1.2.1 (by decide +kernel) ⟨(Nat.le_of_ble_eq_true rfl), (Nat.le_of_ble_eq_true rfl)⟩) (zPV w hK (px_recv (ci := 2) (fs := [.ref (vB f (zA car d2 t2))]) (r := (RX2, TX2, 1)) hK w (hB.1) (hB.2.2.1) rfl)) rfl rfl hl.1 rfl (lv_room (Nat.le_of_ble_eq_true rfl)) dX6_blend_133 ⟨(Nat.le_of_ble_eq_true rfl), (Nat.le_of_ble_eq_true rfl)⟩
                    · exact va_runU (As := [.int j]) (rest := [.int (zHow t less), .int i, .ref (zA car d t)]) ⟨hx, hb, hml, hown, hts⟩ (kX5_told l G hB j hj H.size) (va_cwA 1 hts gX6_blend_X5_told_u73X5 rfl rfl rfl hK.2.1.2.1 (by decide +kernel) ⟨(Nat.le_of_ble_eq_true rfl), (Nat.le_of_ble_eq_true rfl)⟩) (zPV w hK (px_recv (ci := 4) (fs := [.ref (vB f (zA car d2 t2))]) (r := (RX5, TX5, 1)) hK w (hB.1) (hB.2.2.1) rfl)) rfl rfl hl.1 rfl (lv_room (Nat.le_of_ble_eq_true rfl)) dX6_blend_133 ⟨(Nat.le_of_ble_eq_true rfl), (Nat.le_of_ble_eq_true rfl)⟩
                    · exact va_runU (As := [.int j]) (rest := [.int (zHow t less), .int i, .ref (zA car d t)]) ⟨hx, hb, hml, hown, hts⟩ (kX0_told l G hB j hj H.size) (va_cwA 1 hts gX6_blend_X0_told_u73X0 rfl rfl rfl hK.2.1.2.1 (by decide +kernel) ⟨(Nat.le_of_ble_eq_true rfl), (Nat.le_of_ble_eq_true rfl)⟩) (zPV w hK (px_recv (ci := 0) (fs := [.ref (vB f (zA car d2 t2))]) (r := (RX0, TX0, 1)) hK w (hB.1) (hB.2.2.1) rfl)) rfl rfl hl.1 rfl (lv_room (Nat.le_of_ble_eq_true rfl)) dX6_blend_133 ⟨(Nat.le_of_ble_eq_true rfl), (Nat.le_of_ble_eq_true rfl)⟩
                    · exact va_runU (As := [.int j]) (rest := [.int (zHow t less), .int i, .ref (zA car d t)]) ⟨hx, hb, hml, hown, hts⟩ (kX1_told l G hB j hj H.size) (va_cwA 1 hts gX6_blend_X1_told_u73X1 rfl rfl rfl hK.2.1.2.1 (by decide +kernel) ⟨(Nat.le_of_ble_eq_true rfl), (Nat.le_of_ble_eq_true rfl)⟩) (zPV w hK (px_recv (ci := 1) (fs := [.ref (vB f (zA car d2 t2))]) (r := (RX1, TX1, 1)) hK w (hB.1) (hB.2.2.1) rfl)) rfl rfl hl.1 rfl (lv_room (Nat.le_of_ble_eq_true rfl)) dX6_blend_133 ⟨(Nat.le_of_ble_eq_true rfl), (Nat.le_of_ble_eq_true rfl)⟩) (fun r_22 u H locs hq w => ?_)
                obtain ⟨rfl, e_r⟩ := hq
                subst e_r
                refine zCv (post := fun u => u = zPutW G L f sN (zA car d t) (zChI sN (vI f (zA car d t)) (vF f (zA car d t)) i.toNatClampNeg (zHow t less) (zTold sM (vI f (zA car d2 t2)) (vF f (zA car d2 t2)) j.toNatClampNeg)) (zChF sN (vF f (zA car d t)) i.toNatClampNeg (zHow t less) (zTold sM (vI f (zA car d2 t2)) (vF f (zA car d2 t2)) j.toNatClampNeg))) (mc := 0) (ms := 0) (rest := []) (av := (Value.ref (zA car d t) :: [.int i, .int (zHow t less), .int (zTold sM (vI f (zA car d2 t2)) (vF f (zA car d2 t2)) j.toNatClampNeg)]).toArray) w (by
                    rcases hs3 with rfl | rfl | rfl
                    · exact va_runU (As := [.int i, .int (zHow t less), .int (zTold sM (vI f (zA car d2 t2)) (vF f (zA car d2 t2)) j.toNatClampNeg)]) (rest := []) ⟨hx, hb, hml, hown, hts⟩ (kX3_change l G (by omega) hA i (zHow t less) (zTold sM (vI f (zA car d2 t2)) (vF f (zA car d2 t2)) j.toNatClampNeg) hi zbl_dv H.size) (va_cwU 3 hts gX6_blend_X3_change_u87X2 rfl rfl rfl rfl (by decide +kernel) ⟨(Nat.le_of_ble_eq_true rfl), (Nat.le_of_ble_eq_true rfl)⟩) (zPV w hK (px_recv (ci := 2) (fs := [.ref (vB f (zA car d t))]) (r := (RX2, TX2, 1)) hK w (hA.1) (hA.2.2.1) rfl)) rfl rfl hl.1 rfl (lv_room (Nat.le_of_ble_eq_true rfl)) dX6_blend_136 ⟨(Nat.le_of_ble_eq_true rfl), (Nat.le_of_ble_eq_true rfl)⟩
                    · exact va_runU (As := [.int i, .int (zHow t less), .int (zTold sM (vI f (zA car d2 t2)) (vF f (zA car d2 t2)) j.toNatClampNeg)]) (rest := []) ⟨hx, hb, hml, hown, hts⟩ (kX3_change l G (by omega) hA i (zHow t less) (zTold sM (vI f (zA car d2 t2)) (vF f (zA car d2 t2)) j.toNatClampNeg) hi zbl_dv H.size) (va_cwU 3 hts gX6_blend_X3_change_u87X5 rfl rfl rfl rfl (by decide +kernel) ⟨(Nat.le_of_ble_eq_true rfl), (Nat.le_of_ble_eq_true rfl)⟩) (zPV w hK (px_recv (ci := 4) (fs := [.ref (vB f (zA car d t))]) (r := (RX5, TX5, 1)) hK w (hA.1) (hA.2.2.1) rfl)) rfl rfl hl.1 rfl (lv_room (Nat.le_of_ble_eq_true rfl)) dX6_blend_136 ⟨(Nat.le_of_ble_eq_true rfl), (Nat.le_of_ble_eq_true rfl)⟩
                    · exact va_runU (As := [.int i, .int (zHow t less), .int (zTold sM (vI f (zA car d2 t2)) (vF f (zA car d2 t2)) j.toNatClampNeg)]) (rest := []) ⟨hx, hb, hml, hown, hts⟩ (kX3_change l G (by omega) hA i (zHow t less) (zTold sM (vI f (zA car d2 t2)) (vF f (zA car d2 t2)) j.toNatClampNeg) hi zbl_dv H.size) (va_cwU 3 hts gX6_blend_X3_change_u87X1 rfl rfl rfl rfl (by decide +kernel) ⟨(Nat.le_of_ble_eq_true rfl), (Nat.le_of_ble_eq_true rfl)⟩) (zPV w hK (px_recv (ci := 1) (fs := [.ref (vB f (zA car d t))]) (r := (RX1, TX1, 1)) hK w (hA.1) (hA.2.2.1) rfl)) rfl rfl hl.1 rfl (lv_room (Nat.le_of_ble_eq_true rfl)) dX6_blend_136 ⟨(Nat.le_of_ble_eq_true rfl), (Nat.le_of_ble_eq_true rfl)⟩) (fun u H locs hq w => ?_)
                subst hq
                have hA2 := zRe_up (gi2 := zChI sN (vI f (zA car d t)) (vF f (zA car d t)) i.toNatClampNeg (zHow t less) (zTold sM (vI f (zA car d2 t2)) (vF f (zA car d2 t2)) j.toNatClampNeg)) (gf2 := zChF sN (vF f (zA car d t)) i.toNatClampNeg (zHow t less) (zTold sM (vI f (zA car d2 t2)) (vF f (zA car d2 t2)) j.toNatClampNeg)) hA (zChF_fin hA (zin_lt hi))
                refine lv_aload hx hb dX6_blend_139 (lv_at hl 1 rfl) ?_
                refine lv_iload_n hx hb dX6_blend_141 rfl (lv_at hl 6 rfl) ?_
                refine zCi (post := fun r u => u = zPutW G L f sN (zA car d t) (zChI sN (vI f (zA car d t)) (vF f (zA car d t)) i.toNatClampNeg (zHow t less) (zTold sM (vI f (zA car d2 t2)) (vF f (zA car d2 t2)) j.toNatClampNeg)) (zChF sN (vF f (zA car d t)) i.toNatClampNeg (zHow t less) (zTold sM (vI f (zA car d2 t2)) (vF f (zA car d2 t2)) j.toNatClampNeg)) ∧ r = zTold sN (zChI sN (vI f (zA car d t)) (vF f (zA car d t)) i.toNatClampNeg (zHow t less) (zTold sM (vI f (zA car d2 t2)) (vF f (zA car d2 t2)) j.toNatClampNeg)) (zChF sN (vF f (zA car d t)) i.toNatClampNeg (zHow t less) (zTold sM (vI f (zA car d2 t2)) (vF f (zA car d2 t2)) j.toNatClampNeg)) i.toNatClampNeg) (mc := 0) (ms := 0) (rest := []) (av := (Value.ref (zA car d t) :: [.int i]).toArray) w (by
                    rcases hs with rfl | rfl | rfl | rfl
                    · exact va_runU (As := [.int i]) (rest := []) ⟨hx, hb, hml, hown, hts⟩ (kX2_told l G hA2 i hi H.size) (va_cwA 1 hts gX6_blend_X2_told_u73X2 rfl rfl rfl hK.2.1.2.1 (by decide +kernel) ⟨(Nat.le_of_ble_eq_true rfl), (Nat.le_of_ble_eq_true rfl)⟩) (zPV w hK (px_recv (ci := 2) (fs := [.ref (vB f (zA car d t))]) (r := (RX2, TX2, 1)) hK w (hA2.1) (hA2.2.2.1) rfl)) rfl rfl hl.1 rfl (lv_room (Nat.le_of_ble_eq_true rfl)) dX6_blend_142 ⟨(Nat.le_of_ble_eq_true rfl), (Nat.le_of_ble_eq_true rfl)⟩
                    · exact va_runU (As := [.int i]) (rest := []) ⟨hx, hb, hml, hown, hts⟩ (kX5_told l G hA2 i hi H.size) (va_cwA 1 hts gX6_blend_X5_told_u73X5 rfl rfl rfl hK.2.1.2.1 (by decide +kernel) ⟨(Nat.le_of_ble_eq_true rfl), (Nat.le_of_ble_eq_true rfl)⟩) (zPV w hK (px_recv (ci := 4) (fs := [.ref (vB f (zA car d t))]) (r := (RX5, TX5, 1)) hK w (hA2.1) (hA2.2.2.1) rfl)) rfl rfl hl.1 rfl (lv_room (Nat.le_of_ble_eq_true rfl)) dX6_blend_142 ⟨(Nat.le_of_ble_eq_true rfl), (Nat.le_of_ble_eq_true rfl)⟩
                    · exact va_runU (As := [.int i]) (rest := []) ⟨hx, hb, hml, hown, hts⟩ (kX0_told l G hA2 i hi H.size) (va_cwA 1 hts gX6_blend_X0_told_u73X0 rfl rfl rfl hK.2.1.2.1 (by decide +kernel) ⟨(Nat.le_of_ble_eq_true rfl), (Nat.le_of_ble_eq_true rfl)⟩) (zPV w hK (px_recv (ci := 0) (fs := [.ref (vB f (zA car d t))]) (r := (RX0, TX0, 1)) hK w (hA2.1) (hA2.2.2.1) rfl)) rfl rfl hl.1 rfl (lv_room (Nat.le_of_ble_eq_true rfl)) dX6_blend_142 ⟨(Nat.le_of_ble_eq_true rfl), (Nat.le_of_ble_eq_true rfl)⟩
                    · exact va_runU (As := [.int i]) (rest := []) ⟨hx, hb, hml, hown, hts⟩ (kX1_told l G hA2 i hi H.size) (va_cwA 1 hts gX6_blend_X1_told_u73X1 rfl rfl rfl hK.2.1.2.1 (by decide +kernel) ⟨(Nat.le_of_ble_eq_true rfl), (Nat.le_of_ble_eq_true rfl)⟩) (zPV w hK (px_recv (ci := 1) (fs := [.ref (vB f (zA car d t))]) (r := (RX1, TX1, 1)) hK w (hA2.1) (hA2.2.2.1) rfl)) rfl rfl hl.1 rfl (lv_room (Nat.le_of_ble_eq_true rfl)) dX6_blend_142 ⟨(Nat.le_of_ble_eq_true rfl), (Nat.le_of_ble_eq_true rfl)⟩) (fun r_23 u H locs hq w => ?_)
                obtain ⟨rfl, e_r⟩ := hq
                subst e_r
                refine lv_i2l hx hb dX6_blend_145 rfl ?_
                exact zRl hx hb hr hlk w dX6_blend_146 (Nat.le_of_ble_eq_true rfl) (Nat.le_of_ble_eq_true rfl) (by show (if _ then _ else _); rw [if_pos ⟨p_d, p_t, p_k⟩]; (first | rw [if_pos p_g] | rw [if_neg p_g]); (first | rw [if_pos p_f] | rw [if_neg p_f]); (first | rw [if_pos p_2] | rw [if_neg p_2]); (first | exact ⟨rfl, rfl⟩ | (rw [← hsN, ← hsM]; exact ⟨rfl, rfl⟩)))
              · have p_2 : t = 2 ∨ t2 = 2 := Or.inr c_20
                refine lv_aload hx hb dX6_blend_102 (lv_at hl 1 rfl) ?_
                refine lv_iload_n hx hb dX6_blend_104 rfl (lv_at hl 6 rfl) ?_
                refine lv_aload hx hb dX6_blend_105 (lv_at hl 0 rfl) ?_
                refine lv_iload hx hb dX6_blend_107 (lv_at hl 9 rfl) ?_
                refine zCf (post := fun r u => u = va_pl L f ∧ r = (zLev sM (vI f (zA car d2 t2)) (vF f (zA car d2 t2)) j.toNatClampNeg)) (mc := 0) (ms := 0) (rest := [.int i, .ref (zA car d t)]) (av := (Value.ref (zA car d2 t2) :: [.int j]).toArray) w (by
                    rcases hs2 with rfl | rfl | rfl | rfl
                    · exact va_runU (As := [.int j]) (rest := [.int i, .ref (zA car d t)]) ⟨hx, hb, hml, hown, hts⟩ (kX3_level l G (by omega) hB j hj H.size) (va_cwU 1 hts gX6_blend_X3_level_u98X2 rfl rfl rfl rfl (by decide +kernel) ⟨(Nat.le_of_ble_eq_true rfl), (Nat.le_of_ble_eq_true rfl)⟩) (zPV w hK (px_recv (ci := 2) (fs := [.ref (vB f (zA car d2 t2))]) (r := (RX2, TX2, 1)) hK w (hB.1) (hB.2.2.1) rfl)) rfl rfl hl.1 rfl (lv_room (Nat.le_of_ble_eq_true rfl)) dX6_blend_109 ⟨(Nat.le_of_ble_eq_true rfl), (Nat.le_of_ble_eq_true rfl)⟩
                    · exact va_runU (As := [.int j]) (rest := [.int i, .ref (zA car d t)]) ⟨hx, hb, hml, hown, hts⟩ (kX3_level l G (by omega) hB j hj H.size) (va_cwU 1 hts gX6_blend_X3_level_u98X5 rfl rfl rfl rfl (by decide +kernel) ⟨(Nat.le_of_ble_eq_true rfl), (Nat.le_of_ble_eq_true rfl)⟩) (zPV w hK (px_recv (ci := 4) (fs := [.ref (vB f (zA car d2 t2))]) (r := (RX5, TX5, 1)) hK w (hB.1) (hB.2.2.1) rfl)) rfl rfl hl.1 rfl (lv_room (Nat.le_of_ble_eq_true rfl)) dX6_blend_109 ⟨(Nat.le_of_ble_eq_true rfl), (Nat.le_of_ble_eq_true rfl)⟩
                    · exact va_runU (As := [.int j]) (rest := [.int i, .ref (zA car d t)]) ⟨hx, hb, hml, hown, hts⟩ (kX0_level l G hB j hj H.size) (va_cwO 1 hts gX6_blend_X0_level_u98X0 rfl rfl rfl (b0 := cX3_level) (m0 := 2) (r0 := (some .float)) (by decide +kernel) (by decide +kernel) ⟨(Nat.le_of_ble_eq_true rfl), (Nat.le_of_ble_eq_true rfl)⟩) (zPV w hK (px_recv (ci := 0) (fs := [.ref (vB f (zA car d2 t2))]) (r := (RX0, TX0, 1)) hK w (hB.1) (hB.2.2.1) rfl)) rfl rfl hl.1 rfl (lv_room (Nat.le_of_ble_eq_true rfl)) dX6_blend_109 ⟨(Nat.le_of_ble_eq_true rfl), (Nat.le_of_ble_eq_true rfl)⟩
                    · exact va_runU (As := [.int j]) (rest := [.int i, .ref (zA car d t)]) ⟨hx, hb, hml, hown, hts⟩ (kX3_level l G (by omega) hB j hj H.size) (va_cwU 1 hts gX6_blend_X3_level_u98X1 rfl rfl rfl rfl (by decide +kernel) ⟨(Nat.le_of_ble_eq_true rfl), (Nat.le_of_ble_eq_true rfl)⟩) (zPV w hK (px_recv (ci := 1) (fs := [.ref (vB f (zA car d2 t2))]) (r := (RX1, TX1, 1)) hK w (hB.1) (hB.2.2.1) rfl)) rfl rfl hl.1 rfl (lv_room (Nat.le_of_ble_eq_true rfl)) dX6_blend_109 ⟨(Nat.le_of_ble_eq_true rfl), (Nat.le_of_ble_eq_true rfl)⟩) (fun r_24 u H locs hq w => ?_)
                obtain ⟨rfl, e_r⟩ := hq
                subst e_r
                refine lv_iload hx hb dX6_blend_112 (lv_at hl 10 rfl) ?_
                refine zCv w (va_runS (As := [.ref (zA car d t), .int i, .float (zLev sM (vI f (zA car d2 t2)) (vF f (zA car d2 t2)) j.toNatClampNeg), .int less]) (rest := []) ⟨hx, hb, hml, hown, hts⟩ (kX6_blendFloats l G hs hA i (zLev sM (vI f (zA car d2 t2)) (vF f (zA car d2 t2)) j.toNatClampNeg) less hi (zLev_fin hB (zin_lt hj)) H.size) (va_cwS 4 hts gX6_blend_X6_blendFloats rfl rfl rfl (by decide +kernel) ⟨(Nat.le_of_ble_eq_true rfl), (Nat.le_of_ble_eq_true rfl)⟩) (zPS w hK) rfl rfl hl.1 rfl (lv_room (Nat.le_of_ble_eq_true rfl)) dX6_blend_114 ⟨(Nat.le_of_ble_eq_true rfl), (Nat.le_of_ble_eq_true rfl)⟩) (fun u H locs hq w => ?_)
                subst hq
                have hA2 := zRe_up (gi2 := zPlI sN (vI f (zA car d t)) i.toNatClampNeg (zBv less (zLev sN (vI f (zA car d t)) (vF f (zA car d t)) i.toNatClampNeg) (zLev sM (vI f (zA car d2 t2)) (vF f (zA car d2 t2)) j.toNatClampNeg))) (gf2 := zPuF sN (vF f (zA car d t)) i.toNatClampNeg (zBv less (zLev sN (vI f (zA car d t)) (vF f (zA car d t)) i.toNatClampNeg) (zLev sM (vI f (zA car d2 t2)) (vF f (zA car d2 t2)) j.toNatClampNeg))) hA (zPuF_fin hA (zBv_n (zLev_fin hA (zin_lt hi)) (zLev_fin hB (zin_lt hj))))
                refine lv_goto (tgt := 139) hx hb dX6_blend_117 (by decide) ?_
                refine lv_aload hx hb dX6_blend_139 (lv_at hl 1 rfl) ?_
                refine lv_iload_n hx hb dX6_blend_141 rfl (lv_at hl 6 rfl) ?_
                refine zCi (post := fun r u => u = zPutW G L f sN (zA car d t) (zPlI sN (vI f (zA car d t)) i.toNatClampNeg (zBv less (zLev sN (vI f (zA car d t)) (vF f (zA car d t)) i.toNatClampNeg) (zLev sM (vI f (zA car d2 t2)) (vF f (zA car d2 t2)) j.toNatClampNeg))) (zPuF sN (vF f (zA car d t)) i.toNatClampNeg (zBv less (zLev sN (vI f (zA car d t)) (vF f (zA car d t)) i.toNatClampNeg) (zLev sM (vI f (zA car d2 t2)) (vF f (zA car d2 t2)) j.toNatClampNeg))) ∧ r = zTold sN (zPlI sN (vI f (zA car d t)) i.toNatClampNeg (zBv less (zLev sN (vI f (zA car d t)) (vF f (zA car d t)) i.toNatClampNeg) (zLev sM (vI f (zA car d2 t2)) (vF f (zA car d2 t2)) j.toNatClampNeg))) (zPuF sN (vF f (zA car d t)) i.toNatClampNeg (zBv less (zLev sN (vI f (zA car d t)) (vF f (zA car d t)) i.toNatClampNeg) (zLev sM (vI f (zA car d2 t2)) (vF f (zA car d2 t2)) j.toNatClampNeg))) i.toNatClampNeg) (mc := 0) (ms := 0) (rest := []) (av := (Value.ref (zA car d t) :: [.int i]).toArray) w (by
                    rcases hs with rfl | rfl | rfl | rfl
                    · exact va_runU (As := [.int i]) (rest := []) ⟨hx, hb, hml, hown, hts⟩ (kX2_told l G hA2 i hi H.size) (va_cwA 1 hts gX6_blend_X2_told_u73X2 rfl rfl rfl hK.2.1.2.1 (by decide +kernel) ⟨(Nat.le_of_ble_eq_true rfl), (Nat.le_of_ble_eq_true rfl)⟩) (zPV w hK (px_recv (ci := 2) (fs := [.ref (vB f (zA car d t))]) (r := (RX2, TX2, 1)) hK w (hA2.1) (hA2.2.2.1) rfl)) rfl rfl hl.1 rfl (lv_room (Nat.le_of_ble_eq_true rfl)) dX6_blend_142 ⟨(Nat.le_of_ble_eq_true rfl), (Nat.le_of_ble_eq_true rfl)⟩
                    · exact va_runU (As := [.int i]) (rest := []) ⟨hx, hb, hml, hown, hts⟩ (kX5_told l G hA2 i hi H.size) (va_cwA 1 hts gX6_blend_X5_told_u73X5 rfl rfl rfl hK.2.1.2.1 (by decide +kernel) ⟨(Nat.le_of_ble_eq_true rfl), (Nat.le_of_ble_eq_true rfl)⟩) (zPV w hK (px_recv (ci := 4) (fs := [.ref (vB f (zA car d t))]) (r := (RX5, TX5, 1)) hK w (hA2.1) (hA2.2.2.1) rfl)) rfl rfl hl.1 rfl (lv_room (Nat.le_of_ble_eq_true rfl)) dX6_blend_142 ⟨(Nat.le_of_ble_eq_true rfl), (Nat.le_of_ble_eq_true rfl)⟩
                    · exact va_runU (As := [.int i]) (rest := []) ⟨hx, hb, hml, hown, hts⟩ (kX0_told l G hA2 i hi H.size) (va_cwA 1 hts gX6_blend_X0_told_u73X0 rfl rfl rfl hK.2.1.2.1 (by decide +kernel) ⟨(Nat.le_of_ble_eq_true rfl), (Nat.le_of_ble_eq_true rfl)⟩) (zPV w hK (px_recv (ci := 0) (fs := [.ref (vB f (zA car d t))]) (r := (RX0, TX0, 1)) hK w (hA2.1) (hA2.2.2.1) rfl)) rfl rfl hl.1 rfl (lv_room (Nat.le_of_ble_eq_true rfl)) dX6_blend_142 ⟨(Nat.le_of_ble_eq_true rfl), (Nat.le_of_ble_eq_true rfl)⟩
                    · exact va_runU (As := [.int i]) (rest := []) ⟨hx, hb, hml, hown, hts⟩ (kX1_told l G hA2 i hi H.size) (va_cwA 1 hts gX6_blend_X1_told_u73X1 rfl rfl rfl hK.2.1.2.1 (by decide +kernel) ⟨(Nat.le_of_ble_eq_true rfl), (Nat.le_of_ble_eq_true rfl)⟩) (zPV w hK (px_recv (ci := 1) (fs := [.ref (vB f (zA car d t))]) (r := (RX1, TX1, 1)) hK w (hA2.1) (hA2.2.2.1) rfl)) rfl rfl hl.1 rfl (lv_room (Nat.le_of_ble_eq_true rfl)) dX6_blend_142 ⟨(Nat.le_of_ble_eq_true rfl), (Nat.le_of_ble_eq_true rfl)⟩) (fun r_25 u H locs hq w => ?_)
                obtain ⟨rfl, e_r⟩ := hq
                subst e_r
                refine lv_i2l hx hb dX6_blend_145 rfl ?_
                exact zRl hx hb hr hlk w dX6_blend_146 (Nat.le_of_ble_eq_true rfl) (Nat.le_of_ble_eq_true rfl) (by show (if _ then _ else _); rw [if_pos ⟨p_d, p_t, p_k⟩]; (first | rw [if_pos p_g] | rw [if_neg p_g]); (first | rw [if_pos p_f] | rw [if_neg p_f]); (first | rw [if_pos p_2] | rw [if_neg p_2]); (first | exact ⟨rfl, rfl⟩ | (rw [← hsN, ← hsM]; exact ⟨rfl, rfl⟩)))
          · have p_f := zcmp1 c_14
            refine lv_aload_n hx hb dX6_blend_66 rfl (lv_at hl 1 rfl) ?_
            refine lv_lload hx hb dX6_blend_67 (lv_at hl 0 rfl) ?_
            refine zCl w (va_runV (As := [.long (zPF f car d t i)]) (rest := []) ⟨hx, hb, hml, hown, hts⟩ (kX6_refuse l G h (zPF f car d t i) (zPF_why p_f) H.size) (cwV 1 hts gX6_blend_X6_refuse rfl rfl rfl (by decide +kernel) ⟨(Nat.le_of_ble_eq_true rfl), (Nat.le_of_ble_eq_true rfl)⟩) (zPV w hK (px_recv (r := (RX6, TX6, 4)) hK w mo fo rfl)) rfl rfl hl.1 rfl (lv_room (Nat.le_of_ble_eq_true rfl)) dX6_blend_69 ⟨(Nat.le_of_ble_eq_true rfl), (Nat.le_of_ble_eq_true rfl)⟩) (fun r_26 u H locs hq w => ?_)
            obtain ⟨rfl, e_r⟩ := hq
            subst e_r
            exact zRl hx hb hr hlk w dX6_blend_72 (Nat.le_of_ble_eq_true rfl) (Nat.le_of_ble_eq_true rfl) (by show (if _ then _ else _); rw [if_pos ⟨p_d, p_t, p_k⟩]; (first | rw [if_pos p_g] | rw [if_neg p_g]); (first | rw [if_pos p_f] | rw [if_neg p_f]); (first | exact ⟨rfl, rfl⟩ | (rw [← hsN, ← hsM]; exact ⟨rfl, rfl⟩)))
      · have p_k := z00 inferInstance e_r_7 c_8
        refine lv_aload_n hx hb dX6_blend_23 rfl (lv_at hl 0 rfl) ?_
        refine lv_ldc2 hx hb hown (hts (.constantLong RX6 36 (1099511627776)) (by decide +kernel)) dX6_blend_24 ?_
        refine zCl w (va_runV (As := [.long 1099511627776]) (rest := []) ⟨hx, hb, hml, hown, hts⟩ (kX6_refuse l G h zNONE zW1 H.size) (cwV 1 hts gX6_blend_X6_refuse rfl rfl rfl (by decide +kernel) ⟨(Nat.le_of_ble_eq_true rfl), (Nat.le_of_ble_eq_true rfl)⟩) (zPV w hK (px_recv (r := (RX6, TX6, 4)) hK w mo fo rfl)) rfl rfl hl.1 rfl (lv_room (Nat.le_of_ble_eq_true rfl)) dX6_blend_27 ⟨(Nat.le_of_ble_eq_true rfl), (Nat.le_of_ble_eq_true rfl)⟩) (fun r_27 u H locs hq w => ?_)
        obtain ⟨rfl, e_r⟩ := hq
        subst e_r
        exact zRl hx hb hr hlk w dX6_blend_30 (Nat.le_of_ble_eq_true rfl) (Nat.le_of_ble_eq_true rfl) (by show (if _ then _ else _); rw [if_neg (by intro q; simp_all)]; exact ⟨rfl, rfl⟩)
end
section
/-! ===== what grows ===== -/
def zExt (L : List Nat) (f : Nat → va_E) (L2 : List Nat) (f2 : Nat → va_E) : Prop := ∀ x, x ∈ L → x ∈ L2 ∧ f2 x = f x
/-- each row of a reel or of a wall is there, and has one owner -/
def zOW (L : List Nat) (f : Nat → va_E) : Prop := (∀ x c b, x ∈ L → f x = .inr (c, [.ref b]) → b ∈ L) ∧ ∀ x y c e b, x ∈ L → y ∈ L → f x = .inr (c, [.ref b]) → f y = .inr (e, [.ref b]) → x = y
theorem zExt.rf {L : List Nat} {f : Nat → va_E} : zExt L f L f := fun _ h => ⟨h, rfl⟩
theorem zExt.tr {L L2 L3 : List Nat} {f f2 f3 : Nat → va_E} (h : zExt L f L2 f2) (k : zExt L2 f2 L3 f3) : zExt L f L3 f3 := fun x hx => ⟨(k x (h x hx).1).1, ((k x (h x hx).1).2).trans (h x hx).2⟩
/-- a new reel at a, its row at b -/
abbrev zNL (L : List Nat) (a b : Nat) : List Nat := (L ++ [a]) ++ [b]
abbrev zNf (G : zG) (f : Nat → va_E) (s n a b : Nat) : Nat → va_E := va_up (va_up f b (zCel G s n (fun _ => 0) (fun _ => 0))) a (zObj s b)
theorem zup3 {f : Nat → va_E} {a b : Nat} {x y z : va_E} : va_up (va_up (va_up f a x) b y) a z = va_up (va_up f b y) a z := by
  funext q
  unfold va_up
  split
  · rfl
  · split
    · rfl
    · rfl
section ZNEW
variable {G : zG} {L L2 : List Nat} {f f2 : Nat → va_E} {s n a b : Nat}
theorem zNew_ext (ha : a ∉ L) (hb : b ∉ L) : zExt L f (zNL L a b) (zNf G f s n a b) := fun x hx => by
  refine ⟨List.mem_append_left _ (List.mem_append_left _ hx), ?_⟩
  have n1 : x ≠ a := fun q => ha (q ▸ hx)
  have n2 : x ≠ b := fun q => hb (q ▸ hx)
  show va_up _ _ _ _ = _
  rw [va_up_ne _ _ n1, va_up_ne _ _ n2]
theorem zNew_reel (hn : n ≤ 40) (hab : b ≠ a) : zReel G (zNL L a b) (zNf G f s n a b) s a b n (fun _ => 0) (fun _ => 0) :=
  ⟨List.mem_append_left _ (List.mem_append_right _ List.mem_cons_self), List.mem_append_right _ List.mem_cons_self, va_up_self _ _ _, by show va_up _ _ _ _ = _; rw [va_up_ne _ _ hab, va_up_self], hn, fun _ _ => zfin0⟩
theorem zNew_ow (ha : a ∉ L) (hb : b ∉ L) (hab : b ≠ a) (h : zOW L f) : zOW (zNL L a b) (zNf G f s n a b) := by
  have mem : ∀ x, x ∈ zNL L a b → x ∈ L ∨ x = a ∨ x = b := fun x hx => by
    rcases List.mem_append.mp hx with h | h
    · rcases List.mem_append.mp h with h | h
      · exact Or.inl h
      · exact Or.inr (Or.inl (List.mem_singleton.mp h))
    · exact Or.inr (Or.inr (List.mem_singleton.mp h))
  have eo : ∀ x, x ∈ L → zNf G f s n a b x = f x := fun x hx => ((zNew_ext ha hb) x hx).2
  have ea : zNf G f s n a b a = zObj s b := va_up_self _ _ _
  have eb : zNf G f s n a b b = zCel G s n (fun _ => 0) (fun _ => 0) := by show va_up _ _ _ _ = _; rw [va_up_ne _ _ hab, va_up_self]
  have nb : ∀ c b2, zNf G f s n a b b ≠ .inr (c, [.ref b2]) := fun c b2 q => by rw [eb] at q; unfold zCel at q; cases q
  have ab : ∀ c b2, zNf G f s n a b a = .inr (c, [.ref b2]) → b2 = b := fun c b2 q => by rw [ea] at q; unfold zObj at q; cases q; rfl
  refine ⟨fun x c b2 hx q => ?_, fun x y c e b2 hx hy q1 q2 => ?_⟩
  · rcases mem x hx with h1 | h1 | h1
    · rw [eo x h1] at q
      exact List.mem_append_left _ (List.mem_append_left _ (h.1 x c b2 h1 q))
    · subst h1
      rw [ab c b2 q]
      exact List.mem_append_right _ List.mem_cons_self
    · subst h1
      exact absurd q (nb c b2)
  · rcases mem x hx with h1 | h1 | h1 <;> rcases mem y hy with h2 | h2 | h2
    · rw [eo x h1] at q1
      rw [eo y h2] at q2
      exact h.2 x y c e b2 h1 h2 q1 q2
    · subst h2
      rw [eo x h1] at q1
      have := ab e b2 q2
      subst this
      exact absurd (h.1 x c b2 h1 q1) hb
    · subst h2
      exact absurd q2 (nb e b2)
    · subst h1
      rw [eo y h2] at q2
      have := ab c b2 q1
      subst this
      exact absurd (h.1 y e b2 h2 q2) hb
    · rw [h1, h2]
    · subst h2
      exact absurd q2 (nb e b2)
    · subst h1
      exact absurd q1 (nb c b2)
    · subst h1
      exact absurd q1 (nb c b2)
    · subst h1
      exact absurd q1 (nb c b2)
theorem zReel_ext {gi : Nat → Int32} {gf : Nat → UInt32} (e : zExt L f L2 f2) (h : zReel G L f s a b n gi gf) : zReel G L2 f2 s a b n gi gf :=
  ⟨(e a h.1).1, (e b h.2.1).1, by rw [(e a h.1).2]; exact h.2.2.1, by rw [(e b h.2.1).2]; exact h.2.2.2.1, h.2.2.2.2⟩
theorem vB_ext (e : f2 a = f a) : vB f2 a = vB f a := by unfold vB; rw [e]
theorem zRA_ext (e : zExt L f L2 f2) (h : zRA G L f s a) : zRA G L2 f2 s a := zRA_of (zReel_ext e h)
theorem zWA_ext (e : zExt L f L2 f2) (h : zWA G L f s a) : zWA G L2 f2 s a := by
  obtain ⟨h1, h2, h3, h4, h5, h6⟩ := h
  have e1 : f2 a = f a := (e a h1).2
  have e2 : vB f2 a = vB f a := vB_ext e1
  have e3 : f2 (vB f a) = f (vB f a) := (e _ h2).2
  unfold zWA vN vQ
  rw [e2, e1, e3]
  exact ⟨(e a h1).1, (e _ h2).1, h3, h4, h5, fun i hi x hx => zRA_ext e (h6 i hi x hx)⟩
theorem zHA_ext {q m : Nat} (e : zExt L f L2 f2) (h : zHA G L f q m) : zHA G L2 f2 q m := by
  obtain ⟨h1, h2, h3, h4, h5⟩ := h
  have e1 : f2 q = f q := (e q h1).2
  unfold zHA
  rw [e1]
  refine ⟨(e q h1).1, h2, h3, h4, fun i hi => ?_⟩
  obtain ⟨b, g1, g2, g3⟩ := h5 i hi
  refine ⟨b, g1, (e b g2).1, ?_⟩
  rw [(e b g2).2]
  exact g3
theorem zBn_ext {o ac aw ar : Nat} {ch : Option Nat} {car wa : Nat → Option Nat} {ta : Nat → Int32} (e : zExt L f L2 f2) (h : zBn G L f o ac aw ar ch car wa ta) : zBn G L2 f2 o ac aw ar ch car wa ta := by
  obtain ⟨⟨m1, m2, m3, m4⟩, f1, g2, g3, g4⟩ := h
  exact ⟨⟨(e _ m1).1, (e _ m2).1, (e _ m3).1, (e _ m4).1⟩, by rw [(e _ m1).2]; exact f1, by rw [(e _ m2).2]; exact g2, by rw [(e _ m3).2]; exact g3, by rw [(e _ m4).2]; exact g4⟩
end ZNEW
theorem zS_is {t : Int32} {k : Nat} (hk : k < 4) (h : t = nI k) : zS t = k := by
  unfold zS
  rw [h, nI_clamp (by omega)]
theorem zS_is3 {t : Int32} (ht : zFour t) (h0 : ¬ t = 0) (h1 : ¬ t = 1) (h2 : ¬ t = 2) : zS t = 3 := by
  obtain ⟨b, hb, eb⟩ := zFour_of ht
  have e := zS_is hb eb
  rw [e]
  have n0 : b ≠ 0 := fun q => h0 (by rw [eb, q]; rfl)
  have n1 : b ≠ 1 := fun q => h1 (by rw [eb, q]; rfl)
  have n2 : b ≠ 2 := fun q => h2 (by rw [eb, q]; rfl)
  omega
/-! a wall that grows, row by row -/
def zLI (G : zG) (L : List Nat) (f : Nat → va_E) (s rows cols i a b : Nat) (L2 : List Nat) (f2 : Nat → va_E) (g : Nat → Option Nat) : Prop :=
  zExt L f L2 f2 ∧ (a ∉ L ∧ b ∉ L ∧ a ∈ L2 ∧ b ∈ L2) ∧ f2 a = .inr (3, [.ref b]) ∧ f2 b = .inl (G.2 5, rows, zQ g) ∧ (∀ j, j < i → ∃ x y, g j = some x ∧ x ∉ L ∧ y ∉ L ∧ zReel G L2 f2 s x y cols (fun _ => 0) (fun _ => 0)) ∧ (∀ j k, j < i → k < i → g j = g k → j = k) ∧ (zOW L f → zOW L2 f2)
def zNW (G : zG) (L : List Nat) (f : Nat → va_E) (s rows cols a : Nat) (L2 : List Nat) (f2 : Nat → va_E) : Prop :=
  zExt L f L2 f2 ∧ a ∉ L ∧ zWA G L2 f2 s a ∧ vN f2 a = rows ∧ vB f2 a ∉ L ∧ (∀ i, i < rows → ∃ x y, vQ f2 a i = some x ∧ x ∉ L ∧ y ∉ L ∧ zReel G L2 f2 s x y cols (fun _ => 0) (fun _ => 0)) ∧ (∀ i j, i < rows → j < rows → vQ f2 a i = vQ f2 a j → i = j) ∧ (zOW L f → zOW L2 f2)
section ZLOOP
variable {G : zG} {L L2 : List Nat} {f f2 : Nat → va_E} {s rows cols i a b : Nat} {g : Nat → Option Nat}
theorem zLI_end (hr : rows ≤ 12) (h : zLI G L f s rows cols rows a b L2 f2 g) : zNW G L f s rows cols a L2 f2 := by
  obtain ⟨h1, ⟨h2, h3, h4, h5⟩, h6, h7, h8, h9, h10⟩ := h
  have eB : vB f2 a = b := by unfold vB; rw [h6]
  have eN1 : vN f2 a = rows := by unfold vN; rw [eB, h7]; rfl
  have eQ1 : vQ f2 a = g := by unfold vQ; rw [eB, h7]; rfl
  refine ⟨h1, h2, ⟨h4, by rw [eB]; exact h5, by rw [eB]; exact h6, by rw [eN1, eQ1, eB]; exact h7, by rw [eN1]; exact hr, fun j hj x hx => ?_⟩, eN1, by rw [eB]; exact h3, fun j hj => ?_, fun j k hj hk q => ?_, h10⟩
  · rw [eN1] at hj
    rw [eQ1] at hx
    obtain ⟨x2, y, g1, -, -, g4⟩ := h8 j hj
    rw [g1] at hx
    cases hx
    exact zRA_of g4
  · rw [eQ1]
    exact h8 j hj
  · rw [eQ1] at q
    exact h9 j k hj hk q
theorem zLI_step {x y : Nat} (hc : cols ≤ 40) (hi : i < rows) (hx : x ∉ L2) (hy : y ∉ L2) (hxy : y ≠ x) (h : zLI G L f s rows cols i a b L2 f2 g) : zLI G L f s rows cols (i + 1) a b (zNL L2 x y) (va_up (zNf G f2 s cols x y) b (.inl (G.2 5, rows, zQ (va_up g i (some x))))) (va_up g i (some x)) := by
  obtain ⟨h1, ⟨h2, h3, h4, h5⟩, h6, h7, h8, h9, h10⟩ := h
  have e := zNew_ext (G := G) (f := f2) (s := s) (n := cols) hx hy
  have hab : a ≠ b := fun q => by rw [q, h7] at h6; cases h6
  have nL : ∀ z, z ∉ L2 → z ∉ L := fun z hz q => hz (h1 z q).1
  have up : ∀ z, z ≠ b → va_up (zNf G f2 s cols x y) b (.inl (G.2 5, rows, zQ (va_up g i (some x)))) z = zNf G f2 s cols x y z := fun z hz => va_up_ne _ _ hz
  have keep : ∀ (x2 y2 : Nat), zReel G (zNL L2 x y) (zNf G f2 s cols x y) s x2 y2 cols (fun _ => 0) (fun _ => 0) → y2 ∉ L ∨ True → y2 ≠ b → zReel G (zNL L2 x y) (va_up (zNf G f2 s cols x y) b (.inl (G.2 5, rows, zQ (va_up g i (some x))))) s x2 y2 cols (fun _ => 0) (fun _ => 0) := fun x2 y2 hr _ hyb => by
    have hxb : x2 ≠ b := fun q => by
      have h0 := hr.2.2.1
      rw [q, (e b h5).2, h7] at h0
      unfold zObj at h0
      cases h0
    exact ⟨hr.1, hr.2.1, by rw [up _ hxb]; exact hr.2.2.1, by rw [up _ hyb]; exact hr.2.2.2.1, hr.2.2.2.2⟩
  refine ⟨fun z hz => ⟨(e z (h1 z hz).1).1, ?_⟩, ⟨h2, h3, (e a h4).1, (e b h5).1⟩, ?_, va_up_self _ _ _, fun j hj => ?_, fun j k hj hk q => ?_, fun ho => ?_⟩
  · rw [up z (fun q => h3 (q ▸ hz)), (e z (h1 z hz).1).2]
    exact (h1 z hz).2
  · rw [up a hab, (e a h4).2]
    exact h6
  · by_cases hji : j = i
    · subst hji
      refine ⟨x, y, va_up_self _ _ _, nL x hx, nL y hy, ?_⟩
      exact keep x y (zNew_reel hc hxy) (Or.inr trivial) (fun q => hy (q ▸ h5))
    · obtain ⟨x2, y2, g1, g2, g3, g4⟩ := h8 j (by omega)
      refine ⟨x2, y2, by rw [va_up_ne _ _ hji]; exact g1, g2, g3, ?_⟩
      refine keep x2 y2 (zReel_ext e g4) (Or.inr trivial) (fun q => ?_)
      have h0 := g4.2.2.2.1
      rw [q, h7] at h0
      unfold zCel at h0
      simp only [Sum.inl.injEq, Prod.mk.injEq] at h0
      have h00 := h0.2.2
      unfold zArr at h00
      split at h00 <;> cases h00
  · have hne : ∀ j2, j2 < i → g j2 ≠ some x := fun j2 hj2 q => by
      obtain ⟨x2, y2, g1, g2, g3, g4⟩ := h8 j2 hj2
      rw [g1] at q
      cases q
      exact hx g4.1
    by_cases hji : j = i <;> by_cases hki : k = i
    · omega
    · subst hji
      rw [va_up_self, va_up_ne _ _ hki] at q
      exact absurd q.symm (hne k (by omega))
    · subst hki
      rw [va_up_self, va_up_ne _ _ hji] at q
      exact absurd q (hne j (by omega))
    · rw [va_up_ne _ _ hji, va_up_ne _ _ hki] at q
      exact h9 j k (by omega) (by omega) q
  · have o2 := zNew_ow (G := G) (s := s) (n := cols) hx hy hxy (h10 ho)
    have nb : ∀ z c b2, va_up (zNf G f2 s cols x y) b (.inl (G.2 5, rows, zQ (va_up g i (some x)))) z = .inr (c, [.ref b2]) → zNf G f2 s cols x y z = .inr (c, [.ref b2]) := fun z c b2 q => by
      by_cases hz : z = b
      · subst hz
        rw [va_up_self] at q
        cases q
      · rw [up z hz] at q
        exact q
    exact ⟨fun z c b2 hz q => o2.1 z c b2 hz (nb z c b2 q), fun z1 z2 c1 c2 b2 m1 m2 q1 q2 => o2.2 z1 z2 c1 c2 b2 m1 m2 (nb _ _ _ q1) (nb _ _ _ q2)⟩
end ZLOOP
end
section
theorem zle40 {n : Int32} (h0 : 0 ≤ n) (h : n ≤ 40) : n.toNatClampNeg ≤ 40 := by
  rw [Int32.le_iff_toInt_le] at h0 h
  have e1 : (40 : Int32).toInt = 40 := by decide
  have e : n.toNatClampNeg = n.toInt.toNat := rfl
  rw [Int32.toInt_zero] at h0
  omega
theorem zle12 {n : Int32} (h0 : ¬ n < 0) (h : n ≤ 12) : n.toNatClampNeg ≤ 12 := by
  rw [Int32.lt_iff_toInt_lt] at h0
  rw [Int32.le_iff_toInt_le] at h
  have e1 : (12 : Int32).toInt = 12 := by decide
  have e : n.toNatClampNeg = n.toInt.toNat := rfl
  rw [Int32.toInt_zero] at h0
  omega
set_option maxHeartbeats 4000000 in
set_option maxRecDepth 100000 in
theorem kX2_init (l : Launch) (G : zG) {L : List Nat} {f : Nat → va_E} {a : Nat} (ma : a ∈ L) (fa : f a = .inr (2, [.null])) (n : Int32) (hn : ¬ n < 0) (hn2 : n.toNatClampNeg ≤ 40) (sz : Nat) : zMv l yX2_init wsX2_init { frames := 2, cells := 1, slots := 40, locals := 32 } G [.ref a, .int n] (va_pl L f) sz (fun u => ∃ b, b ∉ L ∧ u = va_pl (L ++ [b]) (va_up (va_up f b (zCel G 0 n.toNatClampNeg (fun _ => 0) (fun _ => 0))) a (zObj 0 b))) 1 40 := by
  refine zIn (Qc := fun A => va_Qv _ (zB G A) A) (cc := cX2_init) (maxL := 2) (ret := none) (by decide) rfl (Nat.le_of_ble_eq_true rfl) ?_
  intro p e s m below meth c A ls hx hb hr hlk hml hts hown hnm hK w hl
  have hown : s.vm.findClass RX2 = some m.cls := hown
  have hl : lv_has ls 2 [(0, .ref a), (1, .int n)] := hl
  refine lv_aload_n hx hb dX2_init_0 rfl (lv_at hl 0 rfl) ?_
  refine zCv w (va_runIN (As := []) (rest := []) ⟨hx, hb, hml, hown, hts⟩ (kX3_init l G _ a s.heap.size) ⟨va_cnB 0 hts gX2_init_X3_init_n1 rfl rfl rfl hK.2.2.1.2.2.1 (hts (.initialized RX3) (by decide +kernel)) (by decide +kernel) ⟨(Nat.le_of_ble_eq_true rfl), (Nat.le_of_ble_eq_true rfl)⟩, rfl, hts (.instanceMethod yX3_init) (by decide +kernel)⟩ (zPS w hK) rfl rfl hl.1 rfl (lv_room (Nat.le_of_ble_eq_true rfl)) dX2_init_1 ⟨(Nat.le_of_ble_eq_true rfl), (Nat.le_of_ble_eq_true rfl)⟩) (fun u H locs hq w => ?_)
  subst hq
  refine lv_aload_n hx hb dX2_init_4 rfl (lv_at hl 0 rfl) ?_
  refine lv_iload_n hx hb dX2_init_5 rfl (lv_at hl 1 rfl) ?_
  refine px_newC hx hb (hts (.arrayClass .char) (by decide +kernel)) hK w hn rfl (by omega) (Nat.le_of_ble_eq_true rfl) (by show 0 + 0 + n.toNatClampNeg ≤ 40; omega) dX2_init_6 (fun b H hb0 w => ?_)
  refine W.widen (k := 1) (n := 40) (Nat.le_of_ble_eq_true rfl) (by show 0 + 0 + n.toNatClampNeg ≤ 40; omega) ?_
  have hne : a ≠ b := fun z => hb0 (z ▸ ma)
  refine px_putF (ci := 2) (C := RX2) (T := TX2) (N := 1) (v := .ref b) (ty := .array .char) hx hb hts hown hK w (List.mem_append_left _ ma) (by decide +kernel) tyX2 tyX2_ok nmX2 (by rw [va_up_ne _ _ hne]; exact fa) rfl 0 (by decide) (hts (.fieldLink RX2 7 "ReelBarn$LetterReel" "letters" "[C") (by decide +kernel)) (fun _ h9 => h9) rfl hnm rfl (by decide +kernel) rfl rfl (Nat.le_of_ble_eq_true rfl) dX2_init_8 (fun H locs w => ?_)
  exact zRv hx hb hr hlk w dX2_init_11 (Nat.le_of_ble_eq_true rfl) (Nat.le_of_ble_eq_true rfl) ⟨b, hb0, rfl⟩
set_option maxHeartbeats 4000000 in
set_option maxRecDepth 100000 in
theorem kX5_init (l : Launch) (G : zG) {L : List Nat} {f : Nat → va_E} {a : Nat} (ma : a ∈ L) (fa : f a = .inr (4, [.null])) (n : Int32) (hn : ¬ n < 0) (hn2 : n.toNatClampNeg ≤ 40) (sz : Nat) : zMv l yX5_init wsX5_init { frames := 2, cells := 1, slots := 40, locals := 32 } G [.ref a, .int n] (va_pl L f) sz (fun u => ∃ b, b ∉ L ∧ u = va_pl (L ++ [b]) (va_up (va_up f b (zCel G 1 n.toNatClampNeg (fun _ => 0) (fun _ => 0))) a (zObj 1 b))) 1 40 := by
  refine zIn (Qc := fun A => va_Qv _ (zB G A) A) (cc := cX5_init) (maxL := 2) (ret := none) (by decide) rfl (Nat.le_of_ble_eq_true rfl) ?_
  intro p e s m below meth c A ls hx hb hr hlk hml hts hown hnm hK w hl
  have hown : s.vm.findClass RX5 = some m.cls := hown
  have hl : lv_has ls 2 [(0, .ref a), (1, .int n)] := hl
  refine lv_aload_n hx hb dX5_init_0 rfl (lv_at hl 0 rfl) ?_
  refine zCv w (va_runIN (As := []) (rest := []) ⟨hx, hb, hml, hown, hts⟩ (kX3_init l G _ a s.heap.size) ⟨va_cnB 0 hts gX5_init_X3_init_n1 rfl rfl rfl hK.2.2.1.2.2.2 (hts (.initialized RX3) (by decide +kernel)) (by decide +kernel) ⟨(Nat.le_of_ble_eq_true rfl), (Nat.le_of_ble_eq_true rfl)⟩, rfl, hts (.instanceMethod yX3_init) (by decide +kernel)⟩ (zPS w hK) rfl rfl hl.1 rfl (lv_room (Nat.le_of_ble_eq_true rfl)) dX5_init_1 ⟨(Nat.le_of_ble_eq_true rfl), (Nat.le_of_ble_eq_true rfl)⟩) (fun u H locs hq w => ?_)
  subst hq
  refine lv_aload_n hx hb dX5_init_4 rfl (lv_at hl 0 rfl) ?_
  refine lv_iload_n hx hb dX5_init_5 rfl (lv_at hl 1 rfl) ?_
  refine px_newS hx hb (hts (.arrayClass .short) (by decide +kernel)) hK w hn rfl (by omega) (Nat.le_of_ble_eq_true rfl) (by show 0 + 0 + n.toNatClampNeg ≤ 40; omega) dX5_init_6 (fun b H hb0 w => ?_)
  refine W.widen (k := 1) (n := 40) (Nat.le_of_ble_eq_true rfl) (by show 0 + 0 + n.toNatClampNeg ≤ 40; omega) ?_
  have hne : a ≠ b := fun z => hb0 (z ▸ ma)
  refine px_putF (ci := 4) (C := RX5) (T := TX5) (N := 1) (v := .ref b) (ty := .array .short) hx hb hts hown hK w (List.mem_append_left _ ma) (by decide +kernel) tyX5 tyX5_ok nmX5 (by rw [va_up_ne _ _ hne]; exact fa) rfl 0 (by decide) (hts (.fieldLink RX5 7 "ReelBarn$WaveReel" "waves" "[S") (by decide +kernel)) (fun _ h9 => h9) rfl hnm rfl (by decide +kernel) rfl rfl (Nat.le_of_ble_eq_true rfl) dX5_init_8 (fun H locs w => ?_)
  exact zRv hx hb hr hlk w dX5_init_11 (Nat.le_of_ble_eq_true rfl) (Nat.le_of_ble_eq_true rfl) ⟨b, hb0, rfl⟩
set_option maxHeartbeats 4000000 in
set_option maxRecDepth 100000 in
theorem kX0_init (l : Launch) (G : zG) {L : List Nat} {f : Nat → va_E} {a : Nat} (ma : a ∈ L) (fa : f a = .inr (0, [.null])) (n : Int32) (hn : ¬ n < 0) (hn2 : n.toNatClampNeg ≤ 40) (sz : Nat) : zMv l yX0_init wsX0_init { frames := 2, cells := 1, slots := 40, locals := 32 } G [.ref a, .int n] (va_pl L f) sz (fun u => ∃ b, b ∉ L ∧ u = va_pl (L ++ [b]) (va_up (va_up f b (zCel G 2 n.toNatClampNeg (fun _ => 0) (fun _ => 0))) a (zObj 2 b))) 1 40 := by
  refine zIn (Qc := fun A => va_Qv _ (zB G A) A) (cc := cX0_init) (maxL := 2) (ret := none) (by decide) rfl (Nat.le_of_ble_eq_true rfl) ?_
  intro p e s m below meth c A ls hx hb hr hlk hml hts hown hnm hK w hl
  have hown : s.vm.findClass RX0 = some m.cls := hown
  have hl : lv_has ls 2 [(0, .ref a), (1, .int n)] := hl
  refine lv_aload_n hx hb dX0_init_0 rfl (lv_at hl 0 rfl) ?_
  refine zCv w (va_runIN (As := []) (rest := []) ⟨hx, hb, hml, hown, hts⟩ (kX3_init l G _ a s.heap.size) ⟨va_cnB 0 hts gX0_init_X3_init_n3 rfl rfl rfl hK.2.2.1.1 (hts (.initialized RX3) (by decide +kernel)) (by decide +kernel) ⟨(Nat.le_of_ble_eq_true rfl), (Nat.le_of_ble_eq_true rfl)⟩, rfl, hts (.instanceMethod yX3_init) (by decide +kernel)⟩ (zPS w hK) rfl rfl hl.1 rfl (lv_room (Nat.le_of_ble_eq_true rfl)) dX0_init_1 ⟨(Nat.le_of_ble_eq_true rfl), (Nat.le_of_ble_eq_true rfl)⟩) (fun u H locs hq w => ?_)
  subst hq
  refine lv_aload_n hx hb dX0_init_4 rfl (lv_at hl 0 rfl) ?_
  refine lv_iload_n hx hb dX0_init_5 rfl (lv_at hl 1 rfl) ?_
  refine px_newF hx hb (hts (.arrayClass .float) (by decide +kernel)) hK w hn rfl (by omega) (Nat.le_of_ble_eq_true rfl) (by show 0 + 0 + n.toNatClampNeg ≤ 40; omega) dX0_init_6 (fun b H hb0 w => ?_)
  refine W.widen (k := 1) (n := 40) (Nat.le_of_ble_eq_true rfl) (by show 0 + 0 + n.toNatClampNeg ≤ 40; omega) ?_
  have hne : a ≠ b := fun z => hb0 (z ▸ ma)
  refine px_putF (ci := 0) (C := RX0) (T := TX0) (N := 1) (v := .ref b) (ty := .array .float) hx hb hts hown hK w (List.mem_append_left _ ma) (by decide +kernel) tyX0 tyX0_ok nmX0 (by rw [va_up_ne _ _ hne]; exact fa) rfl 0 (by decide) (hts (.fieldLink RX0 9 "ReelBarn$FaderReel" "faders" "[F") (by decide +kernel)) (fun _ h9 => h9) rfl hnm rfl (by decide +kernel) rfl rfl (Nat.le_of_ble_eq_true rfl) dX0_init_8 (fun H locs w => ?_)
  exact zRv hx hb hr hlk w dX0_init_11 (Nat.le_of_ble_eq_true rfl) (Nat.le_of_ble_eq_true rfl) ⟨b, hb0, rfl⟩
set_option maxHeartbeats 4000000 in
set_option maxRecDepth 100000 in
theorem kX1_init (l : Launch) (G : zG) {L : List Nat} {f : Nat → va_E} {a : Nat} (ma : a ∈ L) (fa : f a = .inr (1, [.null])) (n : Int32) (hn : ¬ n < 0) (hn2 : n.toNatClampNeg ≤ 40) (sz : Nat) : zMv l yX1_init wsX1_init { frames := 2, cells := 1, slots := 40, locals := 32 } G [.ref a, .int n] (va_pl L f) sz (fun u => ∃ b, b ∉ L ∧ u = va_pl (L ++ [b]) (va_up (va_up f b (zCel G 3 n.toNatClampNeg (fun _ => 0) (fun _ => 0))) a (zObj 3 b))) 1 40 := by
  refine zIn (Qc := fun A => va_Qv _ (zB G A) A) (cc := cX1_init) (maxL := 2) (ret := none) (by decide) rfl (Nat.le_of_ble_eq_true rfl) ?_
  intro p e s m below meth c A ls hx hb hr hlk hml hts hown hnm hK w hl
  have hown : s.vm.findClass RX1 = some m.cls := hown
  have hl : lv_has ls 2 [(0, .ref a), (1, .int n)] := hl
  refine lv_aload_n hx hb dX1_init_0 rfl (lv_at hl 0 rfl) ?_
  refine zCv w (va_runIN (As := []) (rest := []) ⟨hx, hb, hml, hown, hts⟩ (kX3_init l G _ a s.heap.size) ⟨va_cnB 0 hts gX1_init_X3_init_n1 rfl rfl rfl hK.2.2.1.2.1 (hts (.initialized RX3) (by decide +kernel)) (by decide +kernel) ⟨(Nat.le_of_ble_eq_true rfl), (Nat.le_of_ble_eq_true rfl)⟩, rfl, hts (.instanceMethod yX3_init) (by decide +kernel)⟩ (zPS w hK) rfl rfl hl.1 rfl (lv_room (Nat.le_of_ble_eq_true rfl)) dX1_init_1 ⟨(Nat.le_of_ble_eq_true rfl), (Nat.le_of_ble_eq_true rfl)⟩) (fun u H locs hq w => ?_)
  subst hq
  refine lv_aload_n hx hb dX1_init_4 rfl (lv_at hl 0 rfl) ?_
  refine lv_iload_n hx hb dX1_init_5 rfl (lv_at hl 1 rfl) ?_
  refine px_newZ hx hb (hts (.arrayClass .boolean) (by decide +kernel)) hK w hn rfl (by omega) (Nat.le_of_ble_eq_true rfl) (by show 0 + 0 + n.toNatClampNeg ≤ 40; omega) dX1_init_6 (fun b H hb0 w => ?_)
  refine W.widen (k := 1) (n := 40) (Nat.le_of_ble_eq_true rfl) (by show 0 + 0 + n.toNatClampNeg ≤ 40; omega) ?_
  have hne : a ≠ b := fun z => hb0 (z ▸ ma)
  refine px_putF (ci := 1) (C := RX1) (T := TX1) (N := 1) (v := .ref b) (ty := .array .boolean) hx hb hts hown hK w (List.mem_append_left _ ma) (by decide +kernel) tyX1 tyX1_ok nmX1 (by rw [va_up_ne _ _ hne]; exact fa) rfl 0 (by decide) (hts (.fieldLink RX1 7 "ReelBarn$LampReel" "lamps" "[Z") (by decide +kernel)) (fun _ h9 => h9) rfl hnm rfl (by decide +kernel) rfl rfl (Nat.le_of_ble_eq_true rfl) dX1_init_8 (fun H locs w => ?_)
  exact zRv hx hb hr hlk w dX1_init_11 (Nat.le_of_ble_eq_true rfl) (Nat.le_of_ble_eq_true rfl) ⟨b, hb0, rfl⟩
set_option maxHeartbeats 4000000 in
set_option maxRecDepth 100000 in
theorem kX4_init (l : Launch) (G : zG) {L : List Nat} {f : Nat → va_E} {a : Nat} (ma : a ∈ L) (fa : f a = .inr (3, [.null])) (n : Int32) (hn : ¬ n < 0) (hn2 : n.toNatClampNeg ≤ 12) (sz : Nat) : zMv l yX4_init wsX4_init { frames := 1, cells := 1, slots := 12, locals := 12 } G [.ref a, .int n] (va_pl L f) sz (fun u => ∃ b, b ∉ L ∧ u = va_pl (L ++ [b]) (va_up (va_up f b (.inl (G.2 5, n.toNatClampNeg, zQ (fun _ => none)))) a (.inr (3, [.ref b])))) 1 12 := by
  refine zIn (Qc := fun A => va_Qv _ (zB G A) A) (cc := cX4_init) (maxL := 2) (ret := none) (by decide) rfl (Nat.le_of_ble_eq_true rfl) ?_
  intro p e s m below meth c A ls hx hb hr hlk hml hts hown hnm hK w hl
  have hown : s.vm.findClass RX4 = some m.cls := hown
  have hl : lv_has ls 2 [(0, .ref a), (1, .int n)] := hl
  refine lv_aload_n hx hb dX4_init_0 rfl (lv_at hl 0 rfl) ?_
  refine W.objInit hx hb hown (hts (.methodLink RX4 1 objectInit) (by decide +kernel)) (hts (.instanceMethod objectInit) (by decide +kernel)) (hts (.code objectInit ⟨#[0xb1]⟩ 1 none) (by decide +kernel)) rfl (by rw [hml]; exact hl.1) rfl dX4_init_1 (Nat.le_of_ble_eq_true rfl) (Nat.le_of_ble_eq_true rfl) ?_
  refine W.eq (g2 := F0 m 4 ls []) rfl ?_
  refine lv_aload_n hx hb dX4_init_4 rfl (lv_at hl 0 rfl) ?_
  refine lv_iload_n hx hb dX4_init_5 rfl (lv_at hl 1 rfl) ?_
  refine px_newR hx hb hown (hts (.classLink RX4 7 RX3) (by decide +kernel)) hK w hn rfl (by omega) (Nat.le_of_ble_eq_true rfl) (by show 0 + n.toNatClampNeg ≤ 12; omega) dX4_init_6 (fun b H hb0 w => ?_)
  refine W.widen (k := 1) (n := 12) (Nat.le_of_ble_eq_true rfl) (by show 0 + n.toNatClampNeg ≤ 12; omega) ?_
  have hne : a ≠ b := fun z => hb0 (z ▸ ma)
  refine px_putF (ci := 3) (C := RX4) (T := TX4) (N := 1) (v := .ref b) (ty := .array (.object RX3)) hx hb hts hown hK w (List.mem_append_left _ ma) (by decide +kernel) tyX4 tyX4_ok nmX4 (by rw [va_up_ne _ _ hne]; exact fa) rfl 0 (by decide) (hts (.fieldLink RX4 9 "ReelBarn$Wall" "rows" "[LReelBarn$Reel;") (by decide +kernel)) (fun _ h9 => h9) rfl hnm rfl (by decide +kernel) rfl rfl (Nat.le_of_ble_eq_true rfl) dX4_init_9 (fun H locs w => ?_)
  exact zRv hx hb hr hlk w dX4_init_12 (Nat.le_of_ble_eq_true rfl) (Nat.le_of_ble_eq_true rfl) ⟨b, hb0, rfl⟩
set_option maxHeartbeats 4000000 in
set_option maxRecDepth 100000 in
theorem kX6_newReel (l : Launch) (G : zG) {L : List Nat} {f : Nat → va_E} (t : Int32) (ht : zFour t) (n : Int32) (hn : ¬ n < 0) (hn2 : n.toNatClampNeg ≤ 40) (sz : Nat) : zMq l yX6_newReel wsX6_newReel { frames := 3, cells := 2, slots := 41, locals := 53 } G [.int t, .int n] (va_pl L f) sz (fun r u => ∃ a b, r = some a ∧ a ∉ L ∧ b ∉ L ∧ b ≠ a ∧ u = va_pl (zNL L a b) (zNf G f (zS t) n.toNatClampNeg a b)) 2 41 := by
  refine zIn (Qc := fun A => va_Qq _ (zB G A) A) (cc := cX6_newReel) (maxL := 2) (ret := (some (.object "ReelBarn$Reel"))) (by decide) rfl (Nat.le_of_ble_eq_true rfl) ?_
  intro p e s m below meth c A ls hx hb hr hlk hml hts hown hnm hK w hl
  have hown : s.vm.findClass RX6 = some m.cls := hown
  have hl : lv_has ls 2 [(0, .int t), (1, .int n)] := hl
  refine lv_iload_n hx hb dX6_newReel_0 rfl (lv_at hl 0 rfl) ?_
  rcases Decidable.em (t = 0) with t_1 | t_1
  · refine lv_tableIn (tgt := 28) hx hb dX6_newReel_1 (by rw [t_1]; decide) (by rw [t_1]; decide) (by rw [t_1]; rfl) (by decide) ?_
    refine px_new (ci := 2) (fs := [.null]) (C := RX2) (T := TX2) (N := 1) hx hb hts hown hK w (by decide +kernel) tyX2 tyX2_ok (hts (.classLink RX6 147 RX2) (by decide +kernel)) (hts (.instantiable RX2 1) (by decide +kernel)) (hts (.initialized RX2) (by decide +kernel)) rfl (fun j hj => by rcases (show j = 0 by omega) with rfl <;> rfl) (Nat.le_of_ble_eq_true rfl) (Nat.le_of_ble_eq_true rfl) dX6_newReel_28 (fun a H ha w => ?_)
    refine W.widen (k := 1) (n := 1) (Nat.le_of_ble_eq_true rfl) (Nat.le_of_ble_eq_true rfl) ?_
    refine lv_dup hx hb dX6_newReel_31 rfl ?_
    refine lv_iload_n hx hb dX6_newReel_32 rfl (lv_at hl 1 rfl) ?_
    refine zCv w (va_runI (As := [.int n]) (rest := [.ref a]) ⟨hx, hb, hml, hown, hts⟩ (kX2_init l G (List.mem_append_right _ List.mem_cons_self) (va_up_self _ _ _) n hn hn2 H.size) (cwI 1 hts gX6_newReel_X2_init rfl rfl rfl (hts (.initialized RX2) (by decide +kernel)) (hts (.methodLink RX6 149 yX2_init) (by decide +kernel)) (hts (.instanceMethod yX2_init) (by decide +kernel)) rfl (by decide +kernel) ⟨(Nat.le_of_ble_eq_true rfl), (Nat.le_of_ble_eq_true rfl)⟩) (zPS w hK) rfl rfl hl.1 rfl (lv_room (Nat.le_of_ble_eq_true rfl)) dX6_newReel_33 ⟨(Nat.le_of_ble_eq_true rfl), (Nat.le_of_ble_eq_true rfl)⟩) (fun u H locs hq w => ?_)
    obtain ⟨b, hb0, rfl⟩ := hq
    have hbL : b ∉ L := fun z => hb0 (List.mem_append_left _ z)
    have hba : b ≠ a := fun z => hb0 (z ▸ List.mem_append_right _ List.mem_cons_self)
    rw [zup3] at w
    exact zRq hx hb hr hlk w rfl dX6_newReel_36 (Nat.le_of_ble_eq_true rfl) (Nat.le_of_ble_eq_true rfl) ⟨a, b, rfl, ha, hbL, hba, by rw [(zS_is (k := 0) (by decide) t_1)]⟩
  · rcases Decidable.em (t = 1) with t_2 | t_2
    · refine lv_tableIn (tgt := 37) hx hb dX6_newReel_1 (by rw [t_2]; decide) (by rw [t_2]; decide) (by rw [t_2]; rfl) (by decide) ?_
      refine px_new (ci := 4) (fs := [.null]) (C := RX5) (T := TX5) (N := 1) hx hb hts hown hK w (by decide +kernel) tyX5 tyX5_ok (hts (.classLink RX6 151 RX5) (by decide +kernel)) (hts (.instantiable RX5 1) (by decide +kernel)) (hts (.initialized RX5) (by decide +kernel)) rfl (fun j hj => by rcases (show j = 0 by omega) with rfl <;> rfl) (Nat.le_of_ble_eq_true rfl) (Nat.le_of_ble_eq_true rfl) dX6_newReel_37 (fun a H ha w => ?_)
      refine W.widen (k := 1) (n := 1) (Nat.le_of_ble_eq_true rfl) (Nat.le_of_ble_eq_true rfl) ?_
      refine lv_dup hx hb dX6_newReel_40 rfl ?_
      refine lv_iload_n hx hb dX6_newReel_41 rfl (lv_at hl 1 rfl) ?_
      refine zCv w (va_runI (As := [.int n]) (rest := [.ref a]) ⟨hx, hb, hml, hown, hts⟩ (kX5_init l G (List.mem_append_right _ List.mem_cons_self) (va_up_self _ _ _) n hn hn2 H.size) (cwI 1 hts gX6_newReel_X5_init rfl rfl rfl (hts (.initialized RX5) (by decide +kernel)) (hts (.methodLink RX6 153 yX5_init) (by decide +kernel)) (hts (.instanceMethod yX5_init) (by decide +kernel)) rfl (by decide +kernel) ⟨(Nat.le_of_ble_eq_true rfl), (Nat.le_of_ble_eq_true rfl)⟩) (zPS w hK) rfl rfl hl.1 rfl (lv_room (Nat.le_of_ble_eq_true rfl)) dX6_newReel_42 ⟨(Nat.le_of_ble_eq_true rfl), (Nat.le_of_ble_eq_true rfl)⟩) (fun u H locs hq w => ?_)
      obtain ⟨b, hb0, rfl⟩ := hq
      have hbL : b ∉ L := fun z => hb0 (List.mem_append_left _ z)
      have hba : b ≠ a := fun z => hb0 (z ▸ List.mem_append_right _ List.mem_cons_self)
      rw [zup3] at w
      exact zRq hx hb hr hlk w rfl dX6_newReel_45 (Nat.le_of_ble_eq_true rfl) (Nat.le_of_ble_eq_true rfl) ⟨a, b, rfl, ha, hbL, hba, by rw [(zS_is (k := 1) (by decide) t_2)]⟩
    · rcases Decidable.em (t = 2) with t_3 | t_3
      · refine lv_tableIn (tgt := 46) hx hb dX6_newReel_1 (by rw [t_3]; decide) (by rw [t_3]; decide) (by rw [t_3]; rfl) (by decide) ?_
        refine px_new (ci := 0) (fs := [.null]) (C := RX0) (T := TX0) (N := 1) hx hb hts hown hK w (by decide +kernel) tyX0 tyX0_ok (hts (.classLink RX6 154 RX0) (by decide +kernel)) (hts (.instantiable RX0 1) (by decide +kernel)) (hts (.initialized RX0) (by decide +kernel)) rfl (fun j hj => by rcases (show j = 0 by omega) with rfl <;> rfl) (Nat.le_of_ble_eq_true rfl) (Nat.le_of_ble_eq_true rfl) dX6_newReel_46 (fun a H ha w => ?_)
        refine W.widen (k := 1) (n := 1) (Nat.le_of_ble_eq_true rfl) (Nat.le_of_ble_eq_true rfl) ?_
        refine lv_dup hx hb dX6_newReel_49 rfl ?_
        refine lv_iload_n hx hb dX6_newReel_50 rfl (lv_at hl 1 rfl) ?_
        refine zCv w (va_runI (As := [.int n]) (rest := [.ref a]) ⟨hx, hb, hml, hown, hts⟩ (kX0_init l G (List.mem_append_right _ List.mem_cons_self) (va_up_self _ _ _) n hn hn2 H.size) (cwI 1 hts gX6_newReel_X0_init rfl rfl rfl (hts (.initialized RX0) (by decide +kernel)) (hts (.methodLink RX6 156 yX0_init) (by decide +kernel)) (hts (.instanceMethod yX0_init) (by decide +kernel)) rfl (by decide +kernel) ⟨(Nat.le_of_ble_eq_true rfl), (Nat.le_of_ble_eq_true rfl)⟩) (zPS w hK) rfl rfl hl.1 rfl (lv_room (Nat.le_of_ble_eq_true rfl)) dX6_newReel_51 ⟨(Nat.le_of_ble_eq_true rfl), (Nat.le_of_ble_eq_true rfl)⟩) (fun u H locs hq w => ?_)
        obtain ⟨b, hb0, rfl⟩ := hq
        have hbL : b ∉ L := fun z => hb0 (List.mem_append_left _ z)
        have hba : b ≠ a := fun z => hb0 (z ▸ List.mem_append_right _ List.mem_cons_self)
        rw [zup3] at w
        exact zRq hx hb hr hlk w rfl dX6_newReel_54 (Nat.le_of_ble_eq_true rfl) (Nat.le_of_ble_eq_true rfl) ⟨a, b, rfl, ha, hbL, hba, by rw [(zS_is (k := 2) (by decide) t_3)]⟩
      · refine lv_tableOut (tgt := 55) hx hb dX6_newReel_1 (by have q0 := lv_neT (k := 0) (a := 0) t_1 rfl; have q1 := lv_neT (k := 1) (a := 1) t_2 rfl; have q2 := lv_neT (k := 2) (a := 2) t_3 rfl; omega) (by decide) ?_
        refine px_new (ci := 1) (fs := [.null]) (C := RX1) (T := TX1) (N := 1) hx hb hts hown hK w (by decide +kernel) tyX1 tyX1_ok (hts (.classLink RX6 157 RX1) (by decide +kernel)) (hts (.instantiable RX1 1) (by decide +kernel)) (hts (.initialized RX1) (by decide +kernel)) rfl (fun j hj => by rcases (show j = 0 by omega) with rfl <;> rfl) (Nat.le_of_ble_eq_true rfl) (Nat.le_of_ble_eq_true rfl) dX6_newReel_55 (fun a H ha w => ?_)
        refine W.widen (k := 1) (n := 1) (Nat.le_of_ble_eq_true rfl) (Nat.le_of_ble_eq_true rfl) ?_
        refine lv_dup hx hb dX6_newReel_58 rfl ?_
        refine lv_iload_n hx hb dX6_newReel_59 rfl (lv_at hl 1 rfl) ?_
        refine zCv w (va_runI (As := [.int n]) (rest := [.ref a]) ⟨hx, hb, hml, hown, hts⟩ (kX1_init l G (List.mem_append_right _ List.mem_cons_self) (va_up_self _ _ _) n hn hn2 H.size) (cwI 1 hts gX6_newReel_X1_init rfl rfl rfl (hts (.initialized RX1) (by decide +kernel)) (hts (.methodLink RX6 159 yX1_init) (by decide +kernel)) (hts (.instanceMethod yX1_init) (by decide +kernel)) rfl (by decide +kernel) ⟨(Nat.le_of_ble_eq_true rfl), (Nat.le_of_ble_eq_true rfl)⟩) (zPS w hK) rfl rfl hl.1 rfl (lv_room (Nat.le_of_ble_eq_true rfl)) dX6_newReel_60 ⟨(Nat.le_of_ble_eq_true rfl), (Nat.le_of_ble_eq_true rfl)⟩) (fun u H locs hq w => ?_)
        obtain ⟨b, hb0, rfl⟩ := hq
        have hbL : b ∉ L := fun z => hb0 (List.mem_append_left _ z)
        have hba : b ≠ a := fun z => hb0 (z ▸ List.mem_append_right _ List.mem_cons_self)
        rw [zup3] at w
        exact zRq hx hb hr hlk w rfl dX6_newReel_63 (Nat.le_of_ble_eq_true rfl) (Nat.le_of_ble_eq_true rfl) ⟨a, b, rfl, ha, hbL, hba, by rw [(zS_is3 ht t_1 t_2 t_3)]⟩
set_option maxHeartbeats 4000000 in
set_option maxRecDepth 100000 in
theorem kX6_mount (l : Launch) (G : zG) {L : List Nat} {f : Nat → va_E} {o ac aw ar : Nat} {ch : Option Nat} {car wa : Nat → Option Nat} {ta : Nat → Int32} (h : zBn G L f o ac aw ar ch car wa ta) (hct : zCT G L f car) (hwt : zWT G L f wa) (d t n : Int32) (sz : Nat) : zMl l yX6_mount wsX6_mount { frames := 4, cells := 2, slots := 41, locals := 74 } G [.ref o, .int d, .int t, .int n] (va_pl L f) sz (fun r u => if zFour d ∧ zFour t then (if n ≤ 40 then (if 0 ≤ n then (∃ a b, a ∉ L ∧ b ∉ L ∧ b ≠ a ∧ u = zCarW G (zNL L a b) (zNf G f (zS t) n.toNatClampNeg a b) ac (va_up car (zix d t) (some a)) ∧ r = n.toInt64) else zRefP G L f ar ta zNEGATIVE r u) else zRefP G L f ar ta zGREAT r u) else zRefP G L f ar ta zNONE r u) 2 41 := by
  refine zIn (Qc := fun A => va_Ql _ (zB G A) A) (cc := cX6_mount) (maxL := 4) (ret := (some .long)) (by decide) rfl (Nat.le_of_ble_eq_true rfl) ?_
  intro p e s m below meth c A ls hx hb hr hlk hml hts hown hnm hK w hl
  have hown : s.vm.findClass RX6 = some m.cls := hown
  have hl : lv_has ls 4 [(0, .ref o), (1, .int d), (2, .int t), (3, .int n)] := hl
  obtain ⟨⟨mo, mc, mw, mr⟩, fo, fc, fw, fr⟩ := id h
  refine lv_iload_n hx hb dX6_mount_0 rfl (lv_at hl 1 rfl) ?_
  refine zCi w (va_runS (As := [.int d]) (rest := []) ⟨hx, hb, hml, hown, hts⟩ (kX6_isDeck l G _ d s.heap.size) (va_cwS 1 hts gX6_mount_X6_isDeck rfl rfl rfl (by decide +kernel) ⟨(Nat.le_of_ble_eq_true rfl), (Nat.le_of_ble_eq_true rfl)⟩) (zPS w hK) rfl rfl hl.1 rfl (lv_room (Nat.le_of_ble_eq_true rfl)) dX6_mount_1 ⟨(Nat.le_of_ble_eq_true rfl), (Nat.le_of_ble_eq_true rfl)⟩) (fun r_1 u H locs hq w => ?_)
  obtain ⟨rfl, e_r_1⟩ := hq
  refine lv_if_eq (tgt := 14) hx hb dX6_mount_4 (by decide) (fun c_2 => ?_) (fun c_2 => ?_)
  · have p_d := z00 inferInstance e_r_1 c_2
    refine lv_aload_n hx hb dX6_mount_14 rfl (lv_at hl 0 rfl) ?_
    refine lv_ldc2 hx hb hown (hts (.constantLong RX6 36 (1099511627776)) (by decide +kernel)) dX6_mount_15 ?_
    refine zCl w (va_runV (As := [.long 1099511627776]) (rest := []) ⟨hx, hb, hml, hown, hts⟩ (kX6_refuse l G h zNONE zW1 H.size) (cwV 1 hts gX6_mount_X6_refuse rfl rfl rfl (by decide +kernel) ⟨(Nat.le_of_ble_eq_true rfl), (Nat.le_of_ble_eq_true rfl)⟩) (zPV w hK (px_recv (r := (RX6, TX6, 4)) hK w mo fo rfl)) rfl rfl hl.1 rfl (lv_room (Nat.le_of_ble_eq_true rfl)) dX6_mount_18 ⟨(Nat.le_of_ble_eq_true rfl), (Nat.le_of_ble_eq_true rfl)⟩) (fun r_3 u H locs hq w => ?_)
    obtain ⟨rfl, e_r⟩ := hq
    subst e_r
    exact zRl hx hb hr hlk w dX6_mount_21 (Nat.le_of_ble_eq_true rfl) (Nat.le_of_ble_eq_true rfl) (by show (if _ then _ else _); rw [if_neg (by intro q; simp_all)]; exact ⟨rfl, rfl⟩)
  · have p_d := z01 inferInstance e_r_1 c_2
    refine lv_iload_n hx hb dX6_mount_7 rfl (lv_at hl 2 rfl) ?_
    refine zCi w (va_runS (As := [.int t]) (rest := []) ⟨hx, hb, hml, hown, hts⟩ (kX6_isSort l G _ t H.size) (va_cwS 1 hts gX6_mount_X6_isSort rfl rfl rfl (by decide +kernel) ⟨(Nat.le_of_ble_eq_true rfl), (Nat.le_of_ble_eq_true rfl)⟩) (zPS w hK) rfl rfl hl.1 rfl (lv_room (Nat.le_of_ble_eq_true rfl)) dX6_mount_8 ⟨(Nat.le_of_ble_eq_true rfl), (Nat.le_of_ble_eq_true rfl)⟩) (fun r_4 u H locs hq w => ?_)
    obtain ⟨rfl, e_r_4⟩ := hq
    refine lv_if_ne (tgt := 22) hx hb dX6_mount_11 (by decide) (fun c_5 => ?_) (fun c_5 => ?_)
    · have p_t := z01 inferInstance e_r_4 c_5
      refine lv_iload_n hx hb dX6_mount_22 rfl (lv_at hl 3 rfl) ?_
      refine lv_bipush (v := 40) hx hb dX6_mount_23 (by decide) ?_
      refine lv_icmp_le (tgt := 36) hx hb dX6_mount_25 (by decide) (fun c_6 => ?_) (fun c_6 => ?_)
      · have p_g := c_6
        refine lv_iload_n hx hb dX6_mount_36 rfl (lv_at hl 3 rfl) ?_
        refine lv_if_ge (tgt := 48) hx hb dX6_mount_37 (by decide) (fun c_7 => ?_) (fun c_7 => ?_)
        · have p_n := c_7
          have hn0 : ¬ n < 0 := fun z => by rw [Int32.lt_iff_toInt_lt] at z; rw [Int32.le_iff_toInt_le] at p_n; omega
          have hn2 : n.toNatClampNeg ≤ 40 := zle40 p_n p_g
          refine lv_aload_n hx hb dX6_mount_48 rfl (lv_at hl 0 rfl) ?_
          refine lv_iload_n hx hb dX6_mount_49 rfl (lv_at hl 1 rfl) ?_
          refine lv_iload_n hx hb dX6_mount_50 rfl (lv_at hl 2 rfl) ?_
          refine lv_iload_n hx hb dX6_mount_51 rfl (lv_at hl 2 rfl) ?_
          refine lv_iload_n hx hb dX6_mount_52 rfl (lv_at hl 3 rfl) ?_
          refine zCq w (va_runS (As := [.int t, .int n]) (rest := [.int t, .int d, .ref o]) ⟨hx, hb, hml, hown, hts⟩ (kX6_newReel l G t p_t n hn0 hn2 H.size) (va_cwS 2 hts gX6_mount_X6_newReel rfl rfl rfl (by decide +kernel) ⟨(Nat.le_of_ble_eq_true rfl), (Nat.le_of_ble_eq_true rfl)⟩) (zPS w hK) rfl rfl hl.1 rfl (lv_room (Nat.le_of_ble_eq_true rfl)) dX6_mount_53 ⟨(Nat.le_of_ble_eq_true rfl), (Nat.le_of_ble_eq_true rfl)⟩) (fun r_8 u H locs hq w => ?_)
          obtain ⟨a, b, e1, ha, hb0, hba, rfl⟩ := hq
          subst e1
          have h2 := zBn_ext (zNew_ext (G := G) (f := f) (s := zS t) (n := n.toNatClampNeg) ha hb0) h
          have hR := zRA_of (zNew_reel (G := G) (L := L) (f := f) (s := zS t) hn2 hba)
          obtain ⟨⟨mo2, mc2, mw2, mr2⟩, fo2, fc2, fw2, fr2⟩ := id h2
          refine zCv w (va_runV (As := [.int d, .int t, va_rf (some a)]) (rest := []) ⟨hx, hb, hml, hown, hts⟩ (kX6_carry l G h2 d t (some a) p_d p_t (fun v z => by cases z; exact ⟨_, hR⟩) H.size) (cwV 3 hts gX6_mount_X6_carry rfl rfl rfl (by decide +kernel) ⟨(Nat.le_of_ble_eq_true rfl), (Nat.le_of_ble_eq_true rfl)⟩) (zPV w hK (px_recv (r := (RX6, TX6, 4)) hK w mo2 fo2 rfl)) rfl rfl hl.1 rfl (lv_room (Nat.le_of_ble_eq_true rfl)) dX6_mount_56 ⟨(Nat.le_of_ble_eq_true rfl), (Nat.le_of_ble_eq_true rfl)⟩) (fun u H locs hq w => ?_)
          subst hq
          refine lv_iload_n hx hb dX6_mount_59 rfl (lv_at hl 3 rfl) ?_
          refine lv_i2l hx hb dX6_mount_60 rfl ?_
          exact zRl hx hb hr hlk w dX6_mount_61 (Nat.le_of_ble_eq_true rfl) (Nat.le_of_ble_eq_true rfl) (by show (if _ then _ else _); rw [if_pos ⟨p_d, p_t⟩]; (first | rw [if_pos p_g] | rw [if_neg p_g]); (first | rw [if_pos p_n] | rw [if_neg p_n]); (first | exact ⟨rfl, rfl⟩ | exact ⟨a, b, ha, hb0, hba, rfl, rfl⟩))
        · have p_n := c_7
          refine lv_aload_n hx hb dX6_mount_40 rfl (lv_at hl 0 rfl) ?_
          refine lv_ldc2 hx hb hown (hts (.constantLong RX6 44 (4398046511104)) (by decide +kernel)) dX6_mount_41 ?_
          refine zCl w (va_runV (As := [.long 4398046511104]) (rest := []) ⟨hx, hb, hml, hown, hts⟩ (kX6_refuse l G h zNEGATIVE zW4 H.size) (cwV 1 hts gX6_mount_X6_refuse rfl rfl rfl (by decide +kernel) ⟨(Nat.le_of_ble_eq_true rfl), (Nat.le_of_ble_eq_true rfl)⟩) (zPV w hK (px_recv (r := (RX6, TX6, 4)) hK w mo fo rfl)) rfl rfl hl.1 rfl (lv_room (Nat.le_of_ble_eq_true rfl)) dX6_mount_44 ⟨(Nat.le_of_ble_eq_true rfl), (Nat.le_of_ble_eq_true rfl)⟩) (fun r_9 u H locs hq w => ?_)
          obtain ⟨rfl, e_r⟩ := hq
          subst e_r
          exact zRl hx hb hr hlk w dX6_mount_47 (Nat.le_of_ble_eq_true rfl) (Nat.le_of_ble_eq_true rfl) (by show (if _ then _ else _); rw [if_pos ⟨p_d, p_t⟩]; (first | rw [if_pos p_g] | rw [if_neg p_g]); (first | rw [if_pos p_n] | rw [if_neg p_n]); (first | exact ⟨rfl, rfl⟩ | exact ⟨a, b, ha, hb0, hba, rfl, rfl⟩))
      · have p_g := c_6
        refine lv_aload_n hx hb dX6_mount_28 rfl (lv_at hl 0 rfl) ?_
        refine lv_ldc2 hx hb hown (hts (.constantLong RX6 42 (5497558138880)) (by decide +kernel)) dX6_mount_29 ?_
        refine zCl w (va_runV (As := [.long 5497558138880]) (rest := []) ⟨hx, hb, hml, hown, hts⟩ (kX6_refuse l G h zGREAT zW5 H.size) (cwV 1 hts gX6_mount_X6_refuse rfl rfl rfl (by decide +kernel) ⟨(Nat.le_of_ble_eq_true rfl), (Nat.le_of_ble_eq_true rfl)⟩) (zPV w hK (px_recv (r := (RX6, TX6, 4)) hK w mo fo rfl)) rfl rfl hl.1 rfl (lv_room (Nat.le_of_ble_eq_true rfl)) dX6_mount_32 ⟨(Nat.le_of_ble_eq_true rfl), (Nat.le_of_ble_eq_true rfl)⟩) (fun r_10 u H locs hq w => ?_)
        obtain ⟨rfl, e_r⟩ := hq
        subst e_r
        exact zRl hx hb hr hlk w dX6_mount_35 (Nat.le_of_ble_eq_true rfl) (Nat.le_of_ble_eq_true rfl) (by show (if _ then _ else _); rw [if_pos ⟨p_d, p_t⟩]; (first | rw [if_pos p_g] | rw [if_neg p_g]); (first | exact ⟨rfl, rfl⟩ | exact ⟨a, b, ha, hb0, hba, rfl, rfl⟩))
    · have p_t := z00 inferInstance e_r_4 c_5
      refine lv_aload_n hx hb dX6_mount_14 rfl (lv_at hl 0 rfl) ?_
      refine lv_ldc2 hx hb hown (hts (.constantLong RX6 36 (1099511627776)) (by decide +kernel)) dX6_mount_15 ?_
      refine zCl w (va_runV (As := [.long 1099511627776]) (rest := []) ⟨hx, hb, hml, hown, hts⟩ (kX6_refuse l G h zNONE zW1 H.size) (cwV 1 hts gX6_mount_X6_refuse rfl rfl rfl (by decide +kernel) ⟨(Nat.le_of_ble_eq_true rfl), (Nat.le_of_ble_eq_true rfl)⟩) (zPV w hK (px_recv (r := (RX6, TX6, 4)) hK w mo fo rfl)) rfl rfl hl.1 rfl (lv_room (Nat.le_of_ble_eq_true rfl)) dX6_mount_18 ⟨(Nat.le_of_ble_eq_true rfl), (Nat.le_of_ble_eq_true rfl)⟩) (fun r_11 u H locs hq w => ?_)
      obtain ⟨rfl, e_r⟩ := hq
      subst e_r
      exact zRl hx hb hr hlk w dX6_mount_21 (Nat.le_of_ble_eq_true rfl) (Nat.le_of_ble_eq_true rfl) (by show (if _ then _ else _); rw [if_neg (by intro q; simp_all)]; exact ⟨rfl, rfl⟩)
end
section
section ZNEWG
variable {G : zG} {L : List Nat} {f : Nat → va_E} {c0 a b : Nat} {X : ClassId × vp_A}
theorem zAdd_ext (ha : a ∉ L) (hb : b ∉ L) : zExt L f (zNL L a b) (va_up (va_up f b (.inl X)) a (.inr (c0, [.ref b]))) := fun x hx => by
  refine ⟨List.mem_append_left _ (List.mem_append_left _ hx), ?_⟩
  have n1 : x ≠ a := fun q => ha (q ▸ hx)
  have n2 : x ≠ b := fun q => hb (q ▸ hx)
  rw [va_up_ne _ _ n1, va_up_ne _ _ n2]
theorem zAdd_ow (ha : a ∉ L) (hb : b ∉ L) (hab : b ≠ a) (h : zOW L f) : zOW (zNL L a b) (va_up (va_up f b (.inl X)) a (.inr (c0, [.ref b]))) := by
  generalize hF : va_up (va_up f b (.inl X)) a (.inr (c0, [.ref b])) = F
  have mem : ∀ x, x ∈ zNL L a b → x ∈ L ∨ x = a ∨ x = b := fun x hx => by
    rcases List.mem_append.mp hx with h | h
    · rcases List.mem_append.mp h with h | h
      · exact Or.inl h
      · exact Or.inr (Or.inl (List.mem_singleton.mp h))
    · exact Or.inr (Or.inr (List.mem_singleton.mp h))
  have eo : ∀ x, x ∈ L → F x = f x := fun x hx => by rw [← hF]; exact ((zAdd_ext ha hb) x hx).2
  have ea : F a = .inr (c0, [.ref b]) := by rw [← hF]; exact va_up_self _ _ _
  have eb : F b = .inl X := by rw [← hF, va_up_ne _ _ hab, va_up_self]
  have nb : ∀ c b2, F b ≠ .inr (c, [.ref b2]) := fun c b2 q => by rw [eb] at q; cases q
  have ab : ∀ c b2, F a = .inr (c, [.ref b2]) → b2 = b := fun c b2 q => by rw [ea] at q; cases q; rfl
  refine ⟨fun x c b2 hx q => ?_, fun x y c e b2 hx hy q1 q2 => ?_⟩
  · rcases mem x hx with h1 | h1 | h1
    · rw [eo x h1] at q
      exact List.mem_append_left _ (List.mem_append_left _ (h.1 x c b2 h1 q))
    · subst h1
      rw [ab c b2 q]
      exact List.mem_append_right _ List.mem_cons_self
    · subst h1
      exact absurd q (nb c b2)
  · rcases mem x hx with h1 | h1 | h1 <;> rcases mem y hy with h2 | h2 | h2
    · rw [eo x h1] at q1
      rw [eo y h2] at q2
      exact h.2 x y c e b2 h1 h2 q1 q2
    · subst h2
      rw [eo x h1] at q1
      have := ab e b2 q2
      subst this
      exact absurd (h.1 x c b2 h1 q1) hb
    · subst h2
      exact absurd q2 (nb e b2)
    · subst h1
      rw [eo y h2] at q2
      have := ab c b2 q1
      subst this
      exact absurd (h.1 y e b2 h2 q2) hb
    · rw [h1, h2]
    · subst h2
      exact absurd q2 (nb e b2)
    · subst h1
      exact absurd q1 (nb c b2)
    · subst h1
      exact absurd q1 (nb c b2)
    · subst h1
      exact absurd q1 (nb c b2)
theorem zLI_0 {s rows cols : Nat} (ha : a ∉ L) (hb : b ∉ L) (hab : b ≠ a) : zLI G L f s rows cols 0 a b (zNL L a b) (va_up (va_up f b (.inl (G.2 5, rows, zQ (fun _ => none)))) a (.inr (3, [.ref b]))) (fun _ => none) :=
  ⟨zAdd_ext ha hb, ⟨ha, hb, List.mem_append_left _ (List.mem_append_right _ List.mem_cons_self), List.mem_append_right _ List.mem_cons_self⟩, va_up_self _ _ _, by rw [va_up_ne _ _ hab, va_up_self], fun j hj => absurd hj (Nat.not_lt_zero j), fun j k hj => absurd hj (Nat.not_lt_zero j), zAdd_ow ha hb hab⟩
end ZNEWG
theorem zrow_le {rows : Int32} {i : Nat} (hp : ¬ rows < 0) (hi : i ≤ rows.toNatClampNeg) (hs : rows.toNatClampNeg ≤ 12) (h : rows ≤ nI i) : i = rows.toNatClampNeg := by
  obtain ⟨j, hj, e⟩ := nI_of hp
  subst e
  rw [nI_clamp hj] at hi hs ⊢
  have := (nI_leI hj (by omega)).mp h
  omega
theorem zrow_lt {rows : Int32} {i : Nat} (hp : ¬ rows < 0) (hi : i ≤ rows.toNatClampNeg) (hs : rows.toNatClampNeg ≤ 12) (h : ¬ rows ≤ nI i) : i < rows.toNatClampNeg := by
  obtain ⟨j, hj, e⟩ := nI_of hp
  subst e
  rw [nI_clamp hj] at hi hs ⊢
  have : ¬ j ≤ i := fun q => h ((nI_leI hj (by omega)).mpr q)
  omega
end
section
theorem zGF_0 {r c : Int32} (h : zGF r c = 0) : ¬ r < 0 ∧ r ≤ 12 ∧ ¬ c < 0 ∧ c ≤ 12 := by
  unfold zGF at h
  by_cases h1 : 12 < r ∨ ¬ c ≤ 12
  · rw [if_pos h1] at h; exact absurd h (by decide)
  · rw [if_neg h1] at h
    by_cases h2 : r < 0 ∨ ¬ 0 ≤ c
    · rw [if_pos h2] at h; exact absurd h (by decide)
    · refine ⟨fun q => h2 (Or.inl q), ?_, fun q => h2 (Or.inr ?_), ?_⟩
      · rw [Int32.le_iff_toInt_le]
        have : ¬ 12 < r := fun q => h1 (Or.inl q)
        rw [Int32.lt_iff_toInt_lt] at this
        omega
      · rw [Int32.le_iff_toInt_le]
        rw [Int32.lt_iff_toInt_lt] at q
        omega
      · by_cases h3 : c ≤ 12
        · exact h3
        · exact absurd (Or.inr h3) h1
set_option maxHeartbeats 4000000 in
set_option maxRecDepth 100000 in
theorem lp_newWall {p : Program} {l : Launch} {e : Env} {s : State} {m : MethodId} {below : List Frame} {meth : Method} {c : Code} {A : Nat → Prop} {G : zG} {L : List Nat} {f : Nat → va_E} {t rows cols : Int32} {a b : Nat} (hx : p.tables.exec = Jvm.exec) (hb : c.code = cX6_newWall) (hr : meth.sig.returnType = some (.object "ReelBarn$Wall")) (hlk : meth.locks = false) (hml : c.maxLocals = 5) (hts : ∀ x ∈ wsX6_newWall, x.before #[Value.int t, Value.int rows, Value.int cols] s = true) (hown : s.vm.findClass RX6 = some m.cls) (hK : zK G s) (ht : zFour t) (hr1 : ¬ rows < 0) (hr2 : rows.toNatClampNeg ≤ 12) (hc1 : ¬ cols < 0) (hc2 : cols.toNatClampNeg ≤ 12) :
    ∀ (n i : Nat), i ≤ rows.toNatClampNeg → rows.toNatClampNeg < i + n → ∀ (L2 : List Nat) (f2 : Nat → va_E) (g : Nat → Option Nat) (H : Heap) (locs : List Loc) (ls : Array Slot), zLI G L f (zS t) rows.toNatClampNeg cols.toNatClampNeg i a b L2 f2 g → zW G A s H locs (va_pl L2 f2) → lv_has ls 5 [(0, .int t), (1, .int rows), (2, .int cols), (3, .ref a), (4, .int (nI i))] → W p l e { frames := 4, cells := 26, slots := 505, locals := 74 } s m #[Value.int t, Value.int rows, Value.int cols] below meth c H locs (2 + 2 * i) (13 + 41 * i) (MQ below (va_Qq (fun (r : Option Nat) (u : va_W) => ∃ a L2 f2, r = some a ∧ u = va_pl L2 f2 ∧ zNW G L f (zS t) rows.toNatClampNeg cols.toNatClampNeg a L2 f2) (zB G A) A) #[Value.int t, Value.int rows, Value.int cols] s 26 505 A) (F0 m 12 ls []) := by
  intro n
  induction n with
  | zero => intro i h1 h2; exact absurd h2 (by omega)
  | succ n ih =>
    intro i hi hin L2 f2 g H locs ls hI w hl
    refine lv_iload hx hb dX6_newWall_12 (lv_at hl 4 rfl) ?_
    refine lv_iload_n hx hb dX6_newWall_14 rfl (lv_at hl 1 rfl) ?_
    refine lv_icmp_ge (tgt := 36) hx hb dX6_newWall_15 (by decide) (fun c_1 => ?_) (fun c_1 => ?_)
    · refine lv_aload_n hx hb dX6_newWall_36 rfl (lv_at hl 3 rfl) ?_
      exact zRq (r := some a) hx hb hr hlk w rfl dX6_newWall_37 (by omega) (by omega) ⟨a, L2, f2, rfl, rfl, zLI_end hr2 (by rw [zrow_le hr1 hi hr2 c_1] at hI; exact hI)⟩
    · have hlt := zrow_lt hr1 hi hr2 c_1
      obtain ⟨hI1, ⟨hI2, hI3, hI4, hI5⟩, hI6, hI7, -⟩ := id hI
      refine lv_aload_n hx hb dX6_newWall_18 rfl (lv_at hl 3 rfl) ?_
      refine px_get (ci := 3) (C := RX4) (T := TX4) (N := 1) hx hb hts hown hK w hI4 (by decide +kernel) hI6 rfl 0 (by decide) (hts (.fieldLink RX6 120 "ReelBarn$Wall" "rows" "[LReelBarn$Reel;") (by decide +kernel)) (fun _ h9 => h9) rfl dX6_newWall_19 ?_
      refine lv_iload hx hb dX6_newWall_22 (lv_at hl 4 rfl) ?_
      refine lv_iload_n hx hb dX6_newWall_24 rfl (lv_at hl 0 rfl) ?_
      refine lv_iload_n hx hb dX6_newWall_25 rfl (lv_at hl 2 rfl) ?_
      refine zCq w (va_runS (As := [.int t, .int cols]) (rest := [.int (nI i), .ref b]) ⟨hx, hb, hml, hown, hts⟩ (kX6_newReel l G t ht cols hc1 (by omega) H.size) (va_cwS 2 hts gX6_newWall_X6_newReel rfl rfl rfl (by decide +kernel) ⟨(Nat.le_of_ble_eq_true rfl), (Nat.le_of_ble_eq_true rfl)⟩) (zPS w hK) rfl rfl hl.1 rfl (lv_room (Nat.le_of_ble_eq_true rfl)) dX6_newWall_26 ⟨by show 2 + 2 * i + 2 ≤ 26; omega, by show 13 + 41 * i + 41 ≤ 505; omega⟩) (fun r_1 u H locs hq w => ?_)
      obtain ⟨x, y, e1, hxL, hyL, hyx, rfl⟩ := hq
      subst e1
      have hstep := zLI_step (by omega) hlt hxL hyL hyx hI
      have hext := zNew_ext (G := G) (f := f2) (s := zS t) (n := cols.toNatClampNeg) hxL hyL
      refine px_astRQ (q := some x) hx hb hK w (hext b hI5).1 ((hext b hI5).2.trans hI7) (fun v z => by cases z; exact ⟨_, zRA_of (zNew_reel (by omega) hyx)⟩) (vp_in_nI hlt (by omega)) dX6_newWall_29 (fun H locs w => ?_)
      rw [nI_clamp (by omega)] at w
      refine lv_iinc (v := ((nI i) + 1)) (lv' := [(4, .int ((nI i) + 1)), (0, .int t), (1, .int rows), (2, .int cols), (3, .ref a)]) hx hb dX6_newWall_30 hl (k := 4) rfl rfl (by decide) rfl (fun ls hl => ?_)
      refine lv_goto (tgt := 12) hx hb dX6_newWall_33 (by decide) ?_
      rw [nI_1] at hl
      refine W.widen (k := 2 + 2 * (i + 1)) (n := 13 + 41 * (i + 1)) (by omega) (by omega) ?_
      exact ih (i + 1) hlt (by omega) _ _ _ _ _ _ hstep w (lv_sub hl [1, 2, 3, 4, 0] rfl)
set_option maxHeartbeats 4000000 in
set_option maxRecDepth 100000 in
theorem kX6_newWall (l : Launch) (G : zG) {L : List Nat} {f : Nat → va_E} (t rows cols : Int32) (ht : zFour t) (hr1 : ¬ rows < 0) (hr2 : rows.toNatClampNeg ≤ 12) (hc1 : ¬ cols < 0) (hc2 : cols.toNatClampNeg ≤ 12) (sz : Nat) : zMq l yX6_newWall wsX6_newWall { frames := 4, cells := 26, slots := 505, locals := 74 } G [.int t, .int rows, .int cols] (va_pl L f) sz (fun (r : Option Nat) (u : va_W) => ∃ a L2 f2, r = some a ∧ u = va_pl L2 f2 ∧ zNW G L f (zS t) rows.toNatClampNeg cols.toNatClampNeg a L2 f2) 26 505 := by
  refine zIn (Qc := fun A => va_Qq _ (zB G A) A) (cc := cX6_newWall) (maxL := 5) (ret := (some (.object "ReelBarn$Wall"))) (by decide) rfl (Nat.le_of_ble_eq_true rfl) ?_
  intro p e s m below meth c A ls hx hb hr hlk hml hts hown hnm hK w hl
  have hown : s.vm.findClass RX6 = some m.cls := hown
  have hl : lv_has ls 5 [(0, .int t), (1, .int rows), (2, .int cols)] := hl
  refine px_new (ci := 3) (fs := [.null]) (C := RX4) (T := TX4) (N := 1) hx hb hts hown hK w (by decide +kernel) tyX4 tyX4_ok (hts (.classLink RX6 15 RX4) (by decide +kernel)) (hts (.instantiable RX4 1) (by decide +kernel)) (hts (.initialized RX4) (by decide +kernel)) rfl (fun j hj => by rcases (show j = 0 by omega) with rfl <;> rfl) (Nat.le_of_ble_eq_true rfl) (Nat.le_of_ble_eq_true rfl) dX6_newWall_0 (fun a H ha w => ?_)
  refine W.widen (k := 1) (n := 1) (Nat.le_of_ble_eq_true rfl) (Nat.le_of_ble_eq_true rfl) ?_
  refine lv_dup hx hb dX6_newWall_3 rfl ?_
  refine lv_iload_n hx hb dX6_newWall_4 rfl (lv_at hl 1 rfl) ?_
  refine zCv w (va_runI (As := [.int rows]) (rest := [.ref a]) ⟨hx, hb, hml, hown, hts⟩ (kX4_init l G (List.mem_append_right _ List.mem_cons_self) (va_up_self _ _ _) rows hr1 hr2 H.size) (cwI 1 hts gX6_newWall_X4_init rfl rfl rfl (hts (.initialized RX4) (by decide +kernel)) (hts (.methodLink RX6 160 yX4_init) (by decide +kernel)) (hts (.instanceMethod yX4_init) (by decide +kernel)) rfl (by decide +kernel) ⟨(Nat.le_of_ble_eq_true rfl), (Nat.le_of_ble_eq_true rfl)⟩) (zPS w hK) rfl rfl hl.1 rfl (lv_room (Nat.le_of_ble_eq_true rfl)) dX6_newWall_5 ⟨(Nat.le_of_ble_eq_true rfl), (Nat.le_of_ble_eq_true rfl)⟩) (fun u H locs hq w => ?_)
  obtain ⟨b, hb0, rfl⟩ := hq
  have hbL : b ∉ L := fun z => hb0 (List.mem_append_left _ z)
  have hba : b ≠ a := fun z => hb0 (z ▸ List.mem_append_right _ List.mem_cons_self)
  rw [zup3] at w
  refine lv_astore_n (lv' := [(3, .ref a), (0, .int t), (1, .int rows), (2, .int cols)]) hx hb dX6_newWall_8 rfl hl (by decide) rfl (fun ls hl => ?_)
  refine lv_iconst (v := 0) hx hb dX6_newWall_9 (by decide) ?_
  refine lv_istore (lv' := [(4, .int 0), (3, .ref a), (0, .int t), (1, .int rows), (2, .int cols)]) hx hb dX6_newWall_10 hl (by decide) rfl (fun ls hl => ?_)
  refine W.widen (k := 2 + 2 * 0) (n := 13 + 41 * 0) (by decide) (by decide) ?_
  exact lp_newWall hx hb hr hlk hml hts hown hK ht hr1 hr2 hc1 hc2 (rows.toNatClampNeg + 1) 0 (Nat.zero_le _) (by omega) _ _ _ _ _ _ (zLI_0 ha hbL hba) w (lv_sub hl [2, 3, 4, 1, 0] rfl)
set_option maxHeartbeats 4000000 in
set_option maxRecDepth 100000 in
theorem kX6_hang (l : Launch) (G : zG) {L : List Nat} {f : Nat → va_E} {o ac aw ar : Nat} {ch : Option Nat} {car wa : Nat → Option Nat} {ta : Nat → Int32} (h : zBn G L f o ac aw ar ch car wa ta) (hct : zCT G L f car) (hwt : zWT G L f wa) (t rows cols : Int32) (sz : Nat) : zMl l yX6_hang wsX6_hang { frames := 5, cells := 26, slots := 505, locals := 98 } G [.ref o, .int t, .int rows, .int cols] (va_pl L f) sz (fun r u => if zFour t then (if zGF rows cols = 0 then (∃ a L2 f2, zNW G L f (zS t) rows.toNatClampNeg cols.toNatClampNeg a L2 f2 ∧ u = va_pl L2 (va_up f2 aw (.inl (G.2 6, 4, zQ (va_up wa (zS t) (some a))))) ∧ r = rows.toInt64) else zRefP G L f ar ta (zGF rows cols) r u) else zRefP G L f ar ta zNONE r u) 26 505 := by
  refine zIn (Qc := fun A => va_Ql _ (zB G A) A) (cc := cX6_hang) (maxL := 6) (ret := (some .long)) (by decide) rfl (Nat.le_of_ble_eq_true rfl) ?_
  intro p e s m below meth c A ls hx hb hr hlk hml hts hown hnm hK w hl
  have hown : s.vm.findClass RX6 = some m.cls := hown
  have hl : lv_has ls 6 [(0, .ref o), (1, .int t), (2, .int rows), (3, .int cols)] := hl
  obtain ⟨⟨mo, mc, mw, mr⟩, fo, fc, fw, fr⟩ := id h
  refine lv_iload_n hx hb dX6_hang_0 rfl (lv_at hl 1 rfl) ?_
  refine zCi w (va_runS (As := [.int t]) (rest := []) ⟨hx, hb, hml, hown, hts⟩ (kX6_isSort l G _ t s.heap.size) (va_cwS 1 hts gX6_hang_X6_isSort rfl rfl rfl (by decide +kernel) ⟨(Nat.le_of_ble_eq_true rfl), (Nat.le_of_ble_eq_true rfl)⟩) (zPS w hK) rfl rfl hl.1 rfl (lv_room (Nat.le_of_ble_eq_true rfl)) dX6_hang_1 ⟨(Nat.le_of_ble_eq_true rfl), (Nat.le_of_ble_eq_true rfl)⟩) (fun r_1 u H locs hq w => ?_)
  obtain ⟨rfl, e_r_1⟩ := hq
  refine lv_if_ne (tgt := 15) hx hb dX6_hang_4 (by decide) (fun c_2 => ?_) (fun c_2 => ?_)
  · have p_t := z01 inferInstance e_r_1 c_2
    refine lv_iload_n hx hb dX6_hang_15 rfl (lv_at hl 2 rfl) ?_
    refine lv_iload_n hx hb dX6_hang_16 rfl (lv_at hl 3 rfl) ?_
    refine zCl w (va_runS (As := [.int rows, .int cols]) (rest := []) ⟨hx, hb, hml, hown, hts⟩ (kX6_gridFault l G _ rows cols H.size) (va_cwS 2 hts gX6_hang_X6_gridFault rfl rfl rfl (by decide +kernel) ⟨(Nat.le_of_ble_eq_true rfl), (Nat.le_of_ble_eq_true rfl)⟩) (zPS w hK) rfl rfl hl.1 rfl (lv_room (Nat.le_of_ble_eq_true rfl)) dX6_hang_17 ⟨(Nat.le_of_ble_eq_true rfl), (Nat.le_of_ble_eq_true rfl)⟩) (fun r_3 u H locs hq w => ?_)
    obtain ⟨rfl, e_r⟩ := hq
    subst e_r
    refine lv_lstore (lv' := [(4, .long (zGF rows cols)), (0, .ref o), (1, .int t), (2, .int rows), (3, .int cols)]) hx hb dX6_hang_20 hl (by decide) rfl (fun ls hl => ?_)
    refine lv_lload hx hb dX6_hang_22 (lv_at hl 0 rfl) ?_
    refine lv_lconst (v := 0) hx hb dX6_hang_24 (by decide) ?_
    refine W.lcmp hx hb dX6_hang_25 ?_
    refine lv_if_eq (tgt := 36) hx hb dX6_hang_26 (by decide) (fun c_4 => ?_) (fun c_4 => ?_)
    · have p_f := zcmp0 c_4
      obtain ⟨g1, g2, g3, g4⟩ := zGF_0 p_f
      have hr2 := zle12 g1 g2
      have hc2 := zle12 g3 g4
      refine lv_aload_n hx hb dX6_hang_36 rfl (lv_at hl 1 rfl) ?_
      refine px_get (ci := 5) (C := RX6) (T := TX6) (N := 4) hx hb hts hown hK w mo (by decide +kernel) fo rfl 1 (by decide) (hts (.fieldLink RX6 17 "ReelBarn" "walls" "[LReelBarn$Wall;") (by decide +kernel)) (fun _ h9 => h9) rfl dX6_hang_37 ?_
      refine lv_iload_n hx hb dX6_hang_40 rfl (lv_at hl 2 rfl) ?_
      refine lv_iload_n hx hb dX6_hang_41 rfl (lv_at hl 2 rfl) ?_
      refine lv_iload_n hx hb dX6_hang_42 rfl (lv_at hl 3 rfl) ?_
      refine lv_iload_n hx hb dX6_hang_43 rfl (lv_at hl 4 rfl) ?_
      refine zCq w (va_runS (As := [.int t, .int rows, .int cols]) (rest := [.int t, .ref aw]) ⟨hx, hb, hml, hown, hts⟩ (kX6_newWall l G t rows cols p_t g1 hr2 g3 hc2 H.size) (va_cwS 3 hts gX6_hang_X6_newWall rfl rfl rfl (by decide +kernel) ⟨(Nat.le_of_ble_eq_true rfl), (Nat.le_of_ble_eq_true rfl)⟩) (zPS w hK) rfl rfl hl.1 rfl (lv_room (Nat.le_of_ble_eq_true rfl)) dX6_hang_44 ⟨(Nat.le_of_ble_eq_true rfl), (Nat.le_of_ble_eq_true rfl)⟩) (fun r_5 u H locs hq w => ?_)
      obtain ⟨a, L2, f2, e1, rfl, hN⟩ := hq
      subst e1
      have h2 := zBn_ext hN.1 h
      obtain ⟨⟨mo2, mc2, mw2, mr2⟩, fo2, fc2, fw2, fr2⟩ := id h2
      refine px_astW hx hb hK w mw2 fw2 hN.2.2.1.1 hN.2.2.1.2.2.1 (zfour_in p_t) dX6_hang_47 (fun H locs w => ?_)
      refine lv_iload_n hx hb dX6_hang_48 rfl (lv_at hl 3 rfl) ?_
      refine lv_i2l hx hb dX6_hang_49 rfl ?_
      exact zRl hx hb hr hlk w dX6_hang_50 (Nat.le_of_ble_eq_true rfl) (Nat.le_of_ble_eq_true rfl) (by show (if _ then _ else _); (first | rw [if_pos p_t] | rw [if_neg p_t]); (first | rw [if_pos p_f] | rw [if_neg p_f]); (first | exact ⟨rfl, rfl⟩ | exact ⟨a, L2, f2, hN, rfl, rfl⟩))
    · have p_f := zcmp1 c_4
      refine lv_aload_n hx hb dX6_hang_29 rfl (lv_at hl 1 rfl) ?_
      refine lv_lload hx hb dX6_hang_30 (lv_at hl 0 rfl) ?_
      refine zCl w (va_runV (As := [.long (zGF rows cols)]) (rest := []) ⟨hx, hb, hml, hown, hts⟩ (kX6_refuse l G h (zGF rows cols) (zGF_why p_f) H.size) (cwV 1 hts gX6_hang_X6_refuse rfl rfl rfl (by decide +kernel) ⟨(Nat.le_of_ble_eq_true rfl), (Nat.le_of_ble_eq_true rfl)⟩) (zPV w hK (px_recv (r := (RX6, TX6, 4)) hK w mo fo rfl)) rfl rfl hl.1 rfl (lv_room (Nat.le_of_ble_eq_true rfl)) dX6_hang_32 ⟨(Nat.le_of_ble_eq_true rfl), (Nat.le_of_ble_eq_true rfl)⟩) (fun r_6 u H locs hq w => ?_)
      obtain ⟨rfl, e_r⟩ := hq
      subst e_r
      exact zRl hx hb hr hlk w dX6_hang_35 (Nat.le_of_ble_eq_true rfl) (Nat.le_of_ble_eq_true rfl) (by show (if _ then _ else _); (first | rw [if_pos p_t] | rw [if_neg p_t]); (first | rw [if_pos p_f] | rw [if_neg p_f]); (first | exact ⟨rfl, rfl⟩ | exact ⟨a, L2, f2, hN, rfl, rfl⟩))
  · have p_t := z00 inferInstance e_r_1 c_2
    refine lv_aload_n hx hb dX6_hang_7 rfl (lv_at hl 0 rfl) ?_
    refine lv_ldc2 hx hb hown (hts (.constantLong RX6 36 (1099511627776)) (by decide +kernel)) dX6_hang_8 ?_
    refine zCl w (va_runV (As := [.long 1099511627776]) (rest := []) ⟨hx, hb, hml, hown, hts⟩ (kX6_refuse l G h zNONE zW1 H.size) (cwV 1 hts gX6_hang_X6_refuse rfl rfl rfl (by decide +kernel) ⟨(Nat.le_of_ble_eq_true rfl), (Nat.le_of_ble_eq_true rfl)⟩) (zPV w hK (px_recv (r := (RX6, TX6, 4)) hK w mo fo rfl)) rfl rfl hl.1 rfl (lv_room (Nat.le_of_ble_eq_true rfl)) dX6_hang_11 ⟨(Nat.le_of_ble_eq_true rfl), (Nat.le_of_ble_eq_true rfl)⟩) (fun r_7 u H locs hq w => ?_)
    obtain ⟨rfl, e_r⟩ := hq
    subst e_r
    exact zRl hx hb hr hlk w dX6_hang_14 (Nat.le_of_ble_eq_true rfl) (Nat.le_of_ble_eq_true rfl) (by show (if _ then _ else _); (first | rw [if_pos p_t] | rw [if_neg p_t]); (first | exact ⟨rfl, rfl⟩ | exact ⟨a, L2, f2, hN, rfl, rfl⟩))
end
section
/-- an array class over arrays has been made -/
def va_AOA (ty : FieldType) (U : State) : Prop := (Cond.arrayOver (.array ty)).before #[] U = true
theorem va_AOA.use {ty : FieldType} {A : Array Value} {U : State} (h : va_AOA ty U) : (Cond.arrayOver (.array ty)).before A U = true := h

/-! ===== BEGIN new T[n][m]: the outer array a place, the inner ones among the pooled ===== -/
/-- f, but v at every address of l -/
def vr_up {α : Type} (f : Nat → α) (l : List Nat) (v : α) : Nat → α := fun a => if a ∈ l then v else f a
theorem vr_up_in {α : Type} {f : Nat → α} {l : List Nat} {v : α} {a : Nat} (h : a ∈ l) : vr_up f l v a = v := if_pos h
theorem vr_up_ne {α : Type} {f : Nat → α} {l : List Nat} {v : α} {a : Nat} (h : a ∉ l) : vr_up f l v a = f a := if_neg h
theorem vr_rows {L l : List Nat} {f : Nat → va_E} {e : va_E} (h : ∀ a, a ∈ l → a ∉ L) : va_pl L f ++ l.map (fun a => (a, e)) = va_pl (L ++ l) (vr_up f l e) := by
  unfold va_pl
  rw [List.map_append]
  congr 1
  · apply List.map_congr_left
    intro a ha
    rw [vr_up_ne (fun q => h a q ha)]
  · apply List.map_congr_left
    intro a ha
    rw [vr_up_in ha]
theorem vr_lay {X rows : va_W} {x : Nat × va_E} {pl : va_W} {D : va_G} {cl : List vw_C} {H : Heap} (hP : va_P D cl (((X ++ pl) ++ [x]) ++ rows) H) : va_P D cl ((X ++ [x]) ++ (pl ++ rows)) H := by
  rw [List.append_assoc (X ++ pl)] at hP
  have h := va_P.swap hP
  rw [← List.append_assoc X] at h
  have h2 := va_P.swap h
  rw [List.append_assoc (X ++ [x])] at h2
  exact h2
theorem vr_layD {X rows : va_W} {x : Nat × va_E} {pl : va_W} {A : Nat → Prop} (hD : va_D A (((X ++ pl) ++ [x]) ++ rows)) : va_D A ((X ++ [x]) ++ (pl ++ rows)) := by
  rw [List.append_assoc (X ++ pl)] at hD
  have h := va_D.swap hD
  rw [← List.append_assoc X] at h
  have h2 := va_D.swap h
  rw [List.append_assoc (X ++ [x])] at h2
  exact h2
theorem vr_outer (c : ClassId) (N h0 : Nat) : ∀ i : Nat, Jvm.Free.Multi.outerC c N h0 i = arrV c N (fun j => va_rf (if j < i then some (h0 + 1 + j) else none))
  | 0 => by
    show ({ cls := c, slots := Array.replicate N .null, vm := .none } : Cell) = _
    rw [arrV_new]
    refine congrArg (arrV c N) (funext fun j => ?_)
    simp [va_rf]
  | i + 1 => by
    show (Jvm.Free.Multi.outerC c N h0 i).setSlot i (.ref (h0 + 1 + i)) = _
    rw [vr_outer c N h0 i, arrV_store]
    refine congrArg (arrV c N) (funext fun j => ?_)
    by_cases e : j = i
    · subst e
      simp [updV, va_rf]
    · by_cases h : j < i
      · simp [updV, e, h, Nat.lt_succ_of_lt h]
      · simp [updV, e, h, show ¬ j < i + 1 by omega]
section VGM
variable {p : Program} {l : Launch} {e : Env} {R : Room} {s : State} {m : MethodId} {args : Array Value} {below : List Frame} {meth : Method} {c : Code} {H : Heap} {locs : List Loc} {cells slots : Nat} {Q : State → Prop}
variable {cc : ByteArray} {pc : Nat} {ls : Array Slot} {rest : List Value} {D : va_G} {cl : List vw_C} {A : Nat → Prop} {a : Nat} {tys : List (ClassId × FieldType)} {ws : va_W} {H0 : Heap}
theorem va_mna {X : va_W} {L : List Nat} {f : Nat → va_E} {cc : ByteArray} (hexec : p.tables.exec = Jvm.exec) (hb : c.code = cc) {own : String} {index : Nat} {ty : FieldType} {cy : ClassId} (hown : s.vm.findClass own = some m.cls) (hclink : (Cond.classLink own index ("[" ++ (FieldType.array ty).toString)).before args s = true) (hover : va_AOA ty s) (harr : (Cond.arrayClass ty).before args s = true) (hcy : s.vm.findClass (FieldType.array ty).toString = some cy)
    (hK : va_K D cl tys s) (hP : va_P D cl (X ++ va_pl L f) H) (hD : va_D A (X ++ va_pl L f)) (hS : va_S A H0 H locs) (hA : ∀ q, H0.size ≤ q → A q) {n k : Int32} {N' K' : Nat} {z : vp_A} (hn : ¬ n < 0) (hk : ¬ k < 0) (hN : n.toNatClampNeg = N') (hM : k.toNatClampNeg = K')
    (hb1 : N' * 4 ≤ 536870912) (hb2 : K' * componentBytes ty ≤ 536870912) (hb3 : K' ≤ 536870912) (hdf : fits ty (defaultValue ty) = true) (hdd : (defaultValue ty).isDefault = true) (hcells : cells + (1 + N') ≤ R.cells) (hslots : slots + (N' + N' * K') ≤ R.slots) (hz : ∀ c : ClassId, Jvm.Free.Multi.innerC c K' (defaultValue ty) = vp_cell c z) (hdg : decode cc pc = .ok (.multianewarray index 2, 4))
    (kk : ∀ (q : Nat) (r : Nat → Nat) (cA : ClassId) (H1 : Heap), (∀ i j : Nat, i < N' → j < N' → r i = r j → i = j) → (∀ i : Nat, i < N' → r i ∉ L) → va_K D cl (tys ++ [(cA, .array ty)]) s →
      va_P D cl ((X ++ [(q, .inl (cA, N', .inr (.inr (.inr (.inr (fun i => if i < N' then some (r i) else none))))))]) ++ va_pl (L ++ (List.range N').map r) (vr_up f ((List.range N').map r) (.inl (cy, z)))) H1 → va_D A ((X ++ [(q, .inl (cA, N', .inr (.inr (.inr (.inr (fun i => if i < N' then some (r i) else none))))))]) ++ va_pl (L ++ (List.range N').map r) (vr_up f ((List.range N').map r) (.inl (cy, z)))) → va_S A H0 H1 locs →
      W p l e R s m args below meth c H1 locs (cells + 1 + N') (slots + N' + N' * K') Q (F0 m (pc + 4) ls (.ref q :: rest))) : W p l e R s m args below meth c H locs cells slots Q (F0 m pc ls (.int k :: .int n :: rest)) := by
  subst hN
  subst hM
  intro T hT Xs
  obtain ⟨vm₁, cA, comp, -, fA, fC, hO, -, X', step⟩ := Xs.multianewarray2F hexec hown hclink (va_AOA.use hover) harr (g := F0 m pc ls (.int k :: .int n :: rest)) rfl (by rw [hb]; exact hdg) rfl hn hk hb1 hb2 hb3 hdf hdd hcells hslots
  have ec : some cy = some comp := hcy.symm.trans fC
  cases ec
  generalize hF : Jvm.Free.Multi.fill (T.setVm vm₁) cA cy n.toNatClampNeg k.toNatClampNeg (defaultValue ty) n.toNatClampNeg = F at X' step
  have hTh : (T.setVm vm₁).heap = H := hT
  obtain ⟨f1, f2, -, -⟩ := Jvm.Free.Multi.fill_facts (T.setVm vm₁) cA cy n.toNatClampNeg k.toNatClampNeg (defaultValue ty) n.toNatClampNeg
  rw [hF, hTh] at f1 f2
  have hold : ∀ x : Nat, x < H.size → F.heap[x]? = H[x]? := fun x hx => by
    have := Jvm.Free.Multi.fill_old (T.setVm vm₁) cA cy n.toNatClampNeg k.toNatClampNeg (defaultValue ty) (a := x) (by rw [hTh]; exact hx) n.toNatClampNeg
    rw [hF, hTh] at this
    exact this
  have hrow : ∀ j : Nat, j < n.toNatClampNeg → F.heap[H.size + 1 + j]? = some (vp_cell cy z) := fun j hj => by
    have := Jvm.Free.Multi.fill_inner (T.setVm vm₁) cA cy n.toNatClampNeg k.toNatClampNeg (defaultValue ty) n.toNatClampNeg j hj
    rw [hF, hTh, hz] at this
    exact this
  have hout : Jvm.Free.Multi.outerC cA n.toNatClampNeg H.size n.toNatClampNeg = vp_cell cA (n.toNatClampNeg, .inr (.inr (.inr (.inr (fun i => if i < n.toNatClampNeg then some (H.size + 1 + i) else none))))) := by
    rw [vp_cell_q]
    exact vr_outer cA n.toNatClampNeg H.size n.toNatClampNeg
  rw [hout] at f2
  have hlt : ∀ a, a ∈ L → a < H.size := fun a ha => by
    obtain ⟨k9, hk9⟩ := va_pl_get (X := X) (f := f) ha
    exact (hP k9 _ hk9).lt
  have hnl : ∀ i : Nat, i < n.toNatClampNeg → H.size + 1 + i ∉ L := fun i _ h => by
    have := hlt _ h
    omega
  have hnm : ∀ a, a ∈ (List.range n.toNatClampNeg).map (fun i => H.size + 1 + i) → a ∉ L := fun a ha h => by
    obtain ⟨i, -, rfl⟩ := List.mem_map.mp ha
    have := hlt _ h
    omega
  have hP0 : va_P D cl (X ++ va_pl L f) F.heap := hP.kept (fun k9 x hx => hold x.1 ((hP k9 x hx).lt))
  have hP1 : va_P D cl ((X ++ va_pl L f) ++ [(H.size, .inl (cA, n.toNatClampNeg, .inr (.inr (.inr (.inr (fun i => if i < n.toNatClampNeg then some (H.size + 1 + i) else none))))))]) F.heap := hP0.app (fun k9 x hx => by
    have h0 : k9 < 1 := (List.getElem?_eq_some_iff.mp hx).1
    rw [show k9 = 0 by omega] at hx
    cases hx
    exact f2)
  have hP2 : va_P D cl (((X ++ va_pl L f) ++ [(H.size, .inl (cA, n.toNatClampNeg, .inr (.inr (.inr (.inr (fun i => if i < n.toNatClampNeg then some (H.size + 1 + i) else none))))))]) ++ ((List.range n.toNatClampNeg).map (fun i => H.size + 1 + i)).map (fun a => (a, .inl (cy, z)))) F.heap := hP1.app (fun k9 x hx => by
    obtain ⟨a, ha, rfl⟩ := List.mem_map.mp (List.mem_of_getElem? hx)
    obtain ⟨i, hi, rfl⟩ := List.mem_map.mp ha
    exact hrow i (List.mem_range.mp hi))
  have hD2 : va_D A (((X ++ va_pl L f) ++ [(H.size, .inl (cA, n.toNatClampNeg, .inr (.inr (.inr (.inr (fun i => if i < n.toNatClampNeg then some (H.size + 1 + i) else none))))))]) ++ ((List.range n.toNatClampNeg).map (fun i => H.size + 1 + i)).map (fun a => (a, .inl (cy, z)))) := by
    have hD1 := hD.push (e := .inl (cA, n.toNatClampNeg, .inr (.inr (.inr (.inr (fun i => if i < n.toNatClampNeg then some (H.size + 1 + i) else none)))))) hP rfl (hA _ hS.1)
    generalize hW1 : (X ++ va_pl L f) ++ [(H.size, .inl (cA, n.toNatClampNeg, .inr (.inr (.inr (.inr (fun i => if i < n.toNatClampNeg then some (H.size + 1 + i) else none))))))] = W1 at hD1 hP1 ⊢
    have hle : ∀ (k9 : Nat) (x : Nat × va_E), W1[k9]? = some x → x.1 ≤ H.size := fun k9 x hx => by
      rw [← hW1] at hx
      by_cases hl : k9 < (X ++ va_pl L f).length
      · rw [List.getElem?_append_left hl] at hx
        exact Nat.le_of_lt ((hP k9 x hx).lt)
      · rw [List.getElem?_append_right (by omega)] at hx
        have h0 : k9 - (X ++ va_pl L f).length < 1 := (List.getElem?_eq_some_iff.mp hx).1
        rw [show k9 - (X ++ va_pl L f).length = 0 by omega] at hx
        cases hx
        exact Nat.le_refl _
    have hr : ∀ (k9 : Nat) (x : Nat × va_E), (((List.range n.toNatClampNeg).map (fun i => H.size + 1 + i)).map (fun a => ((a, .inl (cy, z)) : Nat × va_E)))[k9]? = some x → x.1 = H.size + 1 + k9 := fun k9 x hx => by
      rw [List.getElem?_map, List.getElem?_map] at hx
      by_cases h9 : k9 < n.toNatClampNeg
      · rw [List.getElem?_range h9] at hx
        cases hx
        rfl
      · have hn0 : (List.range n.toNatClampNeg)[k9]? = none := List.getElem?_eq_none (by rw [List.length_range]; omega)
        rw [hn0] at hx
        cases hx
    refine ⟨fun i j x y hi hj hxy => ?_, fun k9 x hx => ?_⟩
    · by_cases h1 : i < W1.length <;> by_cases h2 : j < W1.length
      · rw [List.getElem?_append_left h1] at hi
        rw [List.getElem?_append_left h2] at hj
        exact hD1.1 i j x y hi hj hxy
      · rw [List.getElem?_append_left h1] at hi
        rw [List.getElem?_append_right (by omega)] at hj
        have := hle _ _ hi
        have := hr _ _ hj
        omega
      · rw [List.getElem?_append_right (by omega)] at hi
        rw [List.getElem?_append_left h2] at hj
        have := hle _ _ hj
        have := hr _ _ hi
        omega
      · rw [List.getElem?_append_right (by omega)] at hi hj
        have := hr _ _ hi
        have := hr _ _ hj
        omega
    · by_cases h1 : k9 < W1.length
      · rw [List.getElem?_append_left h1] at hx
        exact hD1.2 k9 x hx
      · rw [List.getElem?_append_right (by omega)] at hx
        have := hr _ _ hx
        exact hA _ (by have := hS.1; omega)
  have hAr : ArrOfT s cA (.array ty) := fun N9 z9 => by
    obtain ⟨-, k9, hk9, cm9, hkk9⟩ := (hO 0 0 0).1
    exact ⟨(fun q hq => by cases hq), k9, hk9, cm9, hkk9⟩
  have hK2 : va_K D cl (tys ++ [(cA, .array ty)]) s := ⟨hK.1, fun k9 x hx => by
    by_cases hl : k9 < tys.length
    · rw [List.getElem?_append_left hl] at hx
      exact hK.2 k9 x hx
    · rw [List.getElem?_append_right (by omega)] at hx
      have h0 : k9 - tys.length < 1 := (List.getElem?_eq_some_iff.mp hx).1
      rw [show k9 - tys.length = 0 by omega] at hx
      cases hx
      exact ⟨hAr, fA⟩⟩
  obtain ⟨t, a1, b1⟩ := kk H.size (fun i => H.size + 1 + i) cA F.heap (fun i j _ _ h => by have h9 : H.size + 1 + i = H.size + 1 + j := h; omega) hnl hK2 (by rw [← vr_rows hnm]; exact vr_lay hP2) (by rw [← vr_rows hnm]; exact vr_layD hD2) ⟨by rw [f1]; have := hS.1; omega, fun x h1 h2 => (hold x (Nat.lt_of_lt_of_le h1 hS.1)).trans (hS.2.1 x h1 h2), hS.2.2⟩ F rfl X'
  refine ⟨t, step t ?_, b1⟩
  have e : T.heap.size = H.size := by rw [hT]
  rw [e]
  exact a1
end VGM
/-! ===== END ===== -/
section ZMNA
variable {p : Program} {l : Launch} {e : Env} {R : Room} {s : State} {m : MethodId} {args : Array Value} {below : List Frame} {meth : Method} {c : Code} {H : Heap} {locs : List Loc} {cells slots : Nat} {Q : State → Prop} {cc : ByteArray} {pc : Nat} {ls : Array Slot} {rest : List Value} {G : zG} {A : Nat → Prop} {L : List Nat} {f : Nat → va_E}
set_option maxHeartbeats 400000 in
theorem px_mna (hx : p.tables.exec = Jvm.exec) (hb : c.code = cc) {own : String} {index : Nat} (hown : s.vm.findClass own = some m.cls) (hcl : (Cond.classLink own index "[[I").before args s = true) (harr : (Cond.arrayClass .int).before args s = true) (hK : zK G s) (w : zW G A s H locs (va_pl L f)) {n k : Int32} {N' K' : Nat} (hn : ¬ n < 0) (hk : ¬ k < 0) (hN : n.toNatClampNeg = N') (hM : k.toNatClampNeg = K') (hN2 : N' ≤ 12) (hK2 : K' ≤ 12) (hcells : cells + (1 + N') ≤ R.cells) (hslots : slots + (N' + N' * K') ≤ R.slots) (hdg : decode cc pc = .ok (.multianewarray index 2, 4))
    (kk : ∀ (q : Nat) (r : Nat → Nat) (H1 : Heap), (∀ i j : Nat, i < N' → j < N' → r i = r j → i = j) → (∀ i : Nat, i < N' → r i ∉ L) → q ∉ L ++ (List.range N').map r → zW G A s H1 locs (va_pl ((L ++ (List.range N').map r) ++ [q]) (va_up (vr_up f ((List.range N').map r) (.inl (G.2 4, K', .inl (fun _ => 0)))) q (.inl (G.2 7, N', zQ (fun i => if i < N' then some (r i) else none))))) →
      W p l e R s m args below meth c H1 locs (cells + 1 + N') (slots + N' + N' * K') Q (F0 m (pc + 4) ls (.ref q :: rest))) : W p l e R s m args below meth c H locs cells slots Q (F0 m pc ls (.int k :: .int n :: rest)) := by
  have e4 : s.vm.findClass ("[" ++ (FieldType.toString .int)) = some (G.2 4) := (hK.1.2 4 _ rfl).2
  have e7 : s.vm.findClass ("[" ++ (FieldType.toString (.array .int))) = some (G.2 7) := (hK.1.2 7 _ rfl).2
  refine va_mna (X := []) (L := L) (f := f) (ty := .int) (cy := G.2 4) (z := (K', .inl (fun _ => 0))) hx hb hown hcl hK.2.2.2.2.2.2 harr e4 hK.1 w.1 w.2.1 w.2.2.1 w.2.2.2 hn hk hN hM (by omega) (by show K' * 4 ≤ _; omega) (by omega) rfl rfl hcells hslots (fun cq => by rw [vp_cell_i]; exact arrV_new _ _ _) hdg (fun q r cA H1 h1 h2 hK3 hP hD hS => ?_)
  have e2 : s.vm.findClass ("[" ++ (FieldType.toString (.array .int))) = some cA := (hK3.2 8 _ rfl).2
  have e3 : cA = G.2 7 := Option.some.inj (e2.symm.trans e7)
  subst e3
  have hP2 := va_P.swap (a := []) hP
  have hD2 := va_D.swap (a := []) hD
  have hq : q ∉ L ++ (List.range N').map r := va_pl_fresh2 (X := []) hD2
  simp only [List.nil_append] at hP2 hD2
  rw [va_pl_push hq] at hP2 hD2
  exact kk q r H1 h1 h2 hq ⟨hP2, hD2, hS, w.2.2.2⟩
end ZMNA
end
section
/-- a new chart at q -/
def zNH (G : zG) (L : List Nat) (f : Nat → va_E) (rows cols q : Nat) (L2 : List Nat) (f2 : Nat → va_E) : Prop :=
  zExt L f L2 f2 ∧ q ∉ L ∧ zHA G L2 f2 q cols ∧ eN (f2 q) = rows ∧ (∀ i, i < rows → ∃ b, eQ (f2 q) i = some b ∧ b ∉ L ∧ eI (f2 b) = fun _ => 0) ∧ (∀ i j, i < rows → j < rows → eQ (f2 q) i = eQ (f2 q) j → i = j) ∧ (zOW L f → zOW L2 f2)
theorem zNH_of {G : zG} {L : List Nat} {f : Nat → va_E} {N K q : Nat} {r : Nat → Nat} (hN : N ≤ 12) (hK : K ≤ 12) (h1 : ∀ i j : Nat, i < N → j < N → r i = r j → i = j) (h2 : ∀ i : Nat, i < N → r i ∉ L) (h3 : q ∉ L ++ (List.range N).map r) :
    zNH G L f N K q ((L ++ (List.range N).map r) ++ [q]) (va_up (vr_up f ((List.range N).map r) (.inl (G.2 4, K, .inl (fun _ => 0)))) q (.inl (G.2 7, N, zQ (fun i => if i < N then some (r i) else none)))) := by
  generalize hF : va_up (vr_up f ((List.range N).map r) (.inl (G.2 4, K, .inl (fun _ => 0)))) q (.inl (G.2 7, N, zQ (fun i => if i < N then some (r i) else none))) = F
  have hqL : q ∉ L := fun z => h3 (List.mem_append_left _ z)
  have hqr : q ∉ (List.range N).map r := fun z => h3 (List.mem_append_right _ z)
  have hrL : ∀ x, x ∈ (List.range N).map r → x ∉ L := fun x hx => by
    obtain ⟨i, hi, rfl⟩ := List.mem_map.mp hx
    exact h2 i (List.mem_range.mp hi)
  have inr : ∀ i, i < N → r i ∈ (List.range N).map r := fun i hi => List.mem_map.mpr ⟨i, List.mem_range.mpr hi, rfl⟩
  have Fq : F q = .inl (G.2 7, N, zQ (fun i => if i < N then some (r i) else none)) := by rw [← hF]; exact va_up_self _ _ _
  have Fr : ∀ x, x ∈ (List.range N).map r → F x = .inl (G.2 4, K, .inl (fun _ => 0)) := fun x hx => by
    have n1 : x ≠ q := fun z => hqr (z ▸ hx)
    rw [← hF, va_up_ne _ _ n1, vr_up_in hx]
  have Fo : ∀ x, x ∈ L → F x = f x := fun x hx => by
    have n1 : x ≠ q := fun z => hqL (z ▸ hx)
    rw [← hF, va_up_ne _ _ n1, vr_up_ne (fun z => hrL x z hx)]
  have eN1 : eN (F q) = N := by rw [Fq]; rfl
  have eQ1 : eQ (F q) = fun i => if i < N then some (r i) else none := by rw [Fq]; rfl
  have mem : ∀ x, x ∈ (L ++ (List.range N).map r) ++ [q] → x ∈ L ∨ x ∈ (List.range N).map r ∨ x = q := fun x hx => by
    rcases List.mem_append.mp hx with h | h
    · rcases List.mem_append.mp h with h | h
      · exact Or.inl h
      · exact Or.inr (Or.inl h)
    · exact Or.inr (Or.inr (List.mem_singleton.mp h))
  have onlyL : ∀ x c b, x ∈ (L ++ (List.range N).map r) ++ [q] → F x = .inr (c, [.ref b]) → x ∈ L ∧ f x = .inr (c, [.ref b]) := fun x c b hx z => by
    rcases mem x hx with h | h | h
    · exact ⟨h, by rw [← Fo x h]; exact z⟩
    · rw [Fr x h] at z; cases z
    · subst h; rw [Fq] at z; cases z
  refine ⟨fun x hx => ⟨List.mem_append_left _ (List.mem_append_left _ hx), Fo x hx⟩, hqL, ⟨List.mem_append_right _ List.mem_cons_self, by rw [eN1, eQ1]; exact Fq, by rw [eN1]; exact hN, hK, fun i hi => ?_⟩, eN1, fun i hi => ?_, fun i j hi hj z => ?_, fun ho => ?_⟩
  · rw [eN1] at hi
    refine ⟨r i, by rw [eQ1]; exact if_pos hi, List.mem_append_left _ (List.mem_append_right _ (inr i hi)), ?_⟩
    rw [Fr _ (inr i hi)]
    rfl
  · refine ⟨r i, by rw [eQ1]; exact if_pos hi, h2 i hi, ?_⟩
    rw [Fr _ (inr i hi)]
    rfl
  · rw [eQ1] at z
    have z2 : some (r i) = some (r j) := by
      have e1 : (if i < N then some (r i) else none) = some (r i) := if_pos hi
      have e2 : (if j < N then some (r j) else none) = some (r j) := if_pos hj
      rw [← e1, ← e2]
      exact z
    exact h1 i j hi hj (Option.some.inj z2)
  · refine ⟨fun x c b hx z => ?_, fun x y c e b hx hy z1 z2 => ?_⟩
    · obtain ⟨k1, k2⟩ := onlyL x c b hx z
      exact List.mem_append_left _ (List.mem_append_left _ (ho.1 x c b k1 k2))
    · obtain ⟨k1, k2⟩ := onlyL x c b hx z1
      obtain ⟨k3, k4⟩ := onlyL y e b hy z2
      exact ho.2 x y c e b k1 k3 k2 k4
end
section
set_option maxHeartbeats 4000000 in
set_option maxRecDepth 100000 in
theorem kX6_chart (l : Launch) (G : zG) {L : List Nat} {f : Nat → va_E} {o ac aw ar : Nat} {ch : Option Nat} {car wa : Nat → Option Nat} {ta : Nat → Int32} (h : zBn G L f o ac aw ar ch car wa ta) (hct : zCT G L f car) (hwt : zWT G L f wa) (rows cols : Int32) (sz : Nat) : zMl l yX6_chart wsX6_chart { frames := 1, cells := 13, slots := 156, locals := 22 } G [.ref o, .int rows, .int cols] (va_pl L f) sz (fun r u => if zGF rows cols = 0 then (∃ q L2 f2, zNH G L f rows.toNatClampNeg cols.toNatClampNeg q L2 f2 ∧ u = va_pl L2 (va_up f2 o (.inr (5, [.ref ac, .ref aw, .ref ar, .ref q]))) ∧ r = rows.toInt64) else zRefP G L f ar ta (zGF rows cols) r u) 13 156 := by
  refine zIn (Qc := fun A => va_Ql _ (zB G A) A) (cc := cX6_chart) (maxL := 5) (ret := (some .long)) (by decide) rfl (Nat.le_of_ble_eq_true rfl) ?_
  intro p e s m below meth c A ls hx hb hr hlk hml hts hown hnm hK w hl
  have hown : s.vm.findClass RX6 = some m.cls := hown
  have hl : lv_has ls 5 [(0, .ref o), (1, .int rows), (2, .int cols)] := hl
  obtain ⟨⟨mo, mc, mw, mr⟩, fo, fc, fw, fr⟩ := id h
  refine lv_iload_n hx hb dX6_chart_0 rfl (lv_at hl 1 rfl) ?_
  refine lv_iload_n hx hb dX6_chart_1 rfl (lv_at hl 2 rfl) ?_
  refine zCl w (va_runS (As := [.int rows, .int cols]) (rest := []) ⟨hx, hb, hml, hown, hts⟩ (kX6_gridFault l G _ rows cols s.heap.size) (va_cwS 2 hts gX6_chart_X6_gridFault rfl rfl rfl (by decide +kernel) ⟨(Nat.le_of_ble_eq_true rfl), (Nat.le_of_ble_eq_true rfl)⟩) (zPS w hK) rfl rfl hl.1 rfl (lv_room (Nat.le_of_ble_eq_true rfl)) dX6_chart_2 ⟨(Nat.le_of_ble_eq_true rfl), (Nat.le_of_ble_eq_true rfl)⟩) (fun r_1 u H locs hq w => ?_)
  obtain ⟨rfl, e_r⟩ := hq
  subst e_r
  refine lv_lstore_n (lv' := [(3, .long (zGF rows cols)), (0, .ref o), (1, .int rows), (2, .int cols)]) hx hb dX6_chart_5 rfl hl (by decide) rfl (fun ls hl => ?_)
  refine lv_lload_n hx hb dX6_chart_6 rfl (lv_at hl 0 rfl) ?_
  refine lv_lconst (v := 0) hx hb dX6_chart_7 (by decide) ?_
  refine W.lcmp hx hb dX6_chart_8 ?_
  refine lv_if_eq (tgt := 18) hx hb dX6_chart_9 (by decide) (fun c_2 => ?_) (fun c_2 => ?_)
  · have p_f := zcmp0 c_2
    obtain ⟨g1, g2, g3, g4⟩ := zGF_0 p_f
    have hr2 := zle12 g1 g2
    have hc2 := zle12 g3 g4
    refine lv_aload_n hx hb dX6_chart_18 rfl (lv_at hl 1 rfl) ?_
    refine lv_iload_n hx hb dX6_chart_19 rfl (lv_at hl 2 rfl) ?_
    refine lv_iload_n hx hb dX6_chart_20 rfl (lv_at hl 3 rfl) ?_
    refine px_mna hx hb hown (hts (.classLink RX6 133 "[[I") (by decide +kernel)) (hts (.arrayClass .int) (by decide +kernel)) hK w g1 g3 rfl rfl hr2 hc2 (by show 0 + 0 + (1 + rows.toNatClampNeg) ≤ 13; omega) (by have := Nat.mul_le_mul hr2 hc2; show 0 + 0 + (rows.toNatClampNeg + rows.toNatClampNeg * cols.toNatClampNeg) ≤ 156; omega) dX6_chart_21 (fun q r H hq1 hq2 hq3 w => ?_)
    refine W.widen (k := 13) (n := 156) (by omega) (by have := Nat.mul_le_mul hr2 hc2; omega) ?_
    have hN := zNH_of (G := G) (f := f) hr2 hc2 hq1 hq2 hq3
    generalize va_up (vr_up f ((List.range rows.toNatClampNeg).map r) (.inl (G.2 4, cols.toNatClampNeg, .inl (fun _ => 0)))) q (.inl (G.2 7, rows.toNatClampNeg, zQ (fun i => if i < rows.toNatClampNeg then some (r i) else none))) = f2 at w hN
    generalize (L ++ (List.range rows.toNatClampNeg).map r) ++ [q] = L2 at w hN
    refine px_put (ci := 5) (C := RX6) (T := TX6) (N := 4) (v := .ref q) (ty := .array (.array .int)) hx hb hts hown hK w (hN.1 o mo).1 (by decide +kernel) tyX6 tyX6_ok nmX6 ((hN.1 o mo).2.trans fo) rfl 3 (by decide) (hts (.fieldLink RX6 25 "ReelBarn" "chartRows" "[[I") (by decide +kernel)) (fun _ h9 => h9) rfl (by decide +kernel) rfl rfl (Nat.le_of_ble_eq_true rfl) dX6_chart_25 (fun H locs w => ?_)
    refine lv_iload_n hx hb dX6_chart_28 rfl (lv_at hl 2 rfl) ?_
    refine lv_i2l hx hb dX6_chart_29 rfl ?_
    exact zRl hx hb hr hlk w dX6_chart_30 (Nat.le_of_ble_eq_true rfl) (Nat.le_of_ble_eq_true rfl) (by show (if _ then _ else _); (first | rw [if_pos p_f] | rw [if_neg p_f]); (first | exact ⟨rfl, rfl⟩ | exact ⟨q, L2, f2, hN, rfl, rfl⟩))
  · have p_f := zcmp1 c_2
    refine lv_aload_n hx hb dX6_chart_12 rfl (lv_at hl 1 rfl) ?_
    refine lv_lload_n hx hb dX6_chart_13 rfl (lv_at hl 0 rfl) ?_
    refine zCl w (va_runV (As := [.long (zGF rows cols)]) (rest := []) ⟨hx, hb, hml, hown, hts⟩ (kX6_refuse l G h (zGF rows cols) (zGF_why p_f) H.size) (cwV 1 hts gX6_chart_X6_refuse rfl rfl rfl (by decide +kernel) ⟨(Nat.le_of_ble_eq_true rfl), (Nat.le_of_ble_eq_true rfl)⟩) (zPV w hK (px_recv (r := (RX6, TX6, 4)) hK w mo fo rfl)) rfl rfl hl.1 rfl (lv_room (Nat.le_of_ble_eq_true rfl)) dX6_chart_14 ⟨(Nat.le_of_ble_eq_true rfl), (Nat.le_of_ble_eq_true rfl)⟩) (fun r_3 u H locs hq w => ?_)
    obtain ⟨rfl, e_r⟩ := hq
    subst e_r
    exact zRl hx hb hr hlk w dX6_chart_17 (Nat.le_of_ble_eq_true rfl) (Nat.le_of_ble_eq_true rfl) (by show (if _ then _ else _); (first | rw [if_pos p_f] | rw [if_neg p_f]); (first | exact ⟨rfl, rfl⟩ | exact ⟨q, L2, f2, hN, rfl, rfl⟩))
set_option maxHeartbeats 4000000 in
set_option maxRecDepth 100000 in
theorem kX6_init (l : Launch) (G : zG) {f : Nat → va_E} {o : Nat} (fo : f o = .inr (5, [.null, .null, .null, .null])) (sz : Nat) : zMv l yX6_init wsX6_init { frames := 1, cells := 3, slots := 28, locals := 12 } G [.ref o] (va_pl [o] f) sz (fun u => ∃ ac aw ar f2, u = va_pl [o, ac, aw, ar] f2 ∧ zBn G [o, ac, aw, ar] f2 o ac aw ar none (fun _ => none) (fun _ => none) (fun _ => 0)) 3 28 := by
  refine zIn (Qc := fun A => va_Qv _ (zB G A) A) (cc := cX6_init) (maxL := 1) (ret := none) (by decide) rfl (Nat.le_of_ble_eq_true rfl) ?_
  intro p e s m below meth c A ls hx hb hr hlk hml hts hown hnm hK w hl
  have hown : s.vm.findClass RX6 = some m.cls := hown
  have hl : lv_has ls 1 [(0, .ref o)] := hl
  have mo : o ∈ [o] := List.mem_cons_self
  refine lv_aload_n hx hb dX6_init_0 rfl (lv_at hl 0 rfl) ?_
  refine W.objInit hx hb hown (hts (.methodLink RX6 1 objectInit) (by decide +kernel)) (hts (.instanceMethod objectInit) (by decide +kernel)) (hts (.code objectInit ⟨#[0xb1]⟩ 1 none) (by decide +kernel)) rfl (by rw [hml]; exact hl.1) rfl dX6_init_1 (Nat.le_of_ble_eq_true rfl) (Nat.le_of_ble_eq_true rfl) ?_
  refine W.eq (g2 := F0 m 4 ls []) rfl ?_
  refine lv_aload_n hx hb dX6_init_4 rfl (lv_at hl 0 rfl) ?_
  refine lv_bipush (v := 16) hx hb dX6_init_5 (by decide) ?_
  refine px_newR hx hb hown (hts (.classLink RX6 9 RX3) (by decide +kernel)) hK w (by decide) rfl (by decide) (Nat.le_of_ble_eq_true rfl) (Nat.le_of_ble_eq_true rfl) dX6_init_7 (fun ac H hac w => ?_)
  refine W.widen (k := 1) (n := 16) (Nat.le_of_ble_eq_true rfl) (Nat.le_of_ble_eq_true rfl) ?_
  refine px_putF (ci := 5) (C := RX6) (T := TX6) (N := 4) (v := .ref ac) (ty := .array (.object RX3)) hx hb hts hown hK w (List.mem_append_left _ mo) (by decide +kernel) tyX6 tyX6_ok nmX6 (by rw [va_up_ne _ _ (show o ≠ ac from fun z => hac (z ▸ mo))]; exact fo) rfl 0 (by decide) (hts (.fieldLink RX6 11 "ReelBarn" "carried" "[LReelBarn$Reel;") (by decide +kernel)) (fun _ h9 => h9) rfl hnm rfl (by decide +kernel) rfl rfl (Nat.le_of_ble_eq_true rfl) dX6_init_10 (fun H locs w => ?_)
  refine lv_aload_n hx hb dX6_init_13 rfl (lv_at hl 0 rfl) ?_
  refine lv_iconst (v := 4) hx hb dX6_init_14 (by decide) ?_
  refine px_newW hx hb hown (hts (.classLink RX6 15 RX4) (by decide +kernel)) hK w (by decide) rfl (by decide) (Nat.le_of_ble_eq_true rfl) (Nat.le_of_ble_eq_true rfl) dX6_init_15 (fun aw H haw w => ?_)
  refine W.widen (k := 2) (n := 20) (Nat.le_of_ble_eq_true rfl) (Nat.le_of_ble_eq_true rfl) ?_
  refine px_putF (ci := 5) (C := RX6) (T := TX6) (N := 4) (v := .ref aw) (ty := .array (.object RX4)) hx hb hts hown hK w (List.mem_append_left _ (List.mem_append_left _ mo)) (by decide +kernel) tyX6 tyX6_ok nmX6 (by rw [va_up_ne _ _ (show o ≠ aw from fun z => haw (z ▸ (List.mem_append_left _ mo)))]; exact (va_up_self _ _ _)) rfl 1 (by decide) (hts (.fieldLink RX6 17 "ReelBarn" "walls" "[LReelBarn$Wall;") (by decide +kernel)) (fun _ h9 => h9) rfl hnm rfl (by decide +kernel) rfl rfl (Nat.le_of_ble_eq_true rfl) dX6_init_18 (fun H locs w => ?_)
  refine lv_aload_n hx hb dX6_init_21 rfl (lv_at hl 0 rfl) ?_
  refine lv_bipush (v := 8) hx hb dX6_init_22 (by decide) ?_
  refine px_newI hx hb (hts (.arrayClass .int) (by decide +kernel)) hK w (by decide) rfl (by decide) (Nat.le_of_ble_eq_true rfl) (Nat.le_of_ble_eq_true rfl) dX6_init_24 (fun ar H har w => ?_)
  refine W.widen (k := 3) (n := 28) (Nat.le_of_ble_eq_true rfl) (Nat.le_of_ble_eq_true rfl) ?_
  refine px_putF (ci := 5) (C := RX6) (T := TX6) (N := 4) (v := .ref ar) (ty := .array .int) hx hb hts hown hK w (List.mem_append_left _ (List.mem_append_left _ (List.mem_append_left _ mo))) (by decide +kernel) tyX6 tyX6_ok nmX6 (by rw [va_up_ne _ _ (show o ≠ ar from fun z => har (z ▸ (List.mem_append_left _ (List.mem_append_left _ mo))))]; exact (va_up_self _ _ _)) rfl 2 (by decide) (hts (.fieldLink RX6 21 "ReelBarn" "refusals" "[I") (by decide +kernel)) (fun _ h9 => h9) rfl hnm rfl (by decide +kernel) rfl rfl (Nat.le_of_ble_eq_true rfl) dX6_init_26 (fun H locs w => ?_)
  refine lv_aload_n hx hb dX6_init_29 rfl (lv_at hl 0 rfl) ?_
  refine lv_null hx hb dX6_init_30 ?_
  refine px_put (ci := 5) (C := RX6) (T := TX6) (N := 4) (v := .null) (ty := .array (.array .int)) hx hb hts hown hK w (List.mem_append_left _ (List.mem_append_left _ (List.mem_append_left _ mo))) (by decide +kernel) tyX6 tyX6_ok nmX6 (va_up_self _ _ _) rfl 3 (by decide) (hts (.fieldLink RX6 25 "ReelBarn" "chartRows" "[[I") (by decide +kernel)) (fun _ h9 => h9) rfl (by decide +kernel) rfl rfl (Nat.le_of_ble_eq_true rfl) dX6_init_31 (fun H locs w => ?_)
  have n1 : o ≠ ac := fun z => hac (by rw [← z]; exact List.mem_cons_self)
  have n2 : o ≠ aw := fun z => haw (by rw [← z]; exact List.mem_cons_self)
  have n3 : o ≠ ar := fun z => har (by rw [← z]; exact List.mem_cons_self)
  have n4 : ac ≠ aw := fun z => haw (by rw [← z]; exact List.mem_cons_of_mem _ List.mem_cons_self)
  have n5 : ac ≠ ar := fun z => har (by rw [← z]; exact List.mem_cons_of_mem _ List.mem_cons_self)
  have n6 : aw ≠ ar := fun z => har (by rw [← z]; exact List.mem_cons_of_mem _ (List.mem_cons_of_mem _ List.mem_cons_self))
  exact zRv hx hb hr hlk w dX6_init_34 (Nat.le_of_ble_eq_true rfl) (Nat.le_of_ble_eq_true rfl) ⟨ac, aw, ar, _, rfl, ⟨⟨List.mem_cons_self, List.mem_cons_of_mem _ List.mem_cons_self, List.mem_cons_of_mem _ (List.mem_cons_of_mem _ List.mem_cons_self), List.mem_cons_of_mem _ (List.mem_cons_of_mem _ (List.mem_cons_of_mem _ List.mem_cons_self))⟩, va_up_self _ _ _, by simp [va_up, n1, n2, n3, n4, n5, n6, Ne.symm n1, Ne.symm n2, Ne.symm n3, Ne.symm n4, Ne.symm n5, Ne.symm n6], by simp [va_up, n1, n2, n3, n4, n5, n6, Ne.symm n1, Ne.symm n2, Ne.symm n3, Ne.symm n4, Ne.symm n5, Ne.symm n6], by simp [va_up, n1, n2, n3, n4, n5, n6, Ne.symm n1, Ne.symm n2, Ne.symm n3, Ne.symm n4, Ne.symm n5, Ne.symm n6]⟩⟩
end
