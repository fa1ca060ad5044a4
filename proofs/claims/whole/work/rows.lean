section
-- ===== PART A: goes FIRST, ahead of the names: the tables' words, and 'selects' of the private methods out of them =====
/-- a private method of a class that the tables say can be made, by its rows of tables_1 -/
def lw_okq (q : MethodName × Nat) : Prop := (q.1.cls ≠ "java/lang/invoke/MethodHandle" ∧ q.1.cls ≠ "java/lang/invoke/VarHandle") ∧ Cond.instantiable q.1.cls q.2 ∈ tables_1 ∧ Cond.privateMethod q.1 ∈ tables_1 ∧ Cond.instanceMethod q.1 ∈ tables_1
theorem lw_p0 : lw_okq (⟨"DoorKeys", "isSecretOfAKey", "(J)Z"⟩, 9) := ⟨⟨by decide +kernel, by decide +kernel⟩, List.mem_of_getElem? (i := 12) (by decide +kernel), List.mem_of_getElem? (i := 89) (by decide +kernel), List.mem_of_getElem? (i := 90) (by decide +kernel)⟩
theorem lw_p1 : lw_okq (⟨"DoorKeys", "find", "(I)LDoorKeys$Key;"⟩, 9) := ⟨⟨by decide +kernel, by decide +kernel⟩, List.mem_of_getElem? (i := 12) (by decide +kernel), List.mem_of_getElem? (i := 93) (by decide +kernel), List.mem_of_getElem? (i := 94) (by decide +kernel)⟩
theorem lw_p2 : lw_okq (⟨"DoorKeys", "judge", "(LDoorKeys$Frame;)I"⟩, 9) := ⟨⟨by decide +kernel, by decide +kernel⟩, List.mem_of_getElem? (i := 12) (by decide +kernel), List.mem_of_getElem? (i := 141) (by decide +kernel), List.mem_of_getElem? (i := 142) (by decide +kernel)⟩
theorem lw_p3 : lw_okq (⟨"DoorKeys$Frame", "unsigned", "(I)I"⟩, 2) := ⟨⟨by decide +kernel, by decide +kernel⟩, List.mem_of_getElem? (i := 22) (by decide +kernel), List.mem_of_getElem? (i := 149) (by decide +kernel), List.mem_of_getElem? (i := 150) (by decide +kernel)⟩
theorem lw_p4 : lw_okq (⟨"DoorKeys$Key", "mix", "(II)I"⟩, 7) := ⟨⟨by decide +kernel, by decide +kernel⟩, List.mem_of_getElem? (i := 96) (by decide +kernel), List.mem_of_getElem? (i := 175) (by decide +kernel), List.mem_of_getElem? (i := 176) (by decide +kernel)⟩
theorem lw_p5 : lw_okq (⟨"DoorKeys$Key", "part", "(I)I"⟩, 7) := ⟨⟨by decide +kernel, by decide +kernel⟩, List.mem_of_getElem? (i := 96) (by decide +kernel), List.mem_of_getElem? (i := 179) (by decide +kernel), List.mem_of_getElem? (i := 180) (by decide +kernel)⟩
theorem lw_p6 : lw_okq (⟨"DoorKeys", "obey", "(I)V"⟩, 9) := ⟨⟨by decide +kernel, by decide +kernel⟩, List.mem_of_getElem? (i := 12) (by decide +kernel), List.mem_of_getElem? (i := 202) (by decide +kernel), List.mem_of_getElem? (i := 203) (by decide +kernel)⟩
theorem lw_p7 : lw_okq (⟨"DoorKeys$Doors", "turn", "(II)I"⟩, 3) := ⟨⟨by decide +kernel, by decide +kernel⟩, List.mem_of_getElem? (i := 37) (by decide +kernel), List.mem_of_getElem? (i := 210) (by decide +kernel), List.mem_of_getElem? (i := 211) (by decide +kernel)⟩
theorem lw_p8 : lw_okq (⟨"DoorKeys$Doors", "noteShut", "(I)V"⟩, 3) := ⟨⟨by decide +kernel, by decide +kernel⟩, List.mem_of_getElem? (i := 37) (by decide +kernel), List.mem_of_getElem? (i := 222) (by decide +kernel), List.mem_of_getElem? (i := 223) (by decide +kernel)⟩
theorem lw_p9 : lw_okq (⟨"DoorKeys", "learnedKeys", "()I"⟩, 9) := ⟨⟨by decide +kernel, by decide +kernel⟩, List.mem_of_getElem? (i := 12) (by decide +kernel), List.mem_of_getElem? (i := 264) (by decide +kernel), List.mem_of_getElem? (i := 265) (by decide +kernel)⟩
theorem lw_p10 : lw_okq (⟨"java/lang/Throwable", "fillInStackTrace", "(I)Ljava/lang/Throwable;"⟩, 6) := ⟨⟨by decide +kernel, by decide +kernel⟩, List.mem_of_getElem? (i := 378) (by decide +kernel), List.mem_of_getElem? (i := 376) (by decide +kernel), List.mem_of_getElem? (i := 377) (by decide +kernel)⟩
theorem lw_p11 : lw_okq (⟨"DoorKeysModel", "command", "(I)V"⟩, 20) := ⟨⟨by decide +kernel, by decide +kernel⟩, List.mem_of_getElem? (i := 406) (by decide +kernel), List.mem_of_getElem? (i := 501) (by decide +kernel), List.mem_of_getElem? (i := 502) (by decide +kernel)⟩
theorem lw_p12 : lw_okq (⟨"DoorKeysModel", "turn", "(IIII)I"⟩, 20) := ⟨⟨by decide +kernel, by decide +kernel⟩, List.mem_of_getElem? (i := 406) (by decide +kernel), List.mem_of_getElem? (i := 505) (by decide +kernel), List.mem_of_getElem? (i := 506) (by decide +kernel)⟩
theorem lw_p13 : lw_okq (⟨"DoorKeysModel", "some", "(I)Z"⟩, 20) := ⟨⟨by decide +kernel, by decide +kernel⟩, List.mem_of_getElem? (i := 406) (by decide +kernel), List.mem_of_getElem? (i := 509) (by decide +kernel), List.mem_of_getElem? (i := 510) (by decide +kernel)⟩
theorem lw_p14 : lw_okq (⟨"DoorKeysModel", "none", "(I)Z"⟩, 20) := ⟨⟨by decide +kernel, by decide +kernel⟩, List.mem_of_getElem? (i := 406) (by decide +kernel), List.mem_of_getElem? (i := 517) (by decide +kernel), List.mem_of_getElem? (i := 518) (by decide +kernel)⟩
theorem lw_p15 : lw_okq (⟨"DoorKeysModel", "here", "(I)Z"⟩, 20) := ⟨⟨by decide +kernel, by decide +kernel⟩, List.mem_of_getElem? (i := 406) (by decide +kernel), List.mem_of_getElem? (i := 530) (by decide +kernel), List.mem_of_getElem? (i := 531) (by decide +kernel)⟩
def lw_privs_1 : List (MethodName × Nat) := [(⟨"DoorKeys", "isSecretOfAKey", "(J)Z"⟩, 9), (⟨"DoorKeys", "find", "(I)LDoorKeys$Key;"⟩, 9), (⟨"DoorKeys", "judge", "(LDoorKeys$Frame;)I"⟩, 9), (⟨"DoorKeys$Frame", "unsigned", "(I)I"⟩, 2), (⟨"DoorKeys$Key", "mix", "(II)I"⟩, 7), (⟨"DoorKeys$Key", "part", "(I)I"⟩, 7), (⟨"DoorKeys", "obey", "(I)V"⟩, 9), (⟨"DoorKeys$Doors", "turn", "(II)I"⟩, 3), (⟨"DoorKeys$Doors", "noteShut", "(I)V"⟩, 3), (⟨"DoorKeys", "learnedKeys", "()I"⟩, 9), (⟨"java/lang/Throwable", "fillInStackTrace", "(I)Ljava/lang/Throwable;"⟩, 6), (⟨"DoorKeysModel", "command", "(I)V"⟩, 20), (⟨"DoorKeysModel", "turn", "(IIII)I"⟩, 20), (⟨"DoorKeysModel", "some", "(I)Z"⟩, 20), (⟨"DoorKeysModel", "none", "(I)Z"⟩, 20), (⟨"DoorKeysModel", "here", "(I)Z"⟩, 20)]
theorem lw_r1 : ∀ q ∈ lw_privs_1, lw_okq q := List.forall_mem_cons.mpr ⟨lw_p0, List.forall_mem_cons.mpr ⟨lw_p1, List.forall_mem_cons.mpr ⟨lw_p2, List.forall_mem_cons.mpr ⟨lw_p3, List.forall_mem_cons.mpr ⟨lw_p4, List.forall_mem_cons.mpr ⟨lw_p5, List.forall_mem_cons.mpr ⟨lw_p6, List.forall_mem_cons.mpr ⟨lw_p7, List.forall_mem_cons.mpr ⟨lw_p8, List.forall_mem_cons.mpr ⟨lw_p9, List.forall_mem_cons.mpr ⟨lw_p10, List.forall_mem_cons.mpr ⟨lw_p11, List.forall_mem_cons.mpr ⟨lw_p12, List.forall_mem_cons.mpr ⟨lw_p13, List.forall_mem_cons.mpr ⟨lw_p14, List.forall_mem_cons.mpr ⟨lw_p15, fun _ h => absurd h List.not_mem_nil⟩⟩⟩⟩⟩⟩⟩⟩⟩⟩⟩⟩⟩⟩⟩⟩
def lw_privs : List (MethodName × Nat) := lw_privs_1
def lw_tbl : List Cond := k2_sels lw_privs ++ tables_1
theorem lw_privs_ok : ∀ q ∈ lw_privs, lw_okq q := lw_r1
end
section
/-! ===== BEGIN words of one list among another's, by their places ===== -/
theorem goodIn_r {big : List Cond} (ws : List Cond) (ps : List Nat) (hp : ws = ps.filterMap (fun i => big[i]?)) (h : ws.all goodWord = true) : GoodIn big ws := by
  intro w hw
  have h1 := List.all_eq_true.mp h w hw
  rw [hp] at hw
  obtain ⟨i, -, hi⟩ := List.mem_filterMap.mp hw
  have hm : w ∈ big := by first | exact List.mem_of_getElem? hi | exact List.getElem?_mem hi
  exact ⟨hm, good_of_word h1⟩
theorem goodIn_app {big a b : List Cond} (ha : GoodIn big a) (hb : GoodIn big b) : GoodIn big (a ++ b) := fun w h => (List.mem_append.mp h).elim (ha w) (hb w)
theorem goodIn_ca {big a b : List Cond} {c : Cond} (ha : GoodIn big (c :: a)) (hb : GoodIn big b) : GoodIn big (c :: (a ++ b)) := fun w h => (List.mem_cons.mp h).elim (fun e => ha w (List.mem_cons.mpr (Or.inl e))) (fun h => (List.mem_append.mp h).elim (fun h => ha w (List.mem_cons.mpr (Or.inr h))) (hb w))
theorem goodIn_sub {big ws : List Cond} (hm : ∀ w ∈ ws, w ∈ big) (h : ws.all goodWord = true) : GoodIn big ws := fun w hw => ⟨hm w hw, good_of_word (List.all_eq_true.mp h w hw)⟩
/-! ===== END ===== -/

/-! ===== BEGIN printed: names, fields, word lists, decode rows ===== -/
def RX0 : String := "DoorKeys$Doors"
def TX0 : u_T := fun k => match k with
  | 0 => ("DoorKeys$Doors", "states", "[I", true)
  | 1 => ("DoorKeys$Doors", "timeTold", "J", false)
  | _ => ("DoorKeys$Doors", "shutSince", "J", false)
def tyX0 : Nat → FieldType := fun k => match k with
  | 0 => .array .int
  | 1 => .long
  | _ => .long
abbrev wsX00 : List Cond := u_ws RX0 TX0 3
theorem nmX0 : ∀ a, a < 3 → ∀ b, b < 3 → a ≠ b → (TX0 a).2.1 ≠ (TX0 b).2.1 := by decide +kernel
theorem tyX0_ok : ∀ k, k < 3 → parseFieldDescriptor (TX0 k).2.2.1 = some (tyX0 k) := by decide +kernel
abbrev cX0_init : ByteArray := prog_2_method_1_code
def yX0_init : MethodName := ⟨RX0, "<init>", "()V"⟩
abbrev cX0_has : ByteArray := prog_2_method_2_code
def yX0_has : MethodName := ⟨RX0, "has", "(I)Z"⟩
abbrev cX0_hasAny : ByteArray := prog_2_method_3_code
def yX0_hasAny : MethodName := ⟨RX0, "hasAny", "(I)Z"⟩
abbrev cX0_isGuarded : ByteArray := prog_2_method_4_code
def yX0_isGuarded : MethodName := ⟨RX0, "isGuarded", "()Z"⟩
abbrev cX0_openAll : ByteArray := prog_2_method_5_code
def yX0_openAll : MethodName := ⟨RX0, "openAll", "()I"⟩
abbrev cX0_openOne : ByteArray := prog_2_method_6_code
def yX0_openOne : MethodName := ⟨RX0, "openOne", "(I)V"⟩
abbrev cX0_openBootUnlessDead : ByteArray := prog_2_method_7_code
def yX0_openBootUnlessDead : MethodName := ⟨RX0, "openBootUnlessDead", "()V"⟩
abbrev cX0_shutAll : ByteArray := prog_2_method_8_code
def yX0_shutAll : MethodName := ⟨RX0, "shutAll", "()I"⟩
abbrev cX0_shutBoot : ByteArray := prog_2_method_9_code
def yX0_shutBoot : MethodName := ⟨RX0, "shutBoot", "()I"⟩
abbrev cX0_deadenUnlessOpen : ByteArray := prog_2_method_10_code
def yX0_deadenUnlessOpen : MethodName := ⟨RX0, "deadenUnlessOpen", "()I"⟩
abbrev cX0_nearestTo : ByteArray := prog_2_method_11_code
def yX0_nearestTo : MethodName := ⟨RX0, "nearestTo", "(JJ)I"⟩
abbrev cX0_turn : ByteArray := prog_2_method_12_code
def yX0_turn : MethodName := ⟨RX0, "turn", "(II)I"⟩
abbrev cX0_noteShut : ByteArray := prog_2_method_13_code
def yX0_noteShut : MethodName := ⟨RX0, "noteShut", "(I)V"⟩
def RX1 : String := "DoorKeys$Frame"
def TX1 : u_T := fun k => match k with
  | 0 => ("DoorKeys$Frame", "octets", "[B", true)
  | _ => ("DoorKeys$Frame", "kept", "I", false)
def tyX1 : Nat → FieldType := fun k => match k with
  | 0 => .array .byte
  | _ => .int
abbrev wsX10 : List Cond := u_ws RX1 TX1 2
theorem nmX1 : ∀ a, a < 2 → ∀ b, b < 2 → a ≠ b → (TX1 a).2.1 ≠ (TX1 b).2.1 := by decide +kernel
theorem tyX1_ok : ∀ k, k < 2 → parseFieldDescriptor (TX1 k).2.2.1 = some (tyX1 k) := by decide +kernel
abbrev cX1_init : ByteArray := prog_3_method_1_code
def yX1_init : MethodName := ⟨RX1, "<init>", "()V"⟩
abbrev cX1_clear : ByteArray := prog_3_method_2_code
def yX1_clear : MethodName := ⟨RX1, "clear", "()V"⟩
abbrev cX1_keep : ByteArray := prog_3_method_3_code
def yX1_keep : MethodName := ⟨RX1, "keep", "(B)V"⟩
abbrev cX1_has : ByteArray := prog_3_method_4_code
def yX1_has : MethodName := ⟨RX1, "has", "(I)Z"⟩
abbrev cX1_isSound : ByteArray := prog_3_method_5_code
def yX1_isSound : MethodName := ⟨RX1, "isSound", "()Z"⟩
abbrev cX1_sender : ByteArray := prog_3_method_6_code
def yX1_sender : MethodName := ⟨RX1, "sender", "()I"⟩
abbrev cX1_command : ByteArray := prog_3_method_7_code
def yX1_command : MethodName := ⟨RX1, "command", "()I"⟩
abbrev cX1_code : ByteArray := prog_3_method_8_code
def yX1_code : MethodName := ⟨RX1, "code", "()J"⟩
abbrev cX1_flags : ByteArray := prog_3_method_9_code
def yX1_flags : MethodName := ⟨RX1, "flags", "()I"⟩
abbrev cX1_unsigned : ByteArray := prog_3_method_10_code
def yX1_unsigned : MethodName := ⟨RX1, "unsigned", "(I)I"⟩
def RX2 : String := "DoorKeys$Key"
def TX2 : u_T := fun k => match k with
  | 0 => ("DoorKeys$Key", "secret", "J", true)
  | 1 => ("DoorKeys$Key", "counter", "I", false)
  | 2 => ("DoorKeys$Key", "awaited", "I", false)
  | 3 => ("DoorKeys$Key", "learned", "Z", false)
  | 4 => ("DoorKeys$Key", "near", "Z", false)
  | 5 => ("DoorKeys$Key", "inside", "Z", false)
  | _ => ("DoorKeys$Key", "lowBattery", "I", false)
def tyX2 : Nat → FieldType := fun k => match k with
  | 0 => .long
  | 1 => .int
  | 2 => .int
  | 3 => .boolean
  | 4 => .boolean
  | 5 => .boolean
  | _ => .int
abbrev wsX20 : List Cond := u_ws RX2 TX2 7
theorem nmX2 : ∀ a, a < 7 → ∀ b, b < 7 → a ≠ b → (TX2 a).2.1 ≠ (TX2 b).2.1 := by decide +kernel
theorem tyX2_ok : ∀ k, k < 7 → parseFieldDescriptor (TX2 k).2.2.1 = some (tyX2 k) := by decide +kernel
abbrev cX2_init : ByteArray := prog_4_method_1_code
def yX2_init : MethodName := ⟨RX2, "<init>", "(JIZ)V"⟩
abbrev cX2_isAtHand : ByteArray := prog_4_method_2_code
def yX2_isAtHand : MethodName := ⟨RX2, "isAtHand", "()Z"⟩
abbrev cX2_mayTeach : ByteArray := prog_4_method_3_code
def yX2_mayTeach : MethodName := ⟨RX2, "mayTeach", "()Z"⟩
abbrev cX2_roll : ByteArray := prog_4_method_4_code
def yX2_roll : MethodName := ⟨RX2, "roll", "(II)I"⟩
abbrev cX2_sign : ByteArray := prog_4_method_5_code
def yX2_sign : MethodName := ⟨RX2, "sign", "()I"⟩
abbrev cX2_encipher : ByteArray := prog_4_method_6_code
def yX2_encipher : MethodName := ⟨RX2, "encipher", "(J)J"⟩
abbrev cX2_decipher : ByteArray := prog_4_method_7_code
def yX2_decipher : MethodName := ⟨RX2, "decipher", "(J)J"⟩
abbrev cX2_mix : ByteArray := prog_4_method_8_code
def yX2_mix : MethodName := ⟨RX2, "mix", "(II)I"⟩
abbrev cX2_part : ByteArray := prog_4_method_9_code
def yX2_part : MethodName := ⟨RX2, "part", "(I)I"⟩
abbrev cX2_joined : ByteArray := prog_4_method_10_code
def yX2_joined : MethodName := ⟨RX2, "joined", "(II)J"⟩
def RX3 : String := "DoorKeys"
def TX3 : u_T := fun k => match k with
  | 0 => ("DoorKeys", "span", "I", true)
  | 1 => ("DoorKeys", "keys", "[LDoorKeys$Key;", true)
  | 2 => ("DoorKeys", "keyCount", "I", false)
  | 3 => ("DoorKeys", "coming", "LDoorKeys$Frame;", false)
  | 4 => ("DoorKeys", "ended", "LDoorKeys$Frame;", false)
  | 5 => ("DoorKeys", "doors", "LDoorKeys$Doors;", true)
  | 6 => ("DoorKeys", "crashed", "Z", false)
  | 7 => ("DoorKeys", "relays", "I", false)
  | _ => ("DoorKeys", "questions", "I", false)
def tyX3 : Nat → FieldType := fun k => match k with
  | 0 => .int
  | 1 => .array (.object "DoorKeys$Key")
  | 2 => .int
  | 3 => .object "DoorKeys$Frame"
  | 4 => .object "DoorKeys$Frame"
  | 5 => .object "DoorKeys$Doors"
  | 6 => .boolean
  | 7 => .int
  | _ => .int
abbrev wsX30 : List Cond := u_ws RX3 TX3 9
theorem nmX3 : ∀ a, a < 9 → ∀ b, b < 9 → a ≠ b → (TX3 a).2.1 ≠ (TX3 b).2.1 := by decide +kernel
theorem tyX3_ok : ∀ k, k < 9 → parseFieldDescriptor (TX3 k).2.2.1 = some (tyX3 k) := by decide +kernel
abbrev cX3_init : ByteArray := prog_1_method_1_code
def yX3_init : MethodName := ⟨RX3, "<init>", "(I)V"⟩
abbrev cX3_key : ByteArray := prog_1_method_2_code
def yX3_key : MethodName := ⟨RX3, "key", "(JJ)I"⟩
abbrev cX3_remote : ByteArray := prog_1_method_3_code
def yX3_remote : MethodName := ⟨RX3, "remote", "(BZ)I"⟩
abbrev cX3_counter : ByteArray := prog_1_method_4_code
def yX3_counter : MethodName := ⟨RX3, "counter", "(I)J"⟩
abbrev cX3_lock : ByteArray := prog_1_method_5_code
def yX3_lock : MethodName := ⟨RX3, "lock", "(I)I"⟩
abbrev cX3_learn : ByteArray := prog_1_method_6_code
def yX3_learn : MethodName := ⟨RX3, "learn", "(III)I"⟩
abbrev cX3_erase : ByteArray := prog_1_method_7_code
def yX3_erase : MethodName := ⟨RX3, "erase", "(I)I"⟩
abbrev cX3_field : ByteArray := prog_1_method_8_code
def yX3_field : MethodName := ⟨RX3, "field", "(IJJJ)I"⟩
abbrev cX3_start : ByteArray := prog_1_method_9_code
def yX3_start : MethodName := ⟨RX3, "start", "(IJ)I"⟩
abbrev cX3_crash : ByteArray := prog_1_method_10_code
def yX3_crash : MethodName := ⟨RX3, "crash", "()I"⟩
abbrev cX3_alarm : ByteArray := prog_1_method_11_code
def yX3_alarm : MethodName := ⟨RX3, "alarm", "(IJ)I"⟩
abbrev cX3_battery : ByteArray := prog_1_method_12_code
def yX3_battery : MethodName := ⟨RX3, "battery", "(I)I"⟩
abbrev cX3_octet : ByteArray := prog_1_method_13_code
def yX3_octet : MethodName := ⟨RX3, "octet", "(I)B"⟩
abbrev cX3_state : ByteArray := prog_1_method_14_code
def yX3_state : MethodName := ⟨RX3, "state", "(I)I"⟩
abbrev cX3_find : ByteArray := prog_1_method_15_code
def yX3_find : MethodName := ⟨RX3, "find", "(I)LDoorKeys$Key;"⟩
abbrev cX3_isSecretOfAKey : ByteArray := prog_1_method_16_code
def yX3_isSecretOfAKey : MethodName := ⟨RX3, "isSecretOfAKey", "(J)Z"⟩
abbrev cX3_learnedKeys : ByteArray := prog_1_method_17_code
def yX3_learnedKeys : MethodName := ⟨RX3, "learnedKeys", "()I"⟩
abbrev cX3_judge : ByteArray := prog_1_method_18_code
def yX3_judge : MethodName := ⟨RX3, "judge", "(LDoorKeys$Frame;)I"⟩
abbrev cX3_obey : ByteArray := prog_1_method_19_code
def yX3_obey : MethodName := ⟨RX3, "obey", "(I)V"⟩
abbrev cX3_isWithin : ByteArray := prog_1_method_20_code
def yX3_isWithin : MethodName := ⟨RX3, "isWithin", "(JJ)Z"⟩
def RX4 : String := "DoorKeysModel"
def TX4 : u_T := fun k => match k with
  | 0 => ("DoorKeysModel", "code", "I", false)
  | 1 => ("DoorKeysModel", "span", "I", true)
  | 2 => ("DoorKeysModel", "keys", "I", false)
  | 3 => ("DoorKeysModel", "secret", "[J", true)
  | 4 => ("DoorKeysModel", "counter", "[I", true)
  | 5 => ("DoorKeysModel", "awaited", "[I", true)
  | 6 => ("DoorKeysModel", "learned", "[Z", true)
  | 7 => ("DoorKeysModel", "near", "[Z", true)
  | 8 => ("DoorKeysModel", "inside", "[Z", true)
  | 9 => ("DoorKeysModel", "battery", "[I", true)
  | 10 => ("DoorKeysModel", "door", "[I", true)
  | 11 => ("DoorKeysModel", "crashed", "Z", false)
  | 12 => ("DoorKeysModel", "now", "J", false)
  | 13 => ("DoorKeysModel", "closed", "J", false)
  | 14 => ("DoorKeysModel", "given", "I", false)
  | 15 => ("DoorKeysModel", "under", "[I", true)
  | 16 => ("DoorKeysModel", "size", "I", false)
  | 17 => ("DoorKeysModel", "frame", "[I", true)
  | 18 => ("DoorKeysModel", "relays", "I", false)
  | _ => ("DoorKeysModel", "questions", "I", false)
def tyX4 : Nat → FieldType := fun k => match k with
  | 0 => .int
  | 1 => .int
  | 2 => .int
  | 3 => .array .long
  | 4 => .array .int
  | 5 => .array .int
  | 6 => .array .boolean
  | 7 => .array .boolean
  | 8 => .array .boolean
  | 9 => .array .int
  | 10 => .array .int
  | 11 => .boolean
  | 12 => .long
  | 13 => .long
  | 14 => .int
  | 15 => .array .int
  | 16 => .int
  | 17 => .array .int
  | 18 => .int
  | _ => .int
abbrev wsX40 : List Cond := u_ws RX4 TX4 20
theorem nmX4 : ∀ a, a < 20 → ∀ b, b < 20 → a ≠ b → (TX4 a).2.1 ≠ (TX4 b).2.1 := by decide +kernel
theorem tyX4_ok : ∀ k, k < 20 → parseFieldDescriptor (TX4 k).2.2.1 = some (tyX4 k) := by decide +kernel
abbrev cX4_init : ByteArray := prog_6_method_1_code
def yX4_init : MethodName := ⟨RX4, "<init>", "(I)V"⟩
abbrev cX4_thrown : ByteArray := prog_6_method_2_code
def yX4_thrown : MethodName := ⟨RX4, "thrown", "()I"⟩
abbrev cX4_none : ByteArray := prog_6_method_3_code
def yX4_none : MethodName := ⟨RX4, "none", "(I)Z"⟩
abbrev cX4_rounds : ByteArray := prog_6_method_4_code
def yX4_rounds : MethodName := ⟨RX4, "rounds", "(JIIZ)I"⟩
abbrev cX4_sign : ByteArray := prog_6_method_5_code
def yX4_sign : MethodName := ⟨RX4, "sign", "(J)I"⟩
abbrev cX4_back : ByteArray := prog_6_method_6_code
def yX4_back : MethodName := ⟨RX4, "back", "(JI)I"⟩
abbrev cX4_key : ByteArray := prog_6_method_7_code
def yX4_key : MethodName := ⟨RX4, "key", "(JJ)I"⟩
abbrev cX4_some : ByteArray := prog_6_method_8_code
def yX4_some : MethodName := ⟨RX4, "some", "(I)Z"⟩
abbrev cX4_turn : ByteArray := prog_6_method_9_code
def yX4_turn : MethodName := ⟨RX4, "turn", "(IIII)I"⟩
abbrev cX4_command : ByteArray := prog_6_method_10_code
def yX4_command : MethodName := ⟨RX4, "command", "(I)V"⟩
abbrev cX4_remote : ByteArray := prog_6_method_11_code
def yX4_remote : MethodName := ⟨RX4, "remote", "(BZ)I"⟩
abbrev cX4_counter : ByteArray := prog_6_method_12_code
def yX4_counter : MethodName := ⟨RX4, "counter", "(I)J"⟩
abbrev cX4_lock : ByteArray := prog_6_method_13_code
def yX4_lock : MethodName := ⟨RX4, "lock", "(I)I"⟩
abbrev cX4_here : ByteArray := prog_6_method_14_code
def yX4_here : MethodName := ⟨RX4, "here", "(I)Z"⟩
abbrev cX4_learn : ByteArray := prog_6_method_15_code
def yX4_learn : MethodName := ⟨RX4, "learn", "(III)I"⟩
abbrev cX4_erase : ByteArray := prog_6_method_16_code
def yX4_erase : MethodName := ⟨RX4, "erase", "(I)I"⟩
abbrev cX4_far : ByteArray := prog_6_method_17_code
def yX4_far : MethodName := ⟨RX4, "far", "(IJJ)J"⟩
abbrev cX4_field : ByteArray := prog_6_method_18_code
def yX4_field : MethodName := ⟨RX4, "field", "(IJJJ)I"⟩
abbrev cX4_start : ByteArray := prog_6_method_19_code
def yX4_start : MethodName := ⟨RX4, "start", "(IJ)I"⟩
abbrev cX4_crash : ByteArray := prog_6_method_20_code
def yX4_crash : MethodName := ⟨RX4, "crash", "()I"⟩
abbrev cX4_alarm : ByteArray := prog_6_method_21_code
def yX4_alarm : MethodName := ⟨RX4, "alarm", "(IJ)I"⟩
abbrev cX4_battery : ByteArray := prog_6_method_22_code
def yX4_battery : MethodName := ⟨RX4, "battery", "(I)I"⟩
abbrev cX4_octet : ByteArray := prog_6_method_23_code
def yX4_octet : MethodName := ⟨RX4, "octet", "(I)B"⟩
abbrev cX4_state : ByteArray := prog_6_method_24_code
def yX4_state : MethodName := ⟨RX4, "state", "(I)I"⟩
def RJx00060 : String := "java/lang/ArrayIndexOutOfBoundsException"
def TJx00060 : u_T := fun k => match k with
  | 0 => ("java/lang/Throwable", "cause", "Ljava/lang/Throwable;", false)
  | 1 => ("java/lang/Throwable", "stackTrace", "[Ljava/lang/StackTraceElement;", false)
  | 2 => ("java/lang/Throwable", "suppressedExceptions", "Ljava/util/List;", false)
  | 3 => ("java/lang/Throwable", "detailMessage", "Ljava/lang/String;", false)
  | 4 => ("java/lang/Throwable", "backtrace", "Ljava/lang/Object;", false)
  | _ => ("java/lang/Throwable", "depth", "I", false)
def tyJx00060 : Nat → FieldType := fun k => match k with
  | 0 => .object "java/lang/Throwable"
  | 1 => .array (.object "java/lang/StackTraceElement")
  | 2 => .object "java/util/List"
  | 3 => .object "java/lang/String"
  | 4 => .object "java/lang/Object"
  | _ => .int
abbrev wsJx000600 : List Cond := u_ws RJx00060 TJx00060 6
theorem nmJx00060 : ∀ a, a < 6 → ∀ b, b < 6 → a ≠ b → (TJx00060 a).2.1 ≠ (TJx00060 b).2.1 := by decide +kernel
theorem tyJx00060_ok : ∀ k, k < 6 → parseFieldDescriptor (TJx00060 k).2.2.1 = some (tyJx00060 k) := by decide +kernel
abbrev cJx00060_init_da8c8 : ByteArray := prog_7_method_1_code
def yJx00060_init_da8c8 : MethodName := ⟨RJx00060, "<init>", "()V"⟩
def RL : String := "DoorKeysLaw"
abbrev cL_cell : ByteArray := method_2_code
def yL_cell : MethodName := ⟨RL, "cell", "([II)I"⟩
abbrev cL_octet : ByteArray := method_3_code
def yL_octet : MethodName := ⟨RL, "octet", "(LDoorKeys;I[J)I"⟩
abbrev cL_law : ByteArray := code
def yL_law : MethodName := ⟨RL, "law", "([I)Z"⟩
def wsX0_init : List Cond := .code yX0_init cX0_init 2 none :: ([.methodLink RX0 3 objectInit, .instanceMethod objectInit, .code objectInit ⟨#[0xb1]⟩ 1 none, .arrayClass .int, .fieldLink RX0 11 "DoorKeys$Doors" "states" "[I"] ++ wsX00)
def wsX0_has : List Cond := .code yX0_has cX0_has 2 (some .boolean) :: ([.fieldLink RX0 11 "DoorKeys$Doors" "states" "[I"] ++ wsX00)
def wsX0_hasAny : List Cond := .code yX0_hasAny cX0_hasAny 3 (some .boolean) :: ([.fieldLink RX0 11 "DoorKeys$Doors" "states" "[I"] ++ wsX00)
def wsX0_isGuarded : List Cond := .code yX0_isGuarded cX0_isGuarded 1 (some .boolean) :: ([.fieldLink RX0 19 "DoorKeys$Doors" "timeTold" "J", .fieldLink RX0 23 "DoorKeys$Doors" "shutSince" "J", .constantLong RX0 26 (30), .methodLink RX0 15 yX0_hasAny, .instanceMethod yX0_hasAny, .selects RX0 yX0_hasAny yX0_hasAny, .initialized RX0, .code yX0_hasAny cX0_hasAny 3 (some .boolean), .fieldLink RX0 11 "DoorKeys$Doors" "states" "[I"] ++ wsX00)
def wsX0_turn : List Cond := .code yX0_turn cX0_turn 5 (some .int) :: ([.fieldLink RX0 11 "DoorKeys$Doors" "states" "[I"] ++ wsX00)
def wsX0_openAll : List Cond := .code yX0_openAll cX0_openAll 1 (some .int) :: ([.methodLink RX0 28 yX0_turn, .instanceMethod yX0_turn, .selects RX0 yX0_turn yX0_turn, .initialized RX0, .code yX0_turn cX0_turn 5 (some .int), .fieldLink RX0 11 "DoorKeys$Doors" "states" "[I"] ++ wsX00)
def wsX0_openOne : List Cond := .code yX0_openOne cX0_openOne 2 none :: ([.fieldLink RX0 11 "DoorKeys$Doors" "states" "[I", .methodLink RX0 32 yX0_has, .instanceMethod yX0_has, .selects RX0 yX0_has yX0_has, .initialized RX0, .code yX0_has cX0_has 2 (some .boolean)] ++ wsX00)
def wsX0_openBootUnlessDead : List Cond := .code yX0_openBootUnlessDead cX0_openBootUnlessDead 1 none :: ([.fieldLink RX0 11 "DoorKeys$Doors" "states" "[I"] ++ wsX00)
def wsX0_noteShut : List Cond := .code yX0_noteShut cX0_noteShut 2 none :: ([.fieldLink RX0 19 "DoorKeys$Doors" "timeTold" "J", .fieldLink RX0 23 "DoorKeys$Doors" "shutSince" "J", .methodLink RX0 15 yX0_hasAny, .instanceMethod yX0_hasAny, .selects RX0 yX0_hasAny yX0_hasAny, .initialized RX0, .code yX0_hasAny cX0_hasAny 3 (some .boolean), .fieldLink RX0 11 "DoorKeys$Doors" "states" "[I"] ++ wsX00)
def wsX0_shutAll : List Cond := .code yX0_shutAll cX0_shutAll 2 (some .int) :: ([.methodLink RX0 28 yX0_turn, .instanceMethod yX0_turn, .selects RX0 yX0_turn yX0_turn, .initialized RX0, .code yX0_turn cX0_turn 5 (some .int), .fieldLink RX0 11 "DoorKeys$Doors" "states" "[I", .methodLink RX0 35 yX0_noteShut, .instanceMethod yX0_noteShut, .selects RX0 yX0_noteShut yX0_noteShut, .code yX0_noteShut cX0_noteShut 2 none, .fieldLink RX0 19 "DoorKeys$Doors" "timeTold" "J", .fieldLink RX0 23 "DoorKeys$Doors" "shutSince" "J", .methodLink RX0 15 yX0_hasAny, .instanceMethod yX0_hasAny, .selects RX0 yX0_hasAny yX0_hasAny, .code yX0_hasAny cX0_hasAny 3 (some .boolean)] ++ wsX00)
def wsX0_shutBoot : List Cond := .code yX0_shutBoot cX0_shutBoot 1 (some .int) :: ([.fieldLink RX0 11 "DoorKeys$Doors" "states" "[I", .methodLink RX0 35 yX0_noteShut, .instanceMethod yX0_noteShut, .selects RX0 yX0_noteShut yX0_noteShut, .initialized RX0, .code yX0_noteShut cX0_noteShut 2 none, .fieldLink RX0 19 "DoorKeys$Doors" "timeTold" "J", .fieldLink RX0 23 "DoorKeys$Doors" "shutSince" "J", .methodLink RX0 15 yX0_hasAny, .instanceMethod yX0_hasAny, .selects RX0 yX0_hasAny yX0_hasAny, .code yX0_hasAny cX0_hasAny 3 (some .boolean)] ++ wsX00)
def wsX0_deadenUnlessOpen : List Cond := .code yX0_deadenUnlessOpen cX0_deadenUnlessOpen 1 (some .int) :: ([.methodLink RX0 15 yX0_hasAny, .instanceMethod yX0_hasAny, .selects RX0 yX0_hasAny yX0_hasAny, .initialized RX0, .code yX0_hasAny cX0_hasAny 3 (some .boolean), .fieldLink RX0 11 "DoorKeys$Doors" "states" "[I", .methodLink RX0 28 yX0_turn, .instanceMethod yX0_turn, .selects RX0 yX0_turn yX0_turn, .code yX0_turn cX0_turn 5 (some .int)] ++ wsX00)
def wsX0_nearestTo : List Cond := .code yX0_nearestTo cX0_nearestTo 15 (some .int) :: ([.constantLong RX0 39 (2250001), .fieldLink RX0 41 "DoorKeys$Doors" "PLACE_X" "[I", .fieldLink RX0 44 "DoorKeys$Doors" "PLACE_Y" "[I"])
def wsX1_init : List Cond := .code yX1_init cX1_init 1 none :: ([.methodLink RX1 1 objectInit, .instanceMethod objectInit, .code objectInit ⟨#[0xb1]⟩ 1 none, .arrayClass .byte, .fieldLink RX1 9 "DoorKeys$Frame" "octets" "[B"] ++ wsX10)
def wsX1_clear : List Cond := .code yX1_clear cX1_clear 1 none :: ([.fieldLink RX1 13 "DoorKeys$Frame" "kept" "I"] ++ wsX10)
def wsX1_keep : List Cond := .code yX1_keep cX1_keep 2 none :: ([.fieldLink RX1 13 "DoorKeys$Frame" "kept" "I", .fieldLink RX1 9 "DoorKeys$Frame" "octets" "[B"] ++ wsX10)
def wsX1_has : List Cond := .code yX1_has cX1_has 2 (some .boolean) :: ([.fieldLink RX1 13 "DoorKeys$Frame" "kept" "I", .fieldLink RX1 9 "DoorKeys$Frame" "octets" "[B"] ++ wsX10)
def wsX1_unsigned : List Cond := .code yX1_unsigned cX1_unsigned 2 (some .int) :: ([.fieldLink RX1 9 "DoorKeys$Frame" "octets" "[B", .methodLink RX1 23 yX1_has, .instanceMethod yX1_has, .selects RX1 yX1_has yX1_has, .initialized RX1, .code yX1_has cX1_has 2 (some .boolean), .fieldLink RX1 13 "DoorKeys$Frame" "kept" "I"] ++ wsX10)
def wsX1_isSound : List Cond := .code yX1_isSound cX1_isSound 3 (some .boolean) :: ([.fieldLink RX1 13 "DoorKeys$Frame" "kept" "I", .methodLink RX1 17 yX1_unsigned, .instanceMethod yX1_unsigned, .selects RX1 yX1_unsigned yX1_unsigned, .initialized RX1, .code yX1_unsigned cX1_unsigned 2 (some .int), .fieldLink RX1 9 "DoorKeys$Frame" "octets" "[B", .methodLink RX1 23 yX1_has, .instanceMethod yX1_has, .selects RX1 yX1_has yX1_has, .code yX1_has cX1_has 2 (some .boolean)] ++ wsX10)
def wsX1_sender : List Cond := .code yX1_sender cX1_sender 1 (some .int) :: ([.methodLink RX1 17 yX1_unsigned, .instanceMethod yX1_unsigned, .selects RX1 yX1_unsigned yX1_unsigned, .initialized RX1, .code yX1_unsigned cX1_unsigned 2 (some .int), .fieldLink RX1 9 "DoorKeys$Frame" "octets" "[B", .methodLink RX1 23 yX1_has, .instanceMethod yX1_has, .selects RX1 yX1_has yX1_has, .code yX1_has cX1_has 2 (some .boolean), .fieldLink RX1 13 "DoorKeys$Frame" "kept" "I"] ++ wsX10)
def wsX1_command : List Cond := .code yX1_command cX1_command 1 (some .int) :: ([.methodLink RX1 17 yX1_unsigned, .instanceMethod yX1_unsigned, .selects RX1 yX1_unsigned yX1_unsigned, .initialized RX1, .code yX1_unsigned cX1_unsigned 2 (some .int), .fieldLink RX1 9 "DoorKeys$Frame" "octets" "[B", .methodLink RX1 23 yX1_has, .instanceMethod yX1_has, .selects RX1 yX1_has yX1_has, .code yX1_has cX1_has 2 (some .boolean), .fieldLink RX1 13 "DoorKeys$Frame" "kept" "I"] ++ wsX10)
def wsX1_code : List Cond := .code yX1_code cX1_code 4 (some .long) :: ([.constantLong RX1 21 (256), .methodLink RX1 17 yX1_unsigned, .instanceMethod yX1_unsigned, .selects RX1 yX1_unsigned yX1_unsigned, .initialized RX1, .code yX1_unsigned cX1_unsigned 2 (some .int), .fieldLink RX1 9 "DoorKeys$Frame" "octets" "[B", .methodLink RX1 23 yX1_has, .instanceMethod yX1_has, .selects RX1 yX1_has yX1_has, .code yX1_has cX1_has 2 (some .boolean), .fieldLink RX1 13 "DoorKeys$Frame" "kept" "I"] ++ wsX10)
def wsX1_flags : List Cond := .code yX1_flags cX1_flags 1 (some .int) :: ([.methodLink RX1 17 yX1_unsigned, .instanceMethod yX1_unsigned, .selects RX1 yX1_unsigned yX1_unsigned, .initialized RX1, .code yX1_unsigned cX1_unsigned 2 (some .int), .fieldLink RX1 9 "DoorKeys$Frame" "octets" "[B", .methodLink RX1 23 yX1_has, .instanceMethod yX1_has, .selects RX1 yX1_has yX1_has, .code yX1_has cX1_has 2 (some .boolean), .fieldLink RX1 13 "DoorKeys$Frame" "kept" "I"] ++ wsX10)
def wsX2_init : List Cond := .code yX2_init cX2_init 5 none :: ([.methodLink RX2 3 objectInit, .instanceMethod objectInit, .code objectInit ⟨#[0xb1]⟩ 1 none, .fieldLink RX2 9 "DoorKeys$Key" "secret" "J", .fieldLink RX2 15 "DoorKeys$Key" "counter" "I", .fieldLink RX2 19 "DoorKeys$Key" "awaited" "I", .fieldLink RX2 22 "DoorKeys$Key" "learned" "Z"] ++ wsX20)
def wsX2_isAtHand : List Cond := .code yX2_isAtHand cX2_isAtHand 1 (some .boolean) :: ([.fieldLink RX2 26 "DoorKeys$Key" "near" "Z", .fieldLink RX2 29 "DoorKeys$Key" "inside" "Z"] ++ wsX20)
def wsX2_mayTeach : List Cond := .code yX2_mayTeach cX2_mayTeach 1 (some .boolean) :: ([.fieldLink RX2 22 "DoorKeys$Key" "learned" "Z", .methodLink RX2 32 yX2_isAtHand, .instanceMethod yX2_isAtHand, .selects RX2 yX2_isAtHand yX2_isAtHand, .initialized RX2, .code yX2_isAtHand cX2_isAtHand 1 (some .boolean), .fieldLink RX2 26 "DoorKeys$Key" "near" "Z", .fieldLink RX2 29 "DoorKeys$Key" "inside" "Z"] ++ wsX20)
def wsX2_roll : List Cond := .code yX2_roll cX2_roll 4 (some .int) :: ([.fieldLink RX2 15 "DoorKeys$Key" "counter" "I", .constant RX2 36 (65535), .constant RX2 37 (32768), .fieldLink RX2 19 "DoorKeys$Key" "awaited" "I"] ++ wsX20)
def wsX2_part : List Cond := .code yX2_part cX2_part 2 (some .int) :: ([.fieldLink RX2 9 "DoorKeys$Key" "secret" "J", .constant RX2 36 (65535)] ++ wsX20)
def wsX2_sign : List Cond := .code yX2_sign cX2_sign 1 (some .int) :: ([.methodLink RX2 38 yX2_part, .instanceMethod yX2_part, .selects RX2 yX2_part yX2_part, .initialized RX2, .code yX2_part cX2_part 2 (some .int), .fieldLink RX2 9 "DoorKeys$Key" "secret" "J", .constant RX2 36 (65535)] ++ wsX20)
def wsX2_mix : List Cond := .code yX2_mix cX2_mix 5 (some .int) :: ([.constant RX2 50 (40503), .constant RX2 36 (65535), .methodLink RX2 38 yX2_part, .instanceMethod yX2_part, .selects RX2 yX2_part yX2_part, .initialized RX2, .code yX2_part cX2_part 2 (some .int), .fieldLink RX2 9 "DoorKeys$Key" "secret" "J"] ++ wsX20)
def wsX2_joined : List Cond := .code yX2_joined cX2_joined 2 (some .long) :: ([.constantLong RX2 51 (65536)])
def wsX2_encipher : List Cond := .code yX2_encipher cX2_encipher 7 (some .long) :: ([.constant RX2 36 (65535), .methodLink RX2 42 yX2_mix, .instanceMethod yX2_mix, .selects RX2 yX2_mix yX2_mix, .initialized RX2, .code yX2_mix cX2_mix 5 (some .int), .constant RX2 50 (40503), .methodLink RX2 38 yX2_part, .instanceMethod yX2_part, .selects RX2 yX2_part yX2_part, .code yX2_part cX2_part 2 (some .int), .fieldLink RX2 9 "DoorKeys$Key" "secret" "J", .methodLink RX2 46 yX2_joined, .static yX2_joined, .code yX2_joined cX2_joined 2 (some .long), .constantLong RX2 51 (65536)] ++ wsX20)
def wsX2_decipher : List Cond := .code yX2_decipher cX2_decipher 7 (some .long) :: ([.constant RX2 36 (65535), .methodLink RX2 42 yX2_mix, .instanceMethod yX2_mix, .selects RX2 yX2_mix yX2_mix, .initialized RX2, .code yX2_mix cX2_mix 5 (some .int), .constant RX2 50 (40503), .methodLink RX2 38 yX2_part, .instanceMethod yX2_part, .selects RX2 yX2_part yX2_part, .code yX2_part cX2_part 2 (some .int), .fieldLink RX2 9 "DoorKeys$Key" "secret" "J", .methodLink RX2 46 yX2_joined, .static yX2_joined, .code yX2_joined cX2_joined 2 (some .long), .constantLong RX2 51 (65536)] ++ wsX20)
def wsX3_init_r1 : List Cond := [Cond.methodLink RX3 1 objectInit, Cond.instanceMethod objectInit, Cond.code objectInit ⟨#[0xb1]⟩ 1 none, Cond.fieldLink RX3 9 "DoorKeys" "span" "I", Cond.classLink RX3 13 RX2, Cond.fieldLink RX3 15 "DoorKeys" "keys" "[LDoorKeys$Key;", Cond.classLink RX3 19 RX1, Cond.instantiable RX1 2, Cond.initialized RX1, Cond.fieldLink RX3 22 "DoorKeys" "coming" "LDoorKeys$Frame;", Cond.fieldLink RX3 26 "DoorKeys" "ended" "LDoorKeys$Frame;", Cond.classLink RX3 29 RX0, Cond.instantiable RX0 3, Cond.initialized RX0, Cond.fieldLink RX3 32 "DoorKeys" "doors" "LDoorKeys$Doors;", Cond.methodLink RX3 21 yX1_init, Cond.instanceMethod yX1_init, Cond.code yX1_init cX1_init 1 none, Cond.methodLink RX1 1 objectInit, Cond.arrayClass .byte, Cond.fieldLink RX1 9 "DoorKeys$Frame" "octets" "[B", Cond.methodLink RX3 31 yX0_init, Cond.instanceMethod yX0_init, Cond.code yX0_init cX0_init 2 none]
def wsX3_init_r2 : List Cond := [Cond.methodLink RX0 3 objectInit, Cond.arrayClass .int, Cond.fieldLink RX0 11 "DoorKeys$Doors" "states" "[I"]
def wsX3_init : List Cond := .code yX3_init cX3_init 2 none :: ((wsX3_init_r1 ++ wsX3_init_r2) ++ wsX30 ++ wsX10 ++ wsX00)
def wsX3_find : List Cond := .code yX3_find cX3_find 2 (some (.object "DoorKeys$Key")) :: ([.fieldLink RX3 42 "DoorKeys" "keyCount" "I", .fieldLink RX3 15 "DoorKeys" "keys" "[LDoorKeys$Key;"] ++ wsX30)
def wsX3_isSecretOfAKey : List Cond := .code yX3_isSecretOfAKey cX3_isSecretOfAKey 5 (some .boolean) :: ([.fieldLink RX3 42 "DoorKeys" "keyCount" "I", .fieldLink RX3 165 "DoorKeys$Key" "secret" "J", .methodLink RX3 59 yX3_find, .instanceMethod yX3_find, .selects RX3 yX3_find yX3_find, .initialized RX3, .code yX3_find cX3_find 2 (some (.object "DoorKeys$Key")), .fieldLink RX3 15 "DoorKeys" "keys" "[LDoorKeys$Key;"] ++ wsX30 ++ wsX20)
def wsX3_key_r1 : List Cond := [Cond.constantLong RX3 36 (65535), Cond.fieldLink RX3 42 "DoorKeys" "keyCount" "I", Cond.fieldLink RX3 15 "DoorKeys" "keys" "[LDoorKeys$Key;", Cond.classLink RX3 13 RX2, Cond.instantiable RX2 7, Cond.initialized RX2, Cond.methodLink RX3 38 yX3_isSecretOfAKey, Cond.instanceMethod yX3_isSecretOfAKey, Cond.selects RX3 yX3_isSecretOfAKey yX3_isSecretOfAKey, Cond.initialized RX3, Cond.code yX3_isSecretOfAKey cX3_isSecretOfAKey 5 (some .boolean), Cond.fieldLink RX3 165 "DoorKeys$Key" "secret" "J", Cond.methodLink RX3 59 yX3_find, Cond.instanceMethod yX3_find, Cond.selects RX3 yX3_find yX3_find, Cond.code yX3_find cX3_find 2 (some (.object "DoorKeys$Key")), Cond.methodLink RX3 45 yX2_init, Cond.instanceMethod yX2_init, Cond.code yX2_init cX2_init 5 none, Cond.methodLink RX2 3 objectInit, Cond.instanceMethod objectInit, Cond.code objectInit ⟨#[0xb1]⟩ 1 none, Cond.fieldLink RX2 9 "DoorKeys$Key" "secret" "J", Cond.fieldLink RX2 15 "DoorKeys$Key" "counter" "I"]
def wsX3_key_r2 : List Cond := [Cond.fieldLink RX2 19 "DoorKeys$Key" "awaited" "I", Cond.fieldLink RX2 22 "DoorKeys$Key" "learned" "Z"]
def wsX3_key : List Cond := .code yX3_key cX3_key 5 (some .int) :: ((wsX3_key_r1 ++ wsX3_key_r2) ++ wsX30 ++ wsX20)
def wsX3_obey_r1 : List Cond := [Cond.fieldLink RX3 32 "DoorKeys" "doors" "LDoorKeys$Doors;", Cond.fieldLink RX3 76 "DoorKeys" "crashed" "Z", Cond.methodLink RX3 72 yX0_openAll, Cond.instanceMethod yX0_openAll, Cond.selects RX0 yX0_openAll yX0_openAll, Cond.initialized RX0, Cond.code yX0_openAll cX0_openAll 1 (some .int), Cond.methodLink RX0 28 yX0_turn, Cond.instanceMethod yX0_turn, Cond.selects RX0 yX0_turn yX0_turn, Cond.code yX0_turn cX0_turn 5 (some .int), Cond.fieldLink RX0 11 "DoorKeys$Doors" "states" "[I", Cond.methodLink RX3 198 yX0_openBootUnlessDead, Cond.instanceMethod yX0_openBootUnlessDead, Cond.selects RX0 yX0_openBootUnlessDead yX0_openBootUnlessDead, Cond.code yX0_openBootUnlessDead cX0_openBootUnlessDead 1 none, Cond.methodLink RX3 86 yX0_shutAll, Cond.instanceMethod yX0_shutAll, Cond.selects RX0 yX0_shutAll yX0_shutAll, Cond.code yX0_shutAll cX0_shutAll 2 (some .int), Cond.methodLink RX0 35 yX0_noteShut, Cond.instanceMethod yX0_noteShut, Cond.selects RX0 yX0_noteShut yX0_noteShut, Cond.code yX0_noteShut cX0_noteShut 2 none]
def wsX3_obey_r2 : List Cond := [Cond.fieldLink RX0 19 "DoorKeys$Doors" "timeTold" "J", Cond.fieldLink RX0 23 "DoorKeys$Doors" "shutSince" "J", Cond.methodLink RX0 15 yX0_hasAny, Cond.instanceMethod yX0_hasAny, Cond.selects RX0 yX0_hasAny yX0_hasAny, Cond.code yX0_hasAny cX0_hasAny 3 (some .boolean), Cond.methodLink RX3 80 yX0_deadenUnlessOpen, Cond.instanceMethod yX0_deadenUnlessOpen, Cond.selects RX0 yX0_deadenUnlessOpen yX0_deadenUnlessOpen, Cond.code yX0_deadenUnlessOpen cX0_deadenUnlessOpen 1 (some .int)]
def wsX3_obey : List Cond := .code yX3_obey cX3_obey 2 none :: ((wsX3_obey_r1 ++ wsX3_obey_r2) ++ wsX30 ++ wsX00)
def wsX3_judge_r1 : List Cond := [Cond.fieldLink RX3 89 "DoorKeys$Key" "learned" "Z", Cond.constant RX3 187 (65535), Cond.fieldLink RX3 9 "DoorKeys" "span" "I", Cond.fieldLink RX3 147 "DoorKeys$Key" "lowBattery" "I", Cond.methodLink RX3 168 yX1_isSound, Cond.instanceMethod yX1_isSound, Cond.selects RX1 yX1_isSound yX1_isSound, Cond.initialized RX1, Cond.code yX1_isSound cX1_isSound 3 (some .boolean), Cond.fieldLink RX1 13 "DoorKeys$Frame" "kept" "I", Cond.methodLink RX1 17 yX1_unsigned, Cond.instanceMethod yX1_unsigned, Cond.selects RX1 yX1_unsigned yX1_unsigned, Cond.code yX1_unsigned cX1_unsigned 2 (some .int), Cond.fieldLink RX1 9 "DoorKeys$Frame" "octets" "[B", Cond.methodLink RX1 23 yX1_has, Cond.instanceMethod yX1_has, Cond.selects RX1 yX1_has yX1_has, Cond.code yX1_has cX1_has 2 (some .boolean), Cond.methodLink RX3 171 yX1_command, Cond.instanceMethod yX1_command, Cond.selects RX1 yX1_command yX1_command, Cond.code yX1_command cX1_command 1 (some .int), Cond.methodLink RX3 174 yX1_sender]
def wsX3_judge_r2 : List Cond := [Cond.instanceMethod yX1_sender, Cond.selects RX1 yX1_sender yX1_sender, Cond.code yX1_sender cX1_sender 1 (some .int), Cond.methodLink RX3 59 yX3_find, Cond.instanceMethod yX3_find, Cond.selects RX3 yX3_find yX3_find, Cond.initialized RX3, Cond.code yX3_find cX3_find 2 (some (.object "DoorKeys$Key")), Cond.fieldLink RX3 42 "DoorKeys" "keyCount" "I", Cond.fieldLink RX3 15 "DoorKeys" "keys" "[LDoorKeys$Key;", Cond.methodLink RX3 177 yX1_code, Cond.instanceMethod yX1_code, Cond.selects RX1 yX1_code yX1_code, Cond.code yX1_code cX1_code 4 (some .long), Cond.constantLong RX1 21 (256), Cond.methodLink RX3 181 yX2_decipher, Cond.instanceMethod yX2_decipher, Cond.selects RX2 yX2_decipher yX2_decipher, Cond.initialized RX2, Cond.code yX2_decipher cX2_decipher 7 (some .long), Cond.constant RX2 36 (65535), Cond.methodLink RX2 42 yX2_mix, Cond.instanceMethod yX2_mix, Cond.selects RX2 yX2_mix yX2_mix]
def wsX3_judge_r3 : List Cond := [Cond.code yX2_mix cX2_mix 5 (some .int), Cond.constant RX2 50 (40503), Cond.methodLink RX2 38 yX2_part, Cond.instanceMethod yX2_part, Cond.selects RX2 yX2_part yX2_part, Cond.code yX2_part cX2_part 2 (some .int), Cond.fieldLink RX2 9 "DoorKeys$Key" "secret" "J", Cond.methodLink RX2 46 yX2_joined, Cond.static yX2_joined, Cond.code yX2_joined cX2_joined 2 (some .long), Cond.constantLong RX2 51 (65536), Cond.methodLink RX3 184 yX2_sign, Cond.instanceMethod yX2_sign, Cond.selects RX2 yX2_sign yX2_sign, Cond.code yX2_sign cX2_sign 1 (some .int), Cond.methodLink RX3 188 yX2_roll, Cond.instanceMethod yX2_roll, Cond.selects RX2 yX2_roll yX2_roll, Cond.code yX2_roll cX2_roll 4 (some .int), Cond.fieldLink RX2 15 "DoorKeys$Key" "counter" "I", Cond.constant RX2 37 (32768), Cond.fieldLink RX2 19 "DoorKeys$Key" "awaited" "I", Cond.methodLink RX3 192 yX1_flags, Cond.instanceMethod yX1_flags]
def wsX3_judge_r4 : List Cond := [Cond.selects RX1 yX1_flags yX1_flags, Cond.code yX1_flags cX1_flags 1 (some .int), Cond.methodLink RX3 195 yX3_obey, Cond.instanceMethod yX3_obey, Cond.selects RX3 yX3_obey yX3_obey, Cond.code yX3_obey cX3_obey 2 none, Cond.fieldLink RX3 32 "DoorKeys" "doors" "LDoorKeys$Doors;", Cond.fieldLink RX3 76 "DoorKeys" "crashed" "Z", Cond.methodLink RX3 72 yX0_openAll, Cond.instanceMethod yX0_openAll, Cond.selects RX0 yX0_openAll yX0_openAll, Cond.initialized RX0, Cond.code yX0_openAll cX0_openAll 1 (some .int), Cond.methodLink RX0 28 yX0_turn, Cond.instanceMethod yX0_turn, Cond.selects RX0 yX0_turn yX0_turn, Cond.code yX0_turn cX0_turn 5 (some .int), Cond.fieldLink RX0 11 "DoorKeys$Doors" "states" "[I", Cond.methodLink RX3 198 yX0_openBootUnlessDead, Cond.instanceMethod yX0_openBootUnlessDead, Cond.selects RX0 yX0_openBootUnlessDead yX0_openBootUnlessDead, Cond.code yX0_openBootUnlessDead cX0_openBootUnlessDead 1 none, Cond.methodLink RX3 86 yX0_shutAll, Cond.instanceMethod yX0_shutAll]
def wsX3_judge_r5 : List Cond := [Cond.selects RX0 yX0_shutAll yX0_shutAll, Cond.code yX0_shutAll cX0_shutAll 2 (some .int), Cond.methodLink RX0 35 yX0_noteShut, Cond.instanceMethod yX0_noteShut, Cond.selects RX0 yX0_noteShut yX0_noteShut, Cond.code yX0_noteShut cX0_noteShut 2 none, Cond.fieldLink RX0 19 "DoorKeys$Doors" "timeTold" "J", Cond.fieldLink RX0 23 "DoorKeys$Doors" "shutSince" "J", Cond.methodLink RX0 15 yX0_hasAny, Cond.instanceMethod yX0_hasAny, Cond.selects RX0 yX0_hasAny yX0_hasAny, Cond.code yX0_hasAny cX0_hasAny 3 (some .boolean), Cond.methodLink RX3 80 yX0_deadenUnlessOpen, Cond.instanceMethod yX0_deadenUnlessOpen, Cond.selects RX0 yX0_deadenUnlessOpen yX0_deadenUnlessOpen, Cond.code yX0_deadenUnlessOpen cX0_deadenUnlessOpen 1 (some .int)]
def wsX3_judge : List Cond := .code yX3_judge cX3_judge 6 (some .int) :: ((wsX3_judge_r1 ++ (wsX3_judge_r2 ++ (wsX3_judge_r3 ++ (wsX3_judge_r4 ++ wsX3_judge_r5)))) ++ wsX20 ++ wsX30 ++ wsX10 ++ wsX00)
def wsX3_remote_r1 : List Cond := [Cond.fieldLink RX3 22 "DoorKeys" "coming" "LDoorKeys$Frame;", Cond.fieldLink RX3 26 "DoorKeys" "ended" "LDoorKeys$Frame;", Cond.methodLink RX3 48 yX1_keep, Cond.instanceMethod yX1_keep, Cond.selects RX1 yX1_keep yX1_keep, Cond.initialized RX1, Cond.code yX1_keep cX1_keep 2 none, Cond.fieldLink RX1 13 "DoorKeys$Frame" "kept" "I", Cond.fieldLink RX1 9 "DoorKeys$Frame" "octets" "[B", Cond.methodLink RX3 52 yX1_clear, Cond.instanceMethod yX1_clear, Cond.selects RX1 yX1_clear yX1_clear, Cond.code yX1_clear cX1_clear 1 none, Cond.methodLink RX3 55 yX3_judge, Cond.instanceMethod yX3_judge, Cond.selects RX3 yX3_judge yX3_judge, Cond.initialized RX3, Cond.code yX3_judge cX3_judge 6 (some .int), Cond.fieldLink RX3 89 "DoorKeys$Key" "learned" "Z", Cond.constant RX3 187 (65535), Cond.fieldLink RX3 9 "DoorKeys" "span" "I", Cond.fieldLink RX3 147 "DoorKeys$Key" "lowBattery" "I", Cond.methodLink RX3 168 yX1_isSound, Cond.instanceMethod yX1_isSound]
def wsX3_remote_r2 : List Cond := [Cond.selects RX1 yX1_isSound yX1_isSound, Cond.code yX1_isSound cX1_isSound 3 (some .boolean), Cond.methodLink RX1 17 yX1_unsigned, Cond.instanceMethod yX1_unsigned, Cond.selects RX1 yX1_unsigned yX1_unsigned, Cond.code yX1_unsigned cX1_unsigned 2 (some .int), Cond.methodLink RX1 23 yX1_has, Cond.instanceMethod yX1_has, Cond.selects RX1 yX1_has yX1_has, Cond.code yX1_has cX1_has 2 (some .boolean), Cond.methodLink RX3 171 yX1_command, Cond.instanceMethod yX1_command, Cond.selects RX1 yX1_command yX1_command, Cond.code yX1_command cX1_command 1 (some .int), Cond.methodLink RX3 174 yX1_sender, Cond.instanceMethod yX1_sender, Cond.selects RX1 yX1_sender yX1_sender, Cond.code yX1_sender cX1_sender 1 (some .int), Cond.methodLink RX3 59 yX3_find, Cond.instanceMethod yX3_find, Cond.selects RX3 yX3_find yX3_find, Cond.code yX3_find cX3_find 2 (some (.object "DoorKeys$Key")), Cond.fieldLink RX3 42 "DoorKeys" "keyCount" "I", Cond.fieldLink RX3 15 "DoorKeys" "keys" "[LDoorKeys$Key;"]
def wsX3_remote_r3 : List Cond := [Cond.methodLink RX3 177 yX1_code, Cond.instanceMethod yX1_code, Cond.selects RX1 yX1_code yX1_code, Cond.code yX1_code cX1_code 4 (some .long), Cond.constantLong RX1 21 (256), Cond.methodLink RX3 181 yX2_decipher, Cond.instanceMethod yX2_decipher, Cond.selects RX2 yX2_decipher yX2_decipher, Cond.initialized RX2, Cond.code yX2_decipher cX2_decipher 7 (some .long), Cond.constant RX2 36 (65535), Cond.methodLink RX2 42 yX2_mix, Cond.instanceMethod yX2_mix, Cond.selects RX2 yX2_mix yX2_mix, Cond.code yX2_mix cX2_mix 5 (some .int), Cond.constant RX2 50 (40503), Cond.methodLink RX2 38 yX2_part, Cond.instanceMethod yX2_part, Cond.selects RX2 yX2_part yX2_part, Cond.code yX2_part cX2_part 2 (some .int), Cond.fieldLink RX2 9 "DoorKeys$Key" "secret" "J", Cond.methodLink RX2 46 yX2_joined, Cond.static yX2_joined, Cond.code yX2_joined cX2_joined 2 (some .long)]
def wsX3_remote_r4 : List Cond := [Cond.constantLong RX2 51 (65536), Cond.methodLink RX3 184 yX2_sign, Cond.instanceMethod yX2_sign, Cond.selects RX2 yX2_sign yX2_sign, Cond.code yX2_sign cX2_sign 1 (some .int), Cond.methodLink RX3 188 yX2_roll, Cond.instanceMethod yX2_roll, Cond.selects RX2 yX2_roll yX2_roll, Cond.code yX2_roll cX2_roll 4 (some .int), Cond.fieldLink RX2 15 "DoorKeys$Key" "counter" "I", Cond.constant RX2 37 (32768), Cond.fieldLink RX2 19 "DoorKeys$Key" "awaited" "I", Cond.methodLink RX3 192 yX1_flags, Cond.instanceMethod yX1_flags, Cond.selects RX1 yX1_flags yX1_flags, Cond.code yX1_flags cX1_flags 1 (some .int), Cond.methodLink RX3 195 yX3_obey, Cond.instanceMethod yX3_obey, Cond.selects RX3 yX3_obey yX3_obey, Cond.code yX3_obey cX3_obey 2 none, Cond.fieldLink RX3 32 "DoorKeys" "doors" "LDoorKeys$Doors;", Cond.fieldLink RX3 76 "DoorKeys" "crashed" "Z", Cond.methodLink RX3 72 yX0_openAll, Cond.instanceMethod yX0_openAll]
def wsX3_remote_r5 : List Cond := [Cond.selects RX0 yX0_openAll yX0_openAll, Cond.initialized RX0, Cond.code yX0_openAll cX0_openAll 1 (some .int), Cond.methodLink RX0 28 yX0_turn, Cond.instanceMethod yX0_turn, Cond.selects RX0 yX0_turn yX0_turn, Cond.code yX0_turn cX0_turn 5 (some .int), Cond.fieldLink RX0 11 "DoorKeys$Doors" "states" "[I", Cond.methodLink RX3 198 yX0_openBootUnlessDead, Cond.instanceMethod yX0_openBootUnlessDead, Cond.selects RX0 yX0_openBootUnlessDead yX0_openBootUnlessDead, Cond.code yX0_openBootUnlessDead cX0_openBootUnlessDead 1 none, Cond.methodLink RX3 86 yX0_shutAll, Cond.instanceMethod yX0_shutAll, Cond.selects RX0 yX0_shutAll yX0_shutAll, Cond.code yX0_shutAll cX0_shutAll 2 (some .int), Cond.methodLink RX0 35 yX0_noteShut, Cond.instanceMethod yX0_noteShut, Cond.selects RX0 yX0_noteShut yX0_noteShut, Cond.code yX0_noteShut cX0_noteShut 2 none, Cond.fieldLink RX0 19 "DoorKeys$Doors" "timeTold" "J", Cond.fieldLink RX0 23 "DoorKeys$Doors" "shutSince" "J", Cond.methodLink RX0 15 yX0_hasAny, Cond.instanceMethod yX0_hasAny]
def wsX3_remote_r6 : List Cond := [Cond.selects RX0 yX0_hasAny yX0_hasAny, Cond.code yX0_hasAny cX0_hasAny 3 (some .boolean), Cond.methodLink RX3 80 yX0_deadenUnlessOpen, Cond.instanceMethod yX0_deadenUnlessOpen, Cond.selects RX0 yX0_deadenUnlessOpen yX0_deadenUnlessOpen, Cond.code yX0_deadenUnlessOpen cX0_deadenUnlessOpen 1 (some .int)]
def wsX3_remote : List Cond := .code yX3_remote cX3_remote 4 (some .int) :: ((wsX3_remote_r1 ++ (wsX3_remote_r2 ++ (wsX3_remote_r3 ++ (wsX3_remote_r4 ++ (wsX3_remote_r5 ++ wsX3_remote_r6))))) ++ wsX30 ++ wsX10 ++ wsX20 ++ wsX00)
def wsX3_counter : List Cond := .code yX3_counter cX3_counter 3 (some .long) :: ([.constantLong RX3 63 (-1), .fieldLink RX3 65 "DoorKeys$Key" "counter" "I", .methodLink RX3 59 yX3_find, .instanceMethod yX3_find, .selects RX3 yX3_find yX3_find, .initialized RX3, .code yX3_find cX3_find 2 (some (.object "DoorKeys$Key")), .fieldLink RX3 42 "DoorKeys" "keyCount" "I", .fieldLink RX3 15 "DoorKeys" "keys" "[LDoorKeys$Key;"] ++ wsX20 ++ wsX30)
def wsX3_lock_r1 : List Cond := [Cond.fieldLink RX3 32 "DoorKeys" "doors" "LDoorKeys$Doors;", Cond.fieldLink RX3 76 "DoorKeys" "crashed" "Z", Cond.methodLink RX3 68 yX0_hasAny, Cond.instanceMethod yX0_hasAny, Cond.selects RX0 yX0_hasAny yX0_hasAny, Cond.initialized RX0, Cond.code yX0_hasAny cX0_hasAny 3 (some .boolean), Cond.fieldLink RX0 11 "DoorKeys$Doors" "states" "[I", Cond.methodLink RX3 72 yX0_openAll, Cond.instanceMethod yX0_openAll, Cond.selects RX0 yX0_openAll yX0_openAll, Cond.code yX0_openAll cX0_openAll 1 (some .int), Cond.methodLink RX0 28 yX0_turn, Cond.instanceMethod yX0_turn, Cond.selects RX0 yX0_turn yX0_turn, Cond.code yX0_turn cX0_turn 5 (some .int), Cond.methodLink RX3 80 yX0_deadenUnlessOpen, Cond.instanceMethod yX0_deadenUnlessOpen, Cond.selects RX0 yX0_deadenUnlessOpen yX0_deadenUnlessOpen, Cond.code yX0_deadenUnlessOpen cX0_deadenUnlessOpen 1 (some .int), Cond.methodLink RX0 15 yX0_hasAny, Cond.methodLink RX3 83 yX0_shutBoot, Cond.instanceMethod yX0_shutBoot, Cond.selects RX0 yX0_shutBoot yX0_shutBoot]
def wsX3_lock_r2 : List Cond := [Cond.code yX0_shutBoot cX0_shutBoot 1 (some .int), Cond.methodLink RX0 35 yX0_noteShut, Cond.instanceMethod yX0_noteShut, Cond.selects RX0 yX0_noteShut yX0_noteShut, Cond.code yX0_noteShut cX0_noteShut 2 none, Cond.fieldLink RX0 19 "DoorKeys$Doors" "timeTold" "J", Cond.fieldLink RX0 23 "DoorKeys$Doors" "shutSince" "J", Cond.methodLink RX3 86 yX0_shutAll, Cond.instanceMethod yX0_shutAll, Cond.selects RX0 yX0_shutAll yX0_shutAll, Cond.code yX0_shutAll cX0_shutAll 2 (some .int)]
def wsX3_lock : List Cond := .code yX3_lock cX3_lock 2 (some .int) :: ((wsX3_lock_r1 ++ wsX3_lock_r2) ++ wsX30 ++ wsX00)
def wsX3_learn : List Cond := .code yX3_learn cX3_learn 7 (some .int) :: ([.fieldLink RX3 89 "DoorKeys$Key" "learned" "Z", .methodLink RX3 59 yX3_find, .instanceMethod yX3_find, .selects RX3 yX3_find yX3_find, .initialized RX3, .code yX3_find cX3_find 2 (some (.object "DoorKeys$Key")), .fieldLink RX3 42 "DoorKeys" "keyCount" "I", .fieldLink RX3 15 "DoorKeys" "keys" "[LDoorKeys$Key;", .methodLink RX3 92 yX2_mayTeach, .instanceMethod yX2_mayTeach, .selects RX2 yX2_mayTeach yX2_mayTeach, .initialized RX2, .code yX2_mayTeach cX2_mayTeach 1 (some .boolean), .fieldLink RX2 22 "DoorKeys$Key" "learned" "Z", .methodLink RX2 32 yX2_isAtHand, .instanceMethod yX2_isAtHand, .selects RX2 yX2_isAtHand yX2_isAtHand, .code yX2_isAtHand cX2_isAtHand 1 (some .boolean), .fieldLink RX2 26 "DoorKeys$Key" "near" "Z", .fieldLink RX2 29 "DoorKeys$Key" "inside" "Z"] ++ wsX20 ++ wsX30)
def wsX3_learnedKeys : List Cond := .code yX3_learnedKeys cX3_learnedKeys 4 (some .int) :: ([.fieldLink RX3 42 "DoorKeys" "keyCount" "I", .fieldLink RX3 89 "DoorKeys$Key" "learned" "Z", .methodLink RX3 59 yX3_find, .instanceMethod yX3_find, .selects RX3 yX3_find yX3_find, .initialized RX3, .code yX3_find cX3_find 2 (some (.object "DoorKeys$Key")), .fieldLink RX3 15 "DoorKeys" "keys" "[LDoorKeys$Key;"] ++ wsX30 ++ wsX20)
def wsX3_erase : List Cond := .code yX3_erase cX3_erase 3 (some .int) :: ([.fieldLink RX3 89 "DoorKeys$Key" "learned" "Z", .fieldLink RX3 99 "DoorKeys$Key" "near" "Z", .fieldLink RX3 102 "DoorKeys$Key" "inside" "Z", .methodLink RX3 59 yX3_find, .instanceMethod yX3_find, .selects RX3 yX3_find yX3_find, .initialized RX3, .code yX3_find cX3_find 2 (some (.object "DoorKeys$Key")), .fieldLink RX3 42 "DoorKeys" "keyCount" "I", .fieldLink RX3 15 "DoorKeys" "keys" "[LDoorKeys$Key;", .methodLink RX3 96 yX3_learnedKeys, .instanceMethod yX3_learnedKeys, .selects RX3 yX3_learnedKeys yX3_learnedKeys, .code yX3_learnedKeys cX3_learnedKeys 4 (some .int)] ++ wsX20 ++ wsX30)
def wsX3_isWithin : List Cond := .code yX3_isWithin cX3_isWithin 4 (some .boolean) :: ([])
def wsX3_field_r1 : List Cond := [Cond.constantLong RX3 105 (1000000), Cond.constantLong RX3 111 (2000), Cond.fieldLink RX3 113 "DoorKeys" "relays" "I", Cond.fieldLink RX3 89 "DoorKeys$Key" "learned" "Z", Cond.fieldLink RX3 32 "DoorKeys" "doors" "LDoorKeys$Doors;", Cond.fieldLink RX3 99 "DoorKeys$Key" "near" "Z", Cond.constantLong RX3 120 (800), Cond.fieldLink RX3 102 "DoorKeys$Key" "inside" "Z", Cond.methodLink RX3 59 yX3_find, Cond.instanceMethod yX3_find, Cond.selects RX3 yX3_find yX3_find, Cond.initialized RX3, Cond.code yX3_find cX3_find 2 (some (.object "DoorKeys$Key")), Cond.fieldLink RX3 42 "DoorKeys" "keyCount" "I", Cond.fieldLink RX3 15 "DoorKeys" "keys" "[LDoorKeys$Key;", Cond.methodLink RX3 107 yX3_isWithin, Cond.static yX3_isWithin, Cond.code yX3_isWithin cX3_isWithin 4 (some .boolean), Cond.methodLink RX3 116 yX0_nearestTo, Cond.instanceMethod yX0_nearestTo, Cond.selects RX0 yX0_nearestTo yX0_nearestTo, Cond.initialized RX0, Cond.code yX0_nearestTo cX0_nearestTo 15 (some .int), Cond.constantLong RX0 39 (2250001)]
def wsX3_field_r2 : List Cond := [Cond.fieldLink RX0 41 "DoorKeys$Doors" "PLACE_X" "[I", Cond.fieldLink RX0 44 "DoorKeys$Doors" "PLACE_Y" "[I", Cond.methodLink RX3 122 yX0_openOne, Cond.instanceMethod yX0_openOne, Cond.selects RX0 yX0_openOne yX0_openOne, Cond.code yX0_openOne cX0_openOne 2 none, Cond.fieldLink RX0 11 "DoorKeys$Doors" "states" "[I", Cond.methodLink RX0 32 yX0_has, Cond.instanceMethod yX0_has, Cond.selects RX0 yX0_has yX0_has, Cond.code yX0_has cX0_has 2 (some .boolean), Cond.methodLink RX3 126 yX2_isAtHand, Cond.instanceMethod yX2_isAtHand, Cond.selects RX2 yX2_isAtHand yX2_isAtHand, Cond.initialized RX2, Cond.code yX2_isAtHand cX2_isAtHand 1 (some .boolean), Cond.fieldLink RX2 26 "DoorKeys$Key" "near" "Z", Cond.fieldLink RX2 29 "DoorKeys$Key" "inside" "Z"]
def wsX3_field : List Cond := .code yX3_field cX3_field 12 (some .int) :: ((wsX3_field_r1 ++ wsX3_field_r2) ++ wsX30 ++ wsX20 ++ wsX00)
def wsX3_start_r1 : List Cond := [Cond.fieldLink RX3 129 "DoorKeys" "questions" "I", Cond.constantLong RX3 132 (2654435761), Cond.constantLong RX3 134 (4294967295), Cond.fieldLink RX3 89 "DoorKeys$Key" "learned" "Z", Cond.fieldLink RX3 102 "DoorKeys$Key" "inside" "Z", Cond.fieldLink RX3 76 "DoorKeys" "crashed" "Z", Cond.methodLink RX3 59 yX3_find, Cond.instanceMethod yX3_find, Cond.selects RX3 yX3_find yX3_find, Cond.initialized RX3, Cond.code yX3_find cX3_find 2 (some (.object "DoorKeys$Key")), Cond.fieldLink RX3 42 "DoorKeys" "keyCount" "I", Cond.fieldLink RX3 15 "DoorKeys" "keys" "[LDoorKeys$Key;", Cond.methodLink RX3 136 yX2_encipher, Cond.instanceMethod yX2_encipher, Cond.selects RX2 yX2_encipher yX2_encipher, Cond.initialized RX2, Cond.code yX2_encipher cX2_encipher 7 (some .long), Cond.constant RX2 36 (65535), Cond.methodLink RX2 42 yX2_mix, Cond.instanceMethod yX2_mix, Cond.selects RX2 yX2_mix yX2_mix, Cond.code yX2_mix cX2_mix 5 (some .int), Cond.constant RX2 50 (40503)]
def wsX3_start_r2 : List Cond := [Cond.methodLink RX2 38 yX2_part, Cond.instanceMethod yX2_part, Cond.selects RX2 yX2_part yX2_part, Cond.code yX2_part cX2_part 2 (some .int), Cond.fieldLink RX2 9 "DoorKeys$Key" "secret" "J", Cond.methodLink RX2 46 yX2_joined, Cond.static yX2_joined, Cond.code yX2_joined cX2_joined 2 (some .long), Cond.constantLong RX2 51 (65536)]
def wsX3_start : List Cond := .code yX3_start cX3_start 7 (some .int) :: ((wsX3_start_r1 ++ wsX3_start_r2) ++ wsX30 ++ wsX20)
def wsX3_crash : List Cond := .code yX3_crash cX3_crash 1 (some .int) :: ([.fieldLink RX3 76 "DoorKeys" "crashed" "Z", .fieldLink RX3 32 "DoorKeys" "doors" "LDoorKeys$Doors;", .methodLink RX3 72 yX0_openAll, .instanceMethod yX0_openAll, .selects RX0 yX0_openAll yX0_openAll, .initialized RX0, .code yX0_openAll cX0_openAll 1 (some .int), .methodLink RX0 28 yX0_turn, .instanceMethod yX0_turn, .selects RX0 yX0_turn yX0_turn, .code yX0_turn cX0_turn 5 (some .int), .fieldLink RX0 11 "DoorKeys$Doors" "states" "[I"] ++ wsX30 ++ wsX00)
def wsX3_alarm : List Cond := .code yX3_alarm cX3_alarm 4 (some .int) :: ([.fieldLink RX3 32 "DoorKeys" "doors" "LDoorKeys$Doors;", .fieldLink RX3 140 "DoorKeys$Doors" "timeTold" "J", .methodLink RX3 144 yX0_isGuarded, .instanceMethod yX0_isGuarded, .selects RX0 yX0_isGuarded yX0_isGuarded, .initialized RX0, .code yX0_isGuarded cX0_isGuarded 1 (some .boolean), .fieldLink RX0 19 "DoorKeys$Doors" "timeTold" "J", .fieldLink RX0 23 "DoorKeys$Doors" "shutSince" "J", .constantLong RX0 26 (30), .methodLink RX0 15 yX0_hasAny, .instanceMethod yX0_hasAny, .selects RX0 yX0_hasAny yX0_hasAny, .code yX0_hasAny cX0_hasAny 3 (some .boolean), .fieldLink RX0 11 "DoorKeys$Doors" "states" "[I"] ++ wsX30 ++ wsX00)
def wsX3_battery : List Cond := .code yX3_battery cX3_battery 3 (some .int) :: ([.fieldLink RX3 147 "DoorKeys$Key" "lowBattery" "I", .methodLink RX3 59 yX3_find, .instanceMethod yX3_find, .selects RX3 yX3_find yX3_find, .initialized RX3, .code yX3_find cX3_find 2 (some (.object "DoorKeys$Key")), .fieldLink RX3 42 "DoorKeys" "keyCount" "I", .fieldLink RX3 15 "DoorKeys" "keys" "[LDoorKeys$Key;"] ++ wsX20 ++ wsX30)
def wsX3_octet : List Cond := .code yX3_octet cX3_octet 2 (some .byte) :: ([.fieldLink RX3 26 "DoorKeys" "ended" "LDoorKeys$Frame;", .classLink RX3 153 RJx00060, .instantiable RJx00060 6, .initialized RJx00060, .fieldLink RX3 156 "DoorKeys$Frame" "octets" "[B", .methodLink RX3 150 yX1_has, .instanceMethod yX1_has, .selects RX1 yX1_has yX1_has, .initialized RX1, .code yX1_has cX1_has 2 (some .boolean), .fieldLink RX1 13 "DoorKeys$Frame" "kept" "I", .fieldLink RX1 9 "DoorKeys$Frame" "octets" "[B"] ++ wsX30 ++ wsJx000600 ++ wsX10)
def wsX3_state : List Cond := .code yX3_state cX3_state 2 (some .int) :: ([.fieldLink RX3 113 "DoorKeys" "relays" "I", .fieldLink RX3 129 "DoorKeys" "questions" "I", .fieldLink RX3 32 "DoorKeys" "doors" "LDoorKeys$Doors;", .fieldLink RX3 161 "DoorKeys$Doors" "states" "[I", .methodLink RX3 160 yX0_has, .instanceMethod yX0_has, .selects RX0 yX0_has yX0_has, .initialized RX0, .code yX0_has cX0_has 2 (some .boolean), .fieldLink RX0 11 "DoorKeys$Doors" "states" "[I"] ++ wsX30 ++ wsX00)
def wsX4_init : List Cond := .code yX4_init cX4_init 3 none :: ([.methodLink RX4 1 objectInit, .instanceMethod objectInit, .code objectInit ⟨#[0xb1]⟩ 1 none, .arrayClass .long, .fieldLink RX4 7 "DoorKeysModel" "secret" "[J", .arrayClass .int, .fieldLink RX4 13 "DoorKeysModel" "counter" "[I", .fieldLink RX4 17 "DoorKeysModel" "awaited" "[I", .arrayClass .boolean, .fieldLink RX4 20 "DoorKeysModel" "learned" "[Z", .fieldLink RX4 24 "DoorKeysModel" "near" "[Z", .fieldLink RX4 27 "DoorKeysModel" "inside" "[Z", .fieldLink RX4 30 "DoorKeysModel" "battery" "[I", .fieldLink RX4 33 "DoorKeysModel" "door" "[I", .fieldLink RX4 36 "DoorKeysModel" "under" "[I", .fieldLink RX4 39 "DoorKeysModel" "frame" "[I", .fieldLink RX4 42 "DoorKeysModel" "span" "I"] ++ wsX40)
def wsX4_thrown : List Cond := .code yX4_thrown cX4_thrown 1 (some .int) :: ([.fieldLink RX4 46 "DoorKeysModel" "code" "I"] ++ wsX40)
def wsX4_none : List Cond := .code yX4_none cX4_none 2 (some .boolean) :: ([.fieldLink RX4 46 "DoorKeysModel" "code" "I", .fieldLink RX4 49 "DoorKeysModel" "keys" "I"] ++ wsX40)
def wsX4_rounds : List Cond := .code yX4_rounds cX4_rounds 12 (some .int) :: ([.constantLong RX4 52 (65535), .constant RX4 54 (40503), .constant RX4 55 (65535)])
def wsX4_sign : List Cond := .code yX4_sign cX4_sign 2 (some .int) :: ([.constantLong RX4 52 (65535)])
def wsX4_back : List Cond := .code yX4_back cX4_back 4 (some .int) :: ([.constant RX4 55 (65535), .methodLink RX4 56 yX4_rounds, .static yX4_rounds, .initialized RX4, .code yX4_rounds cX4_rounds 12 (some .int), .constantLong RX4 52 (65535), .constant RX4 54 (40503)])
def wsX4_key : List Cond := .code yX4_key cX4_key 6 (some .int) :: ([.fieldLink RX4 46 "DoorKeysModel" "code" "I", .constantLong RX4 52 (65535), .fieldLink RX4 49 "DoorKeysModel" "keys" "I", .fieldLink RX4 7 "DoorKeysModel" "secret" "[J", .fieldLink RX4 13 "DoorKeysModel" "counter" "[I", .fieldLink RX4 17 "DoorKeysModel" "awaited" "[I", .fieldLink RX4 20 "DoorKeysModel" "learned" "[Z"] ++ wsX40)
def wsX4_some : List Cond := .code yX4_some cX4_some 4 (some .boolean) :: ([.fieldLink RX4 33 "DoorKeysModel" "door" "[I"] ++ wsX40)
def wsX4_turn : List Cond := .code yX4_turn cX4_turn 8 (some .int) :: ([.fieldLink RX4 33 "DoorKeysModel" "door" "[I", .fieldLink RX4 64 "DoorKeysModel" "now" "J", .fieldLink RX4 68 "DoorKeysModel" "closed" "J", .methodLink RX4 60 yX4_some, .instanceMethod yX4_some, .selects RX4 yX4_some yX4_some, .initialized RX4, .code yX4_some cX4_some 4 (some .boolean)] ++ wsX40)
def wsX4_command : List Cond := .code yX4_command cX4_command 3 none :: ([.fieldLink RX4 75 "DoorKeysModel" "crashed" "Z", .methodLink RX4 71 yX4_turn, .instanceMethod yX4_turn, .selects RX4 yX4_turn yX4_turn, .initialized RX4, .code yX4_turn cX4_turn 8 (some .int), .fieldLink RX4 33 "DoorKeysModel" "door" "[I", .fieldLink RX4 64 "DoorKeysModel" "now" "J", .fieldLink RX4 68 "DoorKeysModel" "closed" "J", .methodLink RX4 60 yX4_some, .instanceMethod yX4_some, .selects RX4 yX4_some yX4_some, .code yX4_some cX4_some 4 (some .boolean)] ++ wsX40)
def wsX4_remote_r1 : List Cond := [Cond.fieldLink RX4 46 "DoorKeysModel" "code" "I", Cond.fieldLink RX4 79 "DoorKeysModel" "given" "I", Cond.fieldLink RX4 36 "DoorKeysModel" "under" "[I", Cond.fieldLink RX4 82 "DoorKeysModel" "size" "I", Cond.fieldLink RX4 39 "DoorKeysModel" "frame" "[I", Cond.fieldLink RX4 49 "DoorKeysModel" "keys" "I", Cond.fieldLink RX4 20 "DoorKeysModel" "learned" "[Z", Cond.fieldLink RX4 7 "DoorKeysModel" "secret" "[J", Cond.constant RX4 55 (65535), Cond.fieldLink RX4 13 "DoorKeysModel" "counter" "[I", Cond.constant RX4 93 (65536), Cond.fieldLink RX4 17 "DoorKeysModel" "awaited" "[I", Cond.constant RX4 94 (32768), Cond.fieldLink RX4 42 "DoorKeysModel" "span" "I", Cond.fieldLink RX4 30 "DoorKeysModel" "battery" "[I", Cond.methodLink RX4 85 yX4_back, Cond.static yX4_back, Cond.initialized RX4, Cond.code yX4_back cX4_back 4 (some .int), Cond.methodLink RX4 56 yX4_rounds, Cond.static yX4_rounds, Cond.code yX4_rounds cX4_rounds 12 (some .int), Cond.constantLong RX4 52 (65535), Cond.constant RX4 54 (40503)]
def wsX4_remote_r2 : List Cond := [Cond.methodLink RX4 89 yX4_sign, Cond.static yX4_sign, Cond.code yX4_sign cX4_sign 2 (some .int), Cond.methodLink RX4 95 yX4_command, Cond.instanceMethod yX4_command, Cond.selects RX4 yX4_command yX4_command, Cond.code yX4_command cX4_command 3 none, Cond.fieldLink RX4 75 "DoorKeysModel" "crashed" "Z", Cond.methodLink RX4 71 yX4_turn, Cond.instanceMethod yX4_turn, Cond.selects RX4 yX4_turn yX4_turn, Cond.code yX4_turn cX4_turn 8 (some .int), Cond.fieldLink RX4 33 "DoorKeysModel" "door" "[I", Cond.fieldLink RX4 64 "DoorKeysModel" "now" "J", Cond.fieldLink RX4 68 "DoorKeysModel" "closed" "J", Cond.methodLink RX4 60 yX4_some, Cond.instanceMethod yX4_some, Cond.selects RX4 yX4_some yX4_some, Cond.code yX4_some cX4_some 4 (some .boolean)]
def wsX4_remote : List Cond := .code yX4_remote cX4_remote 10 (some .int) :: ((wsX4_remote_r1 ++ wsX4_remote_r2) ++ wsX40)
def wsX4_counter : List Cond := .code yX4_counter cX4_counter 2 (some .long) :: ([.constantLong RX4 102 (-1), .fieldLink RX4 13 "DoorKeysModel" "counter" "[I", .methodLink RX4 99 yX4_none, .instanceMethod yX4_none, .selects RX4 yX4_none yX4_none, .initialized RX4, .code yX4_none cX4_none 2 (some .boolean), .fieldLink RX4 46 "DoorKeysModel" "code" "I", .fieldLink RX4 49 "DoorKeysModel" "keys" "I"] ++ wsX40)
def wsX4_lock : List Cond := .code yX4_lock cX4_lock 2 (some .int) :: ([.fieldLink RX4 46 "DoorKeysModel" "code" "I", .fieldLink RX4 75 "DoorKeysModel" "crashed" "Z", .methodLink RX4 71 yX4_turn, .instanceMethod yX4_turn, .selects RX4 yX4_turn yX4_turn, .initialized RX4, .code yX4_turn cX4_turn 8 (some .int), .fieldLink RX4 33 "DoorKeysModel" "door" "[I", .fieldLink RX4 64 "DoorKeysModel" "now" "J", .fieldLink RX4 68 "DoorKeysModel" "closed" "J", .methodLink RX4 60 yX4_some, .instanceMethod yX4_some, .selects RX4 yX4_some yX4_some, .code yX4_some cX4_some 4 (some .boolean)] ++ wsX40)
def wsX4_here : List Cond := .code yX4_here cX4_here 2 (some .boolean) :: ([.fieldLink RX4 20 "DoorKeysModel" "learned" "[Z", .fieldLink RX4 24 "DoorKeysModel" "near" "[Z", .fieldLink RX4 27 "DoorKeysModel" "inside" "[Z"] ++ wsX40)
def wsX4_learn : List Cond := .code yX4_learn cX4_learn 4 (some .int) :: ([.fieldLink RX4 20 "DoorKeysModel" "learned" "[Z", .methodLink RX4 99 yX4_none, .instanceMethod yX4_none, .selects RX4 yX4_none yX4_none, .initialized RX4, .code yX4_none cX4_none 2 (some .boolean), .fieldLink RX4 46 "DoorKeysModel" "code" "I", .fieldLink RX4 49 "DoorKeysModel" "keys" "I", .methodLink RX4 104 yX4_here, .instanceMethod yX4_here, .selects RX4 yX4_here yX4_here, .code yX4_here cX4_here 2 (some .boolean), .fieldLink RX4 24 "DoorKeysModel" "near" "[Z", .fieldLink RX4 27 "DoorKeysModel" "inside" "[Z"] ++ wsX40)
def wsX4_erase : List Cond := .code yX4_erase cX4_erase 4 (some .int) :: ([.fieldLink RX4 49 "DoorKeysModel" "keys" "I", .fieldLink RX4 20 "DoorKeysModel" "learned" "[Z", .fieldLink RX4 24 "DoorKeysModel" "near" "[Z", .fieldLink RX4 27 "DoorKeysModel" "inside" "[Z", .methodLink RX4 99 yX4_none, .instanceMethod yX4_none, .selects RX4 yX4_none yX4_none, .initialized RX4, .code yX4_none cX4_none 2 (some .boolean), .fieldLink RX4 46 "DoorKeysModel" "code" "I"] ++ wsX40)
def wsX4_far : List Cond := .code yX4_far cX4_far 9 (some .long) :: ([.constantLong RX4 107 (1000), .constantLong RX4 109 (-500), .constantLong RX4 111 (-2200), .constantLong RX4 113 (900), .constantLong RX4 115 (-900)])
def wsX4_field_r1 : List Cond := [Cond.constantLong RX4 117 (-1000000), Cond.constantLong RX4 119 (1000000), Cond.constantLong RX4 121 (2000), Cond.fieldLink RX4 123 "DoorKeysModel" "relays" "I", Cond.fieldLink RX4 20 "DoorKeysModel" "learned" "[Z", Cond.fieldLink RX4 24 "DoorKeysModel" "near" "[Z", Cond.constantLong RX4 130 (2250000), Cond.fieldLink RX4 27 "DoorKeysModel" "inside" "[Z", Cond.constantLong RX4 132 (-2000), Cond.constantLong RX4 134 (-800), Cond.constantLong RX4 136 (800), Cond.methodLink RX4 99 yX4_none, Cond.instanceMethod yX4_none, Cond.selects RX4 yX4_none yX4_none, Cond.initialized RX4, Cond.code yX4_none cX4_none 2 (some .boolean), Cond.fieldLink RX4 46 "DoorKeysModel" "code" "I", Cond.fieldLink RX4 49 "DoorKeysModel" "keys" "I", Cond.methodLink RX4 126 yX4_far, Cond.static yX4_far, Cond.code yX4_far cX4_far 9 (some .long), Cond.constantLong RX4 107 (1000), Cond.constantLong RX4 109 (-500), Cond.constantLong RX4 111 (-2200)]
def wsX4_field_r2 : List Cond := [Cond.constantLong RX4 113 (900), Cond.constantLong RX4 115 (-900), Cond.methodLink RX4 71 yX4_turn, Cond.instanceMethod yX4_turn, Cond.selects RX4 yX4_turn yX4_turn, Cond.code yX4_turn cX4_turn 8 (some .int), Cond.fieldLink RX4 33 "DoorKeysModel" "door" "[I", Cond.fieldLink RX4 64 "DoorKeysModel" "now" "J", Cond.fieldLink RX4 68 "DoorKeysModel" "closed" "J", Cond.methodLink RX4 60 yX4_some, Cond.instanceMethod yX4_some, Cond.selects RX4 yX4_some yX4_some, Cond.code yX4_some cX4_some 4 (some .boolean)]
def wsX4_field : List Cond := .code yX4_field cX4_field 12 (some .int) :: ((wsX4_field_r1 ++ wsX4_field_r2) ++ wsX40)
def wsX4_start : List Cond := .code yX4_start cX4_start 8 (some .int) :: ([.fieldLink RX4 138 "DoorKeysModel" "questions" "I", .constantLong RX4 141 (2654435761), .constantLong RX4 143 (4294967295), .fieldLink RX4 7 "DoorKeysModel" "secret" "[J", .constantLong RX4 52 (65535), .fieldLink RX4 20 "DoorKeysModel" "learned" "[Z", .fieldLink RX4 27 "DoorKeysModel" "inside" "[Z", .fieldLink RX4 75 "DoorKeysModel" "crashed" "Z", .methodLink RX4 99 yX4_none, .instanceMethod yX4_none, .selects RX4 yX4_none yX4_none, .initialized RX4, .code yX4_none cX4_none 2 (some .boolean), .fieldLink RX4 46 "DoorKeysModel" "code" "I", .fieldLink RX4 49 "DoorKeysModel" "keys" "I", .methodLink RX4 56 yX4_rounds, .static yX4_rounds, .code yX4_rounds cX4_rounds 12 (some .int), .constant RX4 54 (40503), .constant RX4 55 (65535)] ++ wsX40)
def wsX4_crash : List Cond := .code yX4_crash cX4_crash 1 (some .int) :: ([.fieldLink RX4 46 "DoorKeysModel" "code" "I", .fieldLink RX4 75 "DoorKeysModel" "crashed" "Z", .methodLink RX4 71 yX4_turn, .instanceMethod yX4_turn, .selects RX4 yX4_turn yX4_turn, .initialized RX4, .code yX4_turn cX4_turn 8 (some .int), .fieldLink RX4 33 "DoorKeysModel" "door" "[I", .fieldLink RX4 64 "DoorKeysModel" "now" "J", .fieldLink RX4 68 "DoorKeysModel" "closed" "J", .methodLink RX4 60 yX4_some, .instanceMethod yX4_some, .selects RX4 yX4_some yX4_some, .code yX4_some cX4_some 4 (some .boolean)] ++ wsX40)
def wsX4_alarm : List Cond := .code yX4_alarm cX4_alarm 4 (some .int) :: ([.fieldLink RX4 46 "DoorKeysModel" "code" "I", .fieldLink RX4 64 "DoorKeysModel" "now" "J", .fieldLink RX4 68 "DoorKeysModel" "closed" "J", .constantLong RX4 145 (29), .methodLink RX4 60 yX4_some, .instanceMethod yX4_some, .selects RX4 yX4_some yX4_some, .initialized RX4, .code yX4_some cX4_some 4 (some .boolean), .fieldLink RX4 33 "DoorKeysModel" "door" "[I"] ++ wsX40)
def wsX4_battery : List Cond := .code yX4_battery cX4_battery 2 (some .int) :: ([.fieldLink RX4 30 "DoorKeysModel" "battery" "[I", .methodLink RX4 99 yX4_none, .instanceMethod yX4_none, .selects RX4 yX4_none yX4_none, .initialized RX4, .code yX4_none cX4_none 2 (some .boolean), .fieldLink RX4 46 "DoorKeysModel" "code" "I", .fieldLink RX4 49 "DoorKeysModel" "keys" "I"] ++ wsX40)
def wsX4_octet : List Cond := .code yX4_octet cX4_octet 2 (some .byte) :: ([.fieldLink RX4 82 "DoorKeysModel" "size" "I", .fieldLink RX4 46 "DoorKeysModel" "code" "I", .fieldLink RX4 39 "DoorKeysModel" "frame" "[I"] ++ wsX40)
def wsX4_state : List Cond := .code yX4_state cX4_state 2 (some .int) :: ([.fieldLink RX4 46 "DoorKeysModel" "code" "I", .fieldLink RX4 123 "DoorKeysModel" "relays" "I", .fieldLink RX4 138 "DoorKeysModel" "questions" "I", .fieldLink RX4 33 "DoorKeysModel" "door" "[I"] ++ wsX40)
def wsJx00060_init_da8c8 : List Cond := .code yJx00060_init_da8c8 cJx00060_init_da8c8 1 none :: ([])
def wsL_cell : List Cond := .code yL_cell cL_cell 2 (some .int) :: ([])
def wsL_octet : List Cond := .codeWith yL_octet cL_octet 4 (some .int) [(0, 9, 12, 13)] :: ([.methodLink RL 7 yX3_octet, .instanceMethod yX3_octet, .selects RX3 yX3_octet yX3_octet, .initialized RX3, .code yX3_octet cX3_octet 2 (some .byte), .fieldLink RX3 26 "DoorKeys" "ended" "LDoorKeys$Frame;", .classLink RX3 153 RJx00060, .instantiable RJx00060 6, .initialized RJx00060, .fieldLink RX3 156 "DoorKeys$Frame" "octets" "[B", .methodLink RX3 150 yX1_has, .instanceMethod yX1_has, .selects RX1 yX1_has yX1_has, .initialized RX1, .code yX1_has cX1_has 2 (some .boolean), .fieldLink RX1 13 "DoorKeys$Frame" "kept" "I", .fieldLink RX1 9 "DoorKeys$Frame" "octets" "[B"] ++ wsX30 ++ wsJx000600 ++ wsX10)
def wsL_law_r1 : List Cond := [Cond.classLink RL 8 RX3, Cond.instantiable RX3 9, Cond.initialized RX3, Cond.classLink RL 24 RX4, Cond.instantiable RX4 20, Cond.initialized RX4, Cond.arrayClass .long, Cond.constantLong RL 27 (4294967295), Cond.methodLink RL 15 yL_cell, Cond.static yL_cell, Cond.initialized RL, Cond.code yL_cell cL_cell 2 (some .int), Cond.methodLink RL 21 yX3_init, Cond.instanceMethod yX3_init, Cond.code yX3_init cX3_init 2 none, Cond.methodLink RX3 1 objectInit, Cond.instanceMethod objectInit, Cond.code objectInit ⟨#[0xb1]⟩ 1 none, Cond.fieldLink RX3 9 "DoorKeys" "span" "I", Cond.classLink RX3 13 RX2, Cond.fieldLink RX3 15 "DoorKeys" "keys" "[LDoorKeys$Key;", Cond.classLink RX3 19 RX1, Cond.instantiable RX1 2, Cond.initialized RX1]
def wsL_law_r2 : List Cond := [Cond.fieldLink RX3 22 "DoorKeys" "coming" "LDoorKeys$Frame;", Cond.fieldLink RX3 26 "DoorKeys" "ended" "LDoorKeys$Frame;", Cond.classLink RX3 29 RX0, Cond.instantiable RX0 3, Cond.initialized RX0, Cond.fieldLink RX3 32 "DoorKeys" "doors" "LDoorKeys$Doors;", Cond.methodLink RX3 21 yX1_init, Cond.instanceMethod yX1_init, Cond.code yX1_init cX1_init 1 none, Cond.methodLink RX1 1 objectInit, Cond.arrayClass .byte, Cond.fieldLink RX1 9 "DoorKeys$Frame" "octets" "[B", Cond.methodLink RX3 31 yX0_init, Cond.instanceMethod yX0_init, Cond.code yX0_init cX0_init 2 none, Cond.methodLink RX0 3 objectInit, Cond.arrayClass .int, Cond.fieldLink RX0 11 "DoorKeys$Doors" "states" "[I", Cond.methodLink RL 26 yX4_init, Cond.instanceMethod yX4_init, Cond.code yX4_init cX4_init 3 none, Cond.methodLink RX4 1 objectInit, Cond.fieldLink RX4 7 "DoorKeysModel" "secret" "[J", Cond.fieldLink RX4 13 "DoorKeysModel" "counter" "[I"]
def wsL_law_r3 : List Cond := [Cond.fieldLink RX4 17 "DoorKeysModel" "awaited" "[I", Cond.arrayClass .boolean, Cond.fieldLink RX4 20 "DoorKeysModel" "learned" "[Z", Cond.fieldLink RX4 24 "DoorKeysModel" "near" "[Z", Cond.fieldLink RX4 27 "DoorKeysModel" "inside" "[Z", Cond.fieldLink RX4 30 "DoorKeysModel" "battery" "[I", Cond.fieldLink RX4 33 "DoorKeysModel" "door" "[I", Cond.fieldLink RX4 36 "DoorKeysModel" "under" "[I", Cond.fieldLink RX4 39 "DoorKeysModel" "frame" "[I", Cond.fieldLink RX4 42 "DoorKeysModel" "span" "I", Cond.methodLink RL 29 yX3_key, Cond.instanceMethod yX3_key, Cond.selects RX3 yX3_key yX3_key, Cond.code yX3_key cX3_key 5 (some .int), Cond.constantLong RX3 36 (65535), Cond.fieldLink RX3 42 "DoorKeys" "keyCount" "I", Cond.instantiable RX2 7, Cond.initialized RX2, Cond.methodLink RX3 38 yX3_isSecretOfAKey, Cond.instanceMethod yX3_isSecretOfAKey, Cond.selects RX3 yX3_isSecretOfAKey yX3_isSecretOfAKey, Cond.code yX3_isSecretOfAKey cX3_isSecretOfAKey 5 (some .boolean), Cond.fieldLink RX3 165 "DoorKeys$Key" "secret" "J", Cond.methodLink RX3 59 yX3_find]
def wsL_law_r4 : List Cond := [Cond.instanceMethod yX3_find, Cond.selects RX3 yX3_find yX3_find, Cond.code yX3_find cX3_find 2 (some (.object "DoorKeys$Key")), Cond.methodLink RX3 45 yX2_init, Cond.instanceMethod yX2_init, Cond.code yX2_init cX2_init 5 none, Cond.methodLink RX2 3 objectInit, Cond.fieldLink RX2 9 "DoorKeys$Key" "secret" "J", Cond.fieldLink RX2 15 "DoorKeys$Key" "counter" "I", Cond.fieldLink RX2 19 "DoorKeys$Key" "awaited" "I", Cond.fieldLink RX2 22 "DoorKeys$Key" "learned" "Z", Cond.methodLink RL 33 yX4_key, Cond.instanceMethod yX4_key, Cond.selects RX4 yX4_key yX4_key, Cond.code yX4_key cX4_key 6 (some .int), Cond.fieldLink RX4 46 "DoorKeysModel" "code" "I", Cond.constantLong RX4 52 (65535), Cond.fieldLink RX4 49 "DoorKeysModel" "keys" "I", Cond.methodLink RL 34 yX3_remote, Cond.instanceMethod yX3_remote, Cond.selects RX3 yX3_remote yX3_remote, Cond.code yX3_remote cX3_remote 4 (some .int), Cond.methodLink RX3 48 yX1_keep, Cond.instanceMethod yX1_keep]
def wsL_law_r5 : List Cond := [Cond.selects RX1 yX1_keep yX1_keep, Cond.code yX1_keep cX1_keep 2 none, Cond.fieldLink RX1 13 "DoorKeys$Frame" "kept" "I", Cond.methodLink RX3 52 yX1_clear, Cond.instanceMethod yX1_clear, Cond.selects RX1 yX1_clear yX1_clear, Cond.code yX1_clear cX1_clear 1 none, Cond.methodLink RX3 55 yX3_judge, Cond.instanceMethod yX3_judge, Cond.selects RX3 yX3_judge yX3_judge, Cond.code yX3_judge cX3_judge 6 (some .int), Cond.fieldLink RX3 89 "DoorKeys$Key" "learned" "Z", Cond.constant RX3 187 (65535), Cond.fieldLink RX3 147 "DoorKeys$Key" "lowBattery" "I", Cond.methodLink RX3 168 yX1_isSound, Cond.instanceMethod yX1_isSound, Cond.selects RX1 yX1_isSound yX1_isSound, Cond.code yX1_isSound cX1_isSound 3 (some .boolean), Cond.methodLink RX1 17 yX1_unsigned, Cond.instanceMethod yX1_unsigned, Cond.selects RX1 yX1_unsigned yX1_unsigned, Cond.code yX1_unsigned cX1_unsigned 2 (some .int), Cond.methodLink RX1 23 yX1_has, Cond.instanceMethod yX1_has]
def wsL_law_r6 : List Cond := [Cond.selects RX1 yX1_has yX1_has, Cond.code yX1_has cX1_has 2 (some .boolean), Cond.methodLink RX3 171 yX1_command, Cond.instanceMethod yX1_command, Cond.selects RX1 yX1_command yX1_command, Cond.code yX1_command cX1_command 1 (some .int), Cond.methodLink RX3 174 yX1_sender, Cond.instanceMethod yX1_sender, Cond.selects RX1 yX1_sender yX1_sender, Cond.code yX1_sender cX1_sender 1 (some .int), Cond.methodLink RX3 177 yX1_code, Cond.instanceMethod yX1_code, Cond.selects RX1 yX1_code yX1_code, Cond.code yX1_code cX1_code 4 (some .long), Cond.constantLong RX1 21 (256), Cond.methodLink RX3 181 yX2_decipher, Cond.instanceMethod yX2_decipher, Cond.selects RX2 yX2_decipher yX2_decipher, Cond.code yX2_decipher cX2_decipher 7 (some .long), Cond.constant RX2 36 (65535), Cond.methodLink RX2 42 yX2_mix, Cond.instanceMethod yX2_mix, Cond.selects RX2 yX2_mix yX2_mix, Cond.code yX2_mix cX2_mix 5 (some .int)]
def wsL_law_r7 : List Cond := [Cond.constant RX2 50 (40503), Cond.methodLink RX2 38 yX2_part, Cond.instanceMethod yX2_part, Cond.selects RX2 yX2_part yX2_part, Cond.code yX2_part cX2_part 2 (some .int), Cond.methodLink RX2 46 yX2_joined, Cond.static yX2_joined, Cond.code yX2_joined cX2_joined 2 (some .long), Cond.constantLong RX2 51 (65536), Cond.methodLink RX3 184 yX2_sign, Cond.instanceMethod yX2_sign, Cond.selects RX2 yX2_sign yX2_sign, Cond.code yX2_sign cX2_sign 1 (some .int), Cond.methodLink RX3 188 yX2_roll, Cond.instanceMethod yX2_roll, Cond.selects RX2 yX2_roll yX2_roll, Cond.code yX2_roll cX2_roll 4 (some .int), Cond.constant RX2 37 (32768), Cond.methodLink RX3 192 yX1_flags, Cond.instanceMethod yX1_flags, Cond.selects RX1 yX1_flags yX1_flags, Cond.code yX1_flags cX1_flags 1 (some .int), Cond.methodLink RX3 195 yX3_obey, Cond.instanceMethod yX3_obey]
def wsL_law_r8 : List Cond := [Cond.selects RX3 yX3_obey yX3_obey, Cond.code yX3_obey cX3_obey 2 none, Cond.fieldLink RX3 76 "DoorKeys" "crashed" "Z", Cond.methodLink RX3 72 yX0_openAll, Cond.instanceMethod yX0_openAll, Cond.selects RX0 yX0_openAll yX0_openAll, Cond.code yX0_openAll cX0_openAll 1 (some .int), Cond.methodLink RX0 28 yX0_turn, Cond.instanceMethod yX0_turn, Cond.selects RX0 yX0_turn yX0_turn, Cond.code yX0_turn cX0_turn 5 (some .int), Cond.methodLink RX3 198 yX0_openBootUnlessDead, Cond.instanceMethod yX0_openBootUnlessDead, Cond.selects RX0 yX0_openBootUnlessDead yX0_openBootUnlessDead, Cond.code yX0_openBootUnlessDead cX0_openBootUnlessDead 1 none, Cond.methodLink RX3 86 yX0_shutAll, Cond.instanceMethod yX0_shutAll, Cond.selects RX0 yX0_shutAll yX0_shutAll, Cond.code yX0_shutAll cX0_shutAll 2 (some .int), Cond.methodLink RX0 35 yX0_noteShut, Cond.instanceMethod yX0_noteShut, Cond.selects RX0 yX0_noteShut yX0_noteShut, Cond.code yX0_noteShut cX0_noteShut 2 none, Cond.fieldLink RX0 19 "DoorKeys$Doors" "timeTold" "J"]
def wsL_law_r9 : List Cond := [Cond.fieldLink RX0 23 "DoorKeys$Doors" "shutSince" "J", Cond.methodLink RX0 15 yX0_hasAny, Cond.instanceMethod yX0_hasAny, Cond.selects RX0 yX0_hasAny yX0_hasAny, Cond.code yX0_hasAny cX0_hasAny 3 (some .boolean), Cond.methodLink RX3 80 yX0_deadenUnlessOpen, Cond.instanceMethod yX0_deadenUnlessOpen, Cond.selects RX0 yX0_deadenUnlessOpen yX0_deadenUnlessOpen, Cond.code yX0_deadenUnlessOpen cX0_deadenUnlessOpen 1 (some .int), Cond.methodLink RL 38 yX4_remote, Cond.instanceMethod yX4_remote, Cond.selects RX4 yX4_remote yX4_remote, Cond.code yX4_remote cX4_remote 10 (some .int), Cond.fieldLink RX4 79 "DoorKeysModel" "given" "I", Cond.fieldLink RX4 82 "DoorKeysModel" "size" "I", Cond.constant RX4 55 (65535), Cond.constant RX4 93 (65536), Cond.constant RX4 94 (32768), Cond.methodLink RX4 85 yX4_back, Cond.static yX4_back, Cond.code yX4_back cX4_back 4 (some .int), Cond.methodLink RX4 56 yX4_rounds, Cond.static yX4_rounds, Cond.code yX4_rounds cX4_rounds 12 (some .int)]
def wsL_law_r10 : List Cond := [Cond.constant RX4 54 (40503), Cond.methodLink RX4 89 yX4_sign, Cond.static yX4_sign, Cond.code yX4_sign cX4_sign 2 (some .int), Cond.methodLink RX4 95 yX4_command, Cond.instanceMethod yX4_command, Cond.selects RX4 yX4_command yX4_command, Cond.code yX4_command cX4_command 3 none, Cond.fieldLink RX4 75 "DoorKeysModel" "crashed" "Z", Cond.methodLink RX4 71 yX4_turn, Cond.instanceMethod yX4_turn, Cond.selects RX4 yX4_turn yX4_turn, Cond.code yX4_turn cX4_turn 8 (some .int), Cond.fieldLink RX4 64 "DoorKeysModel" "now" "J", Cond.fieldLink RX4 68 "DoorKeysModel" "closed" "J", Cond.methodLink RX4 60 yX4_some, Cond.instanceMethod yX4_some, Cond.selects RX4 yX4_some yX4_some, Cond.code yX4_some cX4_some 4 (some .boolean), Cond.methodLink RL 39 yX3_counter, Cond.instanceMethod yX3_counter, Cond.selects RX3 yX3_counter yX3_counter, Cond.code yX3_counter cX3_counter 3 (some .long), Cond.constantLong RX3 63 (-1)]
def wsL_law_r11 : List Cond := [Cond.fieldLink RX3 65 "DoorKeys$Key" "counter" "I", Cond.methodLink RL 43 yX4_counter, Cond.instanceMethod yX4_counter, Cond.selects RX4 yX4_counter yX4_counter, Cond.code yX4_counter cX4_counter 2 (some .long), Cond.constantLong RX4 102 (-1), Cond.methodLink RX4 99 yX4_none, Cond.instanceMethod yX4_none, Cond.selects RX4 yX4_none yX4_none, Cond.code yX4_none cX4_none 2 (some .boolean), Cond.methodLink RL 44 yX3_lock, Cond.instanceMethod yX3_lock, Cond.selects RX3 yX3_lock yX3_lock, Cond.code yX3_lock cX3_lock 2 (some .int), Cond.methodLink RX3 68 yX0_hasAny, Cond.methodLink RX3 83 yX0_shutBoot, Cond.instanceMethod yX0_shutBoot, Cond.selects RX0 yX0_shutBoot yX0_shutBoot, Cond.code yX0_shutBoot cX0_shutBoot 1 (some .int), Cond.methodLink RL 48 yX4_lock, Cond.instanceMethod yX4_lock, Cond.selects RX4 yX4_lock yX4_lock, Cond.code yX4_lock cX4_lock 2 (some .int), Cond.methodLink RL 49 yX3_learn]
def wsL_law_r12 : List Cond := [Cond.instanceMethod yX3_learn, Cond.selects RX3 yX3_learn yX3_learn, Cond.code yX3_learn cX3_learn 7 (some .int), Cond.methodLink RX3 92 yX2_mayTeach, Cond.instanceMethod yX2_mayTeach, Cond.selects RX2 yX2_mayTeach yX2_mayTeach, Cond.code yX2_mayTeach cX2_mayTeach 1 (some .boolean), Cond.methodLink RX2 32 yX2_isAtHand, Cond.instanceMethod yX2_isAtHand, Cond.selects RX2 yX2_isAtHand yX2_isAtHand, Cond.code yX2_isAtHand cX2_isAtHand 1 (some .boolean), Cond.fieldLink RX2 26 "DoorKeys$Key" "near" "Z", Cond.fieldLink RX2 29 "DoorKeys$Key" "inside" "Z", Cond.methodLink RL 53 yX4_learn, Cond.instanceMethod yX4_learn, Cond.selects RX4 yX4_learn yX4_learn, Cond.code yX4_learn cX4_learn 4 (some .int), Cond.methodLink RX4 104 yX4_here, Cond.instanceMethod yX4_here, Cond.selects RX4 yX4_here yX4_here, Cond.code yX4_here cX4_here 2 (some .boolean), Cond.methodLink RL 54 yX3_erase, Cond.instanceMethod yX3_erase, Cond.selects RX3 yX3_erase yX3_erase]
def wsL_law_r13 : List Cond := [Cond.code yX3_erase cX3_erase 3 (some .int), Cond.fieldLink RX3 99 "DoorKeys$Key" "near" "Z", Cond.fieldLink RX3 102 "DoorKeys$Key" "inside" "Z", Cond.methodLink RX3 96 yX3_learnedKeys, Cond.instanceMethod yX3_learnedKeys, Cond.selects RX3 yX3_learnedKeys yX3_learnedKeys, Cond.code yX3_learnedKeys cX3_learnedKeys 4 (some .int), Cond.methodLink RL 57 yX4_erase, Cond.instanceMethod yX4_erase, Cond.selects RX4 yX4_erase yX4_erase, Cond.code yX4_erase cX4_erase 4 (some .int), Cond.methodLink RL 58 yX3_field, Cond.instanceMethod yX3_field, Cond.selects RX3 yX3_field yX3_field, Cond.code yX3_field cX3_field 12 (some .int), Cond.constantLong RX3 105 (1000000), Cond.constantLong RX3 111 (2000), Cond.fieldLink RX3 113 "DoorKeys" "relays" "I", Cond.constantLong RX3 120 (800), Cond.methodLink RX3 107 yX3_isWithin, Cond.static yX3_isWithin, Cond.code yX3_isWithin cX3_isWithin 4 (some .boolean), Cond.methodLink RX3 116 yX0_nearestTo, Cond.instanceMethod yX0_nearestTo]
def wsL_law_r14 : List Cond := [Cond.selects RX0 yX0_nearestTo yX0_nearestTo, Cond.code yX0_nearestTo cX0_nearestTo 15 (some .int), Cond.constantLong RX0 39 (2250001), Cond.fieldLink RX0 41 "DoorKeys$Doors" "PLACE_X" "[I", Cond.fieldLink RX0 44 "DoorKeys$Doors" "PLACE_Y" "[I", Cond.methodLink RX3 122 yX0_openOne, Cond.instanceMethod yX0_openOne, Cond.selects RX0 yX0_openOne yX0_openOne, Cond.code yX0_openOne cX0_openOne 2 none, Cond.methodLink RX0 32 yX0_has, Cond.instanceMethod yX0_has, Cond.selects RX0 yX0_has yX0_has, Cond.code yX0_has cX0_has 2 (some .boolean), Cond.methodLink RX3 126 yX2_isAtHand, Cond.methodLink RL 62 yX4_field, Cond.instanceMethod yX4_field, Cond.selects RX4 yX4_field yX4_field, Cond.code yX4_field cX4_field 12 (some .int), Cond.constantLong RX4 117 (-1000000), Cond.constantLong RX4 119 (1000000), Cond.constantLong RX4 121 (2000), Cond.fieldLink RX4 123 "DoorKeysModel" "relays" "I", Cond.constantLong RX4 130 (2250000), Cond.constantLong RX4 132 (-2000)]
def wsL_law_r15 : List Cond := [Cond.constantLong RX4 134 (-800), Cond.constantLong RX4 136 (800), Cond.methodLink RX4 126 yX4_far, Cond.static yX4_far, Cond.code yX4_far cX4_far 9 (some .long), Cond.constantLong RX4 107 (1000), Cond.constantLong RX4 109 (-500), Cond.constantLong RX4 111 (-2200), Cond.constantLong RX4 113 (900), Cond.constantLong RX4 115 (-900), Cond.methodLink RL 63 yX3_start, Cond.instanceMethod yX3_start, Cond.selects RX3 yX3_start yX3_start, Cond.code yX3_start cX3_start 7 (some .int), Cond.fieldLink RX3 129 "DoorKeys" "questions" "I", Cond.constantLong RX3 132 (2654435761), Cond.constantLong RX3 134 (4294967295), Cond.methodLink RX3 136 yX2_encipher, Cond.instanceMethod yX2_encipher, Cond.selects RX2 yX2_encipher yX2_encipher, Cond.code yX2_encipher cX2_encipher 7 (some .long), Cond.methodLink RL 67 yX4_start, Cond.instanceMethod yX4_start, Cond.selects RX4 yX4_start yX4_start]
def wsL_law_r16 : List Cond := [Cond.code yX4_start cX4_start 8 (some .int), Cond.fieldLink RX4 138 "DoorKeysModel" "questions" "I", Cond.constantLong RX4 141 (2654435761), Cond.constantLong RX4 143 (4294967295), Cond.methodLink RL 68 yX3_crash, Cond.instanceMethod yX3_crash, Cond.selects RX3 yX3_crash yX3_crash, Cond.code yX3_crash cX3_crash 1 (some .int), Cond.methodLink RL 72 yX4_crash, Cond.instanceMethod yX4_crash, Cond.selects RX4 yX4_crash yX4_crash, Cond.code yX4_crash cX4_crash 1 (some .int), Cond.methodLink RL 73 yX3_alarm, Cond.instanceMethod yX3_alarm, Cond.selects RX3 yX3_alarm yX3_alarm, Cond.code yX3_alarm cX3_alarm 4 (some .int), Cond.fieldLink RX3 140 "DoorKeys$Doors" "timeTold" "J", Cond.methodLink RX3 144 yX0_isGuarded, Cond.instanceMethod yX0_isGuarded, Cond.selects RX0 yX0_isGuarded yX0_isGuarded, Cond.code yX0_isGuarded cX0_isGuarded 1 (some .boolean), Cond.constantLong RX0 26 (30), Cond.methodLink RL 76 yX4_alarm, Cond.instanceMethod yX4_alarm]
def wsL_law_r17 : List Cond := [Cond.selects RX4 yX4_alarm yX4_alarm, Cond.code yX4_alarm cX4_alarm 4 (some .int), Cond.constantLong RX4 145 (29), Cond.methodLink RL 77 yX3_battery, Cond.instanceMethod yX3_battery, Cond.selects RX3 yX3_battery yX3_battery, Cond.code yX3_battery cX3_battery 3 (some .int), Cond.methodLink RL 80 yX4_battery, Cond.instanceMethod yX4_battery, Cond.selects RX4 yX4_battery yX4_battery, Cond.code yX4_battery cX4_battery 2 (some .int), Cond.methodLink RL 81 yL_octet, Cond.static yL_octet, Cond.codeWith yL_octet cL_octet 4 (some .int) [(0, 9, 12, 13)], Cond.methodLink RL 7 yX3_octet, Cond.instanceMethod yX3_octet, Cond.selects RX3 yX3_octet yX3_octet, Cond.code yX3_octet cX3_octet 2 (some .byte), Cond.classLink RX3 153 RJx00060, Cond.instantiable RJx00060 6, Cond.initialized RJx00060, Cond.fieldLink RX3 156 "DoorKeys$Frame" "octets" "[B", Cond.methodLink RX3 150 yX1_has, Cond.methodLink RL 84 yX4_octet]
def wsL_law_r18 : List Cond := [Cond.instanceMethod yX4_octet, Cond.selects RX4 yX4_octet yX4_octet, Cond.code yX4_octet cX4_octet 2 (some .byte), Cond.methodLink RL 85 yX4_thrown, Cond.instanceMethod yX4_thrown, Cond.selects RX4 yX4_thrown yX4_thrown, Cond.code yX4_thrown cX4_thrown 1 (some .int), Cond.methodLink RL 88 yX3_state, Cond.instanceMethod yX3_state, Cond.selects RX3 yX3_state yX3_state, Cond.code yX3_state cX3_state 2 (some .int), Cond.fieldLink RX3 161 "DoorKeys$Doors" "states" "[I", Cond.methodLink RX3 160 yX0_has, Cond.methodLink RL 91 yX4_state, Cond.instanceMethod yX4_state, Cond.selects RX4 yX4_state yX4_state, Cond.code yX4_state cX4_state 2 (some .int)]
def wsL_law : List Cond := (wsL_law_r1 ++ (wsL_law_r2 ++ (wsL_law_r3 ++ (wsL_law_r4 ++ (wsL_law_r5 ++ (wsL_law_r6 ++ (wsL_law_r7 ++ (wsL_law_r8 ++ (wsL_law_r9 ++ (wsL_law_r10 ++ (wsL_law_r11 ++ (wsL_law_r12 ++ (wsL_law_r13 ++ (wsL_law_r14 ++ (wsL_law_r15 ++ (wsL_law_r16 ++ (wsL_law_r17 ++ wsL_law_r18))))))))))))))))) ++ wsX30 ++ wsX40 ++ wsX10 ++ wsX00 ++ wsX20 ++ wsJx000600 ++ ([] : List Cond)
theorem inlX0 : ∀ w ∈ wsX00, w ∈ wsL_law := fun _ h => List.mem_append_left _ (List.mem_append_left _ (List.mem_append_left _ (List.mem_append_right _ h)))
theorem inlX1 : ∀ w ∈ wsX10, w ∈ wsL_law := fun _ h => List.mem_append_left _ (List.mem_append_left _ (List.mem_append_left _ (List.mem_append_left _ (List.mem_append_right _ h))))
theorem inlX2 : ∀ w ∈ wsX20, w ∈ wsL_law := fun _ h => List.mem_append_left _ (List.mem_append_left _ (List.mem_append_right _ h))
theorem inlX3 : ∀ w ∈ wsX30, w ∈ wsL_law := fun _ h => List.mem_append_left _ (List.mem_append_left _ (List.mem_append_left _ (List.mem_append_left _ (List.mem_append_left _ (List.mem_append_left _ (List.mem_append_right _ h))))))
theorem inlX4 : ∀ w ∈ wsX40, w ∈ wsL_law := fun _ h => List.mem_append_left _ (List.mem_append_left _ (List.mem_append_left _ (List.mem_append_left _ (List.mem_append_left _ (List.mem_append_right _ h)))))
theorem inlJx00060 : ∀ w ∈ wsJx000600, w ∈ wsL_law := fun _ h => List.mem_append_left _ (List.mem_append_right _ h)
end
section
theorem dX0_init_0 : decode cX0_init 0 = .ok (.aload_n 0, 1) := by decide +kernel
theorem dX0_init_1 : decode cX0_init 1 = .ok (.invokespecial 3, 3) := by decide +kernel
theorem dX0_init_4 : decode cX0_init 4 = .ok (.aload_n 0, 1) := by decide +kernel
theorem dX0_init_5 : decode cX0_init 5 = .ok (.iconst 5, 1) := by decide +kernel
theorem dX0_init_6 : decode cX0_init 6 = .ok (.newarray .int, 2) := by decide +kernel
theorem dX0_init_8 : decode cX0_init 8 = .ok (.putfield 11, 3) := by decide +kernel
theorem dX0_init_11 : decode cX0_init 11 = .ok (.iconst 0, 1) := by decide +kernel
theorem dX0_init_12 : decode cX0_init 12 = .ok (.istore_n 1, 1) := by decide +kernel
theorem dX0_init_13 : decode cX0_init 13 = .ok (.iload_n 1, 1) := by decide +kernel
theorem dX0_init_14 : decode cX0_init 14 = .ok (.iconst 5, 1) := by decide +kernel
theorem dX0_init_15 : decode cX0_init 15 = .ok (.if_icmp .ge 16, 3) := by decide +kernel
theorem dX0_init_18 : decode cX0_init 18 = .ok (.aload_n 0, 1) := by decide +kernel
theorem dX0_init_19 : decode cX0_init 19 = .ok (.getfield 11, 3) := by decide +kernel
theorem dX0_init_22 : decode cX0_init 22 = .ok (.iload_n 1, 1) := by decide +kernel
theorem dX0_init_23 : decode cX0_init 23 = .ok (.iconst 1, 1) := by decide +kernel
theorem dX0_init_24 : decode cX0_init 24 = .ok (.iastore, 1) := by decide +kernel
theorem dX0_init_25 : decode cX0_init 25 = .ok (.iinc 1 1, 3) := by decide +kernel
theorem dX0_init_28 : decode cX0_init 28 = .ok (.goto (-15), 3) := by decide +kernel
theorem dX0_init_31 : decode cX0_init 31 = .ok (.return_, 1) := by decide +kernel
theorem dX0_has_0 : decode cX0_has 0 = .ok (.iload_n 1, 1) := by decide +kernel
theorem dX0_has_1 : decode cX0_has 1 = .ok (.ifCond .lt 16, 3) := by decide +kernel
theorem dX0_has_4 : decode cX0_has 4 = .ok (.iload_n 1, 1) := by decide +kernel
theorem dX0_has_5 : decode cX0_has 5 = .ok (.aload_n 0, 1) := by decide +kernel
theorem dX0_has_6 : decode cX0_has 6 = .ok (.getfield 11, 3) := by decide +kernel
theorem dX0_has_9 : decode cX0_has 9 = .ok (.arraylength, 1) := by decide +kernel
theorem dX0_has_10 : decode cX0_has 10 = .ok (.if_icmp .ge 7, 3) := by decide +kernel
theorem dX0_has_13 : decode cX0_has 13 = .ok (.iconst 1, 1) := by decide +kernel
theorem dX0_has_14 : decode cX0_has 14 = .ok (.goto 4, 3) := by decide +kernel
theorem dX0_has_17 : decode cX0_has 17 = .ok (.iconst 0, 1) := by decide +kernel
theorem dX0_has_18 : decode cX0_has 18 = .ok (.ireturn, 1) := by decide +kernel
theorem dX0_hasAny_0 : decode cX0_hasAny 0 = .ok (.iconst 0, 1) := by decide +kernel
theorem dX0_hasAny_1 : decode cX0_hasAny 1 = .ok (.istore_n 2, 1) := by decide +kernel
theorem dX0_hasAny_2 : decode cX0_hasAny 2 = .ok (.iload_n 2, 1) := by decide +kernel
theorem dX0_hasAny_3 : decode cX0_hasAny 3 = .ok (.aload_n 0, 1) := by decide +kernel
theorem dX0_hasAny_4 : decode cX0_hasAny 4 = .ok (.getfield 11, 3) := by decide +kernel
theorem dX0_hasAny_7 : decode cX0_hasAny 7 = .ok (.arraylength, 1) := by decide +kernel
theorem dX0_hasAny_8 : decode cX0_hasAny 8 = .ok (.if_icmp .ge 21, 3) := by decide +kernel
theorem dX0_hasAny_11 : decode cX0_hasAny 11 = .ok (.aload_n 0, 1) := by decide +kernel
theorem dX0_hasAny_12 : decode cX0_hasAny 12 = .ok (.getfield 11, 3) := by decide +kernel
theorem dX0_hasAny_15 : decode cX0_hasAny 15 = .ok (.iload_n 2, 1) := by decide +kernel
theorem dX0_hasAny_16 : decode cX0_hasAny 16 = .ok (.iaload, 1) := by decide +kernel
theorem dX0_hasAny_17 : decode cX0_hasAny 17 = .ok (.iload_n 1, 1) := by decide +kernel
theorem dX0_hasAny_18 : decode cX0_hasAny 18 = .ok (.if_icmp .ne 5, 3) := by decide +kernel
theorem dX0_hasAny_21 : decode cX0_hasAny 21 = .ok (.iconst 1, 1) := by decide +kernel
theorem dX0_hasAny_22 : decode cX0_hasAny 22 = .ok (.ireturn, 1) := by decide +kernel
theorem dX0_hasAny_23 : decode cX0_hasAny 23 = .ok (.iinc 2 1, 3) := by decide +kernel
theorem dX0_hasAny_26 : decode cX0_hasAny 26 = .ok (.goto (-24), 3) := by decide +kernel
theorem dX0_hasAny_29 : decode cX0_hasAny 29 = .ok (.iconst 0, 1) := by decide +kernel
theorem dX0_hasAny_30 : decode cX0_hasAny 30 = .ok (.ireturn, 1) := by decide +kernel
set_option maxRecDepth 20000 in
theorem ggX0_isGuarded_X0_hasAny : GoodIn wsX0_isGuarded wsX0_hasAny := goodIn_r _ [8, 9, 10, 11, 12] (by decide +kernel) (by decide +kernel)
set_option maxRecDepth 20000 in
theorem gX0_isGuarded_X0_hasAny : GoodIn wsX0_isGuarded (wsV RX0 15 RX0 yX0_hasAny wsX0_hasAny) := goodIn_app (goodIn_of _ (by decide +kernel)) ggX0_isGuarded_X0_hasAny
theorem dX0_isGuarded_0 : decode cX0_isGuarded 0 = .ok (.aload_n 0, 1) := by decide +kernel
theorem dX0_isGuarded_1 : decode cX0_isGuarded 1 = .ok (.iconst 0, 1) := by decide +kernel
theorem dX0_isGuarded_2 : decode cX0_isGuarded 2 = .ok (.invokevirtual 15, 3) := by decide +kernel
theorem dX0_isGuarded_5 : decode cX0_isGuarded 5 = .ok (.ifCond .ne 23, 3) := by decide +kernel
theorem dX0_isGuarded_8 : decode cX0_isGuarded 8 = .ok (.aload_n 0, 1) := by decide +kernel
theorem dX0_isGuarded_9 : decode cX0_isGuarded 9 = .ok (.getfield 19, 3) := by decide +kernel
theorem dX0_isGuarded_12 : decode cX0_isGuarded 12 = .ok (.aload_n 0, 1) := by decide +kernel
theorem dX0_isGuarded_13 : decode cX0_isGuarded 13 = .ok (.getfield 23, 3) := by decide +kernel
theorem dX0_isGuarded_16 : decode cX0_isGuarded 16 = .ok (.lsub, 1) := by decide +kernel
theorem dX0_isGuarded_17 : decode cX0_isGuarded 17 = .ok (.ldc2_w 26, 3) := by decide +kernel
theorem dX0_isGuarded_20 : decode cX0_isGuarded 20 = .ok (.lcmp, 1) := by decide +kernel
theorem dX0_isGuarded_21 : decode cX0_isGuarded 21 = .ok (.ifCond .lt 7, 3) := by decide +kernel
theorem dX0_isGuarded_24 : decode cX0_isGuarded 24 = .ok (.iconst 1, 1) := by decide +kernel
theorem dX0_isGuarded_25 : decode cX0_isGuarded 25 = .ok (.goto 4, 3) := by decide +kernel
theorem dX0_isGuarded_28 : decode cX0_isGuarded 28 = .ok (.iconst 0, 1) := by decide +kernel
theorem dX0_isGuarded_29 : decode cX0_isGuarded 29 = .ok (.ireturn, 1) := by decide +kernel
set_option maxRecDepth 20000 in
theorem ggX0_openAll_X0_turn : GoodIn wsX0_openAll wsX0_turn := goodIn_r _ [5, 6, 7, 8, 9] (by decide +kernel) (by decide +kernel)
set_option maxRecDepth 20000 in
theorem gX0_openAll_X0_turn : GoodIn wsX0_openAll (wsV RX0 28 RX0 yX0_turn wsX0_turn) := goodIn_app (goodIn_of _ (by decide +kernel)) ggX0_openAll_X0_turn
theorem dX0_openAll_0 : decode cX0_openAll 0 = .ok (.aload_n 0, 1) := by decide +kernel
theorem dX0_openAll_1 : decode cX0_openAll 1 = .ok (.iconst 1, 1) := by decide +kernel
theorem dX0_openAll_2 : decode cX0_openAll 2 = .ok (.iconst 0, 1) := by decide +kernel
theorem dX0_openAll_3 : decode cX0_openAll 3 = .ok (.invokevirtual 28, 3) := by decide +kernel
theorem dX0_openAll_6 : decode cX0_openAll 6 = .ok (.aload_n 0, 1) := by decide +kernel
theorem dX0_openAll_7 : decode cX0_openAll 7 = .ok (.iconst 2, 1) := by decide +kernel
theorem dX0_openAll_8 : decode cX0_openAll 8 = .ok (.iconst 0, 1) := by decide +kernel
theorem dX0_openAll_9 : decode cX0_openAll 9 = .ok (.invokevirtual 28, 3) := by decide +kernel
theorem dX0_openAll_12 : decode cX0_openAll 12 = .ok (.iadd, 1) := by decide +kernel
theorem dX0_openAll_13 : decode cX0_openAll 13 = .ok (.ireturn, 1) := by decide +kernel
set_option maxRecDepth 20000 in
theorem ggX0_openOne_X0_has : GoodIn wsX0_openOne wsX0_has := goodIn_r _ [6, 1, 7, 8, 9] (by decide +kernel) (by decide +kernel)
set_option maxRecDepth 20000 in
theorem gX0_openOne_X0_has : GoodIn wsX0_openOne (wsV RX0 32 RX0 yX0_has wsX0_has) := goodIn_app (goodIn_of _ (by decide +kernel)) ggX0_openOne_X0_has
theorem dX0_openOne_0 : decode cX0_openOne 0 = .ok (.aload_n 0, 1) := by decide +kernel
theorem dX0_openOne_1 : decode cX0_openOne 1 = .ok (.iload_n 1, 1) := by decide +kernel
theorem dX0_openOne_2 : decode cX0_openOne 2 = .ok (.invokevirtual 32, 3) := by decide +kernel
theorem dX0_openOne_5 : decode cX0_openOne 5 = .ok (.ifCond .eq 10, 3) := by decide +kernel
theorem dX0_openOne_8 : decode cX0_openOne 8 = .ok (.aload_n 0, 1) := by decide +kernel
theorem dX0_openOne_9 : decode cX0_openOne 9 = .ok (.getfield 11, 3) := by decide +kernel
theorem dX0_openOne_12 : decode cX0_openOne 12 = .ok (.iload_n 1, 1) := by decide +kernel
theorem dX0_openOne_13 : decode cX0_openOne 13 = .ok (.iconst 0, 1) := by decide +kernel
theorem dX0_openOne_14 : decode cX0_openOne 14 = .ok (.iastore, 1) := by decide +kernel
theorem dX0_openOne_15 : decode cX0_openOne 15 = .ok (.return_, 1) := by decide +kernel
theorem dX0_openBootUnlessDead_0 : decode cX0_openBootUnlessDead 0 = .ok (.aload_n 0, 1) := by decide +kernel
theorem dX0_openBootUnlessDead_1 : decode cX0_openBootUnlessDead 1 = .ok (.getfield 11, 3) := by decide +kernel
theorem dX0_openBootUnlessDead_4 : decode cX0_openBootUnlessDead 4 = .ok (.iconst 4, 1) := by decide +kernel
theorem dX0_openBootUnlessDead_5 : decode cX0_openBootUnlessDead 5 = .ok (.iaload, 1) := by decide +kernel
theorem dX0_openBootUnlessDead_6 : decode cX0_openBootUnlessDead 6 = .ok (.iconst 2, 1) := by decide +kernel
theorem dX0_openBootUnlessDead_7 : decode cX0_openBootUnlessDead 7 = .ok (.if_icmp .eq 10, 3) := by decide +kernel
theorem dX0_openBootUnlessDead_10 : decode cX0_openBootUnlessDead 10 = .ok (.aload_n 0, 1) := by decide +kernel
theorem dX0_openBootUnlessDead_11 : decode cX0_openBootUnlessDead 11 = .ok (.getfield 11, 3) := by decide +kernel
theorem dX0_openBootUnlessDead_14 : decode cX0_openBootUnlessDead 14 = .ok (.iconst 4, 1) := by decide +kernel
theorem dX0_openBootUnlessDead_15 : decode cX0_openBootUnlessDead 15 = .ok (.iconst 0, 1) := by decide +kernel
theorem dX0_openBootUnlessDead_16 : decode cX0_openBootUnlessDead 16 = .ok (.iastore, 1) := by decide +kernel
theorem dX0_openBootUnlessDead_17 : decode cX0_openBootUnlessDead 17 = .ok (.return_, 1) := by decide +kernel
set_option maxRecDepth 20000 in
theorem ggX0_shutAll_X0_turn : GoodIn wsX0_shutAll wsX0_turn := goodIn_r _ [5, 6, 17, 18, 19] (by decide +kernel) (by decide +kernel)
set_option maxRecDepth 20000 in
theorem gX0_shutAll_X0_turn : GoodIn wsX0_shutAll (wsV RX0 28 RX0 yX0_turn wsX0_turn) := goodIn_app (goodIn_of _ (by decide +kernel)) ggX0_shutAll_X0_turn
set_option maxRecDepth 20000 in
theorem ggX0_shutAll_X0_noteShut : GoodIn wsX0_shutAll wsX0_noteShut := goodIn_r _ [10, 11, 12, 13, 14, 15, 4, 16, 6, 17, 18, 19] (by decide +kernel) (by decide +kernel)
set_option maxRecDepth 20000 in
theorem gX0_shutAll_X0_noteShut : GoodIn wsX0_shutAll (wsV RX0 35 RX0 yX0_noteShut wsX0_noteShut) := goodIn_app (goodIn_of _ (by decide +kernel)) ggX0_shutAll_X0_noteShut
theorem dX0_shutAll_0 : decode cX0_shutAll 0 = .ok (.aload_n 0, 1) := by decide +kernel
theorem dX0_shutAll_1 : decode cX0_shutAll 1 = .ok (.iconst 0, 1) := by decide +kernel
theorem dX0_shutAll_2 : decode cX0_shutAll 2 = .ok (.iconst 1, 1) := by decide +kernel
theorem dX0_shutAll_3 : decode cX0_shutAll 3 = .ok (.invokevirtual 28, 3) := by decide +kernel
theorem dX0_shutAll_6 : decode cX0_shutAll 6 = .ok (.istore_n 1, 1) := by decide +kernel
theorem dX0_shutAll_7 : decode cX0_shutAll 7 = .ok (.aload_n 0, 1) := by decide +kernel
theorem dX0_shutAll_8 : decode cX0_shutAll 8 = .ok (.iload_n 1, 1) := by decide +kernel
theorem dX0_shutAll_9 : decode cX0_shutAll 9 = .ok (.invokevirtual 35, 3) := by decide +kernel
theorem dX0_shutAll_12 : decode cX0_shutAll 12 = .ok (.iload_n 1, 1) := by decide +kernel
theorem dX0_shutAll_13 : decode cX0_shutAll 13 = .ok (.ireturn, 1) := by decide +kernel
set_option maxRecDepth 20000 in
theorem ggX0_shutBoot_X0_noteShut : GoodIn wsX0_shutBoot wsX0_noteShut := goodIn_r _ [6, 7, 8, 9, 10, 11, 5, 12, 1, 13, 14, 15] (by decide +kernel) (by decide +kernel)
set_option maxRecDepth 20000 in
theorem gX0_shutBoot_X0_noteShut : GoodIn wsX0_shutBoot (wsV RX0 35 RX0 yX0_noteShut wsX0_noteShut) := goodIn_app (goodIn_of _ (by decide +kernel)) ggX0_shutBoot_X0_noteShut
theorem dX0_shutBoot_0 : decode cX0_shutBoot 0 = .ok (.aload_n 0, 1) := by decide +kernel
theorem dX0_shutBoot_1 : decode cX0_shutBoot 1 = .ok (.getfield 11, 3) := by decide +kernel
theorem dX0_shutBoot_4 : decode cX0_shutBoot 4 = .ok (.iconst 4, 1) := by decide +kernel
theorem dX0_shutBoot_5 : decode cX0_shutBoot 5 = .ok (.iaload, 1) := by decide +kernel
theorem dX0_shutBoot_6 : decode cX0_shutBoot 6 = .ok (.ifCond .eq 5, 3) := by decide +kernel
theorem dX0_shutBoot_9 : decode cX0_shutBoot 9 = .ok (.iconst 0, 1) := by decide +kernel
theorem dX0_shutBoot_10 : decode cX0_shutBoot 10 = .ok (.ireturn, 1) := by decide +kernel
theorem dX0_shutBoot_11 : decode cX0_shutBoot 11 = .ok (.aload_n 0, 1) := by decide +kernel
theorem dX0_shutBoot_12 : decode cX0_shutBoot 12 = .ok (.getfield 11, 3) := by decide +kernel
theorem dX0_shutBoot_15 : decode cX0_shutBoot 15 = .ok (.iconst 4, 1) := by decide +kernel
theorem dX0_shutBoot_16 : decode cX0_shutBoot 16 = .ok (.iconst 1, 1) := by decide +kernel
theorem dX0_shutBoot_17 : decode cX0_shutBoot 17 = .ok (.iastore, 1) := by decide +kernel
theorem dX0_shutBoot_18 : decode cX0_shutBoot 18 = .ok (.aload_n 0, 1) := by decide +kernel
theorem dX0_shutBoot_19 : decode cX0_shutBoot 19 = .ok (.iconst 1, 1) := by decide +kernel
theorem dX0_shutBoot_20 : decode cX0_shutBoot 20 = .ok (.invokevirtual 35, 3) := by decide +kernel
theorem dX0_shutBoot_23 : decode cX0_shutBoot 23 = .ok (.iconst 1, 1) := by decide +kernel
theorem dX0_shutBoot_24 : decode cX0_shutBoot 24 = .ok (.ireturn, 1) := by decide +kernel
set_option maxRecDepth 20000 in
theorem ggX0_deadenUnlessOpen_X0_hasAny : GoodIn wsX0_deadenUnlessOpen wsX0_hasAny := goodIn_r _ [5, 6, 11, 12, 13] (by decide +kernel) (by decide +kernel)
set_option maxRecDepth 20000 in
theorem gX0_deadenUnlessOpen_X0_hasAny : GoodIn wsX0_deadenUnlessOpen (wsV RX0 15 RX0 yX0_hasAny wsX0_hasAny) := goodIn_app (goodIn_of _ (by decide +kernel)) ggX0_deadenUnlessOpen_X0_hasAny
set_option maxRecDepth 20000 in
theorem ggX0_deadenUnlessOpen_X0_turn : GoodIn wsX0_deadenUnlessOpen wsX0_turn := goodIn_r _ [10, 6, 11, 12, 13] (by decide +kernel) (by decide +kernel)
set_option maxRecDepth 20000 in
theorem gX0_deadenUnlessOpen_X0_turn : GoodIn wsX0_deadenUnlessOpen (wsV RX0 28 RX0 yX0_turn wsX0_turn) := goodIn_app (goodIn_of _ (by decide +kernel)) ggX0_deadenUnlessOpen_X0_turn
theorem dX0_deadenUnlessOpen_0 : decode cX0_deadenUnlessOpen 0 = .ok (.aload_n 0, 1) := by decide +kernel
theorem dX0_deadenUnlessOpen_1 : decode cX0_deadenUnlessOpen 1 = .ok (.iconst 0, 1) := by decide +kernel
theorem dX0_deadenUnlessOpen_2 : decode cX0_deadenUnlessOpen 2 = .ok (.invokevirtual 15, 3) := by decide +kernel
theorem dX0_deadenUnlessOpen_5 : decode cX0_deadenUnlessOpen 5 = .ok (.ifCond .eq 7, 3) := by decide +kernel
theorem dX0_deadenUnlessOpen_8 : decode cX0_deadenUnlessOpen 8 = .ok (.iconst 0, 1) := by decide +kernel
theorem dX0_deadenUnlessOpen_9 : decode cX0_deadenUnlessOpen 9 = .ok (.goto 9, 3) := by decide +kernel
theorem dX0_deadenUnlessOpen_12 : decode cX0_deadenUnlessOpen 12 = .ok (.aload_n 0, 1) := by decide +kernel
theorem dX0_deadenUnlessOpen_13 : decode cX0_deadenUnlessOpen 13 = .ok (.iconst 1, 1) := by decide +kernel
theorem dX0_deadenUnlessOpen_14 : decode cX0_deadenUnlessOpen 14 = .ok (.iconst 2, 1) := by decide +kernel
theorem dX0_deadenUnlessOpen_15 : decode cX0_deadenUnlessOpen 15 = .ok (.invokevirtual 28, 3) := by decide +kernel
theorem dX0_deadenUnlessOpen_18 : decode cX0_deadenUnlessOpen 18 = .ok (.ireturn, 1) := by decide +kernel
theorem dX0_nearestTo_0 : decode cX0_nearestTo 0 = .ok (.iconst (-1), 1) := by decide +kernel
theorem dX0_nearestTo_1 : decode cX0_nearestTo 1 = .ok (.istore 5, 2) := by decide +kernel
theorem dX0_nearestTo_3 : decode cX0_nearestTo 3 = .ok (.ldc2_w 39, 3) := by decide +kernel
theorem dX0_nearestTo_6 : decode cX0_nearestTo 6 = .ok (.lstore 6, 2) := by decide +kernel
theorem dX0_nearestTo_8 : decode cX0_nearestTo 8 = .ok (.iconst 0, 1) := by decide +kernel
theorem dX0_nearestTo_9 : decode cX0_nearestTo 9 = .ok (.istore 8, 2) := by decide +kernel
theorem dX0_nearestTo_11 : decode cX0_nearestTo 11 = .ok (.iload 8, 2) := by decide +kernel
theorem dX0_nearestTo_13 : decode cX0_nearestTo 13 = .ok (.iconst 5, 1) := by decide +kernel
theorem dX0_nearestTo_14 : decode cX0_nearestTo 14 = .ok (.if_icmp .ge 60, 3) := by decide +kernel
theorem dX0_nearestTo_17 : decode cX0_nearestTo 17 = .ok (.lload_n 1, 1) := by decide +kernel
theorem dX0_nearestTo_18 : decode cX0_nearestTo 18 = .ok (.getstatic 41, 3) := by decide +kernel
theorem dX0_nearestTo_21 : decode cX0_nearestTo 21 = .ok (.iload 8, 2) := by decide +kernel
theorem dX0_nearestTo_23 : decode cX0_nearestTo 23 = .ok (.iaload, 1) := by decide +kernel
theorem dX0_nearestTo_24 : decode cX0_nearestTo 24 = .ok (.i2l, 1) := by decide +kernel
theorem dX0_nearestTo_25 : decode cX0_nearestTo 25 = .ok (.lsub, 1) := by decide +kernel
theorem dX0_nearestTo_26 : decode cX0_nearestTo 26 = .ok (.lstore 9, 2) := by decide +kernel
theorem dX0_nearestTo_28 : decode cX0_nearestTo 28 = .ok (.lload_n 3, 1) := by decide +kernel
theorem dX0_nearestTo_29 : decode cX0_nearestTo 29 = .ok (.getstatic 44, 3) := by decide +kernel
theorem dX0_nearestTo_32 : decode cX0_nearestTo 32 = .ok (.iload 8, 2) := by decide +kernel
theorem dX0_nearestTo_34 : decode cX0_nearestTo 34 = .ok (.iaload, 1) := by decide +kernel
theorem dX0_nearestTo_35 : decode cX0_nearestTo 35 = .ok (.i2l, 1) := by decide +kernel
theorem dX0_nearestTo_36 : decode cX0_nearestTo 36 = .ok (.lsub, 1) := by decide +kernel
theorem dX0_nearestTo_37 : decode cX0_nearestTo 37 = .ok (.lstore 11, 2) := by decide +kernel
theorem dX0_nearestTo_39 : decode cX0_nearestTo 39 = .ok (.lload 9, 2) := by decide +kernel
theorem dX0_nearestTo_41 : decode cX0_nearestTo 41 = .ok (.lload 9, 2) := by decide +kernel
theorem dX0_nearestTo_43 : decode cX0_nearestTo 43 = .ok (.lmul, 1) := by decide +kernel
theorem dX0_nearestTo_44 : decode cX0_nearestTo 44 = .ok (.lload 11, 2) := by decide +kernel
theorem dX0_nearestTo_46 : decode cX0_nearestTo 46 = .ok (.lload 11, 2) := by decide +kernel
theorem dX0_nearestTo_48 : decode cX0_nearestTo 48 = .ok (.lmul, 1) := by decide +kernel
theorem dX0_nearestTo_49 : decode cX0_nearestTo 49 = .ok (.ladd, 1) := by decide +kernel
theorem dX0_nearestTo_50 : decode cX0_nearestTo 50 = .ok (.lstore 13, 2) := by decide +kernel
theorem dX0_nearestTo_52 : decode cX0_nearestTo 52 = .ok (.lload 13, 2) := by decide +kernel
theorem dX0_nearestTo_54 : decode cX0_nearestTo 54 = .ok (.lload 6, 2) := by decide +kernel
theorem dX0_nearestTo_56 : decode cX0_nearestTo 56 = .ok (.lcmp, 1) := by decide +kernel
theorem dX0_nearestTo_57 : decode cX0_nearestTo 57 = .ok (.ifCond .ge 11, 3) := by decide +kernel
theorem dX0_nearestTo_60 : decode cX0_nearestTo 60 = .ok (.lload 13, 2) := by decide +kernel
theorem dX0_nearestTo_62 : decode cX0_nearestTo 62 = .ok (.lstore 6, 2) := by decide +kernel
theorem dX0_nearestTo_64 : decode cX0_nearestTo 64 = .ok (.iload 8, 2) := by decide +kernel
theorem dX0_nearestTo_66 : decode cX0_nearestTo 66 = .ok (.istore 5, 2) := by decide +kernel
theorem dX0_nearestTo_68 : decode cX0_nearestTo 68 = .ok (.iinc 8 1, 3) := by decide +kernel
theorem dX0_nearestTo_71 : decode cX0_nearestTo 71 = .ok (.goto (-60), 3) := by decide +kernel
theorem dX0_nearestTo_74 : decode cX0_nearestTo 74 = .ok (.iload 5, 2) := by decide +kernel
theorem dX0_nearestTo_76 : decode cX0_nearestTo 76 = .ok (.ireturn, 1) := by decide +kernel
theorem dX0_turn_0 : decode cX0_turn 0 = .ok (.iconst 0, 1) := by decide +kernel
theorem dX0_turn_1 : decode cX0_turn 1 = .ok (.istore_n 3, 1) := by decide +kernel
theorem dX0_turn_2 : decode cX0_turn 2 = .ok (.iconst 0, 1) := by decide +kernel
theorem dX0_turn_3 : decode cX0_turn 3 = .ok (.istore 4, 2) := by decide +kernel
theorem dX0_turn_5 : decode cX0_turn 5 = .ok (.iload 4, 2) := by decide +kernel
theorem dX0_turn_7 : decode cX0_turn 7 = .ok (.aload_n 0, 1) := by decide +kernel
theorem dX0_turn_8 : decode cX0_turn 8 = .ok (.getfield 11, 3) := by decide +kernel
theorem dX0_turn_11 : decode cX0_turn 11 = .ok (.arraylength, 1) := by decide +kernel
theorem dX0_turn_12 : decode cX0_turn 12 = .ok (.if_icmp .ge 31, 3) := by decide +kernel
theorem dX0_turn_15 : decode cX0_turn 15 = .ok (.aload_n 0, 1) := by decide +kernel
theorem dX0_turn_16 : decode cX0_turn 16 = .ok (.getfield 11, 3) := by decide +kernel
theorem dX0_turn_19 : decode cX0_turn 19 = .ok (.iload 4, 2) := by decide +kernel
theorem dX0_turn_21 : decode cX0_turn 21 = .ok (.iaload, 1) := by decide +kernel
theorem dX0_turn_22 : decode cX0_turn 22 = .ok (.iload_n 1, 1) := by decide +kernel
theorem dX0_turn_23 : decode cX0_turn 23 = .ok (.if_icmp .ne 14, 3) := by decide +kernel
theorem dX0_turn_26 : decode cX0_turn 26 = .ok (.aload_n 0, 1) := by decide +kernel
theorem dX0_turn_27 : decode cX0_turn 27 = .ok (.getfield 11, 3) := by decide +kernel
theorem dX0_turn_30 : decode cX0_turn 30 = .ok (.iload 4, 2) := by decide +kernel
theorem dX0_turn_32 : decode cX0_turn 32 = .ok (.iload_n 2, 1) := by decide +kernel
theorem dX0_turn_33 : decode cX0_turn 33 = .ok (.iastore, 1) := by decide +kernel
theorem dX0_turn_34 : decode cX0_turn 34 = .ok (.iinc 3 1, 3) := by decide +kernel
theorem dX0_turn_37 : decode cX0_turn 37 = .ok (.iinc 4 1, 3) := by decide +kernel
theorem dX0_turn_40 : decode cX0_turn 40 = .ok (.goto (-35), 3) := by decide +kernel
theorem dX0_turn_43 : decode cX0_turn 43 = .ok (.iload_n 3, 1) := by decide +kernel
theorem dX0_turn_44 : decode cX0_turn 44 = .ok (.ireturn, 1) := by decide +kernel
set_option maxRecDepth 20000 in
theorem ggX0_noteShut_X0_hasAny : GoodIn wsX0_noteShut wsX0_hasAny := goodIn_r _ [7, 8, 9, 10, 11] (by decide +kernel) (by decide +kernel)
set_option maxRecDepth 20000 in
theorem gX0_noteShut_X0_hasAny : GoodIn wsX0_noteShut (wsV RX0 15 RX0 yX0_hasAny wsX0_hasAny) := goodIn_app (goodIn_of _ (by decide +kernel)) ggX0_noteShut_X0_hasAny
theorem dX0_noteShut_0 : decode cX0_noteShut 0 = .ok (.iload_n 1, 1) := by decide +kernel
theorem dX0_noteShut_1 : decode cX0_noteShut 1 = .ok (.ifCond .le 19, 3) := by decide +kernel
theorem dX0_noteShut_4 : decode cX0_noteShut 4 = .ok (.aload_n 0, 1) := by decide +kernel
theorem dX0_noteShut_5 : decode cX0_noteShut 5 = .ok (.iconst 0, 1) := by decide +kernel
theorem dX0_noteShut_6 : decode cX0_noteShut 6 = .ok (.invokevirtual 15, 3) := by decide +kernel
theorem dX0_noteShut_9 : decode cX0_noteShut 9 = .ok (.ifCond .ne 11, 3) := by decide +kernel
theorem dX0_noteShut_12 : decode cX0_noteShut 12 = .ok (.aload_n 0, 1) := by decide +kernel
theorem dX0_noteShut_13 : decode cX0_noteShut 13 = .ok (.aload_n 0, 1) := by decide +kernel
theorem dX0_noteShut_14 : decode cX0_noteShut 14 = .ok (.getfield 19, 3) := by decide +kernel
theorem dX0_noteShut_17 : decode cX0_noteShut 17 = .ok (.putfield 23, 3) := by decide +kernel
theorem dX0_noteShut_20 : decode cX0_noteShut 20 = .ok (.return_, 1) := by decide +kernel
theorem dX1_init_0 : decode cX1_init 0 = .ok (.aload_n 0, 1) := by decide +kernel
theorem dX1_init_1 : decode cX1_init 1 = .ok (.invokespecial 1, 3) := by decide +kernel
theorem dX1_init_4 : decode cX1_init 4 = .ok (.aload_n 0, 1) := by decide +kernel
theorem dX1_init_5 : decode cX1_init 5 = .ok (.bipush 16, 2) := by decide +kernel
theorem dX1_init_7 : decode cX1_init 7 = .ok (.newarray .byte, 2) := by decide +kernel
theorem dX1_init_9 : decode cX1_init 9 = .ok (.putfield 9, 3) := by decide +kernel
theorem dX1_init_12 : decode cX1_init 12 = .ok (.return_, 1) := by decide +kernel
theorem dX1_clear_0 : decode cX1_clear 0 = .ok (.aload_n 0, 1) := by decide +kernel
theorem dX1_clear_1 : decode cX1_clear 1 = .ok (.iconst 0, 1) := by decide +kernel
theorem dX1_clear_2 : decode cX1_clear 2 = .ok (.putfield 13, 3) := by decide +kernel
theorem dX1_clear_5 : decode cX1_clear 5 = .ok (.return_, 1) := by decide +kernel
theorem dX1_keep_0 : decode cX1_keep 0 = .ok (.aload_n 0, 1) := by decide +kernel
theorem dX1_keep_1 : decode cX1_keep 1 = .ok (.getfield 13, 3) := by decide +kernel
theorem dX1_keep_4 : decode cX1_keep 4 = .ok (.ifCond .lt 35, 3) := by decide +kernel
theorem dX1_keep_7 : decode cX1_keep 7 = .ok (.aload_n 0, 1) := by decide +kernel
theorem dX1_keep_8 : decode cX1_keep 8 = .ok (.getfield 13, 3) := by decide +kernel
theorem dX1_keep_11 : decode cX1_keep 11 = .ok (.aload_n 0, 1) := by decide +kernel
theorem dX1_keep_12 : decode cX1_keep 12 = .ok (.getfield 9, 3) := by decide +kernel
theorem dX1_keep_15 : decode cX1_keep 15 = .ok (.arraylength, 1) := by decide +kernel
theorem dX1_keep_16 : decode cX1_keep 16 = .ok (.if_icmp .ge 23, 3) := by decide +kernel
theorem dX1_keep_19 : decode cX1_keep 19 = .ok (.aload_n 0, 1) := by decide +kernel
theorem dX1_keep_20 : decode cX1_keep 20 = .ok (.getfield 9, 3) := by decide +kernel
theorem dX1_keep_23 : decode cX1_keep 23 = .ok (.aload_n 0, 1) := by decide +kernel
theorem dX1_keep_24 : decode cX1_keep 24 = .ok (.getfield 13, 3) := by decide +kernel
theorem dX1_keep_27 : decode cX1_keep 27 = .ok (.iload_n 1, 1) := by decide +kernel
theorem dX1_keep_28 : decode cX1_keep 28 = .ok (.bastore, 1) := by decide +kernel
theorem dX1_keep_29 : decode cX1_keep 29 = .ok (.aload_n 0, 1) := by decide +kernel
theorem dX1_keep_30 : decode cX1_keep 30 = .ok (.dup, 1) := by decide +kernel
theorem dX1_keep_31 : decode cX1_keep 31 = .ok (.getfield 13, 3) := by decide +kernel
theorem dX1_keep_34 : decode cX1_keep 34 = .ok (.iconst 1, 1) := by decide +kernel
theorem dX1_keep_35 : decode cX1_keep 35 = .ok (.iadd, 1) := by decide +kernel
theorem dX1_keep_36 : decode cX1_keep 36 = .ok (.putfield 13, 3) := by decide +kernel
theorem dX1_keep_39 : decode cX1_keep 39 = .ok (.return_, 1) := by decide +kernel
theorem dX1_has_0 : decode cX1_has 0 = .ok (.iload_n 1, 1) := by decide +kernel
theorem dX1_has_1 : decode cX1_has 1 = .ok (.ifCond .lt 24, 3) := by decide +kernel
theorem dX1_has_4 : decode cX1_has 4 = .ok (.iload_n 1, 1) := by decide +kernel
theorem dX1_has_5 : decode cX1_has 5 = .ok (.aload_n 0, 1) := by decide +kernel
theorem dX1_has_6 : decode cX1_has 6 = .ok (.getfield 13, 3) := by decide +kernel
theorem dX1_has_9 : decode cX1_has 9 = .ok (.if_icmp .ge 16, 3) := by decide +kernel
theorem dX1_has_12 : decode cX1_has 12 = .ok (.iload_n 1, 1) := by decide +kernel
theorem dX1_has_13 : decode cX1_has 13 = .ok (.aload_n 0, 1) := by decide +kernel
theorem dX1_has_14 : decode cX1_has 14 = .ok (.getfield 9, 3) := by decide +kernel
theorem dX1_has_17 : decode cX1_has 17 = .ok (.arraylength, 1) := by decide +kernel
theorem dX1_has_18 : decode cX1_has 18 = .ok (.if_icmp .ge 7, 3) := by decide +kernel
theorem dX1_has_21 : decode cX1_has 21 = .ok (.iconst 1, 1) := by decide +kernel
theorem dX1_has_22 : decode cX1_has 22 = .ok (.goto 4, 3) := by decide +kernel
theorem dX1_has_25 : decode cX1_has 25 = .ok (.iconst 0, 1) := by decide +kernel
theorem dX1_has_26 : decode cX1_has 26 = .ok (.ireturn, 1) := by decide +kernel
set_option maxRecDepth 20000 in
theorem ggX1_isSound_X1_unsigned : GoodIn wsX1_isSound wsX1_unsigned := goodIn_r _ [6, 7, 8, 9, 10, 5, 11, 1, 12, 13] (by decide +kernel) (by decide +kernel)
set_option maxRecDepth 20000 in
theorem gX1_isSound_X1_unsigned : GoodIn wsX1_isSound (wsV RX1 17 RX1 yX1_unsigned wsX1_unsigned) := goodIn_app (goodIn_of _ (by decide +kernel)) ggX1_isSound_X1_unsigned
theorem dX1_isSound_0 : decode cX1_isSound 0 = .ok (.aload_n 0, 1) := by decide +kernel
theorem dX1_isSound_1 : decode cX1_isSound 1 = .ok (.getfield 13, 3) := by decide +kernel
theorem dX1_isSound_4 : decode cX1_isSound 4 = .ok (.bipush 8, 2) := by decide +kernel
theorem dX1_isSound_6 : decode cX1_isSound 6 = .ok (.if_icmp .eq 5, 3) := by decide +kernel
theorem dX1_isSound_9 : decode cX1_isSound 9 = .ok (.iconst 0, 1) := by decide +kernel
theorem dX1_isSound_10 : decode cX1_isSound 10 = .ok (.ireturn, 1) := by decide +kernel
theorem dX1_isSound_11 : decode cX1_isSound 11 = .ok (.iconst 0, 1) := by decide +kernel
theorem dX1_isSound_12 : decode cX1_isSound 12 = .ok (.istore_n 1, 1) := by decide +kernel
theorem dX1_isSound_13 : decode cX1_isSound 13 = .ok (.iconst 0, 1) := by decide +kernel
theorem dX1_isSound_14 : decode cX1_isSound 14 = .ok (.istore_n 2, 1) := by decide +kernel
theorem dX1_isSound_15 : decode cX1_isSound 15 = .ok (.iload_n 2, 1) := by decide +kernel
theorem dX1_isSound_16 : decode cX1_isSound 16 = .ok (.bipush 8, 2) := by decide +kernel
theorem dX1_isSound_18 : decode cX1_isSound 18 = .ok (.if_icmp .ge 17, 3) := by decide +kernel
theorem dX1_isSound_21 : decode cX1_isSound 21 = .ok (.iload_n 1, 1) := by decide +kernel
theorem dX1_isSound_22 : decode cX1_isSound 22 = .ok (.aload_n 0, 1) := by decide +kernel
theorem dX1_isSound_23 : decode cX1_isSound 23 = .ok (.iload_n 2, 1) := by decide +kernel
theorem dX1_isSound_24 : decode cX1_isSound 24 = .ok (.invokevirtual 17, 3) := by decide +kernel
theorem dX1_isSound_27 : decode cX1_isSound 27 = .ok (.ixor, 1) := by decide +kernel
theorem dX1_isSound_28 : decode cX1_isSound 28 = .ok (.istore_n 1, 1) := by decide +kernel
theorem dX1_isSound_29 : decode cX1_isSound 29 = .ok (.iinc 2 1, 3) := by decide +kernel
theorem dX1_isSound_32 : decode cX1_isSound 32 = .ok (.goto (-17), 3) := by decide +kernel
theorem dX1_isSound_35 : decode cX1_isSound 35 = .ok (.iload_n 1, 1) := by decide +kernel
theorem dX1_isSound_36 : decode cX1_isSound 36 = .ok (.ifCond .ne 7, 3) := by decide +kernel
theorem dX1_isSound_39 : decode cX1_isSound 39 = .ok (.iconst 1, 1) := by decide +kernel
theorem dX1_isSound_40 : decode cX1_isSound 40 = .ok (.goto 4, 3) := by decide +kernel
theorem dX1_isSound_43 : decode cX1_isSound 43 = .ok (.iconst 0, 1) := by decide +kernel
theorem dX1_isSound_44 : decode cX1_isSound 44 = .ok (.ireturn, 1) := by decide +kernel
set_option maxRecDepth 20000 in
theorem ggX1_sender_X1_unsigned : GoodIn wsX1_sender wsX1_unsigned := goodIn_r _ [5, 6, 7, 8, 9, 4, 10, 11, 12, 13] (by decide +kernel) (by decide +kernel)
set_option maxRecDepth 20000 in
theorem gX1_sender_X1_unsigned : GoodIn wsX1_sender (wsV RX1 17 RX1 yX1_unsigned wsX1_unsigned) := goodIn_app (goodIn_of _ (by decide +kernel)) ggX1_sender_X1_unsigned
theorem dX1_sender_0 : decode cX1_sender 0 = .ok (.aload_n 0, 1) := by decide +kernel
theorem dX1_sender_1 : decode cX1_sender 1 = .ok (.iconst 0, 1) := by decide +kernel
theorem dX1_sender_2 : decode cX1_sender 2 = .ok (.invokevirtual 17, 3) := by decide +kernel
theorem dX1_sender_5 : decode cX1_sender 5 = .ok (.ireturn, 1) := by decide +kernel
set_option maxRecDepth 20000 in
theorem ggX1_command_X1_unsigned : GoodIn wsX1_command wsX1_unsigned := goodIn_r _ [5, 6, 7, 8, 9, 4, 10, 11, 12, 13] (by decide +kernel) (by decide +kernel)
set_option maxRecDepth 20000 in
theorem gX1_command_X1_unsigned : GoodIn wsX1_command (wsV RX1 17 RX1 yX1_unsigned wsX1_unsigned) := goodIn_app (goodIn_of _ (by decide +kernel)) ggX1_command_X1_unsigned
theorem dX1_command_0 : decode cX1_command 0 = .ok (.aload_n 0, 1) := by decide +kernel
theorem dX1_command_1 : decode cX1_command 1 = .ok (.iconst 1, 1) := by decide +kernel
theorem dX1_command_2 : decode cX1_command 2 = .ok (.invokevirtual 17, 3) := by decide +kernel
theorem dX1_command_5 : decode cX1_command 5 = .ok (.ireturn, 1) := by decide +kernel
set_option maxRecDepth 20000 in
theorem ggX1_code_X1_unsigned : GoodIn wsX1_code wsX1_unsigned := goodIn_r _ [6, 7, 8, 9, 10, 5, 11, 12, 13, 14] (by decide +kernel) (by decide +kernel)
set_option maxRecDepth 20000 in
theorem gX1_code_X1_unsigned : GoodIn wsX1_code (wsV RX1 17 RX1 yX1_unsigned wsX1_unsigned) := goodIn_app (goodIn_of _ (by decide +kernel)) ggX1_code_X1_unsigned
theorem dX1_code_0 : decode cX1_code 0 = .ok (.lconst 0, 1) := by decide +kernel
theorem dX1_code_1 : decode cX1_code 1 = .ok (.lstore_n 1, 1) := by decide +kernel
theorem dX1_code_2 : decode cX1_code 2 = .ok (.iconst 2, 1) := by decide +kernel
theorem dX1_code_3 : decode cX1_code 3 = .ok (.istore_n 3, 1) := by decide +kernel
theorem dX1_code_4 : decode cX1_code 4 = .ok (.iload_n 3, 1) := by decide +kernel
theorem dX1_code_5 : decode cX1_code 5 = .ok (.iconst 5, 1) := by decide +kernel
theorem dX1_code_6 : decode cX1_code 6 = .ok (.if_icmp .gt 22, 3) := by decide +kernel
theorem dX1_code_9 : decode cX1_code 9 = .ok (.lload_n 1, 1) := by decide +kernel
theorem dX1_code_10 : decode cX1_code 10 = .ok (.ldc2_w 21, 3) := by decide +kernel
theorem dX1_code_13 : decode cX1_code 13 = .ok (.lmul, 1) := by decide +kernel
theorem dX1_code_14 : decode cX1_code 14 = .ok (.aload_n 0, 1) := by decide +kernel
theorem dX1_code_15 : decode cX1_code 15 = .ok (.iload_n 3, 1) := by decide +kernel
theorem dX1_code_16 : decode cX1_code 16 = .ok (.invokevirtual 17, 3) := by decide +kernel
theorem dX1_code_19 : decode cX1_code 19 = .ok (.i2l, 1) := by decide +kernel
theorem dX1_code_20 : decode cX1_code 20 = .ok (.ladd, 1) := by decide +kernel
theorem dX1_code_21 : decode cX1_code 21 = .ok (.lstore_n 1, 1) := by decide +kernel
theorem dX1_code_22 : decode cX1_code 22 = .ok (.iinc 3 1, 3) := by decide +kernel
theorem dX1_code_25 : decode cX1_code 25 = .ok (.goto (-21), 3) := by decide +kernel
theorem dX1_code_28 : decode cX1_code 28 = .ok (.lload_n 1, 1) := by decide +kernel
theorem dX1_code_29 : decode cX1_code 29 = .ok (.lreturn, 1) := by decide +kernel
set_option maxRecDepth 20000 in
theorem ggX1_flags_X1_unsigned : GoodIn wsX1_flags wsX1_unsigned := goodIn_r _ [5, 6, 7, 8, 9, 4, 10, 11, 12, 13] (by decide +kernel) (by decide +kernel)
set_option maxRecDepth 20000 in
theorem gX1_flags_X1_unsigned : GoodIn wsX1_flags (wsV RX1 17 RX1 yX1_unsigned wsX1_unsigned) := goodIn_app (goodIn_of _ (by decide +kernel)) ggX1_flags_X1_unsigned
theorem dX1_flags_0 : decode cX1_flags 0 = .ok (.aload_n 0, 1) := by decide +kernel
theorem dX1_flags_1 : decode cX1_flags 1 = .ok (.bipush 6, 2) := by decide +kernel
theorem dX1_flags_3 : decode cX1_flags 3 = .ok (.invokevirtual 17, 3) := by decide +kernel
theorem dX1_flags_6 : decode cX1_flags 6 = .ok (.ireturn, 1) := by decide +kernel
set_option maxRecDepth 20000 in
theorem ggX1_unsigned_X1_has : GoodIn wsX1_unsigned wsX1_has := goodIn_r _ [6, 7, 1, 8, 9] (by decide +kernel) (by decide +kernel)
set_option maxRecDepth 20000 in
theorem gX1_unsigned_X1_has : GoodIn wsX1_unsigned (wsV RX1 23 RX1 yX1_has wsX1_has) := goodIn_app (goodIn_of _ (by decide +kernel)) ggX1_unsigned_X1_has
theorem dX1_unsigned_0 : decode cX1_unsigned 0 = .ok (.aload_n 0, 1) := by decide +kernel
theorem dX1_unsigned_1 : decode cX1_unsigned 1 = .ok (.iload_n 1, 1) := by decide +kernel
theorem dX1_unsigned_2 : decode cX1_unsigned 2 = .ok (.invokevirtual 23, 3) := by decide +kernel
theorem dX1_unsigned_5 : decode cX1_unsigned 5 = .ok (.ifCond .eq 16, 3) := by decide +kernel
theorem dX1_unsigned_8 : decode cX1_unsigned 8 = .ok (.aload_n 0, 1) := by decide +kernel
theorem dX1_unsigned_9 : decode cX1_unsigned 9 = .ok (.getfield 9, 3) := by decide +kernel
theorem dX1_unsigned_12 : decode cX1_unsigned 12 = .ok (.iload_n 1, 1) := by decide +kernel
theorem dX1_unsigned_13 : decode cX1_unsigned 13 = .ok (.baload, 1) := by decide +kernel
theorem dX1_unsigned_14 : decode cX1_unsigned 14 = .ok (.sipush 255, 3) := by decide +kernel
theorem dX1_unsigned_17 : decode cX1_unsigned 17 = .ok (.iand, 1) := by decide +kernel
theorem dX1_unsigned_18 : decode cX1_unsigned 18 = .ok (.goto 4, 3) := by decide +kernel
theorem dX1_unsigned_21 : decode cX1_unsigned 21 = .ok (.iconst 0, 1) := by decide +kernel
theorem dX1_unsigned_22 : decode cX1_unsigned 22 = .ok (.ireturn, 1) := by decide +kernel
theorem dX2_init_0 : decode cX2_init 0 = .ok (.aload_n 0, 1) := by decide +kernel
theorem dX2_init_1 : decode cX2_init 1 = .ok (.invokespecial 3, 3) := by decide +kernel
theorem dX2_init_4 : decode cX2_init 4 = .ok (.aload_n 0, 1) := by decide +kernel
theorem dX2_init_5 : decode cX2_init 5 = .ok (.lload_n 1, 1) := by decide +kernel
theorem dX2_init_6 : decode cX2_init 6 = .ok (.putfield 9, 3) := by decide +kernel
theorem dX2_init_9 : decode cX2_init 9 = .ok (.aload_n 0, 1) := by decide +kernel
theorem dX2_init_10 : decode cX2_init 10 = .ok (.iload_n 3, 1) := by decide +kernel
theorem dX2_init_11 : decode cX2_init 11 = .ok (.putfield 15, 3) := by decide +kernel
theorem dX2_init_14 : decode cX2_init 14 = .ok (.aload_n 0, 1) := by decide +kernel
theorem dX2_init_15 : decode cX2_init 15 = .ok (.iconst (-1), 1) := by decide +kernel
theorem dX2_init_16 : decode cX2_init 16 = .ok (.putfield 19, 3) := by decide +kernel
theorem dX2_init_19 : decode cX2_init 19 = .ok (.aload_n 0, 1) := by decide +kernel
theorem dX2_init_20 : decode cX2_init 20 = .ok (.iload 4, 2) := by decide +kernel
theorem dX2_init_22 : decode cX2_init 22 = .ok (.putfield 22, 3) := by decide +kernel
theorem dX2_init_25 : decode cX2_init 25 = .ok (.return_, 1) := by decide +kernel
theorem dX2_isAtHand_0 : decode cX2_isAtHand 0 = .ok (.aload_n 0, 1) := by decide +kernel
theorem dX2_isAtHand_1 : decode cX2_isAtHand 1 = .ok (.getfield 26, 3) := by decide +kernel
theorem dX2_isAtHand_4 : decode cX2_isAtHand 4 = .ok (.ifCond .ne 10, 3) := by decide +kernel
theorem dX2_isAtHand_7 : decode cX2_isAtHand 7 = .ok (.aload_n 0, 1) := by decide +kernel
theorem dX2_isAtHand_8 : decode cX2_isAtHand 8 = .ok (.getfield 29, 3) := by decide +kernel
theorem dX2_isAtHand_11 : decode cX2_isAtHand 11 = .ok (.ifCond .eq 7, 3) := by decide +kernel
theorem dX2_isAtHand_14 : decode cX2_isAtHand 14 = .ok (.iconst 1, 1) := by decide +kernel
theorem dX2_isAtHand_15 : decode cX2_isAtHand 15 = .ok (.goto 4, 3) := by decide +kernel
theorem dX2_isAtHand_18 : decode cX2_isAtHand 18 = .ok (.iconst 0, 1) := by decide +kernel
theorem dX2_isAtHand_19 : decode cX2_isAtHand 19 = .ok (.ireturn, 1) := by decide +kernel
set_option maxRecDepth 20000 in
theorem ggX2_mayTeach_X2_isAtHand : GoodIn wsX2_mayTeach wsX2_isAtHand := goodIn_r _ [6, 7, 8, 9, 10, 11, 12, 13, 14, 15] (by decide +kernel) (by decide +kernel)
set_option maxRecDepth 20000 in
theorem gX2_mayTeach_X2_isAtHand : GoodIn wsX2_mayTeach (wsV RX2 32 RX2 yX2_isAtHand wsX2_isAtHand) := goodIn_app (goodIn_of _ (by decide +kernel)) ggX2_mayTeach_X2_isAtHand
theorem dX2_mayTeach_0 : decode cX2_mayTeach 0 = .ok (.aload_n 0, 1) := by decide +kernel
theorem dX2_mayTeach_1 : decode cX2_mayTeach 1 = .ok (.getfield 22, 3) := by decide +kernel
theorem dX2_mayTeach_4 : decode cX2_mayTeach 4 = .ok (.ifCond .eq 14, 3) := by decide +kernel
theorem dX2_mayTeach_7 : decode cX2_mayTeach 7 = .ok (.aload_n 0, 1) := by decide +kernel
theorem dX2_mayTeach_8 : decode cX2_mayTeach 8 = .ok (.invokevirtual 32, 3) := by decide +kernel
theorem dX2_mayTeach_11 : decode cX2_mayTeach 11 = .ok (.ifCond .eq 7, 3) := by decide +kernel
theorem dX2_mayTeach_14 : decode cX2_mayTeach 14 = .ok (.iconst 1, 1) := by decide +kernel
theorem dX2_mayTeach_15 : decode cX2_mayTeach 15 = .ok (.goto 4, 3) := by decide +kernel
theorem dX2_mayTeach_18 : decode cX2_mayTeach 18 = .ok (.iconst 0, 1) := by decide +kernel
theorem dX2_mayTeach_19 : decode cX2_mayTeach 19 = .ok (.ireturn, 1) := by decide +kernel
theorem dX2_roll_0 : decode cX2_roll 0 = .ok (.iload_n 1, 1) := by decide +kernel
theorem dX2_roll_1 : decode cX2_roll 1 = .ok (.aload_n 0, 1) := by decide +kernel
theorem dX2_roll_2 : decode cX2_roll 2 = .ok (.getfield 15, 3) := by decide +kernel
theorem dX2_roll_5 : decode cX2_roll 5 = .ok (.isub, 1) := by decide +kernel
theorem dX2_roll_6 : decode cX2_roll 6 = .ok (.ldc 36, 2) := by decide +kernel
theorem dX2_roll_8 : decode cX2_roll 8 = .ok (.iand, 1) := by decide +kernel
theorem dX2_roll_9 : decode cX2_roll 9 = .ok (.istore_n 3, 1) := by decide +kernel
theorem dX2_roll_10 : decode cX2_roll 10 = .ok (.iload_n 3, 1) := by decide +kernel
theorem dX2_roll_11 : decode cX2_roll 11 = .ok (.ifCond .eq 9, 3) := by decide +kernel
theorem dX2_roll_14 : decode cX2_roll 14 = .ok (.iload_n 3, 1) := by decide +kernel
theorem dX2_roll_15 : decode cX2_roll 15 = .ok (.ldc 37, 2) := by decide +kernel
theorem dX2_roll_17 : decode cX2_roll 17 = .ok (.if_icmp .le 10, 3) := by decide +kernel
theorem dX2_roll_20 : decode cX2_roll 20 = .ok (.aload_n 0, 1) := by decide +kernel
theorem dX2_roll_21 : decode cX2_roll 21 = .ok (.iconst (-1), 1) := by decide +kernel
theorem dX2_roll_22 : decode cX2_roll 22 = .ok (.putfield 19, 3) := by decide +kernel
theorem dX2_roll_25 : decode cX2_roll 25 = .ok (.iconst 0, 1) := by decide +kernel
theorem dX2_roll_26 : decode cX2_roll 26 = .ok (.ireturn, 1) := by decide +kernel
theorem dX2_roll_27 : decode cX2_roll 27 = .ok (.iload_n 3, 1) := by decide +kernel
theorem dX2_roll_28 : decode cX2_roll 28 = .ok (.iload_n 2, 1) := by decide +kernel
theorem dX2_roll_29 : decode cX2_roll 29 = .ok (.if_icmp .le 23, 3) := by decide +kernel
theorem dX2_roll_32 : decode cX2_roll 32 = .ok (.iload_n 1, 1) := by decide +kernel
theorem dX2_roll_33 : decode cX2_roll 33 = .ok (.aload_n 0, 1) := by decide +kernel
theorem dX2_roll_34 : decode cX2_roll 34 = .ok (.getfield 19, 3) := by decide +kernel
theorem dX2_roll_37 : decode cX2_roll 37 = .ok (.if_icmp .eq 15, 3) := by decide +kernel
theorem dX2_roll_40 : decode cX2_roll 40 = .ok (.aload_n 0, 1) := by decide +kernel
theorem dX2_roll_41 : decode cX2_roll 41 = .ok (.iload_n 1, 1) := by decide +kernel
theorem dX2_roll_42 : decode cX2_roll 42 = .ok (.iconst 1, 1) := by decide +kernel
theorem dX2_roll_43 : decode cX2_roll 43 = .ok (.iadd, 1) := by decide +kernel
theorem dX2_roll_44 : decode cX2_roll 44 = .ok (.ldc 36, 2) := by decide +kernel
theorem dX2_roll_46 : decode cX2_roll 46 = .ok (.iand, 1) := by decide +kernel
theorem dX2_roll_47 : decode cX2_roll 47 = .ok (.putfield 19, 3) := by decide +kernel
theorem dX2_roll_50 : decode cX2_roll 50 = .ok (.iconst 2, 1) := by decide +kernel
theorem dX2_roll_51 : decode cX2_roll 51 = .ok (.ireturn, 1) := by decide +kernel
theorem dX2_roll_52 : decode cX2_roll 52 = .ok (.aload_n 0, 1) := by decide +kernel
theorem dX2_roll_53 : decode cX2_roll 53 = .ok (.iload_n 1, 1) := by decide +kernel
theorem dX2_roll_54 : decode cX2_roll 54 = .ok (.putfield 15, 3) := by decide +kernel
theorem dX2_roll_57 : decode cX2_roll 57 = .ok (.aload_n 0, 1) := by decide +kernel
theorem dX2_roll_58 : decode cX2_roll 58 = .ok (.iconst (-1), 1) := by decide +kernel
theorem dX2_roll_59 : decode cX2_roll 59 = .ok (.putfield 19, 3) := by decide +kernel
theorem dX2_roll_62 : decode cX2_roll 62 = .ok (.iconst 1, 1) := by decide +kernel
theorem dX2_roll_63 : decode cX2_roll 63 = .ok (.ireturn, 1) := by decide +kernel
set_option maxRecDepth 20000 in
theorem ggX2_sign_X2_part : GoodIn wsX2_sign wsX2_part := goodIn_r _ [5, 6, 7, 8, 9, 10, 11, 12, 13, 14] (by decide +kernel) (by decide +kernel)
set_option maxRecDepth 20000 in
theorem gX2_sign_X2_part : GoodIn wsX2_sign (wsV RX2 38 RX2 yX2_part wsX2_part) := goodIn_app (goodIn_of _ (by decide +kernel)) ggX2_sign_X2_part
theorem dX2_sign_0 : decode cX2_sign 0 = .ok (.aload_n 0, 1) := by decide +kernel
theorem dX2_sign_1 : decode cX2_sign 1 = .ok (.iconst 0, 1) := by decide +kernel
theorem dX2_sign_2 : decode cX2_sign 2 = .ok (.invokevirtual 38, 3) := by decide +kernel
theorem dX2_sign_5 : decode cX2_sign 5 = .ok (.aload_n 0, 1) := by decide +kernel
theorem dX2_sign_6 : decode cX2_sign 6 = .ok (.iconst 1, 1) := by decide +kernel
theorem dX2_sign_7 : decode cX2_sign 7 = .ok (.invokevirtual 38, 3) := by decide +kernel
theorem dX2_sign_10 : decode cX2_sign 10 = .ok (.ixor, 1) := by decide +kernel
theorem dX2_sign_11 : decode cX2_sign 11 = .ok (.aload_n 0, 1) := by decide +kernel
theorem dX2_sign_12 : decode cX2_sign 12 = .ok (.iconst 2, 1) := by decide +kernel
theorem dX2_sign_13 : decode cX2_sign 13 = .ok (.invokevirtual 38, 3) := by decide +kernel
theorem dX2_sign_16 : decode cX2_sign 16 = .ok (.ixor, 1) := by decide +kernel
theorem dX2_sign_17 : decode cX2_sign 17 = .ok (.aload_n 0, 1) := by decide +kernel
theorem dX2_sign_18 : decode cX2_sign 18 = .ok (.iconst 3, 1) := by decide +kernel
theorem dX2_sign_19 : decode cX2_sign 19 = .ok (.invokevirtual 38, 3) := by decide +kernel
theorem dX2_sign_22 : decode cX2_sign 22 = .ok (.ixor, 1) := by decide +kernel
theorem dX2_sign_23 : decode cX2_sign 23 = .ok (.ireturn, 1) := by decide +kernel
set_option maxRecDepth 20000 in
theorem ggX2_encipher_X2_mix : GoodIn wsX2_encipher wsX2_mix := goodIn_r _ [6, 7, 1, 8, 9, 10, 5, 11, 12, 17, 18, 19, 20, 21, 22, 23] (by decide +kernel) (by decide +kernel)
set_option maxRecDepth 20000 in
theorem gX2_encipher_X2_mix : GoodIn wsX2_encipher (wsV RX2 42 RX2 yX2_mix wsX2_mix) := goodIn_app (goodIn_of _ (by decide +kernel)) ggX2_encipher_X2_mix
set_option maxRecDepth 20000 in
theorem ggX2_encipher_X2_joined : GoodIn wsX2_encipher wsX2_joined := goodIn_r _ [15, 16] (by decide +kernel) (by decide +kernel)
set_option maxRecDepth 20000 in
theorem gX2_encipher_X2_joined : GoodIn wsX2_encipher (va_wsS RX2 46 yX2_joined wsX2_joined) := goodIn_app (goodIn_of _ (by decide +kernel)) ggX2_encipher_X2_joined
theorem dX2_encipher_0 : decode cX2_encipher 0 = .ok (.lload_n 1, 1) := by decide +kernel
theorem dX2_encipher_1 : decode cX2_encipher 1 = .ok (.bipush 16, 2) := by decide +kernel
theorem dX2_encipher_3 : decode cX2_encipher 3 = .ok (.lushr, 1) := by decide +kernel
theorem dX2_encipher_4 : decode cX2_encipher 4 = .ok (.l2i, 1) := by decide +kernel
theorem dX2_encipher_5 : decode cX2_encipher 5 = .ok (.ldc 36, 2) := by decide +kernel
theorem dX2_encipher_7 : decode cX2_encipher 7 = .ok (.iand, 1) := by decide +kernel
theorem dX2_encipher_8 : decode cX2_encipher 8 = .ok (.istore_n 3, 1) := by decide +kernel
theorem dX2_encipher_9 : decode cX2_encipher 9 = .ok (.lload_n 1, 1) := by decide +kernel
theorem dX2_encipher_10 : decode cX2_encipher 10 = .ok (.l2i, 1) := by decide +kernel
theorem dX2_encipher_11 : decode cX2_encipher 11 = .ok (.ldc 36, 2) := by decide +kernel
theorem dX2_encipher_13 : decode cX2_encipher 13 = .ok (.iand, 1) := by decide +kernel
theorem dX2_encipher_14 : decode cX2_encipher 14 = .ok (.istore 4, 2) := by decide +kernel
theorem dX2_encipher_16 : decode cX2_encipher 16 = .ok (.iconst 0, 1) := by decide +kernel
theorem dX2_encipher_17 : decode cX2_encipher 17 = .ok (.istore 5, 2) := by decide +kernel
theorem dX2_encipher_19 : decode cX2_encipher 19 = .ok (.iload 5, 2) := by decide +kernel
theorem dX2_encipher_21 : decode cX2_encipher 21 = .ok (.bipush 16, 2) := by decide +kernel
theorem dX2_encipher_23 : decode cX2_encipher 23 = .ok (.if_icmp .ge 28, 3) := by decide +kernel
theorem dX2_encipher_26 : decode cX2_encipher 26 = .ok (.iload_n 3, 1) := by decide +kernel
theorem dX2_encipher_27 : decode cX2_encipher 27 = .ok (.aload_n 0, 1) := by decide +kernel
theorem dX2_encipher_28 : decode cX2_encipher 28 = .ok (.iload 4, 2) := by decide +kernel
theorem dX2_encipher_30 : decode cX2_encipher 30 = .ok (.iload 5, 2) := by decide +kernel
theorem dX2_encipher_32 : decode cX2_encipher 32 = .ok (.invokevirtual 42, 3) := by decide +kernel
theorem dX2_encipher_35 : decode cX2_encipher 35 = .ok (.ixor, 1) := by decide +kernel
theorem dX2_encipher_36 : decode cX2_encipher 36 = .ok (.istore 6, 2) := by decide +kernel
theorem dX2_encipher_38 : decode cX2_encipher 38 = .ok (.iload 4, 2) := by decide +kernel
theorem dX2_encipher_40 : decode cX2_encipher 40 = .ok (.istore_n 3, 1) := by decide +kernel
theorem dX2_encipher_41 : decode cX2_encipher 41 = .ok (.iload 6, 2) := by decide +kernel
theorem dX2_encipher_43 : decode cX2_encipher 43 = .ok (.istore 4, 2) := by decide +kernel
theorem dX2_encipher_45 : decode cX2_encipher 45 = .ok (.iinc 5 1, 3) := by decide +kernel
theorem dX2_encipher_48 : decode cX2_encipher 48 = .ok (.goto (-29), 3) := by decide +kernel
theorem dX2_encipher_51 : decode cX2_encipher 51 = .ok (.iload_n 3, 1) := by decide +kernel
theorem dX2_encipher_52 : decode cX2_encipher 52 = .ok (.iload 4, 2) := by decide +kernel
theorem dX2_encipher_54 : decode cX2_encipher 54 = .ok (.invokestatic 46, 3) := by decide +kernel
theorem dX2_encipher_57 : decode cX2_encipher 57 = .ok (.lreturn, 1) := by decide +kernel
set_option maxRecDepth 20000 in
theorem ggX2_decipher_X2_mix : GoodIn wsX2_decipher wsX2_mix := goodIn_r _ [6, 7, 1, 8, 9, 10, 5, 11, 12, 17, 18, 19, 20, 21, 22, 23] (by decide +kernel) (by decide +kernel)
set_option maxRecDepth 20000 in
theorem gX2_decipher_X2_mix : GoodIn wsX2_decipher (wsV RX2 42 RX2 yX2_mix wsX2_mix) := goodIn_app (goodIn_of _ (by decide +kernel)) ggX2_decipher_X2_mix
set_option maxRecDepth 20000 in
theorem ggX2_decipher_X2_joined : GoodIn wsX2_decipher wsX2_joined := goodIn_r _ [15, 16] (by decide +kernel) (by decide +kernel)
set_option maxRecDepth 20000 in
theorem gX2_decipher_X2_joined : GoodIn wsX2_decipher (va_wsS RX2 46 yX2_joined wsX2_joined) := goodIn_app (goodIn_of _ (by decide +kernel)) ggX2_decipher_X2_joined
theorem dX2_decipher_0 : decode cX2_decipher 0 = .ok (.lload_n 1, 1) := by decide +kernel
theorem dX2_decipher_1 : decode cX2_decipher 1 = .ok (.bipush 16, 2) := by decide +kernel
theorem dX2_decipher_3 : decode cX2_decipher 3 = .ok (.lushr, 1) := by decide +kernel
theorem dX2_decipher_4 : decode cX2_decipher 4 = .ok (.l2i, 1) := by decide +kernel
theorem dX2_decipher_5 : decode cX2_decipher 5 = .ok (.ldc 36, 2) := by decide +kernel
theorem dX2_decipher_7 : decode cX2_decipher 7 = .ok (.iand, 1) := by decide +kernel
theorem dX2_decipher_8 : decode cX2_decipher 8 = .ok (.istore_n 3, 1) := by decide +kernel
theorem dX2_decipher_9 : decode cX2_decipher 9 = .ok (.lload_n 1, 1) := by decide +kernel
theorem dX2_decipher_10 : decode cX2_decipher 10 = .ok (.l2i, 1) := by decide +kernel
theorem dX2_decipher_11 : decode cX2_decipher 11 = .ok (.ldc 36, 2) := by decide +kernel
theorem dX2_decipher_13 : decode cX2_decipher 13 = .ok (.iand, 1) := by decide +kernel
theorem dX2_decipher_14 : decode cX2_decipher 14 = .ok (.istore 4, 2) := by decide +kernel
theorem dX2_decipher_16 : decode cX2_decipher 16 = .ok (.bipush 15, 2) := by decide +kernel
theorem dX2_decipher_18 : decode cX2_decipher 18 = .ok (.istore 5, 2) := by decide +kernel
theorem dX2_decipher_20 : decode cX2_decipher 20 = .ok (.iload 5, 2) := by decide +kernel
theorem dX2_decipher_22 : decode cX2_decipher 22 = .ok (.ifCond .lt 27, 3) := by decide +kernel
theorem dX2_decipher_25 : decode cX2_decipher 25 = .ok (.iload 4, 2) := by decide +kernel
theorem dX2_decipher_27 : decode cX2_decipher 27 = .ok (.aload_n 0, 1) := by decide +kernel
theorem dX2_decipher_28 : decode cX2_decipher 28 = .ok (.iload_n 3, 1) := by decide +kernel
theorem dX2_decipher_29 : decode cX2_decipher 29 = .ok (.iload 5, 2) := by decide +kernel
theorem dX2_decipher_31 : decode cX2_decipher 31 = .ok (.invokevirtual 42, 3) := by decide +kernel
theorem dX2_decipher_34 : decode cX2_decipher 34 = .ok (.ixor, 1) := by decide +kernel
theorem dX2_decipher_35 : decode cX2_decipher 35 = .ok (.istore 6, 2) := by decide +kernel
theorem dX2_decipher_37 : decode cX2_decipher 37 = .ok (.iload_n 3, 1) := by decide +kernel
theorem dX2_decipher_38 : decode cX2_decipher 38 = .ok (.istore 4, 2) := by decide +kernel
theorem dX2_decipher_40 : decode cX2_decipher 40 = .ok (.iload 6, 2) := by decide +kernel
theorem dX2_decipher_42 : decode cX2_decipher 42 = .ok (.istore_n 3, 1) := by decide +kernel
theorem dX2_decipher_43 : decode cX2_decipher 43 = .ok (.iinc 5 (-1), 3) := by decide +kernel
theorem dX2_decipher_46 : decode cX2_decipher 46 = .ok (.goto (-26), 3) := by decide +kernel
theorem dX2_decipher_49 : decode cX2_decipher 49 = .ok (.iload_n 3, 1) := by decide +kernel
theorem dX2_decipher_50 : decode cX2_decipher 50 = .ok (.iload 4, 2) := by decide +kernel
theorem dX2_decipher_52 : decode cX2_decipher 52 = .ok (.invokestatic 46, 3) := by decide +kernel
theorem dX2_decipher_55 : decode cX2_decipher 55 = .ok (.lreturn, 1) := by decide +kernel
set_option maxRecDepth 20000 in
theorem ggX2_mix_X2_part : GoodIn wsX2_mix wsX2_part := goodIn_r _ [7, 8, 2, 9, 10, 11, 12, 13, 14, 15] (by decide +kernel) (by decide +kernel)
set_option maxRecDepth 20000 in
theorem gX2_mix_X2_part : GoodIn wsX2_mix (wsV RX2 38 RX2 yX2_part wsX2_part) := goodIn_app (goodIn_of _ (by decide +kernel)) ggX2_mix_X2_part
theorem dX2_mix_0 : decode cX2_mix 0 = .ok (.aload_n 0, 1) := by decide +kernel
theorem dX2_mix_1 : decode cX2_mix 1 = .ok (.iload_n 2, 1) := by decide +kernel
theorem dX2_mix_2 : decode cX2_mix 2 = .ok (.invokevirtual 38, 3) := by decide +kernel
theorem dX2_mix_5 : decode cX2_mix 5 = .ok (.istore_n 3, 1) := by decide +kernel
theorem dX2_mix_6 : decode cX2_mix 6 = .ok (.iload_n 1, 1) := by decide +kernel
theorem dX2_mix_7 : decode cX2_mix 7 = .ok (.ldc 50, 2) := by decide +kernel
theorem dX2_mix_9 : decode cX2_mix 9 = .ok (.imul, 1) := by decide +kernel
theorem dX2_mix_10 : decode cX2_mix 10 = .ok (.iload_n 3, 1) := by decide +kernel
theorem dX2_mix_11 : decode cX2_mix 11 = .ok (.iconst 2, 1) := by decide +kernel
theorem dX2_mix_12 : decode cX2_mix 12 = .ok (.iload_n 2, 1) := by decide +kernel
theorem dX2_mix_13 : decode cX2_mix 13 = .ok (.imul, 1) := by decide +kernel
theorem dX2_mix_14 : decode cX2_mix 14 = .ok (.iconst 1, 1) := by decide +kernel
theorem dX2_mix_15 : decode cX2_mix 15 = .ok (.iadd, 1) := by decide +kernel
theorem dX2_mix_16 : decode cX2_mix 16 = .ok (.imul, 1) := by decide +kernel
theorem dX2_mix_17 : decode cX2_mix 17 = .ok (.iadd, 1) := by decide +kernel
theorem dX2_mix_18 : decode cX2_mix 18 = .ok (.iload_n 1, 1) := by decide +kernel
theorem dX2_mix_19 : decode cX2_mix 19 = .ok (.bipush 32, 2) := by decide +kernel
theorem dX2_mix_21 : decode cX2_mix 21 = .ok (.idiv, 1) := by decide +kernel
theorem dX2_mix_22 : decode cX2_mix 22 = .ok (.ixor, 1) := by decide +kernel
theorem dX2_mix_23 : decode cX2_mix 23 = .ok (.iload_n 3, 1) := by decide +kernel
theorem dX2_mix_24 : decode cX2_mix 24 = .ok (.bipush 8, 2) := by decide +kernel
theorem dX2_mix_26 : decode cX2_mix 26 = .ok (.imul, 1) := by decide +kernel
theorem dX2_mix_27 : decode cX2_mix 27 = .ok (.ixor, 1) := by decide +kernel
theorem dX2_mix_28 : decode cX2_mix 28 = .ok (.istore 4, 2) := by decide +kernel
theorem dX2_mix_30 : decode cX2_mix 30 = .ok (.iload 4, 2) := by decide +kernel
theorem dX2_mix_32 : decode cX2_mix 32 = .ok (.ldc 36, 2) := by decide +kernel
theorem dX2_mix_34 : decode cX2_mix 34 = .ok (.iand, 1) := by decide +kernel
theorem dX2_mix_35 : decode cX2_mix 35 = .ok (.ireturn, 1) := by decide +kernel
theorem dX2_part_0 : decode cX2_part 0 = .ok (.aload_n 0, 1) := by decide +kernel
theorem dX2_part_1 : decode cX2_part 1 = .ok (.getfield 9, 3) := by decide +kernel
theorem dX2_part_4 : decode cX2_part 4 = .ok (.bipush 16, 2) := by decide +kernel
theorem dX2_part_6 : decode cX2_part 6 = .ok (.iload_n 1, 1) := by decide +kernel
theorem dX2_part_7 : decode cX2_part 7 = .ok (.iconst 3, 1) := by decide +kernel
theorem dX2_part_8 : decode cX2_part 8 = .ok (.iand, 1) := by decide +kernel
theorem dX2_part_9 : decode cX2_part 9 = .ok (.imul, 1) := by decide +kernel
theorem dX2_part_10 : decode cX2_part 10 = .ok (.lushr, 1) := by decide +kernel
theorem dX2_part_11 : decode cX2_part 11 = .ok (.l2i, 1) := by decide +kernel
theorem dX2_part_12 : decode cX2_part 12 = .ok (.ldc 36, 2) := by decide +kernel
theorem dX2_part_14 : decode cX2_part 14 = .ok (.iand, 1) := by decide +kernel
theorem dX2_part_15 : decode cX2_part 15 = .ok (.ireturn, 1) := by decide +kernel
theorem dX2_joined_0 : decode cX2_joined 0 = .ok (.iload_n 0, 1) := by decide +kernel
theorem dX2_joined_1 : decode cX2_joined 1 = .ok (.i2l, 1) := by decide +kernel
theorem dX2_joined_2 : decode cX2_joined 2 = .ok (.ldc2_w 51, 3) := by decide +kernel
theorem dX2_joined_5 : decode cX2_joined 5 = .ok (.lmul, 1) := by decide +kernel
theorem dX2_joined_6 : decode cX2_joined 6 = .ok (.iload_n 1, 1) := by decide +kernel
theorem dX2_joined_7 : decode cX2_joined 7 = .ok (.i2l, 1) := by decide +kernel
theorem dX2_joined_8 : decode cX2_joined 8 = .ok (.ladd, 1) := by decide +kernel
theorem dX2_joined_9 : decode cX2_joined 9 = .ok (.lreturn, 1) := by decide +kernel
set_option maxRecDepth 20000 in
theorem ggX3_init_X1_init : GoodIn wsX3_init wsX1_init := goodIn_r _ [18, 19, 2, 3, 20, 21, 37, 38] (by decide +kernel) (by decide +kernel)
set_option maxRecDepth 20000 in
theorem gX3_init_X1_init : GoodIn wsX3_init (wsX1_init) := ggX3_init_X1_init
set_option maxRecDepth 20000 in
theorem ggX3_init_X0_init : GoodIn wsX3_init wsX0_init := goodIn_r _ [24, 25, 2, 3, 26, 27, 39, 40, 41] (by decide +kernel) (by decide +kernel)
set_option maxRecDepth 20000 in
theorem gX3_init_X0_init : GoodIn wsX3_init (wsX0_init) := ggX3_init_X0_init
theorem dX3_init_0 : decode cX3_init 0 = .ok (.aload_n 0, 1) := by decide +kernel
theorem dX3_init_1 : decode cX3_init 1 = .ok (.invokespecial 1, 3) := by decide +kernel
theorem dX3_init_4 : decode cX3_init 4 = .ok (.aload_n 0, 1) := by decide +kernel
theorem dX3_init_5 : decode cX3_init 5 = .ok (.iload_n 1, 1) := by decide +kernel
theorem dX3_init_6 : decode cX3_init 6 = .ok (.iconst 1, 1) := by decide +kernel
theorem dX3_init_7 : decode cX3_init 7 = .ok (.if_icmp .lt 14, 3) := by decide +kernel
theorem dX3_init_10 : decode cX3_init 10 = .ok (.iload_n 1, 1) := by decide +kernel
theorem dX3_init_11 : decode cX3_init 11 = .ok (.sipush 32767, 3) := by decide +kernel
theorem dX3_init_14 : decode cX3_init 14 = .ok (.if_icmp .gt 7, 3) := by decide +kernel
theorem dX3_init_17 : decode cX3_init 17 = .ok (.iload_n 1, 1) := by decide +kernel
theorem dX3_init_18 : decode cX3_init 18 = .ok (.goto 5, 3) := by decide +kernel
theorem dX3_init_21 : decode cX3_init 21 = .ok (.bipush 16, 2) := by decide +kernel
theorem dX3_init_23 : decode cX3_init 23 = .ok (.putfield 9, 3) := by decide +kernel
theorem dX3_init_26 : decode cX3_init 26 = .ok (.aload_n 0, 1) := by decide +kernel
theorem dX3_init_27 : decode cX3_init 27 = .ok (.bipush 8, 2) := by decide +kernel
theorem dX3_init_29 : decode cX3_init 29 = .ok (.anewarray 13, 3) := by decide +kernel
theorem dX3_init_32 : decode cX3_init 32 = .ok (.putfield 15, 3) := by decide +kernel
theorem dX3_init_35 : decode cX3_init 35 = .ok (.aload_n 0, 1) := by decide +kernel
theorem dX3_init_36 : decode cX3_init 36 = .ok (.new 19, 3) := by decide +kernel
theorem dX3_init_39 : decode cX3_init 39 = .ok (.dup, 1) := by decide +kernel
theorem dX3_init_40 : decode cX3_init 40 = .ok (.invokespecial 21, 3) := by decide +kernel
theorem dX3_init_43 : decode cX3_init 43 = .ok (.putfield 22, 3) := by decide +kernel
theorem dX3_init_46 : decode cX3_init 46 = .ok (.aload_n 0, 1) := by decide +kernel
theorem dX3_init_47 : decode cX3_init 47 = .ok (.new 19, 3) := by decide +kernel
theorem dX3_init_50 : decode cX3_init 50 = .ok (.dup, 1) := by decide +kernel
theorem dX3_init_51 : decode cX3_init 51 = .ok (.invokespecial 21, 3) := by decide +kernel
theorem dX3_init_54 : decode cX3_init 54 = .ok (.putfield 26, 3) := by decide +kernel
theorem dX3_init_57 : decode cX3_init 57 = .ok (.aload_n 0, 1) := by decide +kernel
theorem dX3_init_58 : decode cX3_init 58 = .ok (.new 29, 3) := by decide +kernel
theorem dX3_init_61 : decode cX3_init 61 = .ok (.dup, 1) := by decide +kernel
theorem dX3_init_62 : decode cX3_init 62 = .ok (.invokespecial 31, 3) := by decide +kernel
theorem dX3_init_65 : decode cX3_init 65 = .ok (.putfield 32, 3) := by decide +kernel
theorem dX3_init_68 : decode cX3_init 68 = .ok (.return_, 1) := by decide +kernel
set_option maxRecDepth 20000 in
theorem ggX3_key_X3_isSecretOfAKey : GoodIn wsX3_key wsX3_isSecretOfAKey := goodIn_r _ [11, 2, 12, 13, 14, 15, 10, 16, 3, 27, 28, 29, 30, 31, 32, 33, 34, 35, 36, 37, 38, 39, 40, 41, 42] (by decide +kernel) (by decide +kernel)
set_option maxRecDepth 20000 in
theorem gX3_key_X3_isSecretOfAKey : GoodIn wsX3_key (wsV RX3 38 RX3 yX3_isSecretOfAKey wsX3_isSecretOfAKey) := goodIn_app (goodIn_of _ (by decide +kernel)) ggX3_key_X3_isSecretOfAKey
set_option maxRecDepth 20000 in
theorem ggX3_key_X2_init : GoodIn wsX3_key wsX2_init := goodIn_r _ [19, 20, 21, 22, 23, 24, 25, 26, 36, 37, 38, 39, 40, 41, 42] (by decide +kernel) (by decide +kernel)
set_option maxRecDepth 20000 in
theorem gX3_key_X2_init : GoodIn wsX3_key (wsX2_init) := ggX3_key_X2_init
theorem dX3_key_0 : decode cX3_key 0 = .ok (.lload_n 3, 1) := by decide +kernel
theorem dX3_key_1 : decode cX3_key 1 = .ok (.lconst 0, 1) := by decide +kernel
theorem dX3_key_2 : decode cX3_key 2 = .ok (.lcmp, 1) := by decide +kernel
theorem dX3_key_3 : decode cX3_key 3 = .ok (.ifCond .lt 11, 3) := by decide +kernel
theorem dX3_key_6 : decode cX3_key 6 = .ok (.lload_n 3, 1) := by decide +kernel
theorem dX3_key_7 : decode cX3_key 7 = .ok (.ldc2_w 36, 3) := by decide +kernel
theorem dX3_key_10 : decode cX3_key 10 = .ok (.lcmp, 1) := by decide +kernel
theorem dX3_key_11 : decode cX3_key 11 = .ok (.ifCond .le 6, 3) := by decide +kernel
theorem dX3_key_14 : decode cX3_key 14 = .ok (.bipush (-2), 2) := by decide +kernel
theorem dX3_key_16 : decode cX3_key 16 = .ok (.ireturn, 1) := by decide +kernel
theorem dX3_key_17 : decode cX3_key 17 = .ok (.aload_n 0, 1) := by decide +kernel
theorem dX3_key_18 : decode cX3_key 18 = .ok (.lload_n 1, 1) := by decide +kernel
theorem dX3_key_19 : decode cX3_key 19 = .ok (.invokevirtual 38, 3) := by decide +kernel
theorem dX3_key_22 : decode cX3_key 22 = .ok (.ifCond .eq 6, 3) := by decide +kernel
theorem dX3_key_25 : decode cX3_key 25 = .ok (.bipush (-3), 2) := by decide +kernel
theorem dX3_key_27 : decode cX3_key 27 = .ok (.ireturn, 1) := by decide +kernel
theorem dX3_key_28 : decode cX3_key 28 = .ok (.aload_n 0, 1) := by decide +kernel
theorem dX3_key_29 : decode cX3_key 29 = .ok (.getfield 42, 3) := by decide +kernel
theorem dX3_key_32 : decode cX3_key 32 = .ok (.aload_n 0, 1) := by decide +kernel
theorem dX3_key_33 : decode cX3_key 33 = .ok (.getfield 15, 3) := by decide +kernel
theorem dX3_key_36 : decode cX3_key 36 = .ok (.arraylength, 1) := by decide +kernel
theorem dX3_key_37 : decode cX3_key 37 = .ok (.if_icmp .lt 6, 3) := by decide +kernel
theorem dX3_key_40 : decode cX3_key 40 = .ok (.bipush (-4), 2) := by decide +kernel
theorem dX3_key_42 : decode cX3_key 42 = .ok (.ireturn, 1) := by decide +kernel
theorem dX3_key_43 : decode cX3_key 43 = .ok (.aload_n 0, 1) := by decide +kernel
theorem dX3_key_44 : decode cX3_key 44 = .ok (.getfield 15, 3) := by decide +kernel
theorem dX3_key_47 : decode cX3_key 47 = .ok (.aload_n 0, 1) := by decide +kernel
theorem dX3_key_48 : decode cX3_key 48 = .ok (.getfield 42, 3) := by decide +kernel
theorem dX3_key_51 : decode cX3_key 51 = .ok (.new 13, 3) := by decide +kernel
theorem dX3_key_54 : decode cX3_key 54 = .ok (.dup, 1) := by decide +kernel
theorem dX3_key_55 : decode cX3_key 55 = .ok (.lload_n 1, 1) := by decide +kernel
theorem dX3_key_56 : decode cX3_key 56 = .ok (.lload_n 3, 1) := by decide +kernel
theorem dX3_key_57 : decode cX3_key 57 = .ok (.l2i, 1) := by decide +kernel
theorem dX3_key_58 : decode cX3_key 58 = .ok (.aload_n 0, 1) := by decide +kernel
theorem dX3_key_59 : decode cX3_key 59 = .ok (.getfield 42, 3) := by decide +kernel
theorem dX3_key_62 : decode cX3_key 62 = .ok (.iconst 2, 1) := by decide +kernel
theorem dX3_key_63 : decode cX3_key 63 = .ok (.if_icmp .ge 7, 3) := by decide +kernel
theorem dX3_key_66 : decode cX3_key 66 = .ok (.iconst 1, 1) := by decide +kernel
theorem dX3_key_67 : decode cX3_key 67 = .ok (.goto 4, 3) := by decide +kernel
theorem dX3_key_70 : decode cX3_key 70 = .ok (.iconst 0, 1) := by decide +kernel
theorem dX3_key_71 : decode cX3_key 71 = .ok (.invokespecial 45, 3) := by decide +kernel
theorem dX3_key_74 : decode cX3_key 74 = .ok (.aastore, 1) := by decide +kernel
theorem dX3_key_75 : decode cX3_key 75 = .ok (.aload_n 0, 1) := by decide +kernel
theorem dX3_key_76 : decode cX3_key 76 = .ok (.dup, 1) := by decide +kernel
theorem dX3_key_77 : decode cX3_key 77 = .ok (.getfield 42, 3) := by decide +kernel
theorem dX3_key_80 : decode cX3_key 80 = .ok (.iconst 1, 1) := by decide +kernel
theorem dX3_key_81 : decode cX3_key 81 = .ok (.iadd, 1) := by decide +kernel
theorem dX3_key_82 : decode cX3_key 82 = .ok (.putfield 42, 3) := by decide +kernel
theorem dX3_key_85 : decode cX3_key 85 = .ok (.aload_n 0, 1) := by decide +kernel
theorem dX3_key_86 : decode cX3_key 86 = .ok (.getfield 42, 3) := by decide +kernel
theorem dX3_key_89 : decode cX3_key 89 = .ok (.ireturn, 1) := by decide +kernel
set_option maxRecDepth 20000 in
theorem ggX3_remote_X1_keep : GoodIn wsX3_remote wsX1_keep := goodIn_r _ [7, 8, 9, 136, 137] (by decide +kernel) (by decide +kernel)
set_option maxRecDepth 20000 in
theorem gX3_remote_X1_keep : GoodIn wsX3_remote (wsV RX3 48 RX1 yX1_keep wsX1_keep) := goodIn_app (goodIn_of _ (by decide +kernel)) ggX3_remote_X1_keep
set_option maxRecDepth 20000 in
theorem ggX3_remote_X1_clear : GoodIn wsX3_remote wsX1_clear := goodIn_r _ [13, 8, 136, 137] (by decide +kernel) (by decide +kernel)
set_option maxRecDepth 20000 in
theorem gX3_remote_X1_clear : GoodIn wsX3_remote (wsV RX3 52 RX1 yX1_clear wsX1_clear) := goodIn_app (goodIn_of _ (by decide +kernel)) ggX3_remote_X1_clear
set_option maxRecDepth 20000 in
theorem ggX3_remote_X3_judge : GoodIn wsX3_remote wsX3_judge := goodIn_r _ [18, 19, 20, 21, 22, 23, 24, 25, 6, 26, 8, 27, 28, 29, 30, 9, 31, 32, 33, 34, 35, 36, 37, 38, 39, 40, 41, 42, 43, 44, 45, 17, 46, 47, 48, 49, 50, 51, 52, 53, 54, 55, 56, 57, 58, 59, 60, 61, 62, 63, 64, 65, 66, 67, 68, 69, 70, 71, 72, 73, 74, 75, 76, 77, 78, 79, 80, 81, 82, 83, 84, 85, 86, 87, 88, 89, 90, 91, 92, 93, 94, 95, 96, 97, 98, 99, 100, 101, 102, 103, 104, 105, 106, 107, 108, 109, 110, 111, 112, 113, 114, 115, 116, 117, 118, 119, 120, 121, 122, 123, 124, 125, 126, 138, 139, 140, 141, 142, 143, 144, 127, 128, 129, 130, 131, 132, 133, 134, 135, 136, 137, 145, 146, 147] (by decide +kernel) (by decide +kernel)
set_option maxRecDepth 20000 in
theorem gX3_remote_X3_judge : GoodIn wsX3_remote (wsV RX3 55 RX3 yX3_judge wsX3_judge) := goodIn_app (goodIn_of _ (by decide +kernel)) ggX3_remote_X3_judge
theorem dX3_remote_0 : decode cX3_remote 0 = .ok (.aload_n 0, 1) := by decide +kernel
theorem dX3_remote_1 : decode cX3_remote 1 = .ok (.getfield 22, 3) := by decide +kernel
theorem dX3_remote_4 : decode cX3_remote 4 = .ok (.iload_n 1, 1) := by decide +kernel
theorem dX3_remote_5 : decode cX3_remote 5 = .ok (.invokevirtual 48, 3) := by decide +kernel
theorem dX3_remote_8 : decode cX3_remote 8 = .ok (.iload_n 2, 1) := by decide +kernel
theorem dX3_remote_9 : decode cX3_remote 9 = .ok (.ifCond .ne 5, 3) := by decide +kernel
theorem dX3_remote_12 : decode cX3_remote 12 = .ok (.iconst 0, 1) := by decide +kernel
theorem dX3_remote_13 : decode cX3_remote 13 = .ok (.ireturn, 1) := by decide +kernel
theorem dX3_remote_14 : decode cX3_remote 14 = .ok (.aload_n 0, 1) := by decide +kernel
theorem dX3_remote_15 : decode cX3_remote 15 = .ok (.getfield 22, 3) := by decide +kernel
theorem dX3_remote_18 : decode cX3_remote 18 = .ok (.astore_n 3, 1) := by decide +kernel
theorem dX3_remote_19 : decode cX3_remote 19 = .ok (.aload_n 0, 1) := by decide +kernel
theorem dX3_remote_20 : decode cX3_remote 20 = .ok (.aload_n 0, 1) := by decide +kernel
theorem dX3_remote_21 : decode cX3_remote 21 = .ok (.getfield 26, 3) := by decide +kernel
theorem dX3_remote_24 : decode cX3_remote 24 = .ok (.putfield 22, 3) := by decide +kernel
theorem dX3_remote_27 : decode cX3_remote 27 = .ok (.aload_n 0, 1) := by decide +kernel
theorem dX3_remote_28 : decode cX3_remote 28 = .ok (.getfield 22, 3) := by decide +kernel
theorem dX3_remote_31 : decode cX3_remote 31 = .ok (.invokevirtual 52, 3) := by decide +kernel
theorem dX3_remote_34 : decode cX3_remote 34 = .ok (.aload_n 0, 1) := by decide +kernel
theorem dX3_remote_35 : decode cX3_remote 35 = .ok (.aload_n 3, 1) := by decide +kernel
theorem dX3_remote_36 : decode cX3_remote 36 = .ok (.putfield 26, 3) := by decide +kernel
theorem dX3_remote_39 : decode cX3_remote 39 = .ok (.aload_n 0, 1) := by decide +kernel
theorem dX3_remote_40 : decode cX3_remote 40 = .ok (.aload_n 3, 1) := by decide +kernel
theorem dX3_remote_41 : decode cX3_remote 41 = .ok (.invokevirtual 55, 3) := by decide +kernel
theorem dX3_remote_44 : decode cX3_remote 44 = .ok (.ireturn, 1) := by decide +kernel
set_option maxRecDepth 20000 in
theorem ggX3_counter_X3_find : GoodIn wsX3_counter wsX3_find := goodIn_r _ [7, 8, 9, 17, 18, 19, 20, 21, 22, 23, 24, 25] (by decide +kernel) (by decide +kernel)
set_option maxRecDepth 20000 in
theorem gX3_counter_X3_find : GoodIn wsX3_counter (wsV RX3 59 RX3 yX3_find wsX3_find) := goodIn_app (goodIn_of _ (by decide +kernel)) ggX3_counter_X3_find
theorem dX3_counter_0 : decode cX3_counter 0 = .ok (.aload_n 0, 1) := by decide +kernel
theorem dX3_counter_1 : decode cX3_counter 1 = .ok (.iload_n 1, 1) := by decide +kernel
theorem dX3_counter_2 : decode cX3_counter 2 = .ok (.invokevirtual 59, 3) := by decide +kernel
theorem dX3_counter_5 : decode cX3_counter 5 = .ok (.astore_n 2, 1) := by decide +kernel
theorem dX3_counter_6 : decode cX3_counter 6 = .ok (.aload_n 2, 1) := by decide +kernel
theorem dX3_counter_7 : decode cX3_counter 7 = .ok (.ifnonnull 9, 3) := by decide +kernel
theorem dX3_counter_10 : decode cX3_counter 10 = .ok (.ldc2_w 63, 3) := by decide +kernel
theorem dX3_counter_13 : decode cX3_counter 13 = .ok (.goto 8, 3) := by decide +kernel
theorem dX3_counter_16 : decode cX3_counter 16 = .ok (.aload_n 2, 1) := by decide +kernel
theorem dX3_counter_17 : decode cX3_counter 17 = .ok (.getfield 65, 3) := by decide +kernel
theorem dX3_counter_20 : decode cX3_counter 20 = .ok (.i2l, 1) := by decide +kernel
theorem dX3_counter_21 : decode cX3_counter 21 = .ok (.lreturn, 1) := by decide +kernel
set_option maxRecDepth 20000 in
theorem ggX3_lock_X0_hasAny : GoodIn wsX3_lock wsX0_hasAny := goodIn_r _ [7, 8, 45, 46, 47] (by decide +kernel) (by decide +kernel)
set_option maxRecDepth 20000 in
theorem gX3_lock_X0_hasAny : GoodIn wsX3_lock (wsV RX3 68 RX0 yX0_hasAny wsX0_hasAny) := goodIn_app (goodIn_of _ (by decide +kernel)) ggX3_lock_X0_hasAny
set_option maxRecDepth 20000 in
theorem ggX3_lock_X0_openAll : GoodIn wsX3_lock wsX0_openAll := goodIn_r _ [12, 13, 14, 15, 6, 16, 8, 45, 46, 47] (by decide +kernel) (by decide +kernel)
set_option maxRecDepth 20000 in
theorem gX3_lock_X0_openAll : GoodIn wsX3_lock (wsV RX3 72 RX0 yX0_openAll wsX0_openAll) := goodIn_app (goodIn_of _ (by decide +kernel)) ggX3_lock_X0_openAll
set_option maxRecDepth 20000 in
theorem ggX3_lock_X0_deadenUnlessOpen : GoodIn wsX3_lock wsX0_deadenUnlessOpen := goodIn_r _ [20, 21, 4, 5, 6, 7, 8, 13, 14, 15, 16, 45, 46, 47] (by decide +kernel) (by decide +kernel)
set_option maxRecDepth 20000 in
theorem gX3_lock_X0_deadenUnlessOpen : GoodIn wsX3_lock (wsV RX3 80 RX0 yX0_deadenUnlessOpen wsX0_deadenUnlessOpen) := goodIn_app (goodIn_of _ (by decide +kernel)) ggX3_lock_X0_deadenUnlessOpen
set_option maxRecDepth 20000 in
theorem ggX3_lock_X0_shutBoot : GoodIn wsX3_lock wsX0_shutBoot := goodIn_r _ [25, 8, 26, 27, 28, 6, 29, 30, 31, 21, 4, 5, 7, 45, 46, 47] (by decide +kernel) (by decide +kernel)
set_option maxRecDepth 20000 in
theorem gX3_lock_X0_shutBoot : GoodIn wsX3_lock (wsV RX3 83 RX0 yX0_shutBoot wsX0_shutBoot) := goodIn_app (goodIn_of _ (by decide +kernel)) ggX3_lock_X0_shutBoot
set_option maxRecDepth 20000 in
theorem ggX3_lock_X0_shutAll : GoodIn wsX3_lock wsX0_shutAll := goodIn_r _ [35, 13, 14, 15, 6, 16, 8, 26, 27, 28, 29, 30, 31, 21, 4, 5, 7, 45, 46, 47] (by decide +kernel) (by decide +kernel)
set_option maxRecDepth 20000 in
theorem gX3_lock_X0_shutAll : GoodIn wsX3_lock (wsV RX3 86 RX0 yX0_shutAll wsX0_shutAll) := goodIn_app (goodIn_of _ (by decide +kernel)) ggX3_lock_X0_shutAll
theorem dX3_lock_0 : decode cX3_lock 0 = .ok (.iload_n 1, 1) := by decide +kernel
theorem dX3_lock_1 : decode cX3_lock 1 = .ok (.ifCond .lt 8, 3) := by decide +kernel
theorem dX3_lock_4 : decode cX3_lock 4 = .ok (.iload_n 1, 1) := by decide +kernel
theorem dX3_lock_5 : decode cX3_lock 5 = .ok (.iconst 3, 1) := by decide +kernel
theorem dX3_lock_6 : decode cX3_lock 6 = .ok (.if_icmp .le 6, 3) := by decide +kernel
theorem dX3_lock_9 : decode cX3_lock 9 = .ok (.bipush (-2), 2) := by decide +kernel
theorem dX3_lock_11 : decode cX3_lock 11 = .ok (.ireturn, 1) := by decide +kernel
theorem dX3_lock_12 : decode cX3_lock 12 = .ok (.iload_n 1, 1) := by decide +kernel
theorem dX3_lock_13 : decode cX3_lock 13 = .ok (.iconst 3, 1) := by decide +kernel
theorem dX3_lock_14 : decode cX3_lock 14 = .ok (.if_icmp .ne 26, 3) := by decide +kernel
theorem dX3_lock_17 : decode cX3_lock 17 = .ok (.aload_n 0, 1) := by decide +kernel
theorem dX3_lock_18 : decode cX3_lock 18 = .ok (.getfield 32, 3) := by decide +kernel
theorem dX3_lock_21 : decode cX3_lock 21 = .ok (.iconst 2, 1) := by decide +kernel
theorem dX3_lock_22 : decode cX3_lock 22 = .ok (.invokevirtual 68, 3) := by decide +kernel
theorem dX3_lock_25 : decode cX3_lock 25 = .ok (.ifCond .eq 7, 3) := by decide +kernel
theorem dX3_lock_28 : decode cX3_lock 28 = .ok (.iconst 0, 1) := by decide +kernel
theorem dX3_lock_29 : decode cX3_lock 29 = .ok (.goto 10, 3) := by decide +kernel
theorem dX3_lock_32 : decode cX3_lock 32 = .ok (.aload_n 0, 1) := by decide +kernel
theorem dX3_lock_33 : decode cX3_lock 33 = .ok (.getfield 32, 3) := by decide +kernel
theorem dX3_lock_36 : decode cX3_lock 36 = .ok (.invokevirtual 72, 3) := by decide +kernel
theorem dX3_lock_39 : decode cX3_lock 39 = .ok (.ireturn, 1) := by decide +kernel
theorem dX3_lock_40 : decode cX3_lock 40 = .ok (.aload_n 0, 1) := by decide +kernel
theorem dX3_lock_41 : decode cX3_lock 41 = .ok (.getfield 76, 3) := by decide +kernel
theorem dX3_lock_44 : decode cX3_lock 44 = .ok (.ifCond .eq 6, 3) := by decide +kernel
theorem dX3_lock_47 : decode cX3_lock 47 = .ok (.bipush (-3), 2) := by decide +kernel
theorem dX3_lock_49 : decode cX3_lock 49 = .ok (.ireturn, 1) := by decide +kernel
theorem dX3_lock_50 : decode cX3_lock 50 = .ok (.iload_n 1, 1) := by decide +kernel
theorem dX3_lock_51 : decode cX3_lock 51 = .ok (.iconst 1, 1) := by decide +kernel
theorem dX3_lock_52 : decode cX3_lock 52 = .ok (.if_icmp .ne 11, 3) := by decide +kernel
theorem dX3_lock_55 : decode cX3_lock 55 = .ok (.aload_n 0, 1) := by decide +kernel
theorem dX3_lock_56 : decode cX3_lock 56 = .ok (.getfield 32, 3) := by decide +kernel
theorem dX3_lock_59 : decode cX3_lock 59 = .ok (.invokevirtual 80, 3) := by decide +kernel
theorem dX3_lock_62 : decode cX3_lock 62 = .ok (.ireturn, 1) := by decide +kernel
theorem dX3_lock_63 : decode cX3_lock 63 = .ok (.iload_n 1, 1) := by decide +kernel
theorem dX3_lock_64 : decode cX3_lock 64 = .ok (.iconst 2, 1) := by decide +kernel
theorem dX3_lock_65 : decode cX3_lock 65 = .ok (.if_icmp .ne 13, 3) := by decide +kernel
theorem dX3_lock_68 : decode cX3_lock 68 = .ok (.aload_n 0, 1) := by decide +kernel
theorem dX3_lock_69 : decode cX3_lock 69 = .ok (.getfield 32, 3) := by decide +kernel
theorem dX3_lock_72 : decode cX3_lock 72 = .ok (.invokevirtual 83, 3) := by decide +kernel
theorem dX3_lock_75 : decode cX3_lock 75 = .ok (.goto 10, 3) := by decide +kernel
theorem dX3_lock_78 : decode cX3_lock 78 = .ok (.aload_n 0, 1) := by decide +kernel
theorem dX3_lock_79 : decode cX3_lock 79 = .ok (.getfield 32, 3) := by decide +kernel
theorem dX3_lock_82 : decode cX3_lock 82 = .ok (.invokevirtual 86, 3) := by decide +kernel
theorem dX3_lock_85 : decode cX3_lock 85 = .ok (.ireturn, 1) := by decide +kernel
set_option maxRecDepth 20000 in
theorem ggX3_learn_X3_find : GoodIn wsX3_learn wsX3_find := goodIn_r _ [6, 7, 8, 28, 29, 30, 31, 32, 33, 34, 35, 36] (by decide +kernel) (by decide +kernel)
set_option maxRecDepth 20000 in
theorem gX3_learn_X3_find : GoodIn wsX3_learn (wsV RX3 59 RX3 yX3_find wsX3_find) := goodIn_app (goodIn_of _ (by decide +kernel)) ggX3_learn_X3_find
set_option maxRecDepth 20000 in
theorem ggX3_learn_X2_mayTeach : GoodIn wsX3_learn wsX2_mayTeach := goodIn_r _ [13, 14, 15, 16, 17, 12, 18, 19, 20, 21, 22, 23, 24, 25, 26, 27] (by decide +kernel) (by decide +kernel)
set_option maxRecDepth 20000 in
theorem gX3_learn_X2_mayTeach : GoodIn wsX3_learn (wsV RX3 92 RX2 yX2_mayTeach wsX2_mayTeach) := goodIn_app (goodIn_of _ (by decide +kernel)) ggX3_learn_X2_mayTeach
theorem dX3_learn_0 : decode cX3_learn 0 = .ok (.aload_n 0, 1) := by decide +kernel
theorem dX3_learn_1 : decode cX3_learn 1 = .ok (.iload_n 1, 1) := by decide +kernel
theorem dX3_learn_2 : decode cX3_learn 2 = .ok (.invokevirtual 59, 3) := by decide +kernel
theorem dX3_learn_5 : decode cX3_learn 5 = .ok (.astore 4, 2) := by decide +kernel
theorem dX3_learn_7 : decode cX3_learn 7 = .ok (.aload_n 0, 1) := by decide +kernel
theorem dX3_learn_8 : decode cX3_learn 8 = .ok (.iload_n 2, 1) := by decide +kernel
theorem dX3_learn_9 : decode cX3_learn 9 = .ok (.invokevirtual 59, 3) := by decide +kernel
theorem dX3_learn_12 : decode cX3_learn 12 = .ok (.astore 5, 2) := by decide +kernel
theorem dX3_learn_14 : decode cX3_learn 14 = .ok (.aload_n 0, 1) := by decide +kernel
theorem dX3_learn_15 : decode cX3_learn 15 = .ok (.iload_n 3, 1) := by decide +kernel
theorem dX3_learn_16 : decode cX3_learn 16 = .ok (.invokevirtual 59, 3) := by decide +kernel
theorem dX3_learn_19 : decode cX3_learn 19 = .ok (.astore 6, 2) := by decide +kernel
theorem dX3_learn_21 : decode cX3_learn 21 = .ok (.aload 4, 2) := by decide +kernel
theorem dX3_learn_23 : decode cX3_learn 23 = .ok (.ifnull 13, 3) := by decide +kernel
theorem dX3_learn_26 : decode cX3_learn 26 = .ok (.aload 5, 2) := by decide +kernel
theorem dX3_learn_28 : decode cX3_learn 28 = .ok (.ifnull 8, 3) := by decide +kernel
theorem dX3_learn_31 : decode cX3_learn 31 = .ok (.aload 6, 2) := by decide +kernel
theorem dX3_learn_33 : decode cX3_learn 33 = .ok (.ifnonnull 5, 3) := by decide +kernel
theorem dX3_learn_36 : decode cX3_learn 36 = .ok (.iconst (-1), 1) := by decide +kernel
theorem dX3_learn_37 : decode cX3_learn 37 = .ok (.ireturn, 1) := by decide +kernel
theorem dX3_learn_38 : decode cX3_learn 38 = .ok (.aload 4, 2) := by decide +kernel
theorem dX3_learn_40 : decode cX3_learn 40 = .ok (.getfield 89, 3) := by decide +kernel
theorem dX3_learn_43 : decode cX3_learn 43 = .ok (.ifCond .ne 24, 3) := by decide +kernel
theorem dX3_learn_46 : decode cX3_learn 46 = .ok (.iload_n 2, 1) := by decide +kernel
theorem dX3_learn_47 : decode cX3_learn 47 = .ok (.iload_n 3, 1) := by decide +kernel
theorem dX3_learn_48 : decode cX3_learn 48 = .ok (.if_icmp .eq 19, 3) := by decide +kernel
theorem dX3_learn_51 : decode cX3_learn 51 = .ok (.aload 5, 2) := by decide +kernel
theorem dX3_learn_53 : decode cX3_learn 53 = .ok (.invokevirtual 92, 3) := by decide +kernel
theorem dX3_learn_56 : decode cX3_learn 56 = .ok (.ifCond .eq 11, 3) := by decide +kernel
theorem dX3_learn_59 : decode cX3_learn 59 = .ok (.aload 6, 2) := by decide +kernel
theorem dX3_learn_61 : decode cX3_learn 61 = .ok (.invokevirtual 92, 3) := by decide +kernel
theorem dX3_learn_64 : decode cX3_learn 64 = .ok (.ifCond .ne 5, 3) := by decide +kernel
theorem dX3_learn_67 : decode cX3_learn 67 = .ok (.iconst 0, 1) := by decide +kernel
theorem dX3_learn_68 : decode cX3_learn 68 = .ok (.ireturn, 1) := by decide +kernel
theorem dX3_learn_69 : decode cX3_learn 69 = .ok (.aload 4, 2) := by decide +kernel
theorem dX3_learn_71 : decode cX3_learn 71 = .ok (.iconst 1, 1) := by decide +kernel
theorem dX3_learn_72 : decode cX3_learn 72 = .ok (.putfield 89, 3) := by decide +kernel
theorem dX3_learn_75 : decode cX3_learn 75 = .ok (.iconst 1, 1) := by decide +kernel
theorem dX3_learn_76 : decode cX3_learn 76 = .ok (.ireturn, 1) := by decide +kernel
set_option maxRecDepth 20000 in
theorem ggX3_erase_X3_find : GoodIn wsX3_erase wsX3_find := goodIn_r _ [8, 9, 10, 22, 23, 24, 25, 26, 27, 28, 29, 30] (by decide +kernel) (by decide +kernel)
set_option maxRecDepth 20000 in
theorem gX3_erase_X3_find : GoodIn wsX3_erase (wsV RX3 59 RX3 yX3_find wsX3_find) := goodIn_app (goodIn_of _ (by decide +kernel)) ggX3_erase_X3_find
set_option maxRecDepth 20000 in
theorem ggX3_erase_X3_learnedKeys : GoodIn wsX3_erase wsX3_learnedKeys := goodIn_r _ [14, 9, 1, 4, 5, 6, 7, 8, 10, 22, 23, 24, 25, 26, 27, 28, 29, 30, 15, 16, 17, 18, 19, 20, 21] (by decide +kernel) (by decide +kernel)
set_option maxRecDepth 20000 in
theorem gX3_erase_X3_learnedKeys : GoodIn wsX3_erase (wsV RX3 96 RX3 yX3_learnedKeys wsX3_learnedKeys) := goodIn_app (goodIn_of _ (by decide +kernel)) ggX3_erase_X3_learnedKeys
theorem dX3_erase_0 : decode cX3_erase 0 = .ok (.aload_n 0, 1) := by decide +kernel
theorem dX3_erase_1 : decode cX3_erase 1 = .ok (.iload_n 1, 1) := by decide +kernel
theorem dX3_erase_2 : decode cX3_erase 2 = .ok (.invokevirtual 59, 3) := by decide +kernel
theorem dX3_erase_5 : decode cX3_erase 5 = .ok (.astore_n 2, 1) := by decide +kernel
theorem dX3_erase_6 : decode cX3_erase 6 = .ok (.aload_n 2, 1) := by decide +kernel
theorem dX3_erase_7 : decode cX3_erase 7 = .ok (.ifnonnull 5, 3) := by decide +kernel
theorem dX3_erase_10 : decode cX3_erase 10 = .ok (.iconst (-1), 1) := by decide +kernel
theorem dX3_erase_11 : decode cX3_erase 11 = .ok (.ireturn, 1) := by decide +kernel
theorem dX3_erase_12 : decode cX3_erase 12 = .ok (.aload_n 2, 1) := by decide +kernel
theorem dX3_erase_13 : decode cX3_erase 13 = .ok (.getfield 89, 3) := by decide +kernel
theorem dX3_erase_16 : decode cX3_erase 16 = .ok (.ifCond .eq 11, 3) := by decide +kernel
theorem dX3_erase_19 : decode cX3_erase 19 = .ok (.aload_n 0, 1) := by decide +kernel
theorem dX3_erase_20 : decode cX3_erase 20 = .ok (.invokevirtual 96, 3) := by decide +kernel
theorem dX3_erase_23 : decode cX3_erase 23 = .ok (.iconst 1, 1) := by decide +kernel
theorem dX3_erase_24 : decode cX3_erase 24 = .ok (.if_icmp .ne 5, 3) := by decide +kernel
theorem dX3_erase_27 : decode cX3_erase 27 = .ok (.iconst 0, 1) := by decide +kernel
theorem dX3_erase_28 : decode cX3_erase 28 = .ok (.ireturn, 1) := by decide +kernel
theorem dX3_erase_29 : decode cX3_erase 29 = .ok (.aload_n 2, 1) := by decide +kernel
theorem dX3_erase_30 : decode cX3_erase 30 = .ok (.iconst 0, 1) := by decide +kernel
theorem dX3_erase_31 : decode cX3_erase 31 = .ok (.putfield 89, 3) := by decide +kernel
theorem dX3_erase_34 : decode cX3_erase 34 = .ok (.aload_n 2, 1) := by decide +kernel
theorem dX3_erase_35 : decode cX3_erase 35 = .ok (.iconst 0, 1) := by decide +kernel
theorem dX3_erase_36 : decode cX3_erase 36 = .ok (.putfield 99, 3) := by decide +kernel
theorem dX3_erase_39 : decode cX3_erase 39 = .ok (.aload_n 2, 1) := by decide +kernel
theorem dX3_erase_40 : decode cX3_erase 40 = .ok (.iconst 0, 1) := by decide +kernel
theorem dX3_erase_41 : decode cX3_erase 41 = .ok (.putfield 102, 3) := by decide +kernel
theorem dX3_erase_44 : decode cX3_erase 44 = .ok (.iconst 1, 1) := by decide +kernel
theorem dX3_erase_45 : decode cX3_erase 45 = .ok (.ireturn, 1) := by decide +kernel
set_option maxRecDepth 20000 in
theorem ggX3_field_X3_find : GoodIn wsX3_field wsX3_find := goodIn_r _ [13, 14, 15, 43, 44, 45, 46, 47, 48, 49, 50, 51] (by decide +kernel) (by decide +kernel)
set_option maxRecDepth 20000 in
theorem gX3_field_X3_find : GoodIn wsX3_field (wsV RX3 59 RX3 yX3_find wsX3_find) := goodIn_app (goodIn_of _ (by decide +kernel)) ggX3_field_X3_find
set_option maxRecDepth 20000 in
theorem ggX3_field_X3_isWithin : GoodIn wsX3_field wsX3_isWithin := goodIn_r _ [18] (by decide +kernel) (by decide +kernel)
set_option maxRecDepth 20000 in
theorem gX3_field_X3_isWithin : GoodIn wsX3_field (va_wsS RX3 107 yX3_isWithin wsX3_isWithin) := goodIn_app (goodIn_of _ (by decide +kernel)) ggX3_field_X3_isWithin
set_option maxRecDepth 20000 in
theorem ggX3_field_X0_nearestTo : GoodIn wsX3_field wsX0_nearestTo := goodIn_r _ [23, 24, 25, 26] (by decide +kernel) (by decide +kernel)
set_option maxRecDepth 20000 in
theorem gX3_field_X0_nearestTo : GoodIn wsX3_field (wsV RX3 116 RX0 yX0_nearestTo wsX0_nearestTo) := goodIn_app (goodIn_of _ (by decide +kernel)) ggX3_field_X0_nearestTo
set_option maxRecDepth 20000 in
theorem ggX3_field_X0_openOne : GoodIn wsX3_field wsX0_openOne := goodIn_r _ [30, 31, 32, 33, 34, 22, 35, 59, 60, 61] (by decide +kernel) (by decide +kernel)
set_option maxRecDepth 20000 in
theorem gX3_field_X0_openOne : GoodIn wsX3_field (wsV RX3 122 RX0 yX0_openOne wsX0_openOne) := goodIn_app (goodIn_of _ (by decide +kernel)) ggX3_field_X0_openOne
set_option maxRecDepth 20000 in
theorem ggX3_field_X2_isAtHand : GoodIn wsX3_field wsX2_isAtHand := goodIn_r _ [40, 41, 42, 52, 53, 54, 55, 56, 57, 58] (by decide +kernel) (by decide +kernel)
set_option maxRecDepth 20000 in
theorem gX3_field_X2_isAtHand : GoodIn wsX3_field (wsV RX3 126 RX2 yX2_isAtHand wsX2_isAtHand) := goodIn_app (goodIn_of _ (by decide +kernel)) ggX3_field_X2_isAtHand
theorem dX3_field_0 : decode cX3_field 0 = .ok (.aload_n 0, 1) := by decide +kernel
theorem dX3_field_1 : decode cX3_field 1 = .ok (.iload_n 1, 1) := by decide +kernel
theorem dX3_field_2 : decode cX3_field 2 = .ok (.invokevirtual 59, 3) := by decide +kernel
theorem dX3_field_5 : decode cX3_field 5 = .ok (.astore 8, 2) := by decide +kernel
end
section
theorem dX3_field_7 : decode cX3_field 7 = .ok (.aload 8, 2) := by decide +kernel
theorem dX3_field_9 : decode cX3_field 9 = .ok (.ifnonnull 5, 3) := by decide +kernel
theorem dX3_field_12 : decode cX3_field 12 = .ok (.iconst (-1), 1) := by decide +kernel
theorem dX3_field_13 : decode cX3_field 13 = .ok (.ireturn, 1) := by decide +kernel
theorem dX3_field_14 : decode cX3_field 14 = .ok (.lload_n 2, 1) := by decide +kernel
theorem dX3_field_15 : decode cX3_field 15 = .ok (.ldc2_w 105, 3) := by decide +kernel
theorem dX3_field_18 : decode cX3_field 18 = .ok (.invokestatic 107, 3) := by decide +kernel
theorem dX3_field_21 : decode cX3_field 21 = .ok (.ifCond .eq 21, 3) := by decide +kernel
theorem dX3_field_24 : decode cX3_field 24 = .ok (.lload 4, 2) := by decide +kernel
theorem dX3_field_26 : decode cX3_field 26 = .ok (.ldc2_w 105, 3) := by decide +kernel
theorem dX3_field_29 : decode cX3_field 29 = .ok (.invokestatic 107, 3) := by decide +kernel
theorem dX3_field_32 : decode cX3_field 32 = .ok (.ifCond .eq 10, 3) := by decide +kernel
theorem dX3_field_35 : decode cX3_field 35 = .ok (.lload 6, 2) := by decide +kernel
theorem dX3_field_37 : decode cX3_field 37 = .ok (.lconst 1, 1) := by decide +kernel
theorem dX3_field_38 : decode cX3_field 38 = .ok (.lcmp, 1) := by decide +kernel
theorem dX3_field_39 : decode cX3_field 39 = .ok (.ifCond .ge 6, 3) := by decide +kernel
theorem dX3_field_42 : decode cX3_field 42 = .ok (.bipush (-2), 2) := by decide +kernel
theorem dX3_field_44 : decode cX3_field 44 = .ok (.ireturn, 1) := by decide +kernel
theorem dX3_field_45 : decode cX3_field 45 = .ok (.lload 6, 2) := by decide +kernel
theorem dX3_field_47 : decode cX3_field 47 = .ok (.ldc2_w 111, 3) := by decide +kernel
theorem dX3_field_50 : decode cX3_field 50 = .ok (.lcmp, 1) := by decide +kernel
theorem dX3_field_51 : decode cX3_field 51 = .ok (.ifCond .gt 7, 3) := by decide +kernel
theorem dX3_field_54 : decode cX3_field 54 = .ok (.iconst 1, 1) := by decide +kernel
theorem dX3_field_55 : decode cX3_field 55 = .ok (.goto 4, 3) := by decide +kernel
theorem dX3_field_58 : decode cX3_field 58 = .ok (.iconst 0, 1) := by decide +kernel
theorem dX3_field_59 : decode cX3_field 59 = .ok (.istore 9, 2) := by decide +kernel
theorem dX3_field_61 : decode cX3_field 61 = .ok (.iload 9, 2) := by decide +kernel
theorem dX3_field_63 : decode cX3_field 63 = .ok (.ifCond .ne 13, 3) := by decide +kernel
theorem dX3_field_66 : decode cX3_field 66 = .ok (.aload_n 0, 1) := by decide +kernel
theorem dX3_field_67 : decode cX3_field 67 = .ok (.dup, 1) := by decide +kernel
theorem dX3_field_68 : decode cX3_field 68 = .ok (.getfield 113, 3) := by decide +kernel
theorem dX3_field_71 : decode cX3_field 71 = .ok (.iconst 1, 1) := by decide +kernel
theorem dX3_field_72 : decode cX3_field 72 = .ok (.iadd, 1) := by decide +kernel
theorem dX3_field_73 : decode cX3_field 73 = .ok (.putfield 113, 3) := by decide +kernel
theorem dX3_field_76 : decode cX3_field 76 = .ok (.iload 9, 2) := by decide +kernel
theorem dX3_field_78 : decode cX3_field 78 = .ok (.ifCond .eq 15, 3) := by decide +kernel
theorem dX3_field_81 : decode cX3_field 81 = .ok (.aload 8, 2) := by decide +kernel
theorem dX3_field_83 : decode cX3_field 83 = .ok (.getfield 89, 3) := by decide +kernel
theorem dX3_field_86 : decode cX3_field 86 = .ok (.ifCond .eq 7, 3) := by decide +kernel
theorem dX3_field_89 : decode cX3_field 89 = .ok (.iconst 1, 1) := by decide +kernel
theorem dX3_field_90 : decode cX3_field 90 = .ok (.goto 4, 3) := by decide +kernel
theorem dX3_field_93 : decode cX3_field 93 = .ok (.iconst 0, 1) := by decide +kernel
theorem dX3_field_94 : decode cX3_field 94 = .ok (.istore 10, 2) := by decide +kernel
theorem dX3_field_96 : decode cX3_field 96 = .ok (.aload_n 0, 1) := by decide +kernel
theorem dX3_field_97 : decode cX3_field 97 = .ok (.getfield 32, 3) := by decide +kernel
theorem dX3_field_100 : decode cX3_field 100 = .ok (.lload_n 2, 1) := by decide +kernel
theorem dX3_field_101 : decode cX3_field 101 = .ok (.lload 4, 2) := by decide +kernel
theorem dX3_field_103 : decode cX3_field 103 = .ok (.invokevirtual 116, 3) := by decide +kernel
theorem dX3_field_106 : decode cX3_field 106 = .ok (.istore 11, 2) := by decide +kernel
theorem dX3_field_108 : decode cX3_field 108 = .ok (.aload 8, 2) := by decide +kernel
theorem dX3_field_110 : decode cX3_field 110 = .ok (.iload 10, 2) := by decide +kernel
theorem dX3_field_112 : decode cX3_field 112 = .ok (.ifCond .eq 13, 3) := by decide +kernel
theorem dX3_field_115 : decode cX3_field 115 = .ok (.iload 11, 2) := by decide +kernel
theorem dX3_field_117 : decode cX3_field 117 = .ok (.iconst (-1), 1) := by decide +kernel
theorem dX3_field_118 : decode cX3_field 118 = .ok (.if_icmp .eq 7, 3) := by decide +kernel
theorem dX3_field_121 : decode cX3_field 121 = .ok (.iconst 1, 1) := by decide +kernel
theorem dX3_field_122 : decode cX3_field 122 = .ok (.goto 4, 3) := by decide +kernel
theorem dX3_field_125 : decode cX3_field 125 = .ok (.iconst 0, 1) := by decide +kernel
theorem dX3_field_126 : decode cX3_field 126 = .ok (.putfield 99, 3) := by decide +kernel
theorem dX3_field_129 : decode cX3_field 129 = .ok (.aload 8, 2) := by decide +kernel
theorem dX3_field_131 : decode cX3_field 131 = .ok (.iload 10, 2) := by decide +kernel
theorem dX3_field_133 : decode cX3_field 133 = .ok (.ifCond .eq 28, 3) := by decide +kernel
theorem dX3_field_136 : decode cX3_field 136 = .ok (.lload_n 2, 1) := by decide +kernel
theorem dX3_field_137 : decode cX3_field 137 = .ok (.ldc2_w 111, 3) := by decide +kernel
theorem dX3_field_140 : decode cX3_field 140 = .ok (.invokestatic 107, 3) := by decide +kernel
theorem dX3_field_143 : decode cX3_field 143 = .ok (.ifCond .eq 18, 3) := by decide +kernel
theorem dX3_field_146 : decode cX3_field 146 = .ok (.lload 4, 2) := by decide +kernel
theorem dX3_field_148 : decode cX3_field 148 = .ok (.ldc2_w 120, 3) := by decide +kernel
theorem dX3_field_151 : decode cX3_field 151 = .ok (.invokestatic 107, 3) := by decide +kernel
theorem dX3_field_154 : decode cX3_field 154 = .ok (.ifCond .eq 7, 3) := by decide +kernel
theorem dX3_field_157 : decode cX3_field 157 = .ok (.iconst 1, 1) := by decide +kernel
theorem dX3_field_158 : decode cX3_field 158 = .ok (.goto 4, 3) := by decide +kernel
theorem dX3_field_161 : decode cX3_field 161 = .ok (.iconst 0, 1) := by decide +kernel
theorem dX3_field_162 : decode cX3_field 162 = .ok (.putfield 102, 3) := by decide +kernel
theorem dX3_field_165 : decode cX3_field 165 = .ok (.aload 8, 2) := by decide +kernel
theorem dX3_field_167 : decode cX3_field 167 = .ok (.getfield 99, 3) := by decide +kernel
theorem dX3_field_170 : decode cX3_field 170 = .ok (.ifCond .eq 20, 3) := by decide +kernel
theorem dX3_field_173 : decode cX3_field 173 = .ok (.aload 8, 2) := by decide +kernel
theorem dX3_field_175 : decode cX3_field 175 = .ok (.getfield 102, 3) := by decide +kernel
theorem dX3_field_178 : decode cX3_field 178 = .ok (.ifCond .ne 12, 3) := by decide +kernel
theorem dX3_field_181 : decode cX3_field 181 = .ok (.aload_n 0, 1) := by decide +kernel
theorem dX3_field_182 : decode cX3_field 182 = .ok (.getfield 32, 3) := by decide +kernel
theorem dX3_field_185 : decode cX3_field 185 = .ok (.iload 11, 2) := by decide +kernel
theorem dX3_field_187 : decode cX3_field 187 = .ok (.invokevirtual 122, 3) := by decide +kernel
theorem dX3_field_190 : decode cX3_field 190 = .ok (.aload 8, 2) := by decide +kernel
theorem dX3_field_192 : decode cX3_field 192 = .ok (.invokevirtual 126, 3) := by decide +kernel
theorem dX3_field_195 : decode cX3_field 195 = .ok (.ifCond .eq 7, 3) := by decide +kernel
theorem dX3_field_198 : decode cX3_field 198 = .ok (.iconst 1, 1) := by decide +kernel
theorem dX3_field_199 : decode cX3_field 199 = .ok (.goto 4, 3) := by decide +kernel
theorem dX3_field_202 : decode cX3_field 202 = .ok (.iconst 0, 1) := by decide +kernel
theorem dX3_field_203 : decode cX3_field 203 = .ok (.ireturn, 1) := by decide +kernel
set_option maxRecDepth 20000 in
theorem ggX3_start_X3_find : GoodIn wsX3_start wsX3_find := goodIn_r _ [11, 12, 13, 34, 35, 36, 37, 38, 39, 40, 41, 42] (by decide +kernel) (by decide +kernel)
set_option maxRecDepth 20000 in
theorem gX3_start_X3_find : GoodIn wsX3_start (wsV RX3 59 RX3 yX3_find wsX3_find) := goodIn_app (goodIn_of _ (by decide +kernel)) ggX3_start_X3_find
set_option maxRecDepth 20000 in
theorem ggX3_start_X2_encipher : GoodIn wsX3_start wsX2_encipher := goodIn_r _ [18, 19, 20, 21, 22, 17, 23, 24, 25, 26, 27, 28, 29, 30, 31, 32, 33, 43, 44, 45, 46, 47, 48, 49] (by decide +kernel) (by decide +kernel)
set_option maxRecDepth 20000 in
theorem gX3_start_X2_encipher : GoodIn wsX3_start (wsV RX3 136 RX2 yX2_encipher wsX2_encipher) := goodIn_app (goodIn_of _ (by decide +kernel)) ggX3_start_X2_encipher
theorem dX3_start_0 : decode cX3_start 0 = .ok (.aload_n 0, 1) := by decide +kernel
theorem dX3_start_1 : decode cX3_start 1 = .ok (.iload_n 1, 1) := by decide +kernel
theorem dX3_start_2 : decode cX3_start 2 = .ok (.invokevirtual 59, 3) := by decide +kernel
theorem dX3_start_5 : decode cX3_start 5 = .ok (.astore 4, 2) := by decide +kernel
theorem dX3_start_7 : decode cX3_start 7 = .ok (.aload 4, 2) := by decide +kernel
theorem dX3_start_9 : decode cX3_start 9 = .ok (.ifnonnull 5, 3) := by decide +kernel
theorem dX3_start_12 : decode cX3_start 12 = .ok (.iconst (-1), 1) := by decide +kernel
theorem dX3_start_13 : decode cX3_start 13 = .ok (.ireturn, 1) := by decide +kernel
theorem dX3_start_14 : decode cX3_start 14 = .ok (.aload_n 0, 1) := by decide +kernel
theorem dX3_start_15 : decode cX3_start 15 = .ok (.dup, 1) := by decide +kernel
theorem dX3_start_16 : decode cX3_start 16 = .ok (.getfield 129, 3) := by decide +kernel
theorem dX3_start_19 : decode cX3_start 19 = .ok (.iconst 1, 1) := by decide +kernel
theorem dX3_start_20 : decode cX3_start 20 = .ok (.iadd, 1) := by decide +kernel
theorem dX3_start_21 : decode cX3_start 21 = .ok (.putfield 129, 3) := by decide +kernel
theorem dX3_start_24 : decode cX3_start 24 = .ok (.ldc2_w 132, 3) := by decide +kernel
theorem dX3_start_27 : decode cX3_start 27 = .ok (.aload_n 0, 1) := by decide +kernel
theorem dX3_start_28 : decode cX3_start 28 = .ok (.getfield 129, 3) := by decide +kernel
theorem dX3_start_31 : decode cX3_start 31 = .ok (.i2l, 1) := by decide +kernel
theorem dX3_start_32 : decode cX3_start 32 = .ok (.lmul, 1) := by decide +kernel
theorem dX3_start_33 : decode cX3_start 33 = .ok (.ldc2_w 134, 3) := by decide +kernel
theorem dX3_start_36 : decode cX3_start 36 = .ok (.land, 1) := by decide +kernel
theorem dX3_start_37 : decode cX3_start 37 = .ok (.lstore 5, 2) := by decide +kernel
theorem dX3_start_39 : decode cX3_start 39 = .ok (.aload 4, 2) := by decide +kernel
theorem dX3_start_41 : decode cX3_start 41 = .ok (.getfield 89, 3) := by decide +kernel
theorem dX3_start_44 : decode cX3_start 44 = .ok (.ifCond .eq 23, 3) := by decide +kernel
theorem dX3_start_47 : decode cX3_start 47 = .ok (.aload 4, 2) := by decide +kernel
theorem dX3_start_49 : decode cX3_start 49 = .ok (.getfield 102, 3) := by decide +kernel
theorem dX3_start_52 : decode cX3_start 52 = .ok (.ifCond .eq 15, 3) := by decide +kernel
theorem dX3_start_55 : decode cX3_start 55 = .ok (.lload_n 2, 1) := by decide +kernel
theorem dX3_start_56 : decode cX3_start 56 = .ok (.aload 4, 2) := by decide +kernel
theorem dX3_start_58 : decode cX3_start 58 = .ok (.lload 5, 2) := by decide +kernel
theorem dX3_start_60 : decode cX3_start 60 = .ok (.invokevirtual 136, 3) := by decide +kernel
theorem dX3_start_63 : decode cX3_start 63 = .ok (.lcmp, 1) := by decide +kernel
theorem dX3_start_64 : decode cX3_start 64 = .ok (.ifCond .eq 5, 3) := by decide +kernel
theorem dX3_start_67 : decode cX3_start 67 = .ok (.iconst 0, 1) := by decide +kernel
theorem dX3_start_68 : decode cX3_start 68 = .ok (.ireturn, 1) := by decide +kernel
theorem dX3_start_69 : decode cX3_start 69 = .ok (.aload_n 0, 1) := by decide +kernel
theorem dX3_start_70 : decode cX3_start 70 = .ok (.iconst 0, 1) := by decide +kernel
theorem dX3_start_71 : decode cX3_start 71 = .ok (.putfield 76, 3) := by decide +kernel
theorem dX3_start_74 : decode cX3_start 74 = .ok (.iconst 1, 1) := by decide +kernel
theorem dX3_start_75 : decode cX3_start 75 = .ok (.ireturn, 1) := by decide +kernel
set_option maxRecDepth 20000 in
theorem ggX3_crash_X0_openAll : GoodIn wsX3_crash wsX0_openAll := goodIn_r _ [7, 8, 9, 10, 6, 11, 12, 22, 23, 24] (by decide +kernel) (by decide +kernel)
set_option maxRecDepth 20000 in
theorem gX3_crash_X0_openAll : GoodIn wsX3_crash (wsV RX3 72 RX0 yX0_openAll wsX0_openAll) := goodIn_app (goodIn_of _ (by decide +kernel)) ggX3_crash_X0_openAll
theorem dX3_crash_0 : decode cX3_crash 0 = .ok (.aload_n 0, 1) := by decide +kernel
theorem dX3_crash_1 : decode cX3_crash 1 = .ok (.iconst 1, 1) := by decide +kernel
theorem dX3_crash_2 : decode cX3_crash 2 = .ok (.putfield 76, 3) := by decide +kernel
theorem dX3_crash_5 : decode cX3_crash 5 = .ok (.aload_n 0, 1) := by decide +kernel
theorem dX3_crash_6 : decode cX3_crash 6 = .ok (.getfield 32, 3) := by decide +kernel
theorem dX3_crash_9 : decode cX3_crash 9 = .ok (.invokevirtual 72, 3) := by decide +kernel
theorem dX3_crash_12 : decode cX3_crash 12 = .ok (.ireturn, 1) := by decide +kernel
set_option maxRecDepth 20000 in
theorem ggX3_alarm_X0_isGuarded : GoodIn wsX3_alarm wsX0_isGuarded := goodIn_r _ [7, 8, 9, 10, 11, 12, 13, 6, 14, 15, 25, 26, 27] (by decide +kernel) (by decide +kernel)
set_option maxRecDepth 20000 in
theorem gX3_alarm_X0_isGuarded : GoodIn wsX3_alarm (wsV RX3 144 RX0 yX0_isGuarded wsX0_isGuarded) := goodIn_app (goodIn_of _ (by decide +kernel)) ggX3_alarm_X0_isGuarded
theorem dX3_alarm_0 : decode cX3_alarm 0 = .ok (.iload_n 1, 1) := by decide +kernel
theorem dX3_alarm_1 : decode cX3_alarm 1 = .ok (.ifCond .lt 9, 3) := by decide +kernel
theorem dX3_alarm_4 : decode cX3_alarm 4 = .ok (.iload_n 1, 1) := by decide +kernel
theorem dX3_alarm_5 : decode cX3_alarm 5 = .ok (.bipush 7, 2) := by decide +kernel
theorem dX3_alarm_7 : decode cX3_alarm 7 = .ok (.if_icmp .le 5, 3) := by decide +kernel
theorem dX3_alarm_10 : decode cX3_alarm 10 = .ok (.iconst (-1), 1) := by decide +kernel
theorem dX3_alarm_11 : decode cX3_alarm 11 = .ok (.ireturn, 1) := by decide +kernel
theorem dX3_alarm_12 : decode cX3_alarm 12 = .ok (.lload_n 2, 1) := by decide +kernel
theorem dX3_alarm_13 : decode cX3_alarm 13 = .ok (.aload_n 0, 1) := by decide +kernel
theorem dX3_alarm_14 : decode cX3_alarm 14 = .ok (.getfield 32, 3) := by decide +kernel
theorem dX3_alarm_17 : decode cX3_alarm 17 = .ok (.getfield 140, 3) := by decide +kernel
theorem dX3_alarm_20 : decode cX3_alarm 20 = .ok (.lcmp, 1) := by decide +kernel
theorem dX3_alarm_21 : decode cX3_alarm 21 = .ok (.ifCond .ge 6, 3) := by decide +kernel
theorem dX3_alarm_24 : decode cX3_alarm 24 = .ok (.bipush (-2), 2) := by decide +kernel
theorem dX3_alarm_26 : decode cX3_alarm 26 = .ok (.ireturn, 1) := by decide +kernel
theorem dX3_alarm_27 : decode cX3_alarm 27 = .ok (.aload_n 0, 1) := by decide +kernel
theorem dX3_alarm_28 : decode cX3_alarm 28 = .ok (.getfield 32, 3) := by decide +kernel
theorem dX3_alarm_31 : decode cX3_alarm 31 = .ok (.lload_n 2, 1) := by decide +kernel
theorem dX3_alarm_32 : decode cX3_alarm 32 = .ok (.putfield 140, 3) := by decide +kernel
theorem dX3_alarm_35 : decode cX3_alarm 35 = .ok (.aload_n 0, 1) := by decide +kernel
theorem dX3_alarm_36 : decode cX3_alarm 36 = .ok (.getfield 32, 3) := by decide +kernel
theorem dX3_alarm_39 : decode cX3_alarm 39 = .ok (.invokevirtual 144, 3) := by decide +kernel
theorem dX3_alarm_42 : decode cX3_alarm 42 = .ok (.ifCond .eq 7, 3) := by decide +kernel
theorem dX3_alarm_45 : decode cX3_alarm 45 = .ok (.iconst 1, 1) := by decide +kernel
theorem dX3_alarm_46 : decode cX3_alarm 46 = .ok (.goto 4, 3) := by decide +kernel
theorem dX3_alarm_49 : decode cX3_alarm 49 = .ok (.iconst 0, 1) := by decide +kernel
theorem dX3_alarm_50 : decode cX3_alarm 50 = .ok (.ireturn, 1) := by decide +kernel
set_option maxRecDepth 20000 in
theorem ggX3_battery_X3_find : GoodIn wsX3_battery wsX3_find := goodIn_r _ [6, 7, 8, 16, 17, 18, 19, 20, 21, 22, 23, 24] (by decide +kernel) (by decide +kernel)
set_option maxRecDepth 20000 in
theorem gX3_battery_X3_find : GoodIn wsX3_battery (wsV RX3 59 RX3 yX3_find wsX3_find) := goodIn_app (goodIn_of _ (by decide +kernel)) ggX3_battery_X3_find
theorem dX3_battery_0 : decode cX3_battery 0 = .ok (.aload_n 0, 1) := by decide +kernel
theorem dX3_battery_1 : decode cX3_battery 1 = .ok (.iload_n 1, 1) := by decide +kernel
theorem dX3_battery_2 : decode cX3_battery 2 = .ok (.invokevirtual 59, 3) := by decide +kernel
theorem dX3_battery_5 : decode cX3_battery 5 = .ok (.astore_n 2, 1) := by decide +kernel
theorem dX3_battery_6 : decode cX3_battery 6 = .ok (.aload_n 2, 1) := by decide +kernel
theorem dX3_battery_7 : decode cX3_battery 7 = .ok (.ifnonnull 7, 3) := by decide +kernel
theorem dX3_battery_10 : decode cX3_battery 10 = .ok (.iconst (-1), 1) := by decide +kernel
theorem dX3_battery_11 : decode cX3_battery 11 = .ok (.goto 7, 3) := by decide +kernel
theorem dX3_battery_14 : decode cX3_battery 14 = .ok (.aload_n 2, 1) := by decide +kernel
theorem dX3_battery_15 : decode cX3_battery 15 = .ok (.getfield 147, 3) := by decide +kernel
theorem dX3_battery_18 : decode cX3_battery 18 = .ok (.ireturn, 1) := by decide +kernel
set_option maxRecDepth 20000 in
theorem ggX3_octet_X1_has : GoodIn wsX3_octet wsX1_has := goodIn_r _ [10, 11, 12, 28, 29] (by decide +kernel) (by decide +kernel)
set_option maxRecDepth 20000 in
theorem gX3_octet_X1_has : GoodIn wsX3_octet (wsV RX3 150 RX1 yX1_has wsX1_has) := goodIn_app (goodIn_of _ (by decide +kernel)) ggX3_octet_X1_has
theorem dX3_octet_0 : decode cX3_octet 0 = .ok (.aload_n 0, 1) := by decide +kernel
theorem dX3_octet_1 : decode cX3_octet 1 = .ok (.getfield 26, 3) := by decide +kernel
theorem dX3_octet_4 : decode cX3_octet 4 = .ok (.iload_n 1, 1) := by decide +kernel
theorem dX3_octet_5 : decode cX3_octet 5 = .ok (.invokevirtual 150, 3) := by decide +kernel
theorem dX3_octet_8 : decode cX3_octet 8 = .ok (.ifCond .ne 11, 3) := by decide +kernel
theorem dX3_octet_11 : decode cX3_octet 11 = .ok (.new 153, 3) := by decide +kernel
theorem dX3_octet_14 : decode cX3_octet 14 = .ok (.dup, 1) := by decide +kernel
theorem dX3_octet_15 : decode cX3_octet 15 = .ok (.invokespecial 155, 3) := by decide +kernel
theorem dX3_octet_18 : decode cX3_octet 18 = .ok (.athrow, 1) := by decide +kernel
theorem dX3_octet_19 : decode cX3_octet 19 = .ok (.aload_n 0, 1) := by decide +kernel
theorem dX3_octet_20 : decode cX3_octet 20 = .ok (.getfield 26, 3) := by decide +kernel
theorem dX3_octet_23 : decode cX3_octet 23 = .ok (.getfield 156, 3) := by decide +kernel
theorem dX3_octet_26 : decode cX3_octet 26 = .ok (.iload_n 1, 1) := by decide +kernel
theorem dX3_octet_27 : decode cX3_octet 27 = .ok (.baload, 1) := by decide +kernel
theorem dX3_octet_28 : decode cX3_octet 28 = .ok (.ireturn, 1) := by decide +kernel
set_option maxRecDepth 20000 in
theorem ggX3_state_X0_has : GoodIn wsX3_state wsX0_has := goodIn_r _ [9, 10, 20, 21, 22] (by decide +kernel) (by decide +kernel)
set_option maxRecDepth 20000 in
theorem gX3_state_X0_has : GoodIn wsX3_state (wsV RX3 160 RX0 yX0_has wsX0_has) := goodIn_app (goodIn_of _ (by decide +kernel)) ggX3_state_X0_has
theorem dX3_state_0 : decode cX3_state 0 = .ok (.iload_n 1, 1) := by decide +kernel
theorem dX3_state_1 : decode cX3_state 1 = .ok (.iconst 5, 1) := by decide +kernel
theorem dX3_state_2 : decode cX3_state 2 = .ok (.if_icmp .ne 8, 3) := by decide +kernel
theorem dX3_state_5 : decode cX3_state 5 = .ok (.aload_n 0, 1) := by decide +kernel
theorem dX3_state_6 : decode cX3_state 6 = .ok (.getfield 113, 3) := by decide +kernel
theorem dX3_state_9 : decode cX3_state 9 = .ok (.ireturn, 1) := by decide +kernel
theorem dX3_state_10 : decode cX3_state 10 = .ok (.iload_n 1, 1) := by decide +kernel
theorem dX3_state_11 : decode cX3_state 11 = .ok (.bipush 6, 2) := by decide +kernel
theorem dX3_state_13 : decode cX3_state 13 = .ok (.if_icmp .ne 8, 3) := by decide +kernel
theorem dX3_state_16 : decode cX3_state 16 = .ok (.aload_n 0, 1) := by decide +kernel
theorem dX3_state_17 : decode cX3_state 17 = .ok (.getfield 129, 3) := by decide +kernel
theorem dX3_state_20 : decode cX3_state 20 = .ok (.ireturn, 1) := by decide +kernel
theorem dX3_state_21 : decode cX3_state 21 = .ok (.aload_n 0, 1) := by decide +kernel
theorem dX3_state_22 : decode cX3_state 22 = .ok (.getfield 32, 3) := by decide +kernel
theorem dX3_state_25 : decode cX3_state 25 = .ok (.iload_n 1, 1) := by decide +kernel
theorem dX3_state_26 : decode cX3_state 26 = .ok (.invokevirtual 160, 3) := by decide +kernel
theorem dX3_state_29 : decode cX3_state 29 = .ok (.ifCond .eq 15, 3) := by decide +kernel
theorem dX3_state_32 : decode cX3_state 32 = .ok (.aload_n 0, 1) := by decide +kernel
theorem dX3_state_33 : decode cX3_state 33 = .ok (.getfield 32, 3) := by decide +kernel
theorem dX3_state_36 : decode cX3_state 36 = .ok (.getfield 161, 3) := by decide +kernel
theorem dX3_state_39 : decode cX3_state 39 = .ok (.iload_n 1, 1) := by decide +kernel
theorem dX3_state_40 : decode cX3_state 40 = .ok (.iaload, 1) := by decide +kernel
theorem dX3_state_41 : decode cX3_state 41 = .ok (.goto 4, 3) := by decide +kernel
theorem dX3_state_44 : decode cX3_state 44 = .ok (.iconst (-1), 1) := by decide +kernel
theorem dX3_state_45 : decode cX3_state 45 = .ok (.ireturn, 1) := by decide +kernel
theorem dX3_find_0 : decode cX3_find 0 = .ok (.iload_n 1, 1) := by decide +kernel
theorem dX3_find_1 : decode cX3_find 1 = .ok (.iconst 1, 1) := by decide +kernel
theorem dX3_find_2 : decode cX3_find 2 = .ok (.if_icmp .lt 31, 3) := by decide +kernel
theorem dX3_find_5 : decode cX3_find 5 = .ok (.iload_n 1, 1) := by decide +kernel
theorem dX3_find_6 : decode cX3_find 6 = .ok (.aload_n 0, 1) := by decide +kernel
theorem dX3_find_7 : decode cX3_find 7 = .ok (.getfield 42, 3) := by decide +kernel
theorem dX3_find_10 : decode cX3_find 10 = .ok (.if_icmp .gt 23, 3) := by decide +kernel
theorem dX3_find_13 : decode cX3_find 13 = .ok (.iload_n 1, 1) := by decide +kernel
theorem dX3_find_14 : decode cX3_find 14 = .ok (.aload_n 0, 1) := by decide +kernel
theorem dX3_find_15 : decode cX3_find 15 = .ok (.getfield 15, 3) := by decide +kernel
theorem dX3_find_18 : decode cX3_find 18 = .ok (.arraylength, 1) := by decide +kernel
theorem dX3_find_19 : decode cX3_find 19 = .ok (.if_icmp .gt 14, 3) := by decide +kernel
theorem dX3_find_22 : decode cX3_find 22 = .ok (.aload_n 0, 1) := by decide +kernel
theorem dX3_find_23 : decode cX3_find 23 = .ok (.getfield 15, 3) := by decide +kernel
theorem dX3_find_26 : decode cX3_find 26 = .ok (.iload_n 1, 1) := by decide +kernel
theorem dX3_find_27 : decode cX3_find 27 = .ok (.iconst 1, 1) := by decide +kernel
theorem dX3_find_28 : decode cX3_find 28 = .ok (.isub, 1) := by decide +kernel
theorem dX3_find_29 : decode cX3_find 29 = .ok (.aaload, 1) := by decide +kernel
theorem dX3_find_30 : decode cX3_find 30 = .ok (.goto 4, 3) := by decide +kernel
theorem dX3_find_33 : decode cX3_find 33 = .ok (.aconst_null, 1) := by decide +kernel
theorem dX3_find_34 : decode cX3_find 34 = .ok (.areturn, 1) := by decide +kernel
set_option maxRecDepth 20000 in
theorem ggX3_isSecretOfAKey_X3_find : GoodIn wsX3_isSecretOfAKey wsX3_find := goodIn_r _ [7, 1, 8, 9, 10, 11, 12, 13, 14, 15, 16, 17] (by decide +kernel) (by decide +kernel)
set_option maxRecDepth 20000 in
theorem gX3_isSecretOfAKey_X3_find : GoodIn wsX3_isSecretOfAKey (wsV RX3 59 RX3 yX3_find wsX3_find) := goodIn_app (goodIn_of _ (by decide +kernel)) ggX3_isSecretOfAKey_X3_find
theorem dX3_isSecretOfAKey_0 : decode cX3_isSecretOfAKey 0 = .ok (.iconst 1, 1) := by decide +kernel
theorem dX3_isSecretOfAKey_1 : decode cX3_isSecretOfAKey 1 = .ok (.istore_n 3, 1) := by decide +kernel
theorem dX3_isSecretOfAKey_2 : decode cX3_isSecretOfAKey 2 = .ok (.iload_n 3, 1) := by decide +kernel
theorem dX3_isSecretOfAKey_3 : decode cX3_isSecretOfAKey 3 = .ok (.aload_n 0, 1) := by decide +kernel
theorem dX3_isSecretOfAKey_4 : decode cX3_isSecretOfAKey 4 = .ok (.getfield 42, 3) := by decide +kernel
theorem dX3_isSecretOfAKey_7 : decode cX3_isSecretOfAKey 7 = .ok (.if_icmp .gt 33, 3) := by decide +kernel
theorem dX3_isSecretOfAKey_10 : decode cX3_isSecretOfAKey 10 = .ok (.aload_n 0, 1) := by decide +kernel
theorem dX3_isSecretOfAKey_11 : decode cX3_isSecretOfAKey 11 = .ok (.iload_n 3, 1) := by decide +kernel
theorem dX3_isSecretOfAKey_12 : decode cX3_isSecretOfAKey 12 = .ok (.invokevirtual 59, 3) := by decide +kernel
theorem dX3_isSecretOfAKey_15 : decode cX3_isSecretOfAKey 15 = .ok (.astore 4, 2) := by decide +kernel
theorem dX3_isSecretOfAKey_17 : decode cX3_isSecretOfAKey 17 = .ok (.aload 4, 2) := by decide +kernel
theorem dX3_isSecretOfAKey_19 : decode cX3_isSecretOfAKey 19 = .ok (.ifnull 15, 3) := by decide +kernel
theorem dX3_isSecretOfAKey_22 : decode cX3_isSecretOfAKey 22 = .ok (.aload 4, 2) := by decide +kernel
theorem dX3_isSecretOfAKey_24 : decode cX3_isSecretOfAKey 24 = .ok (.getfield 165, 3) := by decide +kernel
theorem dX3_isSecretOfAKey_27 : decode cX3_isSecretOfAKey 27 = .ok (.lload_n 1, 1) := by decide +kernel
theorem dX3_isSecretOfAKey_28 : decode cX3_isSecretOfAKey 28 = .ok (.lcmp, 1) := by decide +kernel
theorem dX3_isSecretOfAKey_29 : decode cX3_isSecretOfAKey 29 = .ok (.ifCond .ne 5, 3) := by decide +kernel
theorem dX3_isSecretOfAKey_32 : decode cX3_isSecretOfAKey 32 = .ok (.iconst 1, 1) := by decide +kernel
theorem dX3_isSecretOfAKey_33 : decode cX3_isSecretOfAKey 33 = .ok (.ireturn, 1) := by decide +kernel
theorem dX3_isSecretOfAKey_34 : decode cX3_isSecretOfAKey 34 = .ok (.iinc 3 1, 3) := by decide +kernel
theorem dX3_isSecretOfAKey_37 : decode cX3_isSecretOfAKey 37 = .ok (.goto (-35), 3) := by decide +kernel
theorem dX3_isSecretOfAKey_40 : decode cX3_isSecretOfAKey 40 = .ok (.iconst 0, 1) := by decide +kernel
theorem dX3_isSecretOfAKey_41 : decode cX3_isSecretOfAKey 41 = .ok (.ireturn, 1) := by decide +kernel
set_option maxRecDepth 20000 in
theorem ggX3_learnedKeys_X3_find : GoodIn wsX3_learnedKeys wsX3_find := goodIn_r _ [7, 1, 8, 9, 10, 11, 12, 13, 14, 15, 16, 17] (by decide +kernel) (by decide +kernel)
set_option maxRecDepth 20000 in
theorem gX3_learnedKeys_X3_find : GoodIn wsX3_learnedKeys (wsV RX3 59 RX3 yX3_find wsX3_find) := goodIn_app (goodIn_of _ (by decide +kernel)) ggX3_learnedKeys_X3_find
theorem dX3_learnedKeys_0 : decode cX3_learnedKeys 0 = .ok (.iconst 0, 1) := by decide +kernel
theorem dX3_learnedKeys_1 : decode cX3_learnedKeys 1 = .ok (.istore_n 1, 1) := by decide +kernel
theorem dX3_learnedKeys_2 : decode cX3_learnedKeys 2 = .ok (.iconst 1, 1) := by decide +kernel
theorem dX3_learnedKeys_3 : decode cX3_learnedKeys 3 = .ok (.istore_n 2, 1) := by decide +kernel
theorem dX3_learnedKeys_4 : decode cX3_learnedKeys 4 = .ok (.iload_n 2, 1) := by decide +kernel
theorem dX3_learnedKeys_5 : decode cX3_learnedKeys 5 = .ok (.aload_n 0, 1) := by decide +kernel
theorem dX3_learnedKeys_6 : decode cX3_learnedKeys 6 = .ok (.getfield 42, 3) := by decide +kernel
theorem dX3_learnedKeys_9 : decode cX3_learnedKeys 9 = .ok (.if_icmp .gt 29, 3) := by decide +kernel
theorem dX3_learnedKeys_12 : decode cX3_learnedKeys 12 = .ok (.aload_n 0, 1) := by decide +kernel
theorem dX3_learnedKeys_13 : decode cX3_learnedKeys 13 = .ok (.iload_n 2, 1) := by decide +kernel
theorem dX3_learnedKeys_14 : decode cX3_learnedKeys 14 = .ok (.invokevirtual 59, 3) := by decide +kernel
theorem dX3_learnedKeys_17 : decode cX3_learnedKeys 17 = .ok (.astore_n 3, 1) := by decide +kernel
theorem dX3_learnedKeys_18 : decode cX3_learnedKeys 18 = .ok (.aload_n 3, 1) := by decide +kernel
theorem dX3_learnedKeys_19 : decode cX3_learnedKeys 19 = .ok (.ifnull 13, 3) := by decide +kernel
theorem dX3_learnedKeys_22 : decode cX3_learnedKeys 22 = .ok (.aload_n 3, 1) := by decide +kernel
theorem dX3_learnedKeys_23 : decode cX3_learnedKeys 23 = .ok (.getfield 89, 3) := by decide +kernel
theorem dX3_learnedKeys_26 : decode cX3_learnedKeys 26 = .ok (.ifCond .eq 6, 3) := by decide +kernel
theorem dX3_learnedKeys_29 : decode cX3_learnedKeys 29 = .ok (.iinc 1 1, 3) := by decide +kernel
theorem dX3_learnedKeys_32 : decode cX3_learnedKeys 32 = .ok (.iinc 2 1, 3) := by decide +kernel
theorem dX3_learnedKeys_35 : decode cX3_learnedKeys 35 = .ok (.goto (-31), 3) := by decide +kernel
theorem dX3_learnedKeys_38 : decode cX3_learnedKeys 38 = .ok (.iload_n 1, 1) := by decide +kernel
theorem dX3_learnedKeys_39 : decode cX3_learnedKeys 39 = .ok (.ireturn, 1) := by decide +kernel
set_option maxRecDepth 20000 in
theorem ggX3_judge_X1_isSound : GoodIn wsX3_judge wsX1_isSound := goodIn_r _ [9, 10, 11, 12, 13, 8, 14, 15, 16, 17, 18, 19, 129, 130] (by decide +kernel) (by decide +kernel)
set_option maxRecDepth 20000 in
theorem gX3_judge_X1_isSound : GoodIn wsX3_judge (wsV RX3 168 RX1 yX1_isSound wsX1_isSound) := goodIn_app (goodIn_of _ (by decide +kernel)) ggX3_judge_X1_isSound
set_option maxRecDepth 20000 in
theorem ggX3_judge_X1_command : GoodIn wsX3_judge wsX1_command := goodIn_r _ [23, 11, 12, 13, 8, 14, 15, 16, 17, 18, 19, 10, 129, 130] (by decide +kernel) (by decide +kernel)
set_option maxRecDepth 20000 in
theorem gX3_judge_X1_command : GoodIn wsX3_judge (wsV RX3 171 RX1 yX1_command wsX1_command) := goodIn_app (goodIn_of _ (by decide +kernel)) ggX3_judge_X1_command
set_option maxRecDepth 20000 in
theorem ggX3_judge_X1_sender : GoodIn wsX3_judge wsX1_sender := goodIn_r _ [27, 11, 12, 13, 8, 14, 15, 16, 17, 18, 19, 10, 129, 130] (by decide +kernel) (by decide +kernel)
set_option maxRecDepth 20000 in
theorem gX3_judge_X1_sender : GoodIn wsX3_judge (wsV RX3 174 RX1 yX1_sender wsX1_sender) := goodIn_app (goodIn_of _ (by decide +kernel)) ggX3_judge_X1_sender
set_option maxRecDepth 20000 in
theorem ggX3_judge_X3_find : GoodIn wsX3_judge wsX3_find := goodIn_r _ [32, 33, 34, 120, 121, 122, 123, 124, 125, 126, 127, 128] (by decide +kernel) (by decide +kernel)
set_option maxRecDepth 20000 in
theorem gX3_judge_X3_find : GoodIn wsX3_judge (wsV RX3 59 RX3 yX3_find wsX3_find) := goodIn_app (goodIn_of _ (by decide +kernel)) ggX3_judge_X3_find
set_option maxRecDepth 20000 in
theorem ggX3_judge_X1_code : GoodIn wsX3_judge wsX1_code := goodIn_r _ [38, 39, 11, 12, 13, 8, 14, 15, 16, 17, 18, 19, 10, 129, 130] (by decide +kernel) (by decide +kernel)
set_option maxRecDepth 20000 in
theorem gX3_judge_X1_code : GoodIn wsX3_judge (wsV RX3 177 RX1 yX1_code wsX1_code) := goodIn_app (goodIn_of _ (by decide +kernel)) ggX3_judge_X1_code
set_option maxRecDepth 20000 in
theorem ggX3_judge_X2_decipher : GoodIn wsX3_judge wsX2_decipher := goodIn_r _ [44, 45, 46, 47, 48, 43, 49, 50, 51, 52, 53, 54, 55, 56, 57, 58, 59, 113, 114, 115, 116, 117, 118, 119] (by decide +kernel) (by decide +kernel)
set_option maxRecDepth 20000 in
theorem gX3_judge_X2_decipher : GoodIn wsX3_judge (wsV RX3 181 RX2 yX2_decipher wsX2_decipher) := goodIn_app (goodIn_of _ (by decide +kernel)) ggX3_judge_X2_decipher
set_option maxRecDepth 20000 in
theorem ggX3_judge_X2_sign : GoodIn wsX3_judge wsX2_sign := goodIn_r _ [63, 51, 52, 53, 43, 54, 55, 45, 113, 114, 115, 116, 117, 118, 119] (by decide +kernel) (by decide +kernel)
set_option maxRecDepth 20000 in
theorem gX3_judge_X2_sign : GoodIn wsX3_judge (wsV RX3 184 RX2 yX2_sign wsX2_sign) := goodIn_app (goodIn_of _ (by decide +kernel)) ggX3_judge_X2_sign
set_option maxRecDepth 20000 in
theorem ggX3_judge_X2_roll : GoodIn wsX3_judge wsX2_roll := goodIn_r _ [67, 68, 45, 69, 70, 113, 114, 115, 116, 117, 118, 119] (by decide +kernel) (by decide +kernel)
set_option maxRecDepth 20000 in
theorem gX3_judge_X2_roll : GoodIn wsX3_judge (wsV RX3 188 RX2 yX2_roll wsX2_roll) := goodIn_app (goodIn_of _ (by decide +kernel)) ggX3_judge_X2_roll
set_option maxRecDepth 20000 in
theorem ggX3_judge_X1_flags : GoodIn wsX3_judge wsX1_flags := goodIn_r _ [74, 11, 12, 13, 8, 14, 15, 16, 17, 18, 19, 10, 129, 130] (by decide +kernel) (by decide +kernel)
set_option maxRecDepth 20000 in
theorem gX3_judge_X1_flags : GoodIn wsX3_judge (wsV RX3 192 RX1 yX1_flags wsX1_flags) := goodIn_app (goodIn_of _ (by decide +kernel)) ggX3_judge_X1_flags
set_option maxRecDepth 20000 in
theorem ggX3_judge_X3_obey : GoodIn wsX3_judge wsX3_obey := goodIn_r _ [78, 79, 80, 81, 82, 83, 84, 85, 86, 87, 88, 89, 90, 91, 92, 93, 94, 95, 96, 97, 98, 99, 100, 101, 102, 103, 104, 105, 106, 107, 108, 109, 110, 111, 112, 120, 121, 122, 123, 124, 125, 126, 127, 128, 131, 132, 133] (by decide +kernel) (by decide +kernel)
set_option maxRecDepth 20000 in
theorem gX3_judge_X3_obey : GoodIn wsX3_judge (wsV RX3 195 RX3 yX3_obey wsX3_obey) := goodIn_app (goodIn_of _ (by decide +kernel)) ggX3_judge_X3_obey
theorem dX3_judge_0 : decode cX3_judge 0 = .ok (.aload_n 1, 1) := by decide +kernel
theorem dX3_judge_1 : decode cX3_judge 1 = .ok (.invokevirtual 168, 3) := by decide +kernel
theorem dX3_judge_4 : decode cX3_judge 4 = .ok (.ifCond .eq 11, 3) := by decide +kernel
theorem dX3_judge_7 : decode cX3_judge 7 = .ok (.aload_n 1, 1) := by decide +kernel
theorem dX3_judge_8 : decode cX3_judge 8 = .ok (.invokevirtual 171, 3) := by decide +kernel
theorem dX3_judge_11 : decode cX3_judge 11 = .ok (.iconst 3, 1) := by decide +kernel
theorem dX3_judge_12 : decode cX3_judge 12 = .ok (.if_icmp .le 5, 3) := by decide +kernel
theorem dX3_judge_15 : decode cX3_judge 15 = .ok (.iconst 0, 1) := by decide +kernel
theorem dX3_judge_16 : decode cX3_judge 16 = .ok (.ireturn, 1) := by decide +kernel
theorem dX3_judge_17 : decode cX3_judge 17 = .ok (.aload_n 0, 1) := by decide +kernel
theorem dX3_judge_18 : decode cX3_judge 18 = .ok (.aload_n 1, 1) := by decide +kernel
theorem dX3_judge_19 : decode cX3_judge 19 = .ok (.invokevirtual 174, 3) := by decide +kernel
theorem dX3_judge_22 : decode cX3_judge 22 = .ok (.invokevirtual 59, 3) := by decide +kernel
theorem dX3_judge_25 : decode cX3_judge 25 = .ok (.astore_n 2, 1) := by decide +kernel
theorem dX3_judge_26 : decode cX3_judge 26 = .ok (.aload_n 2, 1) := by decide +kernel
theorem dX3_judge_27 : decode cX3_judge 27 = .ok (.ifnull 10, 3) := by decide +kernel
theorem dX3_judge_30 : decode cX3_judge 30 = .ok (.aload_n 2, 1) := by decide +kernel
theorem dX3_judge_31 : decode cX3_judge 31 = .ok (.getfield 89, 3) := by decide +kernel
theorem dX3_judge_34 : decode cX3_judge 34 = .ok (.ifCond .ne 5, 3) := by decide +kernel
theorem dX3_judge_37 : decode cX3_judge 37 = .ok (.iconst 0, 1) := by decide +kernel
theorem dX3_judge_38 : decode cX3_judge 38 = .ok (.ireturn, 1) := by decide +kernel
theorem dX3_judge_39 : decode cX3_judge 39 = .ok (.aload_n 2, 1) := by decide +kernel
theorem dX3_judge_40 : decode cX3_judge 40 = .ok (.aload_n 1, 1) := by decide +kernel
theorem dX3_judge_41 : decode cX3_judge 41 = .ok (.invokevirtual 177, 3) := by decide +kernel
theorem dX3_judge_44 : decode cX3_judge 44 = .ok (.invokevirtual 181, 3) := by decide +kernel
theorem dX3_judge_47 : decode cX3_judge 47 = .ok (.lstore_n 3, 1) := by decide +kernel
theorem dX3_judge_48 : decode cX3_judge 48 = .ok (.lload_n 3, 1) := by decide +kernel
theorem dX3_judge_49 : decode cX3_judge 49 = .ok (.bipush 16, 2) := by decide +kernel
theorem dX3_judge_51 : decode cX3_judge 51 = .ok (.lushr, 1) := by decide +kernel
theorem dX3_judge_52 : decode cX3_judge 52 = .ok (.aload_n 2, 1) := by decide +kernel
theorem dX3_judge_53 : decode cX3_judge 53 = .ok (.invokevirtual 184, 3) := by decide +kernel
theorem dX3_judge_56 : decode cX3_judge 56 = .ok (.i2l, 1) := by decide +kernel
theorem dX3_judge_57 : decode cX3_judge 57 = .ok (.lcmp, 1) := by decide +kernel
theorem dX3_judge_58 : decode cX3_judge 58 = .ok (.ifCond .eq 5, 3) := by decide +kernel
theorem dX3_judge_61 : decode cX3_judge 61 = .ok (.iconst 0, 1) := by decide +kernel
theorem dX3_judge_62 : decode cX3_judge 62 = .ok (.ireturn, 1) := by decide +kernel
theorem dX3_judge_63 : decode cX3_judge 63 = .ok (.aload_n 2, 1) := by decide +kernel
theorem dX3_judge_64 : decode cX3_judge 64 = .ok (.lload_n 3, 1) := by decide +kernel
theorem dX3_judge_65 : decode cX3_judge 65 = .ok (.l2i, 1) := by decide +kernel
theorem dX3_judge_66 : decode cX3_judge 66 = .ok (.ldc 187, 2) := by decide +kernel
theorem dX3_judge_68 : decode cX3_judge 68 = .ok (.iand, 1) := by decide +kernel
theorem dX3_judge_69 : decode cX3_judge 69 = .ok (.aload_n 0, 1) := by decide +kernel
theorem dX3_judge_70 : decode cX3_judge 70 = .ok (.getfield 9, 3) := by decide +kernel
theorem dX3_judge_73 : decode cX3_judge 73 = .ok (.invokevirtual 188, 3) := by decide +kernel
theorem dX3_judge_76 : decode cX3_judge 76 = .ok (.istore 5, 2) := by decide +kernel
theorem dX3_judge_78 : decode cX3_judge 78 = .ok (.iload 5, 2) := by decide +kernel
theorem dX3_judge_80 : decode cX3_judge 80 = .ok (.iconst 1, 1) := by decide +kernel
theorem dX3_judge_81 : decode cX3_judge 81 = .ok (.if_icmp .ne 21, 3) := by decide +kernel
theorem dX3_judge_84 : decode cX3_judge 84 = .ok (.aload_n 2, 1) := by decide +kernel
theorem dX3_judge_85 : decode cX3_judge 85 = .ok (.aload_n 1, 1) := by decide +kernel
theorem dX3_judge_86 : decode cX3_judge 86 = .ok (.invokevirtual 192, 3) := by decide +kernel
theorem dX3_judge_89 : decode cX3_judge 89 = .ok (.iconst 1, 1) := by decide +kernel
theorem dX3_judge_90 : decode cX3_judge 90 = .ok (.iand, 1) := by decide +kernel
theorem dX3_judge_91 : decode cX3_judge 91 = .ok (.putfield 147, 3) := by decide +kernel
theorem dX3_judge_94 : decode cX3_judge 94 = .ok (.aload_n 0, 1) := by decide +kernel
theorem dX3_judge_95 : decode cX3_judge 95 = .ok (.aload_n 1, 1) := by decide +kernel
theorem dX3_judge_96 : decode cX3_judge 96 = .ok (.invokevirtual 171, 3) := by decide +kernel
theorem dX3_judge_99 : decode cX3_judge 99 = .ok (.invokevirtual 195, 3) := by decide +kernel
theorem dX3_judge_102 : decode cX3_judge 102 = .ok (.iload 5, 2) := by decide +kernel
theorem dX3_judge_104 : decode cX3_judge 104 = .ok (.ireturn, 1) := by decide +kernel
set_option maxRecDepth 20000 in
theorem ggX3_obey_X0_openAll : GoodIn wsX3_obey wsX0_openAll := goodIn_r _ [7, 8, 9, 10, 6, 11, 12, 44, 45, 46] (by decide +kernel) (by decide +kernel)
set_option maxRecDepth 20000 in
theorem gX3_obey_X0_openAll : GoodIn wsX3_obey (wsV RX3 72 RX0 yX0_openAll wsX0_openAll) := goodIn_app (goodIn_of _ (by decide +kernel)) ggX3_obey_X0_openAll
set_option maxRecDepth 20000 in
theorem ggX3_obey_X0_openBootUnlessDead : GoodIn wsX3_obey wsX0_openBootUnlessDead := goodIn_r _ [16, 12, 44, 45, 46] (by decide +kernel) (by decide +kernel)
set_option maxRecDepth 20000 in
theorem gX3_obey_X0_openBootUnlessDead : GoodIn wsX3_obey (wsV RX3 198 RX0 yX0_openBootUnlessDead wsX0_openBootUnlessDead) := goodIn_app (goodIn_of _ (by decide +kernel)) ggX3_obey_X0_openBootUnlessDead
set_option maxRecDepth 20000 in
theorem ggX3_obey_X0_shutAll : GoodIn wsX3_obey wsX0_shutAll := goodIn_r _ [20, 8, 9, 10, 6, 11, 12, 21, 22, 23, 24, 25, 26, 27, 28, 29, 30, 44, 45, 46] (by decide +kernel) (by decide +kernel)
set_option maxRecDepth 20000 in
theorem gX3_obey_X0_shutAll : GoodIn wsX3_obey (wsV RX3 86 RX0 yX0_shutAll wsX0_shutAll) := goodIn_app (goodIn_of _ (by decide +kernel)) ggX3_obey_X0_shutAll
set_option maxRecDepth 20000 in
theorem ggX3_obey_X0_deadenUnlessOpen : GoodIn wsX3_obey wsX0_deadenUnlessOpen := goodIn_r _ [34, 27, 28, 29, 6, 30, 12, 8, 9, 10, 11, 44, 45, 46] (by decide +kernel) (by decide +kernel)
set_option maxRecDepth 20000 in
theorem gX3_obey_X0_deadenUnlessOpen : GoodIn wsX3_obey (wsV RX3 80 RX0 yX0_deadenUnlessOpen wsX0_deadenUnlessOpen) := goodIn_app (goodIn_of _ (by decide +kernel)) ggX3_obey_X0_deadenUnlessOpen
theorem dX3_obey_0 : decode cX3_obey 0 = .ok (.iload_n 1, 1) := by decide +kernel
theorem dX3_obey_1 : decode cX3_obey 1 = .ok (.ifCond .ne 14, 3) := by decide +kernel
theorem dX3_obey_4 : decode cX3_obey 4 = .ok (.aload_n 0, 1) := by decide +kernel
theorem dX3_obey_5 : decode cX3_obey 5 = .ok (.getfield 32, 3) := by decide +kernel
theorem dX3_obey_8 : decode cX3_obey 8 = .ok (.invokevirtual 72, 3) := by decide +kernel
theorem dX3_obey_11 : decode cX3_obey 11 = .ok (.pop, 1) := by decide +kernel
theorem dX3_obey_12 : decode cX3_obey 12 = .ok (.goto 61, 3) := by decide +kernel
theorem dX3_obey_15 : decode cX3_obey 15 = .ok (.iload_n 1, 1) := by decide +kernel
theorem dX3_obey_16 : decode cX3_obey 16 = .ok (.iconst 2, 1) := by decide +kernel
theorem dX3_obey_17 : decode cX3_obey 17 = .ok (.if_icmp .ne 13, 3) := by decide +kernel
theorem dX3_obey_20 : decode cX3_obey 20 = .ok (.aload_n 0, 1) := by decide +kernel
theorem dX3_obey_21 : decode cX3_obey 21 = .ok (.getfield 32, 3) := by decide +kernel
theorem dX3_obey_24 : decode cX3_obey 24 = .ok (.invokevirtual 198, 3) := by decide +kernel
theorem dX3_obey_27 : decode cX3_obey 27 = .ok (.goto 46, 3) := by decide +kernel
theorem dX3_obey_30 : decode cX3_obey 30 = .ok (.aload_n 0, 1) := by decide +kernel
theorem dX3_obey_31 : decode cX3_obey 31 = .ok (.getfield 76, 3) := by decide +kernel
theorem dX3_obey_34 : decode cX3_obey 34 = .ok (.ifCond .ne 19, 3) := by decide +kernel
theorem dX3_obey_37 : decode cX3_obey 37 = .ok (.iload_n 1, 1) := by decide +kernel
theorem dX3_obey_38 : decode cX3_obey 38 = .ok (.iconst 1, 1) := by decide +kernel
theorem dX3_obey_39 : decode cX3_obey 39 = .ok (.if_icmp .ne 14, 3) := by decide +kernel
theorem dX3_obey_42 : decode cX3_obey 42 = .ok (.aload_n 0, 1) := by decide +kernel
theorem dX3_obey_43 : decode cX3_obey 43 = .ok (.getfield 32, 3) := by decide +kernel
theorem dX3_obey_46 : decode cX3_obey 46 = .ok (.invokevirtual 86, 3) := by decide +kernel
theorem dX3_obey_49 : decode cX3_obey 49 = .ok (.pop, 1) := by decide +kernel
theorem dX3_obey_50 : decode cX3_obey 50 = .ok (.goto 23, 3) := by decide +kernel
theorem dX3_obey_53 : decode cX3_obey 53 = .ok (.aload_n 0, 1) := by decide +kernel
theorem dX3_obey_54 : decode cX3_obey 54 = .ok (.getfield 76, 3) := by decide +kernel
theorem dX3_obey_57 : decode cX3_obey 57 = .ok (.ifCond .ne 16, 3) := by decide +kernel
theorem dX3_obey_60 : decode cX3_obey 60 = .ok (.iload_n 1, 1) := by decide +kernel
theorem dX3_obey_61 : decode cX3_obey 61 = .ok (.iconst 3, 1) := by decide +kernel
theorem dX3_obey_62 : decode cX3_obey 62 = .ok (.if_icmp .ne 11, 3) := by decide +kernel
theorem dX3_obey_65 : decode cX3_obey 65 = .ok (.aload_n 0, 1) := by decide +kernel
theorem dX3_obey_66 : decode cX3_obey 66 = .ok (.getfield 32, 3) := by decide +kernel
theorem dX3_obey_69 : decode cX3_obey 69 = .ok (.invokevirtual 80, 3) := by decide +kernel
theorem dX3_obey_72 : decode cX3_obey 72 = .ok (.pop, 1) := by decide +kernel
theorem dX3_obey_73 : decode cX3_obey 73 = .ok (.return_, 1) := by decide +kernel
theorem dX3_isWithin_0 : decode cX3_isWithin 0 = .ok (.lload_n 0, 1) := by decide +kernel
theorem dX3_isWithin_1 : decode cX3_isWithin 1 = .ok (.lload_n 2, 1) := by decide +kernel
theorem dX3_isWithin_2 : decode cX3_isWithin 2 = .ok (.lneg, 1) := by decide +kernel
theorem dX3_isWithin_3 : decode cX3_isWithin 3 = .ok (.lcmp, 1) := by decide +kernel
theorem dX3_isWithin_4 : decode cX3_isWithin 4 = .ok (.ifCond .lt 13, 3) := by decide +kernel
theorem dX3_isWithin_7 : decode cX3_isWithin 7 = .ok (.lload_n 0, 1) := by decide +kernel
theorem dX3_isWithin_8 : decode cX3_isWithin 8 = .ok (.lload_n 2, 1) := by decide +kernel
theorem dX3_isWithin_9 : decode cX3_isWithin 9 = .ok (.lcmp, 1) := by decide +kernel
theorem dX3_isWithin_10 : decode cX3_isWithin 10 = .ok (.ifCond .gt 7, 3) := by decide +kernel
theorem dX3_isWithin_13 : decode cX3_isWithin 13 = .ok (.iconst 1, 1) := by decide +kernel
theorem dX3_isWithin_14 : decode cX3_isWithin 14 = .ok (.goto 4, 3) := by decide +kernel
theorem dX3_isWithin_17 : decode cX3_isWithin 17 = .ok (.iconst 0, 1) := by decide +kernel
theorem dX3_isWithin_18 : decode cX3_isWithin 18 = .ok (.ireturn, 1) := by decide +kernel
theorem dX4_init_0 : decode cX4_init 0 = .ok (.aload_n 0, 1) := by decide +kernel
theorem dX4_init_1 : decode cX4_init 1 = .ok (.invokespecial 1, 3) := by decide +kernel
theorem dX4_init_4 : decode cX4_init 4 = .ok (.aload_n 0, 1) := by decide +kernel
theorem dX4_init_5 : decode cX4_init 5 = .ok (.bipush 9, 2) := by decide +kernel
theorem dX4_init_7 : decode cX4_init 7 = .ok (.newarray .long, 2) := by decide +kernel
theorem dX4_init_9 : decode cX4_init 9 = .ok (.putfield 7, 3) := by decide +kernel
theorem dX4_init_12 : decode cX4_init 12 = .ok (.aload_n 0, 1) := by decide +kernel
theorem dX4_init_13 : decode cX4_init 13 = .ok (.bipush 9, 2) := by decide +kernel
theorem dX4_init_15 : decode cX4_init 15 = .ok (.newarray .int, 2) := by decide +kernel
theorem dX4_init_17 : decode cX4_init 17 = .ok (.putfield 13, 3) := by decide +kernel
theorem dX4_init_20 : decode cX4_init 20 = .ok (.aload_n 0, 1) := by decide +kernel
theorem dX4_init_21 : decode cX4_init 21 = .ok (.bipush 9, 2) := by decide +kernel
theorem dX4_init_23 : decode cX4_init 23 = .ok (.newarray .int, 2) := by decide +kernel
theorem dX4_init_25 : decode cX4_init 25 = .ok (.putfield 17, 3) := by decide +kernel
theorem dX4_init_28 : decode cX4_init 28 = .ok (.aload_n 0, 1) := by decide +kernel
theorem dX4_init_29 : decode cX4_init 29 = .ok (.bipush 9, 2) := by decide +kernel
theorem dX4_init_31 : decode cX4_init 31 = .ok (.newarray .boolean, 2) := by decide +kernel
theorem dX4_init_33 : decode cX4_init 33 = .ok (.putfield 20, 3) := by decide +kernel
theorem dX4_init_36 : decode cX4_init 36 = .ok (.aload_n 0, 1) := by decide +kernel
theorem dX4_init_37 : decode cX4_init 37 = .ok (.bipush 9, 2) := by decide +kernel
theorem dX4_init_39 : decode cX4_init 39 = .ok (.newarray .boolean, 2) := by decide +kernel
theorem dX4_init_41 : decode cX4_init 41 = .ok (.putfield 24, 3) := by decide +kernel
theorem dX4_init_44 : decode cX4_init 44 = .ok (.aload_n 0, 1) := by decide +kernel
theorem dX4_init_45 : decode cX4_init 45 = .ok (.bipush 9, 2) := by decide +kernel
theorem dX4_init_47 : decode cX4_init 47 = .ok (.newarray .boolean, 2) := by decide +kernel
theorem dX4_init_49 : decode cX4_init 49 = .ok (.putfield 27, 3) := by decide +kernel
theorem dX4_init_52 : decode cX4_init 52 = .ok (.aload_n 0, 1) := by decide +kernel
theorem dX4_init_53 : decode cX4_init 53 = .ok (.bipush 9, 2) := by decide +kernel
theorem dX4_init_55 : decode cX4_init 55 = .ok (.newarray .int, 2) := by decide +kernel
theorem dX4_init_57 : decode cX4_init 57 = .ok (.putfield 30, 3) := by decide +kernel
theorem dX4_init_60 : decode cX4_init 60 = .ok (.aload_n 0, 1) := by decide +kernel
theorem dX4_init_61 : decode cX4_init 61 = .ok (.iconst 5, 1) := by decide +kernel
theorem dX4_init_62 : decode cX4_init 62 = .ok (.newarray .int, 2) := by decide +kernel
theorem dX4_init_64 : decode cX4_init 64 = .ok (.putfield 33, 3) := by decide +kernel
theorem dX4_init_67 : decode cX4_init 67 = .ok (.aload_n 0, 1) := by decide +kernel
theorem dX4_init_68 : decode cX4_init 68 = .ok (.bipush 16, 2) := by decide +kernel
theorem dX4_init_70 : decode cX4_init 70 = .ok (.newarray .int, 2) := by decide +kernel
theorem dX4_init_72 : decode cX4_init 72 = .ok (.putfield 36, 3) := by decide +kernel
theorem dX4_init_75 : decode cX4_init 75 = .ok (.aload_n 0, 1) := by decide +kernel
theorem dX4_init_76 : decode cX4_init 76 = .ok (.bipush 16, 2) := by decide +kernel
theorem dX4_init_78 : decode cX4_init 78 = .ok (.newarray .int, 2) := by decide +kernel
theorem dX4_init_80 : decode cX4_init 80 = .ok (.putfield 39, 3) := by decide +kernel
theorem dX4_init_83 : decode cX4_init 83 = .ok (.aload_n 0, 1) := by decide +kernel
theorem dX4_init_84 : decode cX4_init 84 = .ok (.iload_n 1, 1) := by decide +kernel
theorem dX4_init_85 : decode cX4_init 85 = .ok (.iconst 1, 1) := by decide +kernel
theorem dX4_init_86 : decode cX4_init 86 = .ok (.if_icmp .lt 14, 3) := by decide +kernel
theorem dX4_init_89 : decode cX4_init 89 = .ok (.iload_n 1, 1) := by decide +kernel
theorem dX4_init_90 : decode cX4_init 90 = .ok (.sipush 32767, 3) := by decide +kernel
theorem dX4_init_93 : decode cX4_init 93 = .ok (.if_icmp .gt 7, 3) := by decide +kernel
theorem dX4_init_96 : decode cX4_init 96 = .ok (.iload_n 1, 1) := by decide +kernel
theorem dX4_init_97 : decode cX4_init 97 = .ok (.goto 5, 3) := by decide +kernel
theorem dX4_init_100 : decode cX4_init 100 = .ok (.bipush 16, 2) := by decide +kernel
theorem dX4_init_102 : decode cX4_init 102 = .ok (.putfield 42, 3) := by decide +kernel
theorem dX4_init_105 : decode cX4_init 105 = .ok (.iconst 0, 1) := by decide +kernel
theorem dX4_init_106 : decode cX4_init 106 = .ok (.istore_n 2, 1) := by decide +kernel
theorem dX4_init_107 : decode cX4_init 107 = .ok (.iload_n 2, 1) := by decide +kernel
theorem dX4_init_108 : decode cX4_init 108 = .ok (.iconst 5, 1) := by decide +kernel
theorem dX4_init_109 : decode cX4_init 109 = .ok (.if_icmp .ge 16, 3) := by decide +kernel
theorem dX4_init_112 : decode cX4_init 112 = .ok (.aload_n 0, 1) := by decide +kernel
theorem dX4_init_113 : decode cX4_init 113 = .ok (.getfield 33, 3) := by decide +kernel
theorem dX4_init_116 : decode cX4_init 116 = .ok (.iload_n 2, 1) := by decide +kernel
theorem dX4_init_117 : decode cX4_init 117 = .ok (.iconst 1, 1) := by decide +kernel
theorem dX4_init_118 : decode cX4_init 118 = .ok (.iastore, 1) := by decide +kernel
theorem dX4_init_119 : decode cX4_init 119 = .ok (.iinc 2 1, 3) := by decide +kernel
theorem dX4_init_122 : decode cX4_init 122 = .ok (.goto (-15), 3) := by decide +kernel
theorem dX4_init_125 : decode cX4_init 125 = .ok (.return_, 1) := by decide +kernel
theorem dX4_thrown_0 : decode cX4_thrown 0 = .ok (.aload_n 0, 1) := by decide +kernel
theorem dX4_thrown_1 : decode cX4_thrown 1 = .ok (.getfield 46, 3) := by decide +kernel
theorem dX4_thrown_4 : decode cX4_thrown 4 = .ok (.ireturn, 1) := by decide +kernel
theorem dX4_none_0 : decode cX4_none 0 = .ok (.aload_n 0, 1) := by decide +kernel
theorem dX4_none_1 : decode cX4_none 1 = .ok (.iconst 0, 1) := by decide +kernel
theorem dX4_none_2 : decode cX4_none 2 = .ok (.putfield 46, 3) := by decide +kernel
theorem dX4_none_5 : decode cX4_none 5 = .ok (.iload_n 1, 1) := by decide +kernel
theorem dX4_none_6 : decode cX4_none 6 = .ok (.iconst 1, 1) := by decide +kernel
theorem dX4_none_7 : decode cX4_none 7 = .ok (.if_icmp .lt 11, 3) := by decide +kernel
theorem dX4_none_10 : decode cX4_none 10 = .ok (.iload_n 1, 1) := by decide +kernel
theorem dX4_none_11 : decode cX4_none 11 = .ok (.aload_n 0, 1) := by decide +kernel
theorem dX4_none_12 : decode cX4_none 12 = .ok (.getfield 49, 3) := by decide +kernel
theorem dX4_none_15 : decode cX4_none 15 = .ok (.if_icmp .le 7, 3) := by decide +kernel
theorem dX4_none_18 : decode cX4_none 18 = .ok (.iconst 1, 1) := by decide +kernel
theorem dX4_none_19 : decode cX4_none 19 = .ok (.goto 4, 3) := by decide +kernel
theorem dX4_none_22 : decode cX4_none 22 = .ok (.iconst 0, 1) := by decide +kernel
theorem dX4_none_23 : decode cX4_none 23 = .ok (.ireturn, 1) := by decide +kernel
theorem dX4_rounds_0 : decode cX4_rounds 0 = .ok (.iload_n 2, 1) := by decide +kernel
theorem dX4_rounds_1 : decode cX4_rounds 1 = .ok (.istore 5, 2) := by decide +kernel
theorem dX4_rounds_3 : decode cX4_rounds 3 = .ok (.iload_n 3, 1) := by decide +kernel
theorem dX4_rounds_4 : decode cX4_rounds 4 = .ok (.istore 6, 2) := by decide +kernel
theorem dX4_rounds_6 : decode cX4_rounds 6 = .ok (.iconst 0, 1) := by decide +kernel
theorem dX4_rounds_7 : decode cX4_rounds 7 = .ok (.istore 7, 2) := by decide +kernel
theorem dX4_rounds_9 : decode cX4_rounds 9 = .ok (.iload 7, 2) := by decide +kernel
theorem dX4_rounds_11 : decode cX4_rounds 11 = .ok (.bipush 16, 2) := by decide +kernel
theorem dX4_rounds_13 : decode cX4_rounds 13 = .ok (.if_icmp .ge 89, 3) := by decide +kernel
theorem dX4_rounds_16 : decode cX4_rounds 16 = .ok (.iload 4, 2) := by decide +kernel
theorem dX4_rounds_18 : decode cX4_rounds 18 = .ok (.ifCond .eq 11, 3) := by decide +kernel
theorem dX4_rounds_21 : decode cX4_rounds 21 = .ok (.bipush 15, 2) := by decide +kernel
theorem dX4_rounds_23 : decode cX4_rounds 23 = .ok (.iload 7, 2) := by decide +kernel
theorem dX4_rounds_25 : decode cX4_rounds 25 = .ok (.isub, 1) := by decide +kernel
theorem dX4_rounds_26 : decode cX4_rounds 26 = .ok (.goto 5, 3) := by decide +kernel
theorem dX4_rounds_29 : decode cX4_rounds 29 = .ok (.iload 7, 2) := by decide +kernel
theorem dX4_rounds_31 : decode cX4_rounds 31 = .ok (.istore 8, 2) := by decide +kernel
theorem dX4_rounds_33 : decode cX4_rounds 33 = .ok (.lload_n 0, 1) := by decide +kernel
theorem dX4_rounds_34 : decode cX4_rounds 34 = .ok (.bipush 16, 2) := by decide +kernel
theorem dX4_rounds_36 : decode cX4_rounds 36 = .ok (.iload 8, 2) := by decide +kernel
theorem dX4_rounds_38 : decode cX4_rounds 38 = .ok (.iconst 4, 1) := by decide +kernel
theorem dX4_rounds_39 : decode cX4_rounds 39 = .ok (.irem, 1) := by decide +kernel
theorem dX4_rounds_40 : decode cX4_rounds 40 = .ok (.imul, 1) := by decide +kernel
theorem dX4_rounds_41 : decode cX4_rounds 41 = .ok (.lshr, 1) := by decide +kernel
theorem dX4_rounds_42 : decode cX4_rounds 42 = .ok (.ldc2_w 52, 3) := by decide +kernel
theorem dX4_rounds_45 : decode cX4_rounds 45 = .ok (.land, 1) := by decide +kernel
theorem dX4_rounds_46 : decode cX4_rounds 46 = .ok (.l2i, 1) := by decide +kernel
theorem dX4_rounds_47 : decode cX4_rounds 47 = .ok (.istore 9, 2) := by decide +kernel
theorem dX4_rounds_49 : decode cX4_rounds 49 = .ok (.iload 6, 2) := by decide +kernel
theorem dX4_rounds_51 : decode cX4_rounds 51 = .ok (.ldc 54, 2) := by decide +kernel
theorem dX4_rounds_53 : decode cX4_rounds 53 = .ok (.imul, 1) := by decide +kernel
theorem dX4_rounds_54 : decode cX4_rounds 54 = .ok (.iload 9, 2) := by decide +kernel
theorem dX4_rounds_56 : decode cX4_rounds 56 = .ok (.iconst 2, 1) := by decide +kernel
theorem dX4_rounds_57 : decode cX4_rounds 57 = .ok (.iload 8, 2) := by decide +kernel
theorem dX4_rounds_59 : decode cX4_rounds 59 = .ok (.imul, 1) := by decide +kernel
theorem dX4_rounds_60 : decode cX4_rounds 60 = .ok (.iconst 1, 1) := by decide +kernel
theorem dX4_rounds_61 : decode cX4_rounds 61 = .ok (.iadd, 1) := by decide +kernel
theorem dX4_rounds_62 : decode cX4_rounds 62 = .ok (.imul, 1) := by decide +kernel
theorem dX4_rounds_63 : decode cX4_rounds 63 = .ok (.iadd, 1) := by decide +kernel
theorem dX4_rounds_64 : decode cX4_rounds 64 = .ok (.iload 6, 2) := by decide +kernel
theorem dX4_rounds_66 : decode cX4_rounds 66 = .ok (.bipush 32, 2) := by decide +kernel
theorem dX4_rounds_68 : decode cX4_rounds 68 = .ok (.idiv, 1) := by decide +kernel
theorem dX4_rounds_69 : decode cX4_rounds 69 = .ok (.ixor, 1) := by decide +kernel
theorem dX4_rounds_70 : decode cX4_rounds 70 = .ok (.iload 9, 2) := by decide +kernel
theorem dX4_rounds_72 : decode cX4_rounds 72 = .ok (.bipush 8, 2) := by decide +kernel
theorem dX4_rounds_74 : decode cX4_rounds 74 = .ok (.imul, 1) := by decide +kernel
theorem dX4_rounds_75 : decode cX4_rounds 75 = .ok (.ixor, 1) := by decide +kernel
theorem dX4_rounds_76 : decode cX4_rounds 76 = .ok (.ldc 55, 2) := by decide +kernel
theorem dX4_rounds_78 : decode cX4_rounds 78 = .ok (.iand, 1) := by decide +kernel
theorem dX4_rounds_79 : decode cX4_rounds 79 = .ok (.istore 10, 2) := by decide +kernel
theorem dX4_rounds_81 : decode cX4_rounds 81 = .ok (.iload 5, 2) := by decide +kernel
theorem dX4_rounds_83 : decode cX4_rounds 83 = .ok (.iload 10, 2) := by decide +kernel
theorem dX4_rounds_85 : decode cX4_rounds 85 = .ok (.ixor, 1) := by decide +kernel
theorem dX4_rounds_86 : decode cX4_rounds 86 = .ok (.istore 11, 2) := by decide +kernel
theorem dX4_rounds_88 : decode cX4_rounds 88 = .ok (.iload 6, 2) := by decide +kernel
theorem dX4_rounds_90 : decode cX4_rounds 90 = .ok (.istore 5, 2) := by decide +kernel
theorem dX4_rounds_92 : decode cX4_rounds 92 = .ok (.iload 11, 2) := by decide +kernel
theorem dX4_rounds_94 : decode cX4_rounds 94 = .ok (.istore 6, 2) := by decide +kernel
theorem dX4_rounds_96 : decode cX4_rounds 96 = .ok (.iinc 7 1, 3) := by decide +kernel
theorem dX4_rounds_99 : decode cX4_rounds 99 = .ok (.goto (-90), 3) := by decide +kernel
theorem dX4_rounds_102 : decode cX4_rounds 102 = .ok (.iload 5, 2) := by decide +kernel
theorem dX4_rounds_104 : decode cX4_rounds 104 = .ok (.bipush 16, 2) := by decide +kernel
theorem dX4_rounds_106 : decode cX4_rounds 106 = .ok (.ishl, 1) := by decide +kernel
theorem dX4_rounds_107 : decode cX4_rounds 107 = .ok (.iload 6, 2) := by decide +kernel
theorem dX4_rounds_109 : decode cX4_rounds 109 = .ok (.ior, 1) := by decide +kernel
theorem dX4_rounds_110 : decode cX4_rounds 110 = .ok (.ireturn, 1) := by decide +kernel
theorem dX4_sign_0 : decode cX4_sign 0 = .ok (.lload_n 0, 1) := by decide +kernel
theorem dX4_sign_1 : decode cX4_sign 1 = .ok (.lload_n 0, 1) := by decide +kernel
theorem dX4_sign_2 : decode cX4_sign 2 = .ok (.bipush 16, 2) := by decide +kernel
theorem dX4_sign_4 : decode cX4_sign 4 = .ok (.lshr, 1) := by decide +kernel
theorem dX4_sign_5 : decode cX4_sign 5 = .ok (.lxor, 1) := by decide +kernel
theorem dX4_sign_6 : decode cX4_sign 6 = .ok (.lload_n 0, 1) := by decide +kernel
theorem dX4_sign_7 : decode cX4_sign 7 = .ok (.bipush 32, 2) := by decide +kernel
theorem dX4_sign_9 : decode cX4_sign 9 = .ok (.lshr, 1) := by decide +kernel
theorem dX4_sign_10 : decode cX4_sign 10 = .ok (.lxor, 1) := by decide +kernel
theorem dX4_sign_11 : decode cX4_sign 11 = .ok (.lload_n 0, 1) := by decide +kernel
theorem dX4_sign_12 : decode cX4_sign 12 = .ok (.bipush 48, 2) := by decide +kernel
theorem dX4_sign_14 : decode cX4_sign 14 = .ok (.lshr, 1) := by decide +kernel
theorem dX4_sign_15 : decode cX4_sign 15 = .ok (.lxor, 1) := by decide +kernel
theorem dX4_sign_16 : decode cX4_sign 16 = .ok (.ldc2_w 52, 3) := by decide +kernel
theorem dX4_sign_19 : decode cX4_sign 19 = .ok (.land, 1) := by decide +kernel
theorem dX4_sign_20 : decode cX4_sign 20 = .ok (.l2i, 1) := by decide +kernel
theorem dX4_sign_21 : decode cX4_sign 21 = .ok (.ireturn, 1) := by decide +kernel
set_option maxRecDepth 20000 in
theorem ggX4_back_X4_rounds : GoodIn wsX4_back wsX4_rounds := goodIn_r _ [5, 6, 7, 1] (by decide +kernel) (by decide +kernel)
set_option maxRecDepth 20000 in
theorem gX4_back_X4_rounds : GoodIn wsX4_back (va_wsS RX4 56 yX4_rounds wsX4_rounds) := goodIn_app (goodIn_of _ (by decide +kernel)) ggX4_back_X4_rounds
theorem dX4_back_0 : decode cX4_back 0 = .ok (.lload_n 0, 1) := by decide +kernel
theorem dX4_back_1 : decode cX4_back 1 = .ok (.iload_n 2, 1) := by decide +kernel
theorem dX4_back_2 : decode cX4_back 2 = .ok (.ldc 55, 2) := by decide +kernel
theorem dX4_back_4 : decode cX4_back 4 = .ok (.iand, 1) := by decide +kernel
theorem dX4_back_5 : decode cX4_back 5 = .ok (.iload_n 2, 1) := by decide +kernel
theorem dX4_back_6 : decode cX4_back 6 = .ok (.bipush 16, 2) := by decide +kernel
theorem dX4_back_8 : decode cX4_back 8 = .ok (.ishr, 1) := by decide +kernel
theorem dX4_back_9 : decode cX4_back 9 = .ok (.ldc 55, 2) := by decide +kernel
theorem dX4_back_11 : decode cX4_back 11 = .ok (.iand, 1) := by decide +kernel
theorem dX4_back_12 : decode cX4_back 12 = .ok (.iconst 1, 1) := by decide +kernel
theorem dX4_back_13 : decode cX4_back 13 = .ok (.invokestatic 56, 3) := by decide +kernel
theorem dX4_back_16 : decode cX4_back 16 = .ok (.istore_n 3, 1) := by decide +kernel
theorem dX4_back_17 : decode cX4_back 17 = .ok (.iload_n 3, 1) := by decide +kernel
theorem dX4_back_18 : decode cX4_back 18 = .ok (.bipush 16, 2) := by decide +kernel
theorem dX4_back_20 : decode cX4_back 20 = .ok (.ishl, 1) := by decide +kernel
theorem dX4_back_21 : decode cX4_back 21 = .ok (.iload_n 3, 1) := by decide +kernel
theorem dX4_back_22 : decode cX4_back 22 = .ok (.bipush 16, 2) := by decide +kernel
theorem dX4_back_24 : decode cX4_back 24 = .ok (.ishr, 1) := by decide +kernel
theorem dX4_back_25 : decode cX4_back 25 = .ok (.ldc 55, 2) := by decide +kernel
theorem dX4_back_27 : decode cX4_back 27 = .ok (.iand, 1) := by decide +kernel
theorem dX4_back_28 : decode cX4_back 28 = .ok (.ior, 1) := by decide +kernel
theorem dX4_back_29 : decode cX4_back 29 = .ok (.ireturn, 1) := by decide +kernel
theorem dX4_key_0 : decode cX4_key 0 = .ok (.aload_n 0, 1) := by decide +kernel
theorem dX4_key_1 : decode cX4_key 1 = .ok (.iconst 0, 1) := by decide +kernel
theorem dX4_key_2 : decode cX4_key 2 = .ok (.putfield 46, 3) := by decide +kernel
theorem dX4_key_5 : decode cX4_key 5 = .ok (.lload_n 3, 1) := by decide +kernel
theorem dX4_key_6 : decode cX4_key 6 = .ok (.lconst 0, 1) := by decide +kernel
theorem dX4_key_7 : decode cX4_key 7 = .ok (.lcmp, 1) := by decide +kernel
theorem dX4_key_8 : decode cX4_key 8 = .ok (.ifCond .lt 11, 3) := by decide +kernel
theorem dX4_key_11 : decode cX4_key 11 = .ok (.lload_n 3, 1) := by decide +kernel
theorem dX4_key_12 : decode cX4_key 12 = .ok (.ldc2_w 52, 3) := by decide +kernel
theorem dX4_key_15 : decode cX4_key 15 = .ok (.lcmp, 1) := by decide +kernel
theorem dX4_key_16 : decode cX4_key 16 = .ok (.ifCond .le 6, 3) := by decide +kernel
theorem dX4_key_19 : decode cX4_key 19 = .ok (.bipush (-2), 2) := by decide +kernel
theorem dX4_key_21 : decode cX4_key 21 = .ok (.ireturn, 1) := by decide +kernel
theorem dX4_key_22 : decode cX4_key 22 = .ok (.iconst 1, 1) := by decide +kernel
theorem dX4_key_23 : decode cX4_key 23 = .ok (.istore 5, 2) := by decide +kernel
theorem dX4_key_25 : decode cX4_key 25 = .ok (.iload 5, 2) := by decide +kernel
theorem dX4_key_27 : decode cX4_key 27 = .ok (.aload_n 0, 1) := by decide +kernel
theorem dX4_key_28 : decode cX4_key 28 = .ok (.getfield 49, 3) := by decide +kernel
theorem dX4_key_31 : decode cX4_key 31 = .ok (.if_icmp .gt 24, 3) := by decide +kernel
theorem dX4_key_34 : decode cX4_key 34 = .ok (.aload_n 0, 1) := by decide +kernel
theorem dX4_key_35 : decode cX4_key 35 = .ok (.getfield 7, 3) := by decide +kernel
theorem dX4_key_38 : decode cX4_key 38 = .ok (.iload 5, 2) := by decide +kernel
theorem dX4_key_40 : decode cX4_key 40 = .ok (.laload, 1) := by decide +kernel
theorem dX4_key_41 : decode cX4_key 41 = .ok (.lload_n 1, 1) := by decide +kernel
theorem dX4_key_42 : decode cX4_key 42 = .ok (.lcmp, 1) := by decide +kernel
theorem dX4_key_43 : decode cX4_key 43 = .ok (.ifCond .ne 6, 3) := by decide +kernel
theorem dX4_key_46 : decode cX4_key 46 = .ok (.bipush (-3), 2) := by decide +kernel
theorem dX4_key_48 : decode cX4_key 48 = .ok (.ireturn, 1) := by decide +kernel
theorem dX4_key_49 : decode cX4_key 49 = .ok (.iinc 5 1, 3) := by decide +kernel
theorem dX4_key_52 : decode cX4_key 52 = .ok (.goto (-27), 3) := by decide +kernel
theorem dX4_key_55 : decode cX4_key 55 = .ok (.aload_n 0, 1) := by decide +kernel
theorem dX4_key_56 : decode cX4_key 56 = .ok (.getfield 49, 3) := by decide +kernel
theorem dX4_key_59 : decode cX4_key 59 = .ok (.bipush 8, 2) := by decide +kernel
theorem dX4_key_61 : decode cX4_key 61 = .ok (.if_icmp .ne 6, 3) := by decide +kernel
theorem dX4_key_64 : decode cX4_key 64 = .ok (.bipush (-4), 2) := by decide +kernel
theorem dX4_key_66 : decode cX4_key 66 = .ok (.ireturn, 1) := by decide +kernel
theorem dX4_key_67 : decode cX4_key 67 = .ok (.aload_n 0, 1) := by decide +kernel
theorem dX4_key_68 : decode cX4_key 68 = .ok (.dup, 1) := by decide +kernel
theorem dX4_key_69 : decode cX4_key 69 = .ok (.getfield 49, 3) := by decide +kernel
theorem dX4_key_72 : decode cX4_key 72 = .ok (.iconst 1, 1) := by decide +kernel
theorem dX4_key_73 : decode cX4_key 73 = .ok (.iadd, 1) := by decide +kernel
theorem dX4_key_74 : decode cX4_key 74 = .ok (.putfield 49, 3) := by decide +kernel
theorem dX4_key_77 : decode cX4_key 77 = .ok (.aload_n 0, 1) := by decide +kernel
theorem dX4_key_78 : decode cX4_key 78 = .ok (.getfield 7, 3) := by decide +kernel
theorem dX4_key_81 : decode cX4_key 81 = .ok (.aload_n 0, 1) := by decide +kernel
theorem dX4_key_82 : decode cX4_key 82 = .ok (.getfield 49, 3) := by decide +kernel
theorem dX4_key_85 : decode cX4_key 85 = .ok (.lload_n 1, 1) := by decide +kernel
theorem dX4_key_86 : decode cX4_key 86 = .ok (.lastore, 1) := by decide +kernel
theorem dX4_key_87 : decode cX4_key 87 = .ok (.aload_n 0, 1) := by decide +kernel
theorem dX4_key_88 : decode cX4_key 88 = .ok (.getfield 13, 3) := by decide +kernel
theorem dX4_key_91 : decode cX4_key 91 = .ok (.aload_n 0, 1) := by decide +kernel
theorem dX4_key_92 : decode cX4_key 92 = .ok (.getfield 49, 3) := by decide +kernel
theorem dX4_key_95 : decode cX4_key 95 = .ok (.lload_n 3, 1) := by decide +kernel
theorem dX4_key_96 : decode cX4_key 96 = .ok (.l2i, 1) := by decide +kernel
theorem dX4_key_97 : decode cX4_key 97 = .ok (.iastore, 1) := by decide +kernel
theorem dX4_key_98 : decode cX4_key 98 = .ok (.aload_n 0, 1) := by decide +kernel
theorem dX4_key_99 : decode cX4_key 99 = .ok (.getfield 17, 3) := by decide +kernel
theorem dX4_key_102 : decode cX4_key 102 = .ok (.aload_n 0, 1) := by decide +kernel
theorem dX4_key_103 : decode cX4_key 103 = .ok (.getfield 49, 3) := by decide +kernel
theorem dX4_key_106 : decode cX4_key 106 = .ok (.iconst (-1), 1) := by decide +kernel
theorem dX4_key_107 : decode cX4_key 107 = .ok (.iastore, 1) := by decide +kernel
theorem dX4_key_108 : decode cX4_key 108 = .ok (.aload_n 0, 1) := by decide +kernel
theorem dX4_key_109 : decode cX4_key 109 = .ok (.getfield 20, 3) := by decide +kernel
theorem dX4_key_112 : decode cX4_key 112 = .ok (.aload_n 0, 1) := by decide +kernel
theorem dX4_key_113 : decode cX4_key 113 = .ok (.getfield 49, 3) := by decide +kernel
theorem dX4_key_116 : decode cX4_key 116 = .ok (.aload_n 0, 1) := by decide +kernel
theorem dX4_key_117 : decode cX4_key 117 = .ok (.getfield 49, 3) := by decide +kernel
theorem dX4_key_120 : decode cX4_key 120 = .ok (.iconst 3, 1) := by decide +kernel
theorem dX4_key_121 : decode cX4_key 121 = .ok (.if_icmp .ge 7, 3) := by decide +kernel
theorem dX4_key_124 : decode cX4_key 124 = .ok (.iconst 1, 1) := by decide +kernel
theorem dX4_key_125 : decode cX4_key 125 = .ok (.goto 4, 3) := by decide +kernel
theorem dX4_key_128 : decode cX4_key 128 = .ok (.iconst 0, 1) := by decide +kernel
theorem dX4_key_129 : decode cX4_key 129 = .ok (.bastore, 1) := by decide +kernel
theorem dX4_key_130 : decode cX4_key 130 = .ok (.aload_n 0, 1) := by decide +kernel
theorem dX4_key_131 : decode cX4_key 131 = .ok (.getfield 49, 3) := by decide +kernel
theorem dX4_key_134 : decode cX4_key 134 = .ok (.ireturn, 1) := by decide +kernel
theorem dX4_some_0 : decode cX4_some 0 = .ok (.iconst 0, 1) := by decide +kernel
theorem dX4_some_1 : decode cX4_some 1 = .ok (.istore_n 2, 1) := by decide +kernel
theorem dX4_some_2 : decode cX4_some 2 = .ok (.iconst 0, 1) := by decide +kernel
theorem dX4_some_3 : decode cX4_some 3 = .ok (.istore_n 3, 1) := by decide +kernel
theorem dX4_some_4 : decode cX4_some 4 = .ok (.iload_n 3, 1) := by decide +kernel
theorem dX4_some_5 : decode cX4_some 5 = .ok (.iconst 5, 1) := by decide +kernel
theorem dX4_some_6 : decode cX4_some 6 = .ok (.if_icmp .ge 29, 3) := by decide +kernel
theorem dX4_some_9 : decode cX4_some 9 = .ok (.iload_n 2, 1) := by decide +kernel
theorem dX4_some_10 : decode cX4_some 10 = .ok (.ifCond .ne 13, 3) := by decide +kernel
theorem dX4_some_13 : decode cX4_some 13 = .ok (.aload_n 0, 1) := by decide +kernel
theorem dX4_some_14 : decode cX4_some 14 = .ok (.getfield 33, 3) := by decide +kernel
theorem dX4_some_17 : decode cX4_some 17 = .ok (.iload_n 3, 1) := by decide +kernel
theorem dX4_some_18 : decode cX4_some 18 = .ok (.iaload, 1) := by decide +kernel
theorem dX4_some_19 : decode cX4_some 19 = .ok (.iload_n 1, 1) := by decide +kernel
theorem dX4_some_20 : decode cX4_some 20 = .ok (.if_icmp .ne 7, 3) := by decide +kernel
theorem dX4_some_23 : decode cX4_some 23 = .ok (.iconst 1, 1) := by decide +kernel
theorem dX4_some_24 : decode cX4_some 24 = .ok (.goto 4, 3) := by decide +kernel
theorem dX4_some_27 : decode cX4_some 27 = .ok (.iconst 0, 1) := by decide +kernel
theorem dX4_some_28 : decode cX4_some 28 = .ok (.istore_n 2, 1) := by decide +kernel
theorem dX4_some_29 : decode cX4_some 29 = .ok (.iinc 3 1, 3) := by decide +kernel
theorem dX4_some_32 : decode cX4_some 32 = .ok (.goto (-28), 3) := by decide +kernel
theorem dX4_some_35 : decode cX4_some 35 = .ok (.iload_n 2, 1) := by decide +kernel
theorem dX4_some_36 : decode cX4_some 36 = .ok (.ireturn, 1) := by decide +kernel
set_option maxRecDepth 20000 in
theorem ggX4_turn_X4_some : GoodIn wsX4_turn wsX4_some := goodIn_r _ [8, 1, 9, 10, 11, 12, 13, 14, 15, 16, 17, 18, 19, 20, 21, 22, 23, 24, 25, 26, 27, 28] (by decide +kernel) (by decide +kernel)
set_option maxRecDepth 20000 in
theorem gX4_turn_X4_some : GoodIn wsX4_turn (wsV RX4 60 RX4 yX4_some wsX4_some) := goodIn_app (goodIn_of _ (by decide +kernel)) ggX4_turn_X4_some
theorem dX4_turn_0 : decode cX4_turn 0 = .ok (.aload_n 0, 1) := by decide +kernel
theorem dX4_turn_1 : decode cX4_turn 1 = .ok (.iconst 0, 1) := by decide +kernel
theorem dX4_turn_2 : decode cX4_turn 2 = .ok (.invokevirtual 60, 3) := by decide +kernel
theorem dX4_turn_5 : decode cX4_turn 5 = .ok (.istore 5, 2) := by decide +kernel
theorem dX4_turn_7 : decode cX4_turn 7 = .ok (.iconst 0, 1) := by decide +kernel
theorem dX4_turn_8 : decode cX4_turn 8 = .ok (.istore 6, 2) := by decide +kernel
theorem dX4_turn_10 : decode cX4_turn 10 = .ok (.iload_n 1, 1) := by decide +kernel
theorem dX4_turn_11 : decode cX4_turn 11 = .ok (.istore 7, 2) := by decide +kernel
theorem dX4_turn_13 : decode cX4_turn 13 = .ok (.iload 7, 2) := by decide +kernel
theorem dX4_turn_15 : decode cX4_turn 15 = .ok (.iload_n 2, 1) := by decide +kernel
theorem dX4_turn_16 : decode cX4_turn 16 = .ok (.if_icmp .ge 49, 3) := by decide +kernel
theorem dX4_turn_19 : decode cX4_turn 19 = .ok (.aload_n 0, 1) := by decide +kernel
theorem dX4_turn_20 : decode cX4_turn 20 = .ok (.getfield 33, 3) := by decide +kernel
theorem dX4_turn_23 : decode cX4_turn 23 = .ok (.iload 7, 2) := by decide +kernel
theorem dX4_turn_25 : decode cX4_turn 25 = .ok (.iaload, 1) := by decide +kernel
theorem dX4_turn_26 : decode cX4_turn 26 = .ok (.iload 4, 2) := by decide +kernel
theorem dX4_turn_28 : decode cX4_turn 28 = .ok (.if_icmp .eq 31, 3) := by decide +kernel
theorem dX4_turn_31 : decode cX4_turn 31 = .ok (.iload_n 3, 1) := by decide +kernel
theorem dX4_turn_32 : decode cX4_turn 32 = .ok (.iconst 3, 1) := by decide +kernel
theorem dX4_turn_33 : decode cX4_turn 33 = .ok (.if_icmp .eq 14, 3) := by decide +kernel
theorem dX4_turn_36 : decode cX4_turn 36 = .ok (.aload_n 0, 1) := by decide +kernel
theorem dX4_turn_37 : decode cX4_turn 37 = .ok (.getfield 33, 3) := by decide +kernel
theorem dX4_turn_40 : decode cX4_turn 40 = .ok (.iload 7, 2) := by decide +kernel
theorem dX4_turn_42 : decode cX4_turn 42 = .ok (.iaload, 1) := by decide +kernel
theorem dX4_turn_43 : decode cX4_turn 43 = .ok (.iload_n 3, 1) := by decide +kernel
theorem dX4_turn_44 : decode cX4_turn 44 = .ok (.if_icmp .ne 15, 3) := by decide +kernel
theorem dX4_turn_47 : decode cX4_turn 47 = .ok (.aload_n 0, 1) := by decide +kernel
theorem dX4_turn_48 : decode cX4_turn 48 = .ok (.getfield 33, 3) := by decide +kernel
theorem dX4_turn_51 : decode cX4_turn 51 = .ok (.iload 7, 2) := by decide +kernel
theorem dX4_turn_53 : decode cX4_turn 53 = .ok (.iload 4, 2) := by decide +kernel
theorem dX4_turn_55 : decode cX4_turn 55 = .ok (.iastore, 1) := by decide +kernel
theorem dX4_turn_56 : decode cX4_turn 56 = .ok (.iinc 6 1, 3) := by decide +kernel
theorem dX4_turn_59 : decode cX4_turn 59 = .ok (.iinc 7 1, 3) := by decide +kernel
theorem dX4_turn_62 : decode cX4_turn 62 = .ok (.goto (-49), 3) := by decide +kernel
theorem dX4_turn_65 : decode cX4_turn 65 = .ok (.aload_n 0, 1) := by decide +kernel
theorem dX4_turn_66 : decode cX4_turn 66 = .ok (.iload 5, 2) := by decide +kernel
theorem dX4_turn_68 : decode cX4_turn 68 = .ok (.ifCond .eq 18, 3) := by decide +kernel
theorem dX4_turn_71 : decode cX4_turn 71 = .ok (.aload_n 0, 1) := by decide +kernel
theorem dX4_turn_72 : decode cX4_turn 72 = .ok (.iconst 0, 1) := by decide +kernel
theorem dX4_turn_73 : decode cX4_turn 73 = .ok (.invokevirtual 60, 3) := by decide +kernel
theorem dX4_turn_76 : decode cX4_turn 76 = .ok (.ifCond .ne 10, 3) := by decide +kernel
theorem dX4_turn_79 : decode cX4_turn 79 = .ok (.aload_n 0, 1) := by decide +kernel
theorem dX4_turn_80 : decode cX4_turn 80 = .ok (.getfield 64, 3) := by decide +kernel
theorem dX4_turn_83 : decode cX4_turn 83 = .ok (.goto 7, 3) := by decide +kernel
theorem dX4_turn_86 : decode cX4_turn 86 = .ok (.aload_n 0, 1) := by decide +kernel
theorem dX4_turn_87 : decode cX4_turn 87 = .ok (.getfield 68, 3) := by decide +kernel
theorem dX4_turn_90 : decode cX4_turn 90 = .ok (.putfield 68, 3) := by decide +kernel
theorem dX4_turn_93 : decode cX4_turn 93 = .ok (.iload 6, 2) := by decide +kernel
theorem dX4_turn_95 : decode cX4_turn 95 = .ok (.ireturn, 1) := by decide +kernel
set_option maxRecDepth 20000 in
theorem ggX4_command_X4_turn : GoodIn wsX4_command wsX4_turn := goodIn_r _ [6, 7, 8, 9, 10, 11, 12, 5, 13, 14, 15, 16, 17, 18, 19, 20, 21, 22, 23, 24, 25, 26, 27, 28, 29, 30, 31, 32, 33] (by decide +kernel) (by decide +kernel)
set_option maxRecDepth 20000 in
theorem gX4_command_X4_turn : GoodIn wsX4_command (wsV RX4 71 RX4 yX4_turn wsX4_turn) := goodIn_app (goodIn_of _ (by decide +kernel)) ggX4_command_X4_turn
set_option maxRecDepth 20000 in
theorem ggX4_command_X4_some : GoodIn wsX4_command wsX4_some := goodIn_r _ [13, 7, 14, 15, 16, 17, 18, 19, 20, 21, 22, 23, 24, 25, 26, 27, 28, 29, 30, 31, 32, 33] (by decide +kernel) (by decide +kernel)
set_option maxRecDepth 20000 in
theorem gX4_command_X4_some : GoodIn wsX4_command (wsV RX4 60 RX4 yX4_some wsX4_some) := goodIn_app (goodIn_of _ (by decide +kernel)) ggX4_command_X4_some
theorem dX4_command_0 : decode cX4_command 0 = .ok (.iconst 0, 1) := by decide +kernel
theorem dX4_command_1 : decode cX4_command 1 = .ok (.istore_n 2, 1) := by decide +kernel
theorem dX4_command_2 : decode cX4_command 2 = .ok (.iload_n 1, 1) := by decide +kernel
theorem dX4_command_3 : decode cX4_command 3 = .ok (.ifCond .ne 12, 3) := by decide +kernel
theorem dX4_command_6 : decode cX4_command 6 = .ok (.aload_n 0, 1) := by decide +kernel
theorem dX4_command_7 : decode cX4_command 7 = .ok (.iconst 0, 1) := by decide +kernel
theorem dX4_command_8 : decode cX4_command 8 = .ok (.iconst 5, 1) := by decide +kernel
theorem dX4_command_9 : decode cX4_command 9 = .ok (.iconst 3, 1) := by decide +kernel
theorem dX4_command_10 : decode cX4_command 10 = .ok (.iconst 0, 1) := by decide +kernel
theorem dX4_command_11 : decode cX4_command 11 = .ok (.invokevirtual 71, 3) := by decide +kernel
theorem dX4_command_14 : decode cX4_command 14 = .ok (.istore_n 2, 1) := by decide +kernel
theorem dX4_command_15 : decode cX4_command 15 = .ok (.iload_n 1, 1) := by decide +kernel
theorem dX4_command_16 : decode cX4_command 16 = .ok (.iconst 1, 1) := by decide +kernel
theorem dX4_command_17 : decode cX4_command 17 = .ok (.if_icmp .ne 19, 3) := by decide +kernel
theorem dX4_command_20 : decode cX4_command 20 = .ok (.aload_n 0, 1) := by decide +kernel
theorem dX4_command_21 : decode cX4_command 21 = .ok (.getfield 75, 3) := by decide +kernel
theorem dX4_command_24 : decode cX4_command 24 = .ok (.ifCond .ne 12, 3) := by decide +kernel
theorem dX4_command_27 : decode cX4_command 27 = .ok (.aload_n 0, 1) := by decide +kernel
theorem dX4_command_28 : decode cX4_command 28 = .ok (.iconst 0, 1) := by decide +kernel
theorem dX4_command_29 : decode cX4_command 29 = .ok (.iconst 5, 1) := by decide +kernel
theorem dX4_command_30 : decode cX4_command 30 = .ok (.iconst 0, 1) := by decide +kernel
theorem dX4_command_31 : decode cX4_command 31 = .ok (.iconst 1, 1) := by decide +kernel
theorem dX4_command_32 : decode cX4_command 32 = .ok (.invokevirtual 71, 3) := by decide +kernel
theorem dX4_command_35 : decode cX4_command 35 = .ok (.istore_n 2, 1) := by decide +kernel
theorem dX4_command_36 : decode cX4_command 36 = .ok (.iload_n 1, 1) := by decide +kernel
theorem dX4_command_37 : decode cX4_command 37 = .ok (.iconst 2, 1) := by decide +kernel
theorem dX4_command_38 : decode cX4_command 38 = .ok (.if_icmp .ne 12, 3) := by decide +kernel
theorem dX4_command_41 : decode cX4_command 41 = .ok (.aload_n 0, 1) := by decide +kernel
theorem dX4_command_42 : decode cX4_command 42 = .ok (.iconst 4, 1) := by decide +kernel
theorem dX4_command_43 : decode cX4_command 43 = .ok (.iconst 5, 1) := by decide +kernel
theorem dX4_command_44 : decode cX4_command 44 = .ok (.iconst 1, 1) := by decide +kernel
theorem dX4_command_45 : decode cX4_command 45 = .ok (.iconst 0, 1) := by decide +kernel
theorem dX4_command_46 : decode cX4_command 46 = .ok (.invokevirtual 71, 3) := by decide +kernel
theorem dX4_command_49 : decode cX4_command 49 = .ok (.istore_n 2, 1) := by decide +kernel
theorem dX4_command_50 : decode cX4_command 50 = .ok (.iload_n 1, 1) := by decide +kernel
theorem dX4_command_51 : decode cX4_command 51 = .ok (.iconst 3, 1) := by decide +kernel
theorem dX4_command_52 : decode cX4_command 52 = .ok (.if_icmp .ne 27, 3) := by decide +kernel
theorem dX4_command_55 : decode cX4_command 55 = .ok (.aload_n 0, 1) := by decide +kernel
theorem dX4_command_56 : decode cX4_command 56 = .ok (.getfield 75, 3) := by decide +kernel
theorem dX4_command_59 : decode cX4_command 59 = .ok (.ifCond .ne 20, 3) := by decide +kernel
theorem dX4_command_62 : decode cX4_command 62 = .ok (.aload_n 0, 1) := by decide +kernel
theorem dX4_command_63 : decode cX4_command 63 = .ok (.iconst 0, 1) := by decide +kernel
theorem dX4_command_64 : decode cX4_command 64 = .ok (.invokevirtual 60, 3) := by decide +kernel
theorem dX4_command_67 : decode cX4_command 67 = .ok (.ifCond .ne 12, 3) := by decide +kernel
theorem dX4_command_70 : decode cX4_command 70 = .ok (.aload_n 0, 1) := by decide +kernel
theorem dX4_command_71 : decode cX4_command 71 = .ok (.iconst 0, 1) := by decide +kernel
theorem dX4_command_72 : decode cX4_command 72 = .ok (.iconst 5, 1) := by decide +kernel
theorem dX4_command_73 : decode cX4_command 73 = .ok (.iconst 3, 1) := by decide +kernel
theorem dX4_command_74 : decode cX4_command 74 = .ok (.iconst 2, 1) := by decide +kernel
theorem dX4_command_75 : decode cX4_command 75 = .ok (.invokevirtual 71, 3) := by decide +kernel
theorem dX4_command_78 : decode cX4_command 78 = .ok (.istore_n 2, 1) := by decide +kernel
theorem dX4_command_79 : decode cX4_command 79 = .ok (.return_, 1) := by decide +kernel
set_option maxRecDepth 20000 in
theorem ggX4_remote_X4_back : GoodIn wsX4_remote wsX4_back := goodIn_r _ [19, 9, 20, 21, 18, 22, 23, 24] (by decide +kernel) (by decide +kernel)
set_option maxRecDepth 20000 in
theorem gX4_remote_X4_back : GoodIn wsX4_remote (va_wsS RX4 85 yX4_back wsX4_back) := goodIn_app (goodIn_of _ (by decide +kernel)) ggX4_remote_X4_back
set_option maxRecDepth 20000 in
theorem ggX4_remote_X4_sign : GoodIn wsX4_remote wsX4_sign := goodIn_r _ [27, 23] (by decide +kernel) (by decide +kernel)
set_option maxRecDepth 20000 in
theorem gX4_remote_X4_sign : GoodIn wsX4_remote (va_wsS RX4 89 yX4_sign wsX4_sign) := goodIn_app (goodIn_of _ (by decide +kernel)) ggX4_remote_X4_sign
set_option maxRecDepth 20000 in
theorem ggX4_remote_X4_command : GoodIn wsX4_remote wsX4_command := goodIn_r _ [31, 32, 33, 34, 35, 18, 36, 37, 38, 39, 40, 41, 42, 43, 44, 45, 46, 47, 48, 49, 50, 51, 52, 53, 54, 55, 56, 57, 58, 59, 60, 61, 62, 63] (by decide +kernel) (by decide +kernel)
set_option maxRecDepth 20000 in
theorem gX4_remote_X4_command : GoodIn wsX4_remote (wsV RX4 95 RX4 yX4_command wsX4_command) := goodIn_app (goodIn_of _ (by decide +kernel)) ggX4_remote_X4_command
end
section
theorem dX4_remote_0 : decode cX4_remote 0 = .ok (.aload_n 0, 1) := by decide +kernel
theorem dX4_remote_1 : decode cX4_remote 1 = .ok (.iconst 0, 1) := by decide +kernel
theorem dX4_remote_2 : decode cX4_remote 2 = .ok (.putfield 46, 3) := by decide +kernel
theorem dX4_remote_5 : decode cX4_remote 5 = .ok (.aload_n 0, 1) := by decide +kernel
theorem dX4_remote_6 : decode cX4_remote 6 = .ok (.getfield 79, 3) := by decide +kernel
theorem dX4_remote_9 : decode cX4_remote 9 = .ok (.bipush 16, 2) := by decide +kernel
theorem dX4_remote_11 : decode cX4_remote 11 = .ok (.if_icmp .ge 17, 3) := by decide +kernel
theorem dX4_remote_14 : decode cX4_remote 14 = .ok (.aload_n 0, 1) := by decide +kernel
theorem dX4_remote_15 : decode cX4_remote 15 = .ok (.getfield 36, 3) := by decide +kernel
theorem dX4_remote_18 : decode cX4_remote 18 = .ok (.aload_n 0, 1) := by decide +kernel
theorem dX4_remote_19 : decode cX4_remote 19 = .ok (.getfield 79, 3) := by decide +kernel
theorem dX4_remote_22 : decode cX4_remote 22 = .ok (.iload_n 1, 1) := by decide +kernel
theorem dX4_remote_23 : decode cX4_remote 23 = .ok (.sipush 255, 3) := by decide +kernel
theorem dX4_remote_26 : decode cX4_remote 26 = .ok (.iand, 1) := by decide +kernel
theorem dX4_remote_27 : decode cX4_remote 27 = .ok (.iastore, 1) := by decide +kernel
theorem dX4_remote_28 : decode cX4_remote 28 = .ok (.aload_n 0, 1) := by decide +kernel
theorem dX4_remote_29 : decode cX4_remote 29 = .ok (.dup, 1) := by decide +kernel
theorem dX4_remote_30 : decode cX4_remote 30 = .ok (.getfield 79, 3) := by decide +kernel
theorem dX4_remote_33 : decode cX4_remote 33 = .ok (.iconst 1, 1) := by decide +kernel
theorem dX4_remote_34 : decode cX4_remote 34 = .ok (.iadd, 1) := by decide +kernel
theorem dX4_remote_35 : decode cX4_remote 35 = .ok (.putfield 79, 3) := by decide +kernel
theorem dX4_remote_38 : decode cX4_remote 38 = .ok (.iload_n 2, 1) := by decide +kernel
theorem dX4_remote_39 : decode cX4_remote 39 = .ok (.ifCond .ne 5, 3) := by decide +kernel
theorem dX4_remote_42 : decode cX4_remote 42 = .ok (.iconst 0, 1) := by decide +kernel
theorem dX4_remote_43 : decode cX4_remote 43 = .ok (.ireturn, 1) := by decide +kernel
theorem dX4_remote_44 : decode cX4_remote 44 = .ok (.aload_n 0, 1) := by decide +kernel
theorem dX4_remote_45 : decode cX4_remote 45 = .ok (.aload_n 0, 1) := by decide +kernel
theorem dX4_remote_46 : decode cX4_remote 46 = .ok (.getfield 79, 3) := by decide +kernel
theorem dX4_remote_49 : decode cX4_remote 49 = .ok (.bipush 16, 2) := by decide +kernel
theorem dX4_remote_51 : decode cX4_remote 51 = .ok (.if_icmp .le 8, 3) := by decide +kernel
theorem dX4_remote_54 : decode cX4_remote 54 = .ok (.bipush 16, 2) := by decide +kernel
theorem dX4_remote_56 : decode cX4_remote 56 = .ok (.goto 7, 3) := by decide +kernel
theorem dX4_remote_59 : decode cX4_remote 59 = .ok (.aload_n 0, 1) := by decide +kernel
theorem dX4_remote_60 : decode cX4_remote 60 = .ok (.getfield 79, 3) := by decide +kernel
theorem dX4_remote_63 : decode cX4_remote 63 = .ok (.putfield 82, 3) := by decide +kernel
theorem dX4_remote_66 : decode cX4_remote 66 = .ok (.iconst 0, 1) := by decide +kernel
theorem dX4_remote_67 : decode cX4_remote 67 = .ok (.istore_n 3, 1) := by decide +kernel
theorem dX4_remote_68 : decode cX4_remote 68 = .ok (.iload_n 3, 1) := by decide +kernel
theorem dX4_remote_69 : decode cX4_remote 69 = .ok (.aload_n 0, 1) := by decide +kernel
theorem dX4_remote_70 : decode cX4_remote 70 = .ok (.getfield 82, 3) := by decide +kernel
theorem dX4_remote_73 : decode cX4_remote 73 = .ok (.if_icmp .ge 21, 3) := by decide +kernel
theorem dX4_remote_76 : decode cX4_remote 76 = .ok (.aload_n 0, 1) := by decide +kernel
theorem dX4_remote_77 : decode cX4_remote 77 = .ok (.getfield 39, 3) := by decide +kernel
theorem dX4_remote_80 : decode cX4_remote 80 = .ok (.iload_n 3, 1) := by decide +kernel
theorem dX4_remote_81 : decode cX4_remote 81 = .ok (.aload_n 0, 1) := by decide +kernel
theorem dX4_remote_82 : decode cX4_remote 82 = .ok (.getfield 36, 3) := by decide +kernel
theorem dX4_remote_85 : decode cX4_remote 85 = .ok (.iload_n 3, 1) := by decide +kernel
theorem dX4_remote_86 : decode cX4_remote 86 = .ok (.iaload, 1) := by decide +kernel
theorem dX4_remote_87 : decode cX4_remote 87 = .ok (.iastore, 1) := by decide +kernel
theorem dX4_remote_88 : decode cX4_remote 88 = .ok (.iinc 3 1, 3) := by decide +kernel
theorem dX4_remote_91 : decode cX4_remote 91 = .ok (.goto (-23), 3) := by decide +kernel
theorem dX4_remote_94 : decode cX4_remote 94 = .ok (.aload_n 0, 1) := by decide +kernel
theorem dX4_remote_95 : decode cX4_remote 95 = .ok (.getfield 79, 3) := by decide +kernel
theorem dX4_remote_98 : decode cX4_remote 98 = .ok (.bipush 8, 2) := by decide +kernel
theorem dX4_remote_100 : decode cX4_remote 100 = .ok (.if_icmp .ne 7, 3) := by decide +kernel
theorem dX4_remote_103 : decode cX4_remote 103 = .ok (.iconst 1, 1) := by decide +kernel
theorem dX4_remote_104 : decode cX4_remote 104 = .ok (.goto 4, 3) := by decide +kernel
theorem dX4_remote_107 : decode cX4_remote 107 = .ok (.iconst 0, 1) := by decide +kernel
theorem dX4_remote_108 : decode cX4_remote 108 = .ok (.istore_n 3, 1) := by decide +kernel
theorem dX4_remote_109 : decode cX4_remote 109 = .ok (.aload_n 0, 1) := by decide +kernel
theorem dX4_remote_110 : decode cX4_remote 110 = .ok (.iconst 0, 1) := by decide +kernel
theorem dX4_remote_111 : decode cX4_remote 111 = .ok (.putfield 79, 3) := by decide +kernel
theorem dX4_remote_114 : decode cX4_remote 114 = .ok (.iconst 0, 1) := by decide +kernel
theorem dX4_remote_115 : decode cX4_remote 115 = .ok (.istore 4, 2) := by decide +kernel
theorem dX4_remote_117 : decode cX4_remote 117 = .ok (.iconst 0, 1) := by decide +kernel
theorem dX4_remote_118 : decode cX4_remote 118 = .ok (.istore 5, 2) := by decide +kernel
theorem dX4_remote_120 : decode cX4_remote 120 = .ok (.iload 5, 2) := by decide +kernel
theorem dX4_remote_122 : decode cX4_remote 122 = .ok (.bipush 8, 2) := by decide +kernel
theorem dX4_remote_124 : decode cX4_remote 124 = .ok (.if_icmp .ge 21, 3) := by decide +kernel
theorem dX4_remote_127 : decode cX4_remote 127 = .ok (.iload 4, 2) := by decide +kernel
theorem dX4_remote_129 : decode cX4_remote 129 = .ok (.aload_n 0, 1) := by decide +kernel
theorem dX4_remote_130 : decode cX4_remote 130 = .ok (.getfield 39, 3) := by decide +kernel
theorem dX4_remote_133 : decode cX4_remote 133 = .ok (.iload 5, 2) := by decide +kernel
theorem dX4_remote_135 : decode cX4_remote 135 = .ok (.iaload, 1) := by decide +kernel
theorem dX4_remote_136 : decode cX4_remote 136 = .ok (.ixor, 1) := by decide +kernel
theorem dX4_remote_137 : decode cX4_remote 137 = .ok (.istore 4, 2) := by decide +kernel
theorem dX4_remote_139 : decode cX4_remote 139 = .ok (.iinc 5 1, 3) := by decide +kernel
theorem dX4_remote_142 : decode cX4_remote 142 = .ok (.goto (-22), 3) := by decide +kernel
theorem dX4_remote_145 : decode cX4_remote 145 = .ok (.aload_n 0, 1) := by decide +kernel
theorem dX4_remote_146 : decode cX4_remote 146 = .ok (.getfield 39, 3) := by decide +kernel
theorem dX4_remote_149 : decode cX4_remote 149 = .ok (.iconst 0, 1) := by decide +kernel
theorem dX4_remote_150 : decode cX4_remote 150 = .ok (.iaload, 1) := by decide +kernel
theorem dX4_remote_151 : decode cX4_remote 151 = .ok (.istore 5, 2) := by decide +kernel
theorem dX4_remote_153 : decode cX4_remote 153 = .ok (.iload_n 3, 1) := by decide +kernel
theorem dX4_remote_154 : decode cX4_remote 154 = .ok (.ifCond .eq 43, 3) := by decide +kernel
theorem dX4_remote_157 : decode cX4_remote 157 = .ok (.iload 4, 2) := by decide +kernel
theorem dX4_remote_159 : decode cX4_remote 159 = .ok (.ifCond .ne 38, 3) := by decide +kernel
theorem dX4_remote_162 : decode cX4_remote 162 = .ok (.iload 5, 2) := by decide +kernel
theorem dX4_remote_164 : decode cX4_remote 164 = .ok (.iconst 1, 1) := by decide +kernel
theorem dX4_remote_165 : decode cX4_remote 165 = .ok (.if_icmp .lt 32, 3) := by decide +kernel
theorem dX4_remote_168 : decode cX4_remote 168 = .ok (.iload 5, 2) := by decide +kernel
theorem dX4_remote_170 : decode cX4_remote 170 = .ok (.aload_n 0, 1) := by decide +kernel
theorem dX4_remote_171 : decode cX4_remote 171 = .ok (.getfield 49, 3) := by decide +kernel
theorem dX4_remote_174 : decode cX4_remote 174 = .ok (.if_icmp .gt 23, 3) := by decide +kernel
theorem dX4_remote_177 : decode cX4_remote 177 = .ok (.aload_n 0, 1) := by decide +kernel
theorem dX4_remote_178 : decode cX4_remote 178 = .ok (.getfield 20, 3) := by decide +kernel
theorem dX4_remote_181 : decode cX4_remote 181 = .ok (.iload 5, 2) := by decide +kernel
theorem dX4_remote_183 : decode cX4_remote 183 = .ok (.baload, 1) := by decide +kernel
theorem dX4_remote_184 : decode cX4_remote 184 = .ok (.ifCond .eq 13, 3) := by decide +kernel
theorem dX4_remote_187 : decode cX4_remote 187 = .ok (.aload_n 0, 1) := by decide +kernel
theorem dX4_remote_188 : decode cX4_remote 188 = .ok (.getfield 39, 3) := by decide +kernel
theorem dX4_remote_191 : decode cX4_remote 191 = .ok (.iconst 1, 1) := by decide +kernel
theorem dX4_remote_192 : decode cX4_remote 192 = .ok (.iaload, 1) := by decide +kernel
theorem dX4_remote_193 : decode cX4_remote 193 = .ok (.iconst 3, 1) := by decide +kernel
theorem dX4_remote_194 : decode cX4_remote 194 = .ok (.if_icmp .le 5, 3) := by decide +kernel
theorem dX4_remote_197 : decode cX4_remote 197 = .ok (.iconst 0, 1) := by decide +kernel
theorem dX4_remote_198 : decode cX4_remote 198 = .ok (.ireturn, 1) := by decide +kernel
theorem dX4_remote_199 : decode cX4_remote 199 = .ok (.aload_n 0, 1) := by decide +kernel
theorem dX4_remote_200 : decode cX4_remote 200 = .ok (.getfield 7, 3) := by decide +kernel
theorem dX4_remote_203 : decode cX4_remote 203 = .ok (.iload 5, 2) := by decide +kernel
theorem dX4_remote_205 : decode cX4_remote 205 = .ok (.laload, 1) := by decide +kernel
theorem dX4_remote_206 : decode cX4_remote 206 = .ok (.aload_n 0, 1) := by decide +kernel
theorem dX4_remote_207 : decode cX4_remote 207 = .ok (.getfield 39, 3) := by decide +kernel
theorem dX4_remote_210 : decode cX4_remote 210 = .ok (.iconst 2, 1) := by decide +kernel
theorem dX4_remote_211 : decode cX4_remote 211 = .ok (.iaload, 1) := by decide +kernel
theorem dX4_remote_212 : decode cX4_remote 212 = .ok (.bipush 24, 2) := by decide +kernel
theorem dX4_remote_214 : decode cX4_remote 214 = .ok (.ishl, 1) := by decide +kernel
theorem dX4_remote_215 : decode cX4_remote 215 = .ok (.aload_n 0, 1) := by decide +kernel
theorem dX4_remote_216 : decode cX4_remote 216 = .ok (.getfield 39, 3) := by decide +kernel
theorem dX4_remote_219 : decode cX4_remote 219 = .ok (.iconst 3, 1) := by decide +kernel
theorem dX4_remote_220 : decode cX4_remote 220 = .ok (.iaload, 1) := by decide +kernel
theorem dX4_remote_221 : decode cX4_remote 221 = .ok (.bipush 16, 2) := by decide +kernel
theorem dX4_remote_223 : decode cX4_remote 223 = .ok (.ishl, 1) := by decide +kernel
theorem dX4_remote_224 : decode cX4_remote 224 = .ok (.ior, 1) := by decide +kernel
theorem dX4_remote_225 : decode cX4_remote 225 = .ok (.aload_n 0, 1) := by decide +kernel
theorem dX4_remote_226 : decode cX4_remote 226 = .ok (.getfield 39, 3) := by decide +kernel
theorem dX4_remote_229 : decode cX4_remote 229 = .ok (.iconst 4, 1) := by decide +kernel
theorem dX4_remote_230 : decode cX4_remote 230 = .ok (.iaload, 1) := by decide +kernel
theorem dX4_remote_231 : decode cX4_remote 231 = .ok (.bipush 8, 2) := by decide +kernel
theorem dX4_remote_233 : decode cX4_remote 233 = .ok (.ishl, 1) := by decide +kernel
theorem dX4_remote_234 : decode cX4_remote 234 = .ok (.ior, 1) := by decide +kernel
theorem dX4_remote_235 : decode cX4_remote 235 = .ok (.aload_n 0, 1) := by decide +kernel
theorem dX4_remote_236 : decode cX4_remote 236 = .ok (.getfield 39, 3) := by decide +kernel
theorem dX4_remote_239 : decode cX4_remote 239 = .ok (.iconst 5, 1) := by decide +kernel
theorem dX4_remote_240 : decode cX4_remote 240 = .ok (.iaload, 1) := by decide +kernel
theorem dX4_remote_241 : decode cX4_remote 241 = .ok (.ior, 1) := by decide +kernel
theorem dX4_remote_242 : decode cX4_remote 242 = .ok (.invokestatic 85, 3) := by decide +kernel
theorem dX4_remote_245 : decode cX4_remote 245 = .ok (.istore 6, 2) := by decide +kernel
theorem dX4_remote_247 : decode cX4_remote 247 = .ok (.iload 6, 2) := by decide +kernel
theorem dX4_remote_249 : decode cX4_remote 249 = .ok (.bipush 16, 2) := by decide +kernel
theorem dX4_remote_251 : decode cX4_remote 251 = .ok (.ishr, 1) := by decide +kernel
theorem dX4_remote_252 : decode cX4_remote 252 = .ok (.ldc 55, 2) := by decide +kernel
theorem dX4_remote_254 : decode cX4_remote 254 = .ok (.iand, 1) := by decide +kernel
theorem dX4_remote_255 : decode cX4_remote 255 = .ok (.aload_n 0, 1) := by decide +kernel
theorem dX4_remote_256 : decode cX4_remote 256 = .ok (.getfield 7, 3) := by decide +kernel
theorem dX4_remote_259 : decode cX4_remote 259 = .ok (.iload 5, 2) := by decide +kernel
theorem dX4_remote_261 : decode cX4_remote 261 = .ok (.laload, 1) := by decide +kernel
theorem dX4_remote_262 : decode cX4_remote 262 = .ok (.invokestatic 89, 3) := by decide +kernel
theorem dX4_remote_265 : decode cX4_remote 265 = .ok (.if_icmp .eq 5, 3) := by decide +kernel
theorem dX4_remote_268 : decode cX4_remote 268 = .ok (.iconst 0, 1) := by decide +kernel
theorem dX4_remote_269 : decode cX4_remote 269 = .ok (.ireturn, 1) := by decide +kernel
theorem dX4_remote_270 : decode cX4_remote 270 = .ok (.iload 6, 2) := by decide +kernel
theorem dX4_remote_272 : decode cX4_remote 272 = .ok (.ldc 55, 2) := by decide +kernel
theorem dX4_remote_274 : decode cX4_remote 274 = .ok (.iand, 1) := by decide +kernel
theorem dX4_remote_275 : decode cX4_remote 275 = .ok (.istore 7, 2) := by decide +kernel
theorem dX4_remote_277 : decode cX4_remote 277 = .ok (.iload 7, 2) := by decide +kernel
theorem dX4_remote_279 : decode cX4_remote 279 = .ok (.aload_n 0, 1) := by decide +kernel
theorem dX4_remote_280 : decode cX4_remote 280 = .ok (.getfield 13, 3) := by decide +kernel
theorem dX4_remote_283 : decode cX4_remote 283 = .ok (.iload 5, 2) := by decide +kernel
theorem dX4_remote_285 : decode cX4_remote 285 = .ok (.iaload, 1) := by decide +kernel
theorem dX4_remote_286 : decode cX4_remote 286 = .ok (.if_icmp .lt 16, 3) := by decide +kernel
theorem dX4_remote_289 : decode cX4_remote 289 = .ok (.iload 7, 2) := by decide +kernel
theorem dX4_remote_291 : decode cX4_remote 291 = .ok (.aload_n 0, 1) := by decide +kernel
theorem dX4_remote_292 : decode cX4_remote 292 = .ok (.getfield 13, 3) := by decide +kernel
theorem dX4_remote_295 : decode cX4_remote 295 = .ok (.iload 5, 2) := by decide +kernel
theorem dX4_remote_297 : decode cX4_remote 297 = .ok (.iaload, 1) := by decide +kernel
theorem dX4_remote_298 : decode cX4_remote 298 = .ok (.isub, 1) := by decide +kernel
theorem dX4_remote_299 : decode cX4_remote 299 = .ok (.goto 16, 3) := by decide +kernel
theorem dX4_remote_302 : decode cX4_remote 302 = .ok (.iload 7, 2) := by decide +kernel
theorem dX4_remote_304 : decode cX4_remote 304 = .ok (.ldc 93, 2) := by decide +kernel
theorem dX4_remote_306 : decode cX4_remote 306 = .ok (.iadd, 1) := by decide +kernel
theorem dX4_remote_307 : decode cX4_remote 307 = .ok (.aload_n 0, 1) := by decide +kernel
theorem dX4_remote_308 : decode cX4_remote 308 = .ok (.getfield 13, 3) := by decide +kernel
theorem dX4_remote_311 : decode cX4_remote 311 = .ok (.iload 5, 2) := by decide +kernel
theorem dX4_remote_313 : decode cX4_remote 313 = .ok (.iaload, 1) := by decide +kernel
theorem dX4_remote_314 : decode cX4_remote 314 = .ok (.isub, 1) := by decide +kernel
theorem dX4_remote_315 : decode cX4_remote 315 = .ok (.istore 8, 2) := by decide +kernel
theorem dX4_remote_317 : decode cX4_remote 317 = .ok (.aload_n 0, 1) := by decide +kernel
theorem dX4_remote_318 : decode cX4_remote 318 = .ok (.getfield 17, 3) := by decide +kernel
theorem dX4_remote_321 : decode cX4_remote 321 = .ok (.iload 5, 2) := by decide +kernel
theorem dX4_remote_323 : decode cX4_remote 323 = .ok (.iaload, 1) := by decide +kernel
theorem dX4_remote_324 : decode cX4_remote 324 = .ok (.iload 7, 2) := by decide +kernel
theorem dX4_remote_326 : decode cX4_remote 326 = .ok (.if_icmp .ne 7, 3) := by decide +kernel
theorem dX4_remote_329 : decode cX4_remote 329 = .ok (.iconst 1, 1) := by decide +kernel
theorem dX4_remote_330 : decode cX4_remote 330 = .ok (.goto 4, 3) := by decide +kernel
theorem dX4_remote_333 : decode cX4_remote 333 = .ok (.iconst 0, 1) := by decide +kernel
theorem dX4_remote_334 : decode cX4_remote 334 = .ok (.istore 9, 2) := by decide +kernel
theorem dX4_remote_336 : decode cX4_remote 336 = .ok (.aload_n 0, 1) := by decide +kernel
theorem dX4_remote_337 : decode cX4_remote 337 = .ok (.getfield 17, 3) := by decide +kernel
theorem dX4_remote_340 : decode cX4_remote 340 = .ok (.iload 5, 2) := by decide +kernel
theorem dX4_remote_342 : decode cX4_remote 342 = .ok (.iconst (-1), 1) := by decide +kernel
theorem dX4_remote_343 : decode cX4_remote 343 = .ok (.iastore, 1) := by decide +kernel
theorem dX4_remote_344 : decode cX4_remote 344 = .ok (.iload 8, 2) := by decide +kernel
theorem dX4_remote_346 : decode cX4_remote 346 = .ok (.ifCond .eq 10, 3) := by decide +kernel
theorem dX4_remote_349 : decode cX4_remote 349 = .ok (.iload 8, 2) := by decide +kernel
theorem dX4_remote_351 : decode cX4_remote 351 = .ok (.ldc 94, 2) := by decide +kernel
theorem dX4_remote_353 : decode cX4_remote 353 = .ok (.if_icmp .le 5, 3) := by decide +kernel
theorem dX4_remote_356 : decode cX4_remote 356 = .ok (.iconst 0, 1) := by decide +kernel
theorem dX4_remote_357 : decode cX4_remote 357 = .ok (.ireturn, 1) := by decide +kernel
theorem dX4_remote_358 : decode cX4_remote 358 = .ok (.iload 8, 2) := by decide +kernel
theorem dX4_remote_360 : decode cX4_remote 360 = .ok (.aload_n 0, 1) := by decide +kernel
theorem dX4_remote_361 : decode cX4_remote 361 = .ok (.getfield 42, 3) := by decide +kernel
theorem dX4_remote_364 : decode cX4_remote 364 = .ok (.if_icmp .le 32, 3) := by decide +kernel
theorem dX4_remote_367 : decode cX4_remote 367 = .ok (.iload 9, 2) := by decide +kernel
theorem dX4_remote_369 : decode cX4_remote 369 = .ok (.ifCond .ne 27, 3) := by decide +kernel
theorem dX4_remote_372 : decode cX4_remote 372 = .ok (.aload_n 0, 1) := by decide +kernel
theorem dX4_remote_373 : decode cX4_remote 373 = .ok (.getfield 17, 3) := by decide +kernel
theorem dX4_remote_376 : decode cX4_remote 376 = .ok (.iload 5, 2) := by decide +kernel
theorem dX4_remote_378 : decode cX4_remote 378 = .ok (.iload 7, 2) := by decide +kernel
theorem dX4_remote_380 : decode cX4_remote 380 = .ok (.ldc 55, 2) := by decide +kernel
theorem dX4_remote_382 : decode cX4_remote 382 = .ok (.if_icmp .ne 7, 3) := by decide +kernel
theorem dX4_remote_385 : decode cX4_remote 385 = .ok (.iconst 0, 1) := by decide +kernel
theorem dX4_remote_386 : decode cX4_remote 386 = .ok (.goto 7, 3) := by decide +kernel
theorem dX4_remote_389 : decode cX4_remote 389 = .ok (.iload 7, 2) := by decide +kernel
theorem dX4_remote_391 : decode cX4_remote 391 = .ok (.iconst 1, 1) := by decide +kernel
theorem dX4_remote_392 : decode cX4_remote 392 = .ok (.iadd, 1) := by decide +kernel
theorem dX4_remote_393 : decode cX4_remote 393 = .ok (.iastore, 1) := by decide +kernel
theorem dX4_remote_394 : decode cX4_remote 394 = .ok (.iconst 2, 1) := by decide +kernel
theorem dX4_remote_395 : decode cX4_remote 395 = .ok (.ireturn, 1) := by decide +kernel
theorem dX4_remote_396 : decode cX4_remote 396 = .ok (.aload_n 0, 1) := by decide +kernel
theorem dX4_remote_397 : decode cX4_remote 397 = .ok (.getfield 13, 3) := by decide +kernel
theorem dX4_remote_400 : decode cX4_remote 400 = .ok (.iload 5, 2) := by decide +kernel
theorem dX4_remote_402 : decode cX4_remote 402 = .ok (.iload 7, 2) := by decide +kernel
theorem dX4_remote_404 : decode cX4_remote 404 = .ok (.iastore, 1) := by decide +kernel
theorem dX4_remote_405 : decode cX4_remote 405 = .ok (.aload_n 0, 1) := by decide +kernel
theorem dX4_remote_406 : decode cX4_remote 406 = .ok (.getfield 30, 3) := by decide +kernel
theorem dX4_remote_409 : decode cX4_remote 409 = .ok (.iload 5, 2) := by decide +kernel
theorem dX4_remote_411 : decode cX4_remote 411 = .ok (.aload_n 0, 1) := by decide +kernel
theorem dX4_remote_412 : decode cX4_remote 412 = .ok (.getfield 39, 3) := by decide +kernel
theorem dX4_remote_415 : decode cX4_remote 415 = .ok (.bipush 6, 2) := by decide +kernel
theorem dX4_remote_417 : decode cX4_remote 417 = .ok (.iaload, 1) := by decide +kernel
theorem dX4_remote_418 : decode cX4_remote 418 = .ok (.iconst 1, 1) := by decide +kernel
theorem dX4_remote_419 : decode cX4_remote 419 = .ok (.iand, 1) := by decide +kernel
theorem dX4_remote_420 : decode cX4_remote 420 = .ok (.iastore, 1) := by decide +kernel
theorem dX4_remote_421 : decode cX4_remote 421 = .ok (.aload_n 0, 1) := by decide +kernel
theorem dX4_remote_422 : decode cX4_remote 422 = .ok (.aload_n 0, 1) := by decide +kernel
theorem dX4_remote_423 : decode cX4_remote 423 = .ok (.getfield 39, 3) := by decide +kernel
theorem dX4_remote_426 : decode cX4_remote 426 = .ok (.iconst 1, 1) := by decide +kernel
theorem dX4_remote_427 : decode cX4_remote 427 = .ok (.iaload, 1) := by decide +kernel
theorem dX4_remote_428 : decode cX4_remote 428 = .ok (.invokevirtual 95, 3) := by decide +kernel
theorem dX4_remote_431 : decode cX4_remote 431 = .ok (.iconst 1, 1) := by decide +kernel
theorem dX4_remote_432 : decode cX4_remote 432 = .ok (.ireturn, 1) := by decide +kernel
set_option maxRecDepth 20000 in
theorem ggX4_counter_X4_none : GoodIn wsX4_counter wsX4_none := goodIn_r _ [7, 8, 9, 10, 11, 12, 13, 14, 15, 16, 17, 18, 19, 20, 21, 22, 23, 24, 25, 26, 27, 28, 29] (by decide +kernel) (by decide +kernel)
set_option maxRecDepth 20000 in
theorem gX4_counter_X4_none : GoodIn wsX4_counter (wsV RX4 99 RX4 yX4_none wsX4_none) := goodIn_app (goodIn_of _ (by decide +kernel)) ggX4_counter_X4_none
theorem dX4_counter_0 : decode cX4_counter 0 = .ok (.aload_n 0, 1) := by decide +kernel
theorem dX4_counter_1 : decode cX4_counter 1 = .ok (.iload_n 1, 1) := by decide +kernel
theorem dX4_counter_2 : decode cX4_counter 2 = .ok (.invokevirtual 99, 3) := by decide +kernel
theorem dX4_counter_5 : decode cX4_counter 5 = .ok (.ifCond .eq 9, 3) := by decide +kernel
theorem dX4_counter_8 : decode cX4_counter 8 = .ok (.ldc2_w 102, 3) := by decide +kernel
theorem dX4_counter_11 : decode cX4_counter 11 = .ok (.goto 10, 3) := by decide +kernel
theorem dX4_counter_14 : decode cX4_counter 14 = .ok (.aload_n 0, 1) := by decide +kernel
theorem dX4_counter_15 : decode cX4_counter 15 = .ok (.getfield 13, 3) := by decide +kernel
theorem dX4_counter_18 : decode cX4_counter 18 = .ok (.iload_n 1, 1) := by decide +kernel
theorem dX4_counter_19 : decode cX4_counter 19 = .ok (.iaload, 1) := by decide +kernel
theorem dX4_counter_20 : decode cX4_counter 20 = .ok (.i2l, 1) := by decide +kernel
theorem dX4_counter_21 : decode cX4_counter 21 = .ok (.lreturn, 1) := by decide +kernel
set_option maxRecDepth 20000 in
theorem ggX4_lock_X4_turn : GoodIn wsX4_lock wsX4_turn := goodIn_r _ [7, 8, 9, 10, 11, 12, 13, 6, 14, 15, 16, 17, 18, 19, 20, 21, 22, 23, 24, 25, 26, 27, 28, 29, 30, 31, 32, 33, 34] (by decide +kernel) (by decide +kernel)
set_option maxRecDepth 20000 in
theorem gX4_lock_X4_turn : GoodIn wsX4_lock (wsV RX4 71 RX4 yX4_turn wsX4_turn) := goodIn_app (goodIn_of _ (by decide +kernel)) ggX4_lock_X4_turn
set_option maxRecDepth 20000 in
theorem ggX4_lock_X4_some : GoodIn wsX4_lock wsX4_some := goodIn_r _ [14, 8, 15, 16, 17, 18, 19, 20, 21, 22, 23, 24, 25, 26, 27, 28, 29, 30, 31, 32, 33, 34] (by decide +kernel) (by decide +kernel)
set_option maxRecDepth 20000 in
theorem gX4_lock_X4_some : GoodIn wsX4_lock (wsV RX4 60 RX4 yX4_some wsX4_some) := goodIn_app (goodIn_of _ (by decide +kernel)) ggX4_lock_X4_some
theorem dX4_lock_0 : decode cX4_lock 0 = .ok (.aload_n 0, 1) := by decide +kernel
theorem dX4_lock_1 : decode cX4_lock 1 = .ok (.iconst 0, 1) := by decide +kernel
theorem dX4_lock_2 : decode cX4_lock 2 = .ok (.putfield 46, 3) := by decide +kernel
theorem dX4_lock_5 : decode cX4_lock 5 = .ok (.iload_n 1, 1) := by decide +kernel
theorem dX4_lock_6 : decode cX4_lock 6 = .ok (.ifCond .lt 8, 3) := by decide +kernel
theorem dX4_lock_9 : decode cX4_lock 9 = .ok (.iload_n 1, 1) := by decide +kernel
theorem dX4_lock_10 : decode cX4_lock 10 = .ok (.iconst 3, 1) := by decide +kernel
theorem dX4_lock_11 : decode cX4_lock 11 = .ok (.if_icmp .le 6, 3) := by decide +kernel
theorem dX4_lock_14 : decode cX4_lock 14 = .ok (.bipush (-2), 2) := by decide +kernel
theorem dX4_lock_16 : decode cX4_lock 16 = .ok (.ireturn, 1) := by decide +kernel
theorem dX4_lock_17 : decode cX4_lock 17 = .ok (.iload_n 1, 1) := by decide +kernel
theorem dX4_lock_18 : decode cX4_lock 18 = .ok (.iconst 3, 1) := by decide +kernel
theorem dX4_lock_19 : decode cX4_lock 19 = .ok (.if_icmp .ge 13, 3) := by decide +kernel
theorem dX4_lock_22 : decode cX4_lock 22 = .ok (.aload_n 0, 1) := by decide +kernel
theorem dX4_lock_23 : decode cX4_lock 23 = .ok (.getfield 75, 3) := by decide +kernel
theorem dX4_lock_26 : decode cX4_lock 26 = .ok (.ifCond .eq 6, 3) := by decide +kernel
theorem dX4_lock_29 : decode cX4_lock 29 = .ok (.bipush (-3), 2) := by decide +kernel
theorem dX4_lock_31 : decode cX4_lock 31 = .ok (.ireturn, 1) := by decide +kernel
theorem dX4_lock_32 : decode cX4_lock 32 = .ok (.iload_n 1, 1) := by decide +kernel
theorem dX4_lock_33 : decode cX4_lock 33 = .ok (.ifCond .ne 12, 3) := by decide +kernel
theorem dX4_lock_36 : decode cX4_lock 36 = .ok (.aload_n 0, 1) := by decide +kernel
theorem dX4_lock_37 : decode cX4_lock 37 = .ok (.iconst 0, 1) := by decide +kernel
theorem dX4_lock_38 : decode cX4_lock 38 = .ok (.iconst 5, 1) := by decide +kernel
theorem dX4_lock_39 : decode cX4_lock 39 = .ok (.iconst 0, 1) := by decide +kernel
theorem dX4_lock_40 : decode cX4_lock 40 = .ok (.iconst 1, 1) := by decide +kernel
theorem dX4_lock_41 : decode cX4_lock 41 = .ok (.invokevirtual 71, 3) := by decide +kernel
theorem dX4_lock_44 : decode cX4_lock 44 = .ok (.ireturn, 1) := by decide +kernel
theorem dX4_lock_45 : decode cX4_lock 45 = .ok (.iload_n 1, 1) := by decide +kernel
theorem dX4_lock_46 : decode cX4_lock 46 = .ok (.iconst 1, 1) := by decide +kernel
theorem dX4_lock_47 : decode cX4_lock 47 = .ok (.if_icmp .ne 24, 3) := by decide +kernel
theorem dX4_lock_50 : decode cX4_lock 50 = .ok (.aload_n 0, 1) := by decide +kernel
theorem dX4_lock_51 : decode cX4_lock 51 = .ok (.iconst 0, 1) := by decide +kernel
theorem dX4_lock_52 : decode cX4_lock 52 = .ok (.invokevirtual 60, 3) := by decide +kernel
theorem dX4_lock_55 : decode cX4_lock 55 = .ok (.ifCond .eq 7, 3) := by decide +kernel
theorem dX4_lock_58 : decode cX4_lock 58 = .ok (.iconst 0, 1) := by decide +kernel
theorem dX4_lock_59 : decode cX4_lock 59 = .ok (.goto 11, 3) := by decide +kernel
theorem dX4_lock_62 : decode cX4_lock 62 = .ok (.aload_n 0, 1) := by decide +kernel
theorem dX4_lock_63 : decode cX4_lock 63 = .ok (.iconst 0, 1) := by decide +kernel
theorem dX4_lock_64 : decode cX4_lock 64 = .ok (.iconst 5, 1) := by decide +kernel
theorem dX4_lock_65 : decode cX4_lock 65 = .ok (.iconst 3, 1) := by decide +kernel
theorem dX4_lock_66 : decode cX4_lock 66 = .ok (.iconst 2, 1) := by decide +kernel
theorem dX4_lock_67 : decode cX4_lock 67 = .ok (.invokevirtual 71, 3) := by decide +kernel
theorem dX4_lock_70 : decode cX4_lock 70 = .ok (.ireturn, 1) := by decide +kernel
theorem dX4_lock_71 : decode cX4_lock 71 = .ok (.iload_n 1, 1) := by decide +kernel
theorem dX4_lock_72 : decode cX4_lock 72 = .ok (.iconst 2, 1) := by decide +kernel
theorem dX4_lock_73 : decode cX4_lock 73 = .ok (.if_icmp .ne 12, 3) := by decide +kernel
theorem dX4_lock_76 : decode cX4_lock 76 = .ok (.aload_n 0, 1) := by decide +kernel
theorem dX4_lock_77 : decode cX4_lock 77 = .ok (.iconst 4, 1) := by decide +kernel
theorem dX4_lock_78 : decode cX4_lock 78 = .ok (.iconst 5, 1) := by decide +kernel
theorem dX4_lock_79 : decode cX4_lock 79 = .ok (.iconst 0, 1) := by decide +kernel
theorem dX4_lock_80 : decode cX4_lock 80 = .ok (.iconst 1, 1) := by decide +kernel
theorem dX4_lock_81 : decode cX4_lock 81 = .ok (.invokevirtual 71, 3) := by decide +kernel
theorem dX4_lock_84 : decode cX4_lock 84 = .ok (.ireturn, 1) := by decide +kernel
theorem dX4_lock_85 : decode cX4_lock 85 = .ok (.aload_n 0, 1) := by decide +kernel
theorem dX4_lock_86 : decode cX4_lock 86 = .ok (.iconst 2, 1) := by decide +kernel
theorem dX4_lock_87 : decode cX4_lock 87 = .ok (.invokevirtual 60, 3) := by decide +kernel
theorem dX4_lock_90 : decode cX4_lock 90 = .ok (.ifCond .eq 7, 3) := by decide +kernel
theorem dX4_lock_93 : decode cX4_lock 93 = .ok (.iconst 0, 1) := by decide +kernel
theorem dX4_lock_94 : decode cX4_lock 94 = .ok (.goto 11, 3) := by decide +kernel
theorem dX4_lock_97 : decode cX4_lock 97 = .ok (.aload_n 0, 1) := by decide +kernel
theorem dX4_lock_98 : decode cX4_lock 98 = .ok (.iconst 0, 1) := by decide +kernel
theorem dX4_lock_99 : decode cX4_lock 99 = .ok (.iconst 5, 1) := by decide +kernel
theorem dX4_lock_100 : decode cX4_lock 100 = .ok (.iconst 3, 1) := by decide +kernel
theorem dX4_lock_101 : decode cX4_lock 101 = .ok (.iconst 0, 1) := by decide +kernel
theorem dX4_lock_102 : decode cX4_lock 102 = .ok (.invokevirtual 71, 3) := by decide +kernel
theorem dX4_lock_105 : decode cX4_lock 105 = .ok (.ireturn, 1) := by decide +kernel
theorem dX4_here_0 : decode cX4_here 0 = .ok (.aload_n 0, 1) := by decide +kernel
theorem dX4_here_1 : decode cX4_here 1 = .ok (.getfield 20, 3) := by decide +kernel
theorem dX4_here_4 : decode cX4_here 4 = .ok (.iload_n 1, 1) := by decide +kernel
theorem dX4_here_5 : decode cX4_here 5 = .ok (.baload, 1) := by decide +kernel
theorem dX4_here_6 : decode cX4_here 6 = .ok (.ifCond .eq 25, 3) := by decide +kernel
theorem dX4_here_9 : decode cX4_here 9 = .ok (.aload_n 0, 1) := by decide +kernel
theorem dX4_here_10 : decode cX4_here 10 = .ok (.getfield 24, 3) := by decide +kernel
theorem dX4_here_13 : decode cX4_here 13 = .ok (.iload_n 1, 1) := by decide +kernel
theorem dX4_here_14 : decode cX4_here 14 = .ok (.baload, 1) := by decide +kernel
theorem dX4_here_15 : decode cX4_here 15 = .ok (.ifCond .ne 12, 3) := by decide +kernel
theorem dX4_here_18 : decode cX4_here 18 = .ok (.aload_n 0, 1) := by decide +kernel
theorem dX4_here_19 : decode cX4_here 19 = .ok (.getfield 27, 3) := by decide +kernel
theorem dX4_here_22 : decode cX4_here 22 = .ok (.iload_n 1, 1) := by decide +kernel
theorem dX4_here_23 : decode cX4_here 23 = .ok (.baload, 1) := by decide +kernel
theorem dX4_here_24 : decode cX4_here 24 = .ok (.ifCond .eq 7, 3) := by decide +kernel
theorem dX4_here_27 : decode cX4_here 27 = .ok (.iconst 1, 1) := by decide +kernel
theorem dX4_here_28 : decode cX4_here 28 = .ok (.goto 4, 3) := by decide +kernel
theorem dX4_here_31 : decode cX4_here 31 = .ok (.iconst 0, 1) := by decide +kernel
theorem dX4_here_32 : decode cX4_here 32 = .ok (.ireturn, 1) := by decide +kernel
set_option maxRecDepth 20000 in
theorem ggX4_learn_X4_none : GoodIn wsX4_learn wsX4_none := goodIn_r _ [6, 7, 8, 15, 16, 17, 18, 19, 20, 21, 22, 23, 24, 25, 26, 27, 28, 29, 30, 31, 32, 33, 34] (by decide +kernel) (by decide +kernel)
set_option maxRecDepth 20000 in
theorem gX4_learn_X4_none : GoodIn wsX4_learn (wsV RX4 99 RX4 yX4_none wsX4_none) := goodIn_app (goodIn_of _ (by decide +kernel)) ggX4_learn_X4_none
set_option maxRecDepth 20000 in
theorem ggX4_learn_X4_here : GoodIn wsX4_learn wsX4_here := goodIn_r _ [12, 1, 13, 14, 15, 16, 17, 18, 19, 20, 21, 22, 23, 24, 25, 26, 27, 28, 29, 30, 31, 32, 33, 34] (by decide +kernel) (by decide +kernel)
set_option maxRecDepth 20000 in
theorem gX4_learn_X4_here : GoodIn wsX4_learn (wsV RX4 104 RX4 yX4_here wsX4_here) := goodIn_app (goodIn_of _ (by decide +kernel)) ggX4_learn_X4_here
theorem dX4_learn_0 : decode cX4_learn 0 = .ok (.aload_n 0, 1) := by decide +kernel
theorem dX4_learn_1 : decode cX4_learn 1 = .ok (.iload_n 1, 1) := by decide +kernel
theorem dX4_learn_2 : decode cX4_learn 2 = .ok (.invokevirtual 99, 3) := by decide +kernel
theorem dX4_learn_5 : decode cX4_learn 5 = .ok (.ifCond .ne 19, 3) := by decide +kernel
theorem dX4_learn_8 : decode cX4_learn 8 = .ok (.aload_n 0, 1) := by decide +kernel
theorem dX4_learn_9 : decode cX4_learn 9 = .ok (.iload_n 2, 1) := by decide +kernel
theorem dX4_learn_10 : decode cX4_learn 10 = .ok (.invokevirtual 99, 3) := by decide +kernel
theorem dX4_learn_13 : decode cX4_learn 13 = .ok (.ifCond .ne 11, 3) := by decide +kernel
theorem dX4_learn_16 : decode cX4_learn 16 = .ok (.aload_n 0, 1) := by decide +kernel
theorem dX4_learn_17 : decode cX4_learn 17 = .ok (.iload_n 3, 1) := by decide +kernel
theorem dX4_learn_18 : decode cX4_learn 18 = .ok (.invokevirtual 99, 3) := by decide +kernel
theorem dX4_learn_21 : decode cX4_learn 21 = .ok (.ifCond .eq 5, 3) := by decide +kernel
theorem dX4_learn_24 : decode cX4_learn 24 = .ok (.iconst (-1), 1) := by decide +kernel
theorem dX4_learn_25 : decode cX4_learn 25 = .ok (.ireturn, 1) := by decide +kernel
theorem dX4_learn_26 : decode cX4_learn 26 = .ok (.aload_n 0, 1) := by decide +kernel
theorem dX4_learn_27 : decode cX4_learn 27 = .ok (.getfield 20, 3) := by decide +kernel
theorem dX4_learn_30 : decode cX4_learn 30 = .ok (.iload_n 1, 1) := by decide +kernel
theorem dX4_learn_31 : decode cX4_learn 31 = .ok (.baload, 1) := by decide +kernel
theorem dX4_learn_32 : decode cX4_learn 32 = .ok (.ifCond .ne 24, 3) := by decide +kernel
theorem dX4_learn_35 : decode cX4_learn 35 = .ok (.iload_n 2, 1) := by decide +kernel
theorem dX4_learn_36 : decode cX4_learn 36 = .ok (.iload_n 3, 1) := by decide +kernel
theorem dX4_learn_37 : decode cX4_learn 37 = .ok (.if_icmp .eq 19, 3) := by decide +kernel
theorem dX4_learn_40 : decode cX4_learn 40 = .ok (.aload_n 0, 1) := by decide +kernel
theorem dX4_learn_41 : decode cX4_learn 41 = .ok (.iload_n 2, 1) := by decide +kernel
theorem dX4_learn_42 : decode cX4_learn 42 = .ok (.invokevirtual 104, 3) := by decide +kernel
theorem dX4_learn_45 : decode cX4_learn 45 = .ok (.ifCond .eq 11, 3) := by decide +kernel
theorem dX4_learn_48 : decode cX4_learn 48 = .ok (.aload_n 0, 1) := by decide +kernel
theorem dX4_learn_49 : decode cX4_learn 49 = .ok (.iload_n 3, 1) := by decide +kernel
theorem dX4_learn_50 : decode cX4_learn 50 = .ok (.invokevirtual 104, 3) := by decide +kernel
theorem dX4_learn_53 : decode cX4_learn 53 = .ok (.ifCond .ne 5, 3) := by decide +kernel
theorem dX4_learn_56 : decode cX4_learn 56 = .ok (.iconst 0, 1) := by decide +kernel
theorem dX4_learn_57 : decode cX4_learn 57 = .ok (.ireturn, 1) := by decide +kernel
theorem dX4_learn_58 : decode cX4_learn 58 = .ok (.aload_n 0, 1) := by decide +kernel
theorem dX4_learn_59 : decode cX4_learn 59 = .ok (.getfield 20, 3) := by decide +kernel
theorem dX4_learn_62 : decode cX4_learn 62 = .ok (.iload_n 1, 1) := by decide +kernel
theorem dX4_learn_63 : decode cX4_learn 63 = .ok (.iconst 1, 1) := by decide +kernel
theorem dX4_learn_64 : decode cX4_learn 64 = .ok (.bastore, 1) := by decide +kernel
theorem dX4_learn_65 : decode cX4_learn 65 = .ok (.iconst 1, 1) := by decide +kernel
theorem dX4_learn_66 : decode cX4_learn 66 = .ok (.ireturn, 1) := by decide +kernel
set_option maxRecDepth 20000 in
theorem ggX4_erase_X4_none : GoodIn wsX4_erase wsX4_none := goodIn_r _ [9, 10, 1, 11, 12, 13, 14, 15, 16, 17, 18, 19, 20, 21, 22, 23, 24, 25, 26, 27, 28, 29, 30] (by decide +kernel) (by decide +kernel)
set_option maxRecDepth 20000 in
theorem gX4_erase_X4_none : GoodIn wsX4_erase (wsV RX4 99 RX4 yX4_none wsX4_none) := goodIn_app (goodIn_of _ (by decide +kernel)) ggX4_erase_X4_none
theorem dX4_erase_0 : decode cX4_erase 0 = .ok (.aload_n 0, 1) := by decide +kernel
theorem dX4_erase_1 : decode cX4_erase 1 = .ok (.iload_n 1, 1) := by decide +kernel
theorem dX4_erase_2 : decode cX4_erase 2 = .ok (.invokevirtual 99, 3) := by decide +kernel
theorem dX4_erase_5 : decode cX4_erase 5 = .ok (.ifCond .eq 5, 3) := by decide +kernel
theorem dX4_erase_8 : decode cX4_erase 8 = .ok (.iconst (-1), 1) := by decide +kernel
theorem dX4_erase_9 : decode cX4_erase 9 = .ok (.ireturn, 1) := by decide +kernel
theorem dX4_erase_10 : decode cX4_erase 10 = .ok (.iconst 0, 1) := by decide +kernel
theorem dX4_erase_11 : decode cX4_erase 11 = .ok (.istore_n 2, 1) := by decide +kernel
theorem dX4_erase_12 : decode cX4_erase 12 = .ok (.iconst 1, 1) := by decide +kernel
theorem dX4_erase_13 : decode cX4_erase 13 = .ok (.istore_n 3, 1) := by decide +kernel
theorem dX4_erase_14 : decode cX4_erase 14 = .ok (.iload_n 3, 1) := by decide +kernel
theorem dX4_erase_15 : decode cX4_erase 15 = .ok (.aload_n 0, 1) := by decide +kernel
theorem dX4_erase_16 : decode cX4_erase 16 = .ok (.getfield 49, 3) := by decide +kernel
theorem dX4_erase_19 : decode cX4_erase 19 = .ok (.if_icmp .gt 26, 3) := by decide +kernel
theorem dX4_erase_22 : decode cX4_erase 22 = .ok (.aload_n 0, 1) := by decide +kernel
theorem dX4_erase_23 : decode cX4_erase 23 = .ok (.getfield 20, 3) := by decide +kernel
theorem dX4_erase_26 : decode cX4_erase 26 = .ok (.iload_n 3, 1) := by decide +kernel
theorem dX4_erase_27 : decode cX4_erase 27 = .ok (.baload, 1) := by decide +kernel
theorem dX4_erase_28 : decode cX4_erase 28 = .ok (.ifCond .eq 9, 3) := by decide +kernel
theorem dX4_erase_31 : decode cX4_erase 31 = .ok (.iload_n 2, 1) := by decide +kernel
theorem dX4_erase_32 : decode cX4_erase 32 = .ok (.iconst 1, 1) := by decide +kernel
theorem dX4_erase_33 : decode cX4_erase 33 = .ok (.iadd, 1) := by decide +kernel
theorem dX4_erase_34 : decode cX4_erase 34 = .ok (.goto 4, 3) := by decide +kernel
theorem dX4_erase_37 : decode cX4_erase 37 = .ok (.iload_n 2, 1) := by decide +kernel
theorem dX4_erase_38 : decode cX4_erase 38 = .ok (.istore_n 2, 1) := by decide +kernel
theorem dX4_erase_39 : decode cX4_erase 39 = .ok (.iinc 3 1, 3) := by decide +kernel
theorem dX4_erase_42 : decode cX4_erase 42 = .ok (.goto (-28), 3) := by decide +kernel
theorem dX4_erase_45 : decode cX4_erase 45 = .ok (.aload_n 0, 1) := by decide +kernel
theorem dX4_erase_46 : decode cX4_erase 46 = .ok (.getfield 20, 3) := by decide +kernel
theorem dX4_erase_49 : decode cX4_erase 49 = .ok (.iload_n 1, 1) := by decide +kernel
theorem dX4_erase_50 : decode cX4_erase 50 = .ok (.baload, 1) := by decide +kernel
theorem dX4_erase_51 : decode cX4_erase 51 = .ok (.ifCond .eq 8, 3) := by decide +kernel
theorem dX4_erase_54 : decode cX4_erase 54 = .ok (.iload_n 2, 1) := by decide +kernel
theorem dX4_erase_55 : decode cX4_erase 55 = .ok (.iconst 1, 1) := by decide +kernel
theorem dX4_erase_56 : decode cX4_erase 56 = .ok (.if_icmp .ne 5, 3) := by decide +kernel
theorem dX4_erase_59 : decode cX4_erase 59 = .ok (.iconst 0, 1) := by decide +kernel
theorem dX4_erase_60 : decode cX4_erase 60 = .ok (.ireturn, 1) := by decide +kernel
theorem dX4_erase_61 : decode cX4_erase 61 = .ok (.aload_n 0, 1) := by decide +kernel
theorem dX4_erase_62 : decode cX4_erase 62 = .ok (.getfield 20, 3) := by decide +kernel
theorem dX4_erase_65 : decode cX4_erase 65 = .ok (.iload_n 1, 1) := by decide +kernel
theorem dX4_erase_66 : decode cX4_erase 66 = .ok (.iconst 0, 1) := by decide +kernel
theorem dX4_erase_67 : decode cX4_erase 67 = .ok (.bastore, 1) := by decide +kernel
theorem dX4_erase_68 : decode cX4_erase 68 = .ok (.aload_n 0, 1) := by decide +kernel
theorem dX4_erase_69 : decode cX4_erase 69 = .ok (.getfield 24, 3) := by decide +kernel
theorem dX4_erase_72 : decode cX4_erase 72 = .ok (.iload_n 1, 1) := by decide +kernel
theorem dX4_erase_73 : decode cX4_erase 73 = .ok (.iconst 0, 1) := by decide +kernel
theorem dX4_erase_74 : decode cX4_erase 74 = .ok (.bastore, 1) := by decide +kernel
theorem dX4_erase_75 : decode cX4_erase 75 = .ok (.aload_n 0, 1) := by decide +kernel
theorem dX4_erase_76 : decode cX4_erase 76 = .ok (.getfield 27, 3) := by decide +kernel
theorem dX4_erase_79 : decode cX4_erase 79 = .ok (.iload_n 1, 1) := by decide +kernel
theorem dX4_erase_80 : decode cX4_erase 80 = .ok (.iconst 0, 1) := by decide +kernel
theorem dX4_erase_81 : decode cX4_erase 81 = .ok (.bastore, 1) := by decide +kernel
theorem dX4_erase_82 : decode cX4_erase 82 = .ok (.iconst 1, 1) := by decide +kernel
theorem dX4_erase_83 : decode cX4_erase 83 = .ok (.ireturn, 1) := by decide +kernel
theorem dX4_far_0 : decode cX4_far 0 = .ok (.lload_n 1, 1) := by decide +kernel
theorem dX4_far_1 : decode cX4_far 1 = .ok (.iload_n 0, 1) := by decide +kernel
theorem dX4_far_2 : decode cX4_far 2 = .ok (.iconst 2, 1) := by decide +kernel
theorem dX4_far_3 : decode cX4_far 3 = .ok (.if_icmp .ge 9, 3) := by decide +kernel
theorem dX4_far_6 : decode cX4_far 6 = .ok (.ldc2_w 107, 3) := by decide +kernel
theorem dX4_far_9 : decode cX4_far 9 = .ok (.goto 17, 3) := by decide +kernel
theorem dX4_far_12 : decode cX4_far 12 = .ok (.iload_n 0, 1) := by decide +kernel
theorem dX4_far_13 : decode cX4_far 13 = .ok (.iconst 4, 1) := by decide +kernel
theorem dX4_far_14 : decode cX4_far 14 = .ok (.if_icmp .ge 9, 3) := by decide +kernel
theorem dX4_far_17 : decode cX4_far 17 = .ok (.ldc2_w 109, 3) := by decide +kernel
theorem dX4_far_20 : decode cX4_far 20 = .ok (.goto 6, 3) := by decide +kernel
theorem dX4_far_23 : decode cX4_far 23 = .ok (.ldc2_w 111, 3) := by decide +kernel
theorem dX4_far_26 : decode cX4_far 26 = .ok (.lsub, 1) := by decide +kernel
theorem dX4_far_27 : decode cX4_far 27 = .ok (.lstore 5, 2) := by decide +kernel
theorem dX4_far_29 : decode cX4_far 29 = .ok (.lload_n 3, 1) := by decide +kernel
theorem dX4_far_30 : decode cX4_far 30 = .ok (.iload_n 0, 1) := by decide +kernel
theorem dX4_far_31 : decode cX4_far 31 = .ok (.iconst 4, 1) := by decide +kernel
theorem dX4_far_32 : decode cX4_far 32 = .ok (.if_icmp .ne 7, 3) := by decide +kernel
theorem dX4_far_35 : decode cX4_far 35 = .ok (.lconst 0, 1) := by decide +kernel
theorem dX4_far_36 : decode cX4_far 36 = .ok (.goto 18, 3) := by decide +kernel
theorem dX4_far_39 : decode cX4_far 39 = .ok (.iload_n 0, 1) := by decide +kernel
theorem dX4_far_40 : decode cX4_far 40 = .ok (.iconst 2, 1) := by decide +kernel
theorem dX4_far_41 : decode cX4_far 41 = .ok (.irem, 1) := by decide +kernel
theorem dX4_far_42 : decode cX4_far 42 = .ok (.ifCond .ne 9, 3) := by decide +kernel
theorem dX4_far_45 : decode cX4_far 45 = .ok (.ldc2_w 113, 3) := by decide +kernel
theorem dX4_far_48 : decode cX4_far 48 = .ok (.goto 6, 3) := by decide +kernel
theorem dX4_far_51 : decode cX4_far 51 = .ok (.ldc2_w 115, 3) := by decide +kernel
theorem dX4_far_54 : decode cX4_far 54 = .ok (.lsub, 1) := by decide +kernel
theorem dX4_far_55 : decode cX4_far 55 = .ok (.lstore 7, 2) := by decide +kernel
theorem dX4_far_57 : decode cX4_far 57 = .ok (.lload 5, 2) := by decide +kernel
theorem dX4_far_59 : decode cX4_far 59 = .ok (.lload 5, 2) := by decide +kernel
theorem dX4_far_61 : decode cX4_far 61 = .ok (.lmul, 1) := by decide +kernel
theorem dX4_far_62 : decode cX4_far 62 = .ok (.lload 7, 2) := by decide +kernel
theorem dX4_far_64 : decode cX4_far 64 = .ok (.lload 7, 2) := by decide +kernel
theorem dX4_far_66 : decode cX4_far 66 = .ok (.lmul, 1) := by decide +kernel
theorem dX4_far_67 : decode cX4_far 67 = .ok (.ladd, 1) := by decide +kernel
theorem dX4_far_68 : decode cX4_far 68 = .ok (.lreturn, 1) := by decide +kernel
set_option maxRecDepth 20000 in
theorem ggX4_field_X4_none : GoodIn wsX4_field wsX4_none := goodIn_r _ [16, 17, 18, 38, 39, 40, 41, 42, 43, 44, 45, 46, 47, 48, 49, 50, 51, 52, 53, 54, 55, 56, 57] (by decide +kernel) (by decide +kernel)
set_option maxRecDepth 20000 in
theorem gX4_field_X4_none : GoodIn wsX4_field (wsV RX4 99 RX4 yX4_none wsX4_none) := goodIn_app (goodIn_of _ (by decide +kernel)) ggX4_field_X4_none
set_option maxRecDepth 20000 in
theorem ggX4_field_X4_far : GoodIn wsX4_field wsX4_far := goodIn_r _ [21, 22, 23, 24, 25, 26] (by decide +kernel) (by decide +kernel)
set_option maxRecDepth 20000 in
theorem gX4_field_X4_far : GoodIn wsX4_field (va_wsS RX4 126 yX4_far wsX4_far) := goodIn_app (goodIn_of _ (by decide +kernel)) ggX4_field_X4_far
set_option maxRecDepth 20000 in
theorem ggX4_field_X4_turn : GoodIn wsX4_field wsX4_turn := goodIn_r _ [30, 31, 32, 33, 34, 35, 36, 15, 37, 38, 39, 40, 41, 42, 43, 44, 45, 46, 47, 48, 49, 50, 51, 52, 53, 54, 55, 56, 57] (by decide +kernel) (by decide +kernel)
set_option maxRecDepth 20000 in
theorem gX4_field_X4_turn : GoodIn wsX4_field (wsV RX4 71 RX4 yX4_turn wsX4_turn) := goodIn_app (goodIn_of _ (by decide +kernel)) ggX4_field_X4_turn
theorem dX4_field_0 : decode cX4_field 0 = .ok (.aload_n 0, 1) := by decide +kernel
theorem dX4_field_1 : decode cX4_field 1 = .ok (.iload_n 1, 1) := by decide +kernel
theorem dX4_field_2 : decode cX4_field 2 = .ok (.invokevirtual 99, 3) := by decide +kernel
theorem dX4_field_5 : decode cX4_field 5 = .ok (.ifCond .eq 5, 3) := by decide +kernel
theorem dX4_field_8 : decode cX4_field 8 = .ok (.iconst (-1), 1) := by decide +kernel
theorem dX4_field_9 : decode cX4_field 9 = .ok (.ireturn, 1) := by decide +kernel
theorem dX4_field_10 : decode cX4_field 10 = .ok (.lload_n 2, 1) := by decide +kernel
theorem dX4_field_11 : decode cX4_field 11 = .ok (.ldc2_w 117, 3) := by decide +kernel
theorem dX4_field_14 : decode cX4_field 14 = .ok (.lcmp, 1) := by decide +kernel
theorem dX4_field_15 : decode cX4_field 15 = .ok (.ifCond .lt 36, 3) := by decide +kernel
theorem dX4_field_18 : decode cX4_field 18 = .ok (.lload_n 2, 1) := by decide +kernel
theorem dX4_field_19 : decode cX4_field 19 = .ok (.ldc2_w 119, 3) := by decide +kernel
theorem dX4_field_22 : decode cX4_field 22 = .ok (.lcmp, 1) := by decide +kernel
theorem dX4_field_23 : decode cX4_field 23 = .ok (.ifCond .gt 28, 3) := by decide +kernel
theorem dX4_field_26 : decode cX4_field 26 = .ok (.lload 4, 2) := by decide +kernel
theorem dX4_field_28 : decode cX4_field 28 = .ok (.ldc2_w 117, 3) := by decide +kernel
theorem dX4_field_31 : decode cX4_field 31 = .ok (.lcmp, 1) := by decide +kernel
theorem dX4_field_32 : decode cX4_field 32 = .ok (.ifCond .lt 19, 3) := by decide +kernel
theorem dX4_field_35 : decode cX4_field 35 = .ok (.lload 4, 2) := by decide +kernel
theorem dX4_field_37 : decode cX4_field 37 = .ok (.ldc2_w 119, 3) := by decide +kernel
theorem dX4_field_40 : decode cX4_field 40 = .ok (.lcmp, 1) := by decide +kernel
theorem dX4_field_41 : decode cX4_field 41 = .ok (.ifCond .gt 10, 3) := by decide +kernel
theorem dX4_field_44 : decode cX4_field 44 = .ok (.lload 6, 2) := by decide +kernel
theorem dX4_field_46 : decode cX4_field 46 = .ok (.lconst 1, 1) := by decide +kernel
theorem dX4_field_47 : decode cX4_field 47 = .ok (.lcmp, 1) := by decide +kernel
theorem dX4_field_48 : decode cX4_field 48 = .ok (.ifCond .ge 6, 3) := by decide +kernel
theorem dX4_field_51 : decode cX4_field 51 = .ok (.bipush (-2), 2) := by decide +kernel
theorem dX4_field_53 : decode cX4_field 53 = .ok (.ireturn, 1) := by decide +kernel
theorem dX4_field_54 : decode cX4_field 54 = .ok (.lload 6, 2) := by decide +kernel
theorem dX4_field_56 : decode cX4_field 56 = .ok (.ldc2_w 121, 3) := by decide +kernel
theorem dX4_field_59 : decode cX4_field 59 = .ok (.lcmp, 1) := by decide +kernel
theorem dX4_field_60 : decode cX4_field 60 = .ok (.ifCond .le 7, 3) := by decide +kernel
theorem dX4_field_63 : decode cX4_field 63 = .ok (.iconst 1, 1) := by decide +kernel
theorem dX4_field_64 : decode cX4_field 64 = .ok (.goto 4, 3) := by decide +kernel
theorem dX4_field_67 : decode cX4_field 67 = .ok (.iconst 0, 1) := by decide +kernel
theorem dX4_field_68 : decode cX4_field 68 = .ok (.istore 8, 2) := by decide +kernel
theorem dX4_field_70 : decode cX4_field 70 = .ok (.aload_n 0, 1) := by decide +kernel
theorem dX4_field_71 : decode cX4_field 71 = .ok (.iload 8, 2) := by decide +kernel
theorem dX4_field_73 : decode cX4_field 73 = .ok (.ifCond .eq 12, 3) := by decide +kernel
theorem dX4_field_76 : decode cX4_field 76 = .ok (.aload_n 0, 1) := by decide +kernel
theorem dX4_field_77 : decode cX4_field 77 = .ok (.getfield 123, 3) := by decide +kernel
theorem dX4_field_80 : decode cX4_field 80 = .ok (.iconst 1, 1) := by decide +kernel
theorem dX4_field_81 : decode cX4_field 81 = .ok (.iadd, 1) := by decide +kernel
theorem dX4_field_82 : decode cX4_field 82 = .ok (.goto 7, 3) := by decide +kernel
theorem dX4_field_85 : decode cX4_field 85 = .ok (.aload_n 0, 1) := by decide +kernel
theorem dX4_field_86 : decode cX4_field 86 = .ok (.getfield 123, 3) := by decide +kernel
theorem dX4_field_89 : decode cX4_field 89 = .ok (.putfield 123, 3) := by decide +kernel
theorem dX4_field_92 : decode cX4_field 92 = .ok (.iconst 0, 1) := by decide +kernel
theorem dX4_field_93 : decode cX4_field 93 = .ok (.istore 9, 2) := by decide +kernel
theorem dX4_field_95 : decode cX4_field 95 = .ok (.iconst 1, 1) := by decide +kernel
theorem dX4_field_96 : decode cX4_field 96 = .ok (.istore 10, 2) := by decide +kernel
theorem dX4_field_98 : decode cX4_field 98 = .ok (.iload 10, 2) := by decide +kernel
theorem dX4_field_100 : decode cX4_field 100 = .ok (.iconst 5, 1) := by decide +kernel
theorem dX4_field_101 : decode cX4_field 101 = .ok (.if_icmp .ge 38, 3) := by decide +kernel
theorem dX4_field_104 : decode cX4_field 104 = .ok (.iload 10, 2) := by decide +kernel
theorem dX4_field_106 : decode cX4_field 106 = .ok (.lload_n 2, 1) := by decide +kernel
theorem dX4_field_107 : decode cX4_field 107 = .ok (.lload 4, 2) := by decide +kernel
theorem dX4_field_109 : decode cX4_field 109 = .ok (.invokestatic 126, 3) := by decide +kernel
theorem dX4_field_112 : decode cX4_field 112 = .ok (.iload 9, 2) := by decide +kernel
theorem dX4_field_114 : decode cX4_field 114 = .ok (.lload_n 2, 1) := by decide +kernel
theorem dX4_field_115 : decode cX4_field 115 = .ok (.lload 4, 2) := by decide +kernel
theorem dX4_field_117 : decode cX4_field 117 = .ok (.invokestatic 126, 3) := by decide +kernel
theorem dX4_field_120 : decode cX4_field 120 = .ok (.lcmp, 1) := by decide +kernel
theorem dX4_field_121 : decode cX4_field 121 = .ok (.ifCond .ge 8, 3) := by decide +kernel
theorem dX4_field_124 : decode cX4_field 124 = .ok (.iload 10, 2) := by decide +kernel
theorem dX4_field_126 : decode cX4_field 126 = .ok (.goto 5, 3) := by decide +kernel
theorem dX4_field_129 : decode cX4_field 129 = .ok (.iload 9, 2) := by decide +kernel
theorem dX4_field_131 : decode cX4_field 131 = .ok (.istore 9, 2) := by decide +kernel
theorem dX4_field_133 : decode cX4_field 133 = .ok (.iinc 10 1, 3) := by decide +kernel
theorem dX4_field_136 : decode cX4_field 136 = .ok (.goto (-38), 3) := by decide +kernel
theorem dX4_field_139 : decode cX4_field 139 = .ok (.aload_n 0, 1) := by decide +kernel
theorem dX4_field_140 : decode cX4_field 140 = .ok (.getfield 20, 3) := by decide +kernel
theorem dX4_field_143 : decode cX4_field 143 = .ok (.iload_n 1, 1) := by decide +kernel
theorem dX4_field_144 : decode cX4_field 144 = .ok (.baload, 1) := by decide +kernel
theorem dX4_field_145 : decode cX4_field 145 = .ok (.ifCond .eq 12, 3) := by decide +kernel
theorem dX4_field_148 : decode cX4_field 148 = .ok (.iload 8, 2) := by decide +kernel
theorem dX4_field_150 : decode cX4_field 150 = .ok (.ifCond .ne 7, 3) := by decide +kernel
theorem dX4_field_153 : decode cX4_field 153 = .ok (.iconst 1, 1) := by decide +kernel
theorem dX4_field_154 : decode cX4_field 154 = .ok (.goto 4, 3) := by decide +kernel
theorem dX4_field_157 : decode cX4_field 157 = .ok (.iconst 0, 1) := by decide +kernel
theorem dX4_field_158 : decode cX4_field 158 = .ok (.istore 10, 2) := by decide +kernel
theorem dX4_field_160 : decode cX4_field 160 = .ok (.aload_n 0, 1) := by decide +kernel
theorem dX4_field_161 : decode cX4_field 161 = .ok (.getfield 24, 3) := by decide +kernel
theorem dX4_field_164 : decode cX4_field 164 = .ok (.iload_n 1, 1) := by decide +kernel
theorem dX4_field_165 : decode cX4_field 165 = .ok (.iload 10, 2) := by decide +kernel
theorem dX4_field_167 : decode cX4_field 167 = .ok (.ifCond .eq 22, 3) := by decide +kernel
theorem dX4_field_170 : decode cX4_field 170 = .ok (.iload 9, 2) := by decide +kernel
theorem dX4_field_172 : decode cX4_field 172 = .ok (.lload_n 2, 1) := by decide +kernel
theorem dX4_field_173 : decode cX4_field 173 = .ok (.lload 4, 2) := by decide +kernel
theorem dX4_field_175 : decode cX4_field 175 = .ok (.invokestatic 126, 3) := by decide +kernel
theorem dX4_field_178 : decode cX4_field 178 = .ok (.ldc2_w 130, 3) := by decide +kernel
theorem dX4_field_181 : decode cX4_field 181 = .ok (.lcmp, 1) := by decide +kernel
theorem dX4_field_182 : decode cX4_field 182 = .ok (.ifCond .gt 7, 3) := by decide +kernel
theorem dX4_field_185 : decode cX4_field 185 = .ok (.iconst 1, 1) := by decide +kernel
theorem dX4_field_186 : decode cX4_field 186 = .ok (.goto 4, 3) := by decide +kernel
theorem dX4_field_189 : decode cX4_field 189 = .ok (.iconst 0, 1) := by decide +kernel
theorem dX4_field_190 : decode cX4_field 190 = .ok (.bastore, 1) := by decide +kernel
theorem dX4_field_191 : decode cX4_field 191 = .ok (.aload_n 0, 1) := by decide +kernel
theorem dX4_field_192 : decode cX4_field 192 = .ok (.getfield 27, 3) := by decide +kernel
theorem dX4_field_195 : decode cX4_field 195 = .ok (.iload_n 1, 1) := by decide +kernel
theorem dX4_field_196 : decode cX4_field 196 = .ok (.iload 10, 2) := by decide +kernel
theorem dX4_field_198 : decode cX4_field 198 = .ok (.ifCond .eq 41, 3) := by decide +kernel
theorem dX4_field_201 : decode cX4_field 201 = .ok (.lload_n 2, 1) := by decide +kernel
theorem dX4_field_202 : decode cX4_field 202 = .ok (.ldc2_w 132, 3) := by decide +kernel
theorem dX4_field_205 : decode cX4_field 205 = .ok (.lcmp, 1) := by decide +kernel
theorem dX4_field_206 : decode cX4_field 206 = .ok (.ifCond .lt 33, 3) := by decide +kernel
theorem dX4_field_209 : decode cX4_field 209 = .ok (.lload_n 2, 1) := by decide +kernel
theorem dX4_field_210 : decode cX4_field 210 = .ok (.ldc2_w 121, 3) := by decide +kernel
theorem dX4_field_213 : decode cX4_field 213 = .ok (.lcmp, 1) := by decide +kernel
theorem dX4_field_214 : decode cX4_field 214 = .ok (.ifCond .gt 25, 3) := by decide +kernel
theorem dX4_field_217 : decode cX4_field 217 = .ok (.lload 4, 2) := by decide +kernel
theorem dX4_field_219 : decode cX4_field 219 = .ok (.ldc2_w 134, 3) := by decide +kernel
theorem dX4_field_222 : decode cX4_field 222 = .ok (.lcmp, 1) := by decide +kernel
theorem dX4_field_223 : decode cX4_field 223 = .ok (.ifCond .lt 16, 3) := by decide +kernel
theorem dX4_field_226 : decode cX4_field 226 = .ok (.lload 4, 2) := by decide +kernel
theorem dX4_field_228 : decode cX4_field 228 = .ok (.ldc2_w 136, 3) := by decide +kernel
theorem dX4_field_231 : decode cX4_field 231 = .ok (.lcmp, 1) := by decide +kernel
theorem dX4_field_232 : decode cX4_field 232 = .ok (.ifCond .gt 7, 3) := by decide +kernel
theorem dX4_field_235 : decode cX4_field 235 = .ok (.iconst 1, 1) := by decide +kernel
theorem dX4_field_236 : decode cX4_field 236 = .ok (.goto 4, 3) := by decide +kernel
theorem dX4_field_239 : decode cX4_field 239 = .ok (.iconst 0, 1) := by decide +kernel
theorem dX4_field_240 : decode cX4_field 240 = .ok (.bastore, 1) := by decide +kernel
theorem dX4_field_241 : decode cX4_field 241 = .ok (.aload_n 0, 1) := by decide +kernel
theorem dX4_field_242 : decode cX4_field 242 = .ok (.getfield 24, 3) := by decide +kernel
theorem dX4_field_245 : decode cX4_field 245 = .ok (.iload_n 1, 1) := by decide +kernel
theorem dX4_field_246 : decode cX4_field 246 = .ok (.baload, 1) := by decide +kernel
theorem dX4_field_247 : decode cX4_field 247 = .ok (.ifCond .eq 27, 3) := by decide +kernel
theorem dX4_field_250 : decode cX4_field 250 = .ok (.aload_n 0, 1) := by decide +kernel
theorem dX4_field_251 : decode cX4_field 251 = .ok (.getfield 27, 3) := by decide +kernel
theorem dX4_field_254 : decode cX4_field 254 = .ok (.iload_n 1, 1) := by decide +kernel
theorem dX4_field_255 : decode cX4_field 255 = .ok (.baload, 1) := by decide +kernel
theorem dX4_field_256 : decode cX4_field 256 = .ok (.ifCond .ne 18, 3) := by decide +kernel
theorem dX4_field_259 : decode cX4_field 259 = .ok (.aload_n 0, 1) := by decide +kernel
theorem dX4_field_260 : decode cX4_field 260 = .ok (.iload 9, 2) := by decide +kernel
theorem dX4_field_262 : decode cX4_field 262 = .ok (.iload 9, 2) := by decide +kernel
theorem dX4_field_264 : decode cX4_field 264 = .ok (.iconst 1, 1) := by decide +kernel
theorem dX4_field_265 : decode cX4_field 265 = .ok (.iadd, 1) := by decide +kernel
theorem dX4_field_266 : decode cX4_field 266 = .ok (.iconst 3, 1) := by decide +kernel
theorem dX4_field_267 : decode cX4_field 267 = .ok (.iconst 0, 1) := by decide +kernel
theorem dX4_field_268 : decode cX4_field 268 = .ok (.invokevirtual 71, 3) := by decide +kernel
theorem dX4_field_271 : decode cX4_field 271 = .ok (.goto 4, 3) := by decide +kernel
theorem dX4_field_274 : decode cX4_field 274 = .ok (.iconst 0, 1) := by decide +kernel
theorem dX4_field_275 : decode cX4_field 275 = .ok (.istore 11, 2) := by decide +kernel
theorem dX4_field_277 : decode cX4_field 277 = .ok (.aload_n 0, 1) := by decide +kernel
theorem dX4_field_278 : decode cX4_field 278 = .ok (.getfield 24, 3) := by decide +kernel
theorem dX4_field_281 : decode cX4_field 281 = .ok (.iload_n 1, 1) := by decide +kernel
theorem dX4_field_282 : decode cX4_field 282 = .ok (.baload, 1) := by decide +kernel
theorem dX4_field_283 : decode cX4_field 283 = .ok (.ifCond .ne 12, 3) := by decide +kernel
theorem dX4_field_286 : decode cX4_field 286 = .ok (.aload_n 0, 1) := by decide +kernel
theorem dX4_field_287 : decode cX4_field 287 = .ok (.getfield 27, 3) := by decide +kernel
theorem dX4_field_290 : decode cX4_field 290 = .ok (.iload_n 1, 1) := by decide +kernel
theorem dX4_field_291 : decode cX4_field 291 = .ok (.baload, 1) := by decide +kernel
theorem dX4_field_292 : decode cX4_field 292 = .ok (.ifCond .eq 7, 3) := by decide +kernel
theorem dX4_field_295 : decode cX4_field 295 = .ok (.iconst 1, 1) := by decide +kernel
theorem dX4_field_296 : decode cX4_field 296 = .ok (.goto 4, 3) := by decide +kernel
theorem dX4_field_299 : decode cX4_field 299 = .ok (.iconst 0, 1) := by decide +kernel
theorem dX4_field_300 : decode cX4_field 300 = .ok (.ireturn, 1) := by decide +kernel
set_option maxRecDepth 20000 in
theorem ggX4_start_X4_none : GoodIn wsX4_start wsX4_none := goodIn_r _ [13, 14, 15, 21, 22, 23, 24, 25, 26, 27, 28, 29, 30, 31, 32, 33, 34, 35, 36, 37, 38, 39, 40] (by decide +kernel) (by decide +kernel)
set_option maxRecDepth 20000 in
theorem gX4_start_X4_none : GoodIn wsX4_start (wsV RX4 99 RX4 yX4_none wsX4_none) := goodIn_app (goodIn_of _ (by decide +kernel)) ggX4_start_X4_none
set_option maxRecDepth 20000 in
theorem ggX4_start_X4_rounds : GoodIn wsX4_start wsX4_rounds := goodIn_r _ [18, 5, 19, 20] (by decide +kernel) (by decide +kernel)
set_option maxRecDepth 20000 in
theorem gX4_start_X4_rounds : GoodIn wsX4_start (va_wsS RX4 56 yX4_rounds wsX4_rounds) := goodIn_app (goodIn_of _ (by decide +kernel)) ggX4_start_X4_rounds
theorem dX4_start_0 : decode cX4_start 0 = .ok (.aload_n 0, 1) := by decide +kernel
theorem dX4_start_1 : decode cX4_start 1 = .ok (.iload_n 1, 1) := by decide +kernel
theorem dX4_start_2 : decode cX4_start 2 = .ok (.invokevirtual 99, 3) := by decide +kernel
theorem dX4_start_5 : decode cX4_start 5 = .ok (.ifCond .eq 5, 3) := by decide +kernel
theorem dX4_start_8 : decode cX4_start 8 = .ok (.iconst (-1), 1) := by decide +kernel
theorem dX4_start_9 : decode cX4_start 9 = .ok (.ireturn, 1) := by decide +kernel
theorem dX4_start_10 : decode cX4_start 10 = .ok (.aload_n 0, 1) := by decide +kernel
theorem dX4_start_11 : decode cX4_start 11 = .ok (.dup, 1) := by decide +kernel
theorem dX4_start_12 : decode cX4_start 12 = .ok (.getfield 138, 3) := by decide +kernel
theorem dX4_start_15 : decode cX4_start 15 = .ok (.iconst 1, 1) := by decide +kernel
theorem dX4_start_16 : decode cX4_start 16 = .ok (.iadd, 1) := by decide +kernel
theorem dX4_start_17 : decode cX4_start 17 = .ok (.putfield 138, 3) := by decide +kernel
theorem dX4_start_20 : decode cX4_start 20 = .ok (.ldc2_w 141, 3) := by decide +kernel
theorem dX4_start_23 : decode cX4_start 23 = .ok (.aload_n 0, 1) := by decide +kernel
theorem dX4_start_24 : decode cX4_start 24 = .ok (.getfield 138, 3) := by decide +kernel
theorem dX4_start_27 : decode cX4_start 27 = .ok (.i2l, 1) := by decide +kernel
theorem dX4_start_28 : decode cX4_start 28 = .ok (.lmul, 1) := by decide +kernel
theorem dX4_start_29 : decode cX4_start 29 = .ok (.ldc2_w 143, 3) := by decide +kernel
theorem dX4_start_32 : decode cX4_start 32 = .ok (.land, 1) := by decide +kernel
theorem dX4_start_33 : decode cX4_start 33 = .ok (.lstore 4, 2) := by decide +kernel
theorem dX4_start_35 : decode cX4_start 35 = .ok (.aload_n 0, 1) := by decide +kernel
theorem dX4_start_36 : decode cX4_start 36 = .ok (.getfield 7, 3) := by decide +kernel
theorem dX4_start_39 : decode cX4_start 39 = .ok (.iload_n 1, 1) := by decide +kernel
theorem dX4_start_40 : decode cX4_start 40 = .ok (.laload, 1) := by decide +kernel
theorem dX4_start_41 : decode cX4_start 41 = .ok (.lload 4, 2) := by decide +kernel
theorem dX4_start_43 : decode cX4_start 43 = .ok (.bipush 16, 2) := by decide +kernel
theorem dX4_start_45 : decode cX4_start 45 = .ok (.lshr, 1) := by decide +kernel
theorem dX4_start_46 : decode cX4_start 46 = .ok (.l2i, 1) := by decide +kernel
theorem dX4_start_47 : decode cX4_start 47 = .ok (.lload 4, 2) := by decide +kernel
theorem dX4_start_49 : decode cX4_start 49 = .ok (.ldc2_w 52, 3) := by decide +kernel
theorem dX4_start_52 : decode cX4_start 52 = .ok (.land, 1) := by decide +kernel
theorem dX4_start_53 : decode cX4_start 53 = .ok (.l2i, 1) := by decide +kernel
theorem dX4_start_54 : decode cX4_start 54 = .ok (.iconst 0, 1) := by decide +kernel
theorem dX4_start_55 : decode cX4_start 55 = .ok (.invokestatic 56, 3) := by decide +kernel
theorem dX4_start_58 : decode cX4_start 58 = .ok (.i2l, 1) := by decide +kernel
theorem dX4_start_59 : decode cX4_start 59 = .ok (.ldc2_w 143, 3) := by decide +kernel
theorem dX4_start_62 : decode cX4_start 62 = .ok (.land, 1) := by decide +kernel
theorem dX4_start_63 : decode cX4_start 63 = .ok (.lstore 6, 2) := by decide +kernel
theorem dX4_start_65 : decode cX4_start 65 = .ok (.aload_n 0, 1) := by decide +kernel
theorem dX4_start_66 : decode cX4_start 66 = .ok (.getfield 20, 3) := by decide +kernel
theorem dX4_start_69 : decode cX4_start 69 = .ok (.iload_n 1, 1) := by decide +kernel
theorem dX4_start_70 : decode cX4_start 70 = .ok (.baload, 1) := by decide +kernel
theorem dX4_start_71 : decode cX4_start 71 = .ok (.ifCond .eq 19, 3) := by decide +kernel
theorem dX4_start_74 : decode cX4_start 74 = .ok (.aload_n 0, 1) := by decide +kernel
theorem dX4_start_75 : decode cX4_start 75 = .ok (.getfield 27, 3) := by decide +kernel
theorem dX4_start_78 : decode cX4_start 78 = .ok (.iload_n 1, 1) := by decide +kernel
theorem dX4_start_79 : decode cX4_start 79 = .ok (.baload, 1) := by decide +kernel
theorem dX4_start_80 : decode cX4_start 80 = .ok (.ifCond .eq 10, 3) := by decide +kernel
theorem dX4_start_83 : decode cX4_start 83 = .ok (.lload_n 2, 1) := by decide +kernel
theorem dX4_start_84 : decode cX4_start 84 = .ok (.lload 6, 2) := by decide +kernel
theorem dX4_start_86 : decode cX4_start 86 = .ok (.lcmp, 1) := by decide +kernel
theorem dX4_start_87 : decode cX4_start 87 = .ok (.ifCond .eq 5, 3) := by decide +kernel
theorem dX4_start_90 : decode cX4_start 90 = .ok (.iconst 0, 1) := by decide +kernel
theorem dX4_start_91 : decode cX4_start 91 = .ok (.ireturn, 1) := by decide +kernel
theorem dX4_start_92 : decode cX4_start 92 = .ok (.aload_n 0, 1) := by decide +kernel
theorem dX4_start_93 : decode cX4_start 93 = .ok (.iconst 0, 1) := by decide +kernel
theorem dX4_start_94 : decode cX4_start 94 = .ok (.putfield 75, 3) := by decide +kernel
theorem dX4_start_97 : decode cX4_start 97 = .ok (.iconst 1, 1) := by decide +kernel
theorem dX4_start_98 : decode cX4_start 98 = .ok (.ireturn, 1) := by decide +kernel
set_option maxRecDepth 20000 in
theorem ggX4_crash_X4_turn : GoodIn wsX4_crash wsX4_turn := goodIn_r _ [7, 8, 9, 10, 11, 12, 13, 6, 14, 15, 16, 17, 18, 19, 20, 21, 22, 23, 24, 25, 26, 27, 28, 29, 30, 31, 32, 33, 34] (by decide +kernel) (by decide +kernel)
set_option maxRecDepth 20000 in
theorem gX4_crash_X4_turn : GoodIn wsX4_crash (wsV RX4 71 RX4 yX4_turn wsX4_turn) := goodIn_app (goodIn_of _ (by decide +kernel)) ggX4_crash_X4_turn
theorem dX4_crash_0 : decode cX4_crash 0 = .ok (.aload_n 0, 1) := by decide +kernel
theorem dX4_crash_1 : decode cX4_crash 1 = .ok (.iconst 0, 1) := by decide +kernel
theorem dX4_crash_2 : decode cX4_crash 2 = .ok (.putfield 46, 3) := by decide +kernel
theorem dX4_crash_5 : decode cX4_crash 5 = .ok (.aload_n 0, 1) := by decide +kernel
theorem dX4_crash_6 : decode cX4_crash 6 = .ok (.iconst 1, 1) := by decide +kernel
theorem dX4_crash_7 : decode cX4_crash 7 = .ok (.putfield 75, 3) := by decide +kernel
theorem dX4_crash_10 : decode cX4_crash 10 = .ok (.aload_n 0, 1) := by decide +kernel
theorem dX4_crash_11 : decode cX4_crash 11 = .ok (.iconst 0, 1) := by decide +kernel
theorem dX4_crash_12 : decode cX4_crash 12 = .ok (.iconst 5, 1) := by decide +kernel
theorem dX4_crash_13 : decode cX4_crash 13 = .ok (.iconst 3, 1) := by decide +kernel
theorem dX4_crash_14 : decode cX4_crash 14 = .ok (.iconst 0, 1) := by decide +kernel
theorem dX4_crash_15 : decode cX4_crash 15 = .ok (.invokevirtual 71, 3) := by decide +kernel
theorem dX4_crash_18 : decode cX4_crash 18 = .ok (.ireturn, 1) := by decide +kernel
set_option maxRecDepth 20000 in
theorem ggX4_alarm_X4_some : GoodIn wsX4_alarm wsX4_some := goodIn_r _ [9, 10, 11, 12, 13, 14, 15, 16, 17, 18, 19, 20, 21, 22, 23, 24, 25, 26, 27, 28, 29, 30] (by decide +kernel) (by decide +kernel)
set_option maxRecDepth 20000 in
theorem gX4_alarm_X4_some : GoodIn wsX4_alarm (wsV RX4 60 RX4 yX4_some wsX4_some) := goodIn_app (goodIn_of _ (by decide +kernel)) ggX4_alarm_X4_some
theorem dX4_alarm_0 : decode cX4_alarm 0 = .ok (.aload_n 0, 1) := by decide +kernel
theorem dX4_alarm_1 : decode cX4_alarm 1 = .ok (.iconst 0, 1) := by decide +kernel
theorem dX4_alarm_2 : decode cX4_alarm 2 = .ok (.putfield 46, 3) := by decide +kernel
theorem dX4_alarm_5 : decode cX4_alarm 5 = .ok (.iload_n 1, 1) := by decide +kernel
theorem dX4_alarm_6 : decode cX4_alarm 6 = .ok (.ifCond .lt 9, 3) := by decide +kernel
theorem dX4_alarm_9 : decode cX4_alarm 9 = .ok (.iload_n 1, 1) := by decide +kernel
theorem dX4_alarm_10 : decode cX4_alarm 10 = .ok (.bipush 7, 2) := by decide +kernel
theorem dX4_alarm_12 : decode cX4_alarm 12 = .ok (.if_icmp .le 5, 3) := by decide +kernel
theorem dX4_alarm_15 : decode cX4_alarm 15 = .ok (.iconst (-1), 1) := by decide +kernel
theorem dX4_alarm_16 : decode cX4_alarm 16 = .ok (.ireturn, 1) := by decide +kernel
theorem dX4_alarm_17 : decode cX4_alarm 17 = .ok (.lload_n 2, 1) := by decide +kernel
theorem dX4_alarm_18 : decode cX4_alarm 18 = .ok (.aload_n 0, 1) := by decide +kernel
theorem dX4_alarm_19 : decode cX4_alarm 19 = .ok (.getfield 64, 3) := by decide +kernel
theorem dX4_alarm_22 : decode cX4_alarm 22 = .ok (.lcmp, 1) := by decide +kernel
theorem dX4_alarm_23 : decode cX4_alarm 23 = .ok (.ifCond .ge 6, 3) := by decide +kernel
theorem dX4_alarm_26 : decode cX4_alarm 26 = .ok (.bipush (-2), 2) := by decide +kernel
theorem dX4_alarm_28 : decode cX4_alarm 28 = .ok (.ireturn, 1) := by decide +kernel
theorem dX4_alarm_29 : decode cX4_alarm 29 = .ok (.aload_n 0, 1) := by decide +kernel
theorem dX4_alarm_30 : decode cX4_alarm 30 = .ok (.lload_n 2, 1) := by decide +kernel
theorem dX4_alarm_31 : decode cX4_alarm 31 = .ok (.putfield 64, 3) := by decide +kernel
theorem dX4_alarm_34 : decode cX4_alarm 34 = .ok (.aload_n 0, 1) := by decide +kernel
theorem dX4_alarm_35 : decode cX4_alarm 35 = .ok (.iconst 0, 1) := by decide +kernel
theorem dX4_alarm_36 : decode cX4_alarm 36 = .ok (.invokevirtual 60, 3) := by decide +kernel
theorem dX4_alarm_39 : decode cX4_alarm 39 = .ok (.ifCond .ne 23, 3) := by decide +kernel
theorem dX4_alarm_42 : decode cX4_alarm 42 = .ok (.aload_n 0, 1) := by decide +kernel
theorem dX4_alarm_43 : decode cX4_alarm 43 = .ok (.getfield 64, 3) := by decide +kernel
theorem dX4_alarm_46 : decode cX4_alarm 46 = .ok (.aload_n 0, 1) := by decide +kernel
theorem dX4_alarm_47 : decode cX4_alarm 47 = .ok (.getfield 68, 3) := by decide +kernel
theorem dX4_alarm_50 : decode cX4_alarm 50 = .ok (.lsub, 1) := by decide +kernel
theorem dX4_alarm_51 : decode cX4_alarm 51 = .ok (.ldc2_w 145, 3) := by decide +kernel
theorem dX4_alarm_54 : decode cX4_alarm 54 = .ok (.lcmp, 1) := by decide +kernel
theorem dX4_alarm_55 : decode cX4_alarm 55 = .ok (.ifCond .le 7, 3) := by decide +kernel
theorem dX4_alarm_58 : decode cX4_alarm 58 = .ok (.iconst 1, 1) := by decide +kernel
theorem dX4_alarm_59 : decode cX4_alarm 59 = .ok (.goto 4, 3) := by decide +kernel
theorem dX4_alarm_62 : decode cX4_alarm 62 = .ok (.iconst 0, 1) := by decide +kernel
theorem dX4_alarm_63 : decode cX4_alarm 63 = .ok (.ireturn, 1) := by decide +kernel
set_option maxRecDepth 20000 in
theorem ggX4_battery_X4_none : GoodIn wsX4_battery wsX4_none := goodIn_r _ [6, 7, 8, 9, 10, 11, 12, 13, 14, 15, 16, 17, 18, 19, 20, 21, 22, 23, 24, 25, 26, 27, 28] (by decide +kernel) (by decide +kernel)
set_option maxRecDepth 20000 in
theorem gX4_battery_X4_none : GoodIn wsX4_battery (wsV RX4 99 RX4 yX4_none wsX4_none) := goodIn_app (goodIn_of _ (by decide +kernel)) ggX4_battery_X4_none
theorem dX4_battery_0 : decode cX4_battery 0 = .ok (.aload_n 0, 1) := by decide +kernel
theorem dX4_battery_1 : decode cX4_battery 1 = .ok (.iload_n 1, 1) := by decide +kernel
theorem dX4_battery_2 : decode cX4_battery 2 = .ok (.invokevirtual 99, 3) := by decide +kernel
theorem dX4_battery_5 : decode cX4_battery 5 = .ok (.ifCond .eq 7, 3) := by decide +kernel
theorem dX4_battery_8 : decode cX4_battery 8 = .ok (.iconst (-1), 1) := by decide +kernel
theorem dX4_battery_9 : decode cX4_battery 9 = .ok (.goto 9, 3) := by decide +kernel
theorem dX4_battery_12 : decode cX4_battery 12 = .ok (.aload_n 0, 1) := by decide +kernel
theorem dX4_battery_13 : decode cX4_battery 13 = .ok (.getfield 30, 3) := by decide +kernel
theorem dX4_battery_16 : decode cX4_battery 16 = .ok (.iload_n 1, 1) := by decide +kernel
theorem dX4_battery_17 : decode cX4_battery 17 = .ok (.iaload, 1) := by decide +kernel
theorem dX4_battery_18 : decode cX4_battery 18 = .ok (.ireturn, 1) := by decide +kernel
theorem dX4_octet_0 : decode cX4_octet 0 = .ok (.aload_n 0, 1) := by decide +kernel
theorem dX4_octet_1 : decode cX4_octet 1 = .ok (.iload_n 1, 1) := by decide +kernel
theorem dX4_octet_2 : decode cX4_octet 2 = .ok (.ifCond .lt 11, 3) := by decide +kernel
theorem dX4_octet_5 : decode cX4_octet 5 = .ok (.iload_n 1, 1) := by decide +kernel
theorem dX4_octet_6 : decode cX4_octet 6 = .ok (.aload_n 0, 1) := by decide +kernel
theorem dX4_octet_7 : decode cX4_octet 7 = .ok (.getfield 82, 3) := by decide +kernel
theorem dX4_octet_10 : decode cX4_octet 10 = .ok (.if_icmp .lt 7, 3) := by decide +kernel
theorem dX4_octet_13 : decode cX4_octet 13 = .ok (.iconst 1, 1) := by decide +kernel
theorem dX4_octet_14 : decode cX4_octet 14 = .ok (.goto 4, 3) := by decide +kernel
theorem dX4_octet_17 : decode cX4_octet 17 = .ok (.iconst 0, 1) := by decide +kernel
theorem dX4_octet_18 : decode cX4_octet 18 = .ok (.putfield 46, 3) := by decide +kernel
theorem dX4_octet_21 : decode cX4_octet 21 = .ok (.aload_n 0, 1) := by decide +kernel
theorem dX4_octet_22 : decode cX4_octet 22 = .ok (.getfield 46, 3) := by decide +kernel
theorem dX4_octet_25 : decode cX4_octet 25 = .ok (.ifCond .le 7, 3) := by decide +kernel
theorem dX4_octet_28 : decode cX4_octet 28 = .ok (.iconst 0, 1) := by decide +kernel
theorem dX4_octet_29 : decode cX4_octet 29 = .ok (.goto 10, 3) := by decide +kernel
theorem dX4_octet_32 : decode cX4_octet 32 = .ok (.aload_n 0, 1) := by decide +kernel
theorem dX4_octet_33 : decode cX4_octet 33 = .ok (.getfield 39, 3) := by decide +kernel
theorem dX4_octet_36 : decode cX4_octet 36 = .ok (.iload_n 1, 1) := by decide +kernel
theorem dX4_octet_37 : decode cX4_octet 37 = .ok (.iaload, 1) := by decide +kernel
theorem dX4_octet_38 : decode cX4_octet 38 = .ok (.i2b, 1) := by decide +kernel
theorem dX4_octet_39 : decode cX4_octet 39 = .ok (.ireturn, 1) := by decide +kernel
theorem dX4_state_0 : decode cX4_state 0 = .ok (.aload_n 0, 1) := by decide +kernel
theorem dX4_state_1 : decode cX4_state 1 = .ok (.iconst 0, 1) := by decide +kernel
theorem dX4_state_2 : decode cX4_state 2 = .ok (.putfield 46, 3) := by decide +kernel
theorem dX4_state_5 : decode cX4_state 5 = .ok (.iload_n 1, 1) := by decide +kernel
theorem dX4_state_6 : decode cX4_state 6 = .ok (.ifCond .lt 9, 3) := by decide +kernel
theorem dX4_state_9 : decode cX4_state 9 = .ok (.iload_n 1, 1) := by decide +kernel
theorem dX4_state_10 : decode cX4_state 10 = .ok (.bipush 6, 2) := by decide +kernel
theorem dX4_state_12 : decode cX4_state 12 = .ok (.if_icmp .le 5, 3) := by decide +kernel
theorem dX4_state_15 : decode cX4_state 15 = .ok (.iconst (-1), 1) := by decide +kernel
theorem dX4_state_16 : decode cX4_state 16 = .ok (.ireturn, 1) := by decide +kernel
theorem dX4_state_17 : decode cX4_state 17 = .ok (.iload_n 1, 1) := by decide +kernel
theorem dX4_state_18 : decode cX4_state 18 = .ok (.iconst 5, 1) := by decide +kernel
theorem dX4_state_19 : decode cX4_state 19 = .ok (.if_icmp .ne 10, 3) := by decide +kernel
theorem dX4_state_22 : decode cX4_state 22 = .ok (.aload_n 0, 1) := by decide +kernel
theorem dX4_state_23 : decode cX4_state 23 = .ok (.getfield 123, 3) := by decide +kernel
theorem dX4_state_26 : decode cX4_state 26 = .ok (.goto 22, 3) := by decide +kernel
theorem dX4_state_29 : decode cX4_state 29 = .ok (.iload_n 1, 1) := by decide +kernel
theorem dX4_state_30 : decode cX4_state 30 = .ok (.bipush 6, 2) := by decide +kernel
theorem dX4_state_32 : decode cX4_state 32 = .ok (.if_icmp .ne 10, 3) := by decide +kernel
theorem dX4_state_35 : decode cX4_state 35 = .ok (.aload_n 0, 1) := by decide +kernel
theorem dX4_state_36 : decode cX4_state 36 = .ok (.getfield 138, 3) := by decide +kernel
theorem dX4_state_39 : decode cX4_state 39 = .ok (.goto 9, 3) := by decide +kernel
theorem dX4_state_42 : decode cX4_state 42 = .ok (.aload_n 0, 1) := by decide +kernel
theorem dX4_state_43 : decode cX4_state 43 = .ok (.getfield 33, 3) := by decide +kernel
theorem dX4_state_46 : decode cX4_state 46 = .ok (.iload_n 1, 1) := by decide +kernel
theorem dX4_state_47 : decode cX4_state 47 = .ok (.iaload, 1) := by decide +kernel
theorem dX4_state_48 : decode cX4_state 48 = .ok (.ireturn, 1) := by decide +kernel
theorem dJx00060_init_da8c8_0 : decode cJx00060_init_da8c8 0 = .ok (.aload_n 0, 1) := by decide +kernel
theorem dJx00060_init_da8c8_1 : decode cJx00060_init_da8c8 1 = .ok (.invokespecial 1, 3) := by decide +kernel
theorem dJx00060_init_da8c8_4 : decode cJx00060_init_da8c8 4 = .ok (.return_, 1) := by decide +kernel
theorem dL_cell_0 : decode cL_cell 0 = .ok (.iload_n 1, 1) := by decide +kernel
theorem dL_cell_1 : decode cL_cell 1 = .ok (.aload_n 0, 1) := by decide +kernel
theorem dL_cell_2 : decode cL_cell 2 = .ok (.arraylength, 1) := by decide +kernel
theorem dL_cell_3 : decode cL_cell 3 = .ok (.if_icmp .ge 9, 3) := by decide +kernel
theorem dL_cell_6 : decode cL_cell 6 = .ok (.aload_n 0, 1) := by decide +kernel
theorem dL_cell_7 : decode cL_cell 7 = .ok (.iload_n 1, 1) := by decide +kernel
theorem dL_cell_8 : decode cL_cell 8 = .ok (.iaload, 1) := by decide +kernel
theorem dL_cell_9 : decode cL_cell 9 = .ok (.goto 4, 3) := by decide +kernel
theorem dL_cell_12 : decode cL_cell 12 = .ok (.iconst 0, 1) := by decide +kernel
theorem dL_cell_13 : decode cL_cell 13 = .ok (.ireturn, 1) := by decide +kernel
set_option maxRecDepth 20000 in
theorem ggL_octet_X3_octet : GoodIn wsL_octet wsX3_octet := goodIn_r _ [5, 6, 7, 8, 9, 10, 11, 12, 13, 14, 15, 16, 17, 18, 19, 20, 21, 22, 23, 24, 25, 26, 27, 28, 29, 30, 31, 32, 33, 34] (by decide +kernel) (by decide +kernel)
set_option maxRecDepth 20000 in
theorem gL_octet_X3_octet : GoodIn wsL_octet (wsV RL 7 RX3 yX3_octet wsX3_octet) := goodIn_app (goodIn_of _ (by decide +kernel)) ggL_octet_X3_octet
theorem dL_octet_0 : decode cL_octet 0 = .ok (.aload_n 2, 1) := by decide +kernel
theorem dL_octet_1 : decode cL_octet 1 = .ok (.iconst 0, 1) := by decide +kernel
theorem dL_octet_2 : decode cL_octet 2 = .ok (.aload_n 0, 1) := by decide +kernel
theorem dL_octet_3 : decode cL_octet 3 = .ok (.iload_n 1, 1) := by decide +kernel
theorem dL_octet_4 : decode cL_octet 4 = .ok (.invokevirtual 7, 3) := by decide +kernel
theorem dL_octet_7 : decode cL_octet 7 = .ok (.i2l, 1) := by decide +kernel
theorem dL_octet_8 : decode cL_octet 8 = .ok (.lastore, 1) := by decide +kernel
theorem dL_octet_9 : decode cL_octet 9 = .ok (.goto 6, 3) := by decide +kernel
theorem dL_octet_12 : decode cL_octet 12 = .ok (.astore_n 3, 1) := by decide +kernel
theorem dL_octet_13 : decode cL_octet 13 = .ok (.iconst 1, 1) := by decide +kernel
theorem dL_octet_14 : decode cL_octet 14 = .ok (.ireturn, 1) := by decide +kernel
theorem dL_octet_15 : decode cL_octet 15 = .ok (.iconst 0, 1) := by decide +kernel
theorem dL_octet_16 : decode cL_octet 16 = .ok (.ireturn, 1) := by decide +kernel
set_option maxRecDepth 20000 in
theorem ggL_law_L_cell : GoodIn wsL_law wsL_cell := goodIn_r _ [11] (by decide +kernel) (by decide +kernel)
set_option maxRecDepth 20000 in
theorem gL_law_L_cell : GoodIn wsL_law (va_wsS RL 15 yL_cell wsL_cell) := goodIn_app (goodIn_of _ (by decide +kernel)) ggL_law_L_cell
set_option maxRecDepth 20000 in
theorem ggL_law_X3_init : GoodIn wsL_law wsX3_init := goodIn_r _ [14, 15, 16, 17, 18, 19, 20, 21, 22, 23, 24, 25, 26, 27, 28, 29, 30, 31, 32, 33, 34, 35, 36, 37, 38, 39, 40, 41, 425, 426, 427, 428, 429, 430, 431, 432, 433, 454, 455, 456, 457, 458] (by decide +kernel) (by decide +kernel)
set_option maxRecDepth 20000 in
theorem gL_law_X3_init : GoodIn wsL_law (wsX3_init) := ggL_law_X3_init
set_option maxRecDepth 20000 in
theorem ggL_law_X4_init : GoodIn wsL_law wsX4_init := goodIn_r _ [44, 45, 16, 17, 6, 46, 40, 47, 48, 49, 50, 51, 52, 53, 54, 55, 56, 57, 434, 435, 436, 437, 438, 439, 440, 441, 442, 443, 444, 445, 446, 447, 448, 449, 450, 451, 452, 453] (by decide +kernel) (by decide +kernel)
set_option maxRecDepth 20000 in
theorem gL_law_X4_init : GoodIn wsL_law (wsX4_init) := ggL_law_X4_init
set_option maxRecDepth 20000 in
theorem ggL_law_X3_key : GoodIn wsL_law wsX3_key := goodIn_r _ [61, 62, 63, 20, 19, 64, 65, 66, 67, 68, 2, 69, 70, 71, 72, 73, 74, 75, 76, 77, 78, 16, 17, 79, 80, 81, 82, 425, 426, 427, 428, 429, 430, 431, 432, 433, 459, 460, 461, 462, 463, 464, 465] (by decide +kernel) (by decide +kernel)
set_option maxRecDepth 20000 in
theorem gL_law_X3_key : GoodIn wsL_law (wsV RL 29 RX3 yX3_key wsX3_key) := goodIn_app (goodIn_of _ (by decide +kernel)) ggL_law_X3_key
set_option maxRecDepth 20000 in
theorem ggL_law_X4_key : GoodIn wsL_law wsX4_key := goodIn_r _ [86, 87, 88, 89, 46, 47, 48, 50, 434, 435, 436, 437, 438, 439, 440, 441, 442, 443, 444, 445, 446, 447, 448, 449, 450, 451, 452, 453] (by decide +kernel) (by decide +kernel)
set_option maxRecDepth 20000 in
theorem gL_law_X4_key : GoodIn wsL_law (wsV RL 33 RX4 yX4_key wsX4_key) := goodIn_app (goodIn_of _ (by decide +kernel)) ggL_law_X4_key
set_option maxRecDepth 20000 in
theorem ggL_law_X3_remote : GoodIn wsL_law wsX3_remote := goodIn_r _ [93, 24, 25, 94, 95, 96, 23, 97, 98, 35, 99, 100, 101, 102, 103, 104, 105, 2, 106, 107, 108, 18, 109, 110, 111, 112, 113, 114, 115, 116, 117, 118, 119, 120, 121, 122, 123, 124, 125, 126, 127, 128, 129, 71, 72, 73, 74, 63, 20, 130, 131, 132, 133, 134, 135, 136, 137, 65, 138, 139, 140, 141, 142, 143, 144, 145, 146, 147, 148, 79, 149, 150, 151, 152, 153, 154, 155, 156, 157, 158, 159, 160, 80, 161, 81, 162, 163, 164, 165, 166, 167, 168, 169, 29, 170, 171, 172, 173, 28, 174, 175, 176, 177, 178, 41, 179, 180, 181, 182, 183, 184, 185, 186, 187, 188, 189, 190, 191, 192, 193, 194, 195, 196, 197, 198, 199, 200, 425, 426, 427, 428, 429, 430, 431, 432, 433, 454, 455, 459, 460, 461, 462, 463, 464, 465, 456, 457, 458] (by decide +kernel) (by decide +kernel)
set_option maxRecDepth 20000 in
theorem gL_law_X3_remote : GoodIn wsL_law (wsV RL 34 RX3 yX3_remote wsX3_remote) := goodIn_app (goodIn_of _ (by decide +kernel)) ggL_law_X3_remote
set_option maxRecDepth 20000 in
theorem ggL_law_X4_remote : GoodIn wsL_law wsX4_remote := goodIn_r _ [204, 87, 205, 55, 206, 56, 89, 50, 46, 207, 47, 208, 48, 209, 57, 53, 210, 211, 5, 212, 213, 214, 215, 88, 216, 217, 218, 219, 220, 221, 222, 223, 224, 225, 226, 227, 228, 54, 229, 230, 231, 232, 233, 234, 434, 435, 436, 437, 438, 439, 440, 441, 442, 443, 444, 445, 446, 447, 448, 449, 450, 451, 452, 453] (by decide +kernel) (by decide +kernel)
set_option maxRecDepth 20000 in
theorem gL_law_X4_remote : GoodIn wsL_law (wsV RL 38 RX4 yX4_remote wsX4_remote) := goodIn_app (goodIn_of _ (by decide +kernel)) ggL_law_X4_remote
set_option maxRecDepth 20000 in
theorem ggL_law_X3_counter : GoodIn wsL_law wsX3_counter := goodIn_r _ [238, 239, 240, 71, 72, 73, 2, 74, 63, 20, 459, 460, 461, 462, 463, 464, 465, 425, 426, 427, 428, 429, 430, 431, 432, 433] (by decide +kernel) (by decide +kernel)
set_option maxRecDepth 20000 in
theorem gL_law_X3_counter : GoodIn wsL_law (wsV RL 39 RX3 yX3_counter wsX3_counter) := goodIn_app (goodIn_of _ (by decide +kernel)) ggL_law_X3_counter
set_option maxRecDepth 20000 in
theorem ggL_law_X4_counter : GoodIn wsL_law wsX4_counter := goodIn_r _ [244, 245, 47, 246, 247, 248, 5, 249, 87, 89, 434, 435, 436, 437, 438, 439, 440, 441, 442, 443, 444, 445, 446, 447, 448, 449, 450, 451, 452, 453] (by decide +kernel) (by decide +kernel)
set_option maxRecDepth 20000 in
theorem gL_law_X4_counter : GoodIn wsL_law (wsV RL 43 RX4 yX4_counter wsX4_counter) := goodIn_app (goodIn_of _ (by decide +kernel)) ggL_law_X4_counter
set_option maxRecDepth 20000 in
theorem ggL_law_X3_lock : GoodIn wsL_law wsX3_lock := goodIn_r _ [253, 29, 170, 254, 194, 195, 28, 196, 41, 171, 172, 173, 174, 175, 176, 177, 178, 197, 198, 199, 200, 193, 255, 256, 257, 258, 187, 188, 189, 190, 191, 192, 183, 184, 185, 186, 425, 426, 427, 428, 429, 430, 431, 432, 433, 456, 457, 458] (by decide +kernel) (by decide +kernel)
set_option maxRecDepth 20000 in
theorem gL_law_X3_lock : GoodIn wsL_law (wsV RL 44 RX3 yX3_lock wsX3_lock) := goodIn_app (goodIn_of _ (by decide +kernel)) ggL_law_X3_lock
set_option maxRecDepth 20000 in
theorem ggL_law_X4_lock : GoodIn wsL_law wsX4_lock := goodIn_r _ [262, 87, 224, 225, 226, 227, 5, 228, 54, 229, 230, 231, 232, 233, 234, 434, 435, 436, 437, 438, 439, 440, 441, 442, 443, 444, 445, 446, 447, 448, 449, 450, 451, 452, 453] (by decide +kernel) (by decide +kernel)
set_option maxRecDepth 20000 in
theorem gL_law_X4_lock : GoodIn wsL_law (wsV RL 48 RX4 yX4_lock wsX4_lock) := goodIn_app (goodIn_of _ (by decide +kernel)) ggL_law_X4_lock
set_option maxRecDepth 20000 in
theorem ggL_law_X3_learn : GoodIn wsL_law wsX3_learn := goodIn_r _ [266, 107, 71, 72, 73, 2, 74, 63, 20, 267, 268, 269, 65, 270, 82, 271, 272, 273, 274, 275, 276, 459, 460, 461, 462, 463, 464, 465, 425, 426, 427, 428, 429, 430, 431, 432, 433] (by decide +kernel) (by decide +kernel)
set_option maxRecDepth 20000 in
theorem gL_law_X3_learn : GoodIn wsL_law (wsV RL 49 RX3 yX3_learn wsX3_learn) := goodIn_app (goodIn_of _ (by decide +kernel)) ggL_law_X3_learn
set_option maxRecDepth 20000 in
theorem ggL_law_X4_learn : GoodIn wsL_law wsX4_learn := goodIn_r _ [280, 50, 246, 247, 248, 5, 249, 87, 89, 281, 282, 283, 284, 51, 52, 434, 435, 436, 437, 438, 439, 440, 441, 442, 443, 444, 445, 446, 447, 448, 449, 450, 451, 452, 453] (by decide +kernel) (by decide +kernel)
set_option maxRecDepth 20000 in
theorem gL_law_X4_learn : GoodIn wsL_law (wsV RL 53 RX4 yX4_learn wsX4_learn) := goodIn_app (goodIn_of _ (by decide +kernel)) ggL_law_X4_learn
set_option maxRecDepth 20000 in
theorem ggL_law_X3_erase : GoodIn wsL_law wsX3_erase := goodIn_r _ [288, 107, 289, 290, 71, 72, 73, 2, 74, 63, 20, 291, 292, 293, 294, 459, 460, 461, 462, 463, 464, 465, 425, 426, 427, 428, 429, 430, 431, 432, 433] (by decide +kernel) (by decide +kernel)
set_option maxRecDepth 20000 in
theorem gL_law_X3_erase : GoodIn wsL_law (wsV RL 54 RX3 yX3_erase wsX3_erase) := goodIn_app (goodIn_of _ (by decide +kernel)) ggL_law_X3_erase
set_option maxRecDepth 20000 in
theorem ggL_law_X4_erase : GoodIn wsL_law wsX4_erase := goodIn_r _ [298, 89, 50, 51, 52, 246, 247, 248, 5, 249, 87, 434, 435, 436, 437, 438, 439, 440, 441, 442, 443, 444, 445, 446, 447, 448, 449, 450, 451, 452, 453] (by decide +kernel) (by decide +kernel)
set_option maxRecDepth 20000 in
theorem gL_law_X4_erase : GoodIn wsL_law (wsV RL 57 RX4 yX4_erase wsX4_erase) := goodIn_app (goodIn_of _ (by decide +kernel)) ggL_law_X4_erase
set_option maxRecDepth 20000 in
theorem ggL_law_X3_field : GoodIn wsL_law wsX3_field := goodIn_r _ [302, 303, 304, 305, 107, 29, 289, 306, 290, 71, 72, 73, 2, 74, 63, 20, 307, 308, 309, 310, 311, 312, 28, 313, 314, 315, 316, 317, 318, 319, 320, 41, 321, 322, 323, 324, 325, 272, 273, 65, 274, 275, 276, 425, 426, 427, 428, 429, 430, 431, 432, 433, 459, 460, 461, 462, 463, 464, 465, 456, 457, 458] (by decide +kernel) (by decide +kernel)
set_option maxRecDepth 20000 in
theorem gL_law_X3_field : GoodIn wsL_law (wsV RL 58 RX3 yX3_field wsX3_field) := goodIn_app (goodIn_of _ (by decide +kernel)) ggL_law_X3_field
set_option maxRecDepth 20000 in
theorem ggL_law_X4_field : GoodIn wsL_law wsX4_field := goodIn_r _ [329, 330, 331, 332, 333, 50, 51, 334, 52, 335, 336, 337, 246, 247, 248, 5, 249, 87, 89, 338, 339, 340, 341, 342, 343, 344, 345, 225, 226, 227, 228, 54, 229, 230, 231, 232, 233, 234, 434, 435, 436, 437, 438, 439, 440, 441, 442, 443, 444, 445, 446, 447, 448, 449, 450, 451, 452, 453] (by decide +kernel) (by decide +kernel)
set_option maxRecDepth 20000 in
theorem gL_law_X4_field : GoodIn wsL_law (wsV RL 62 RX4 yX4_field wsX4_field) := goodIn_app (goodIn_of _ (by decide +kernel)) ggL_law_X4_field
set_option maxRecDepth 20000 in
theorem ggL_law_X3_start : GoodIn wsL_law wsX3_start := goodIn_r _ [349, 350, 351, 352, 107, 290, 170, 71, 72, 73, 2, 74, 63, 20, 353, 354, 355, 65, 356, 139, 140, 141, 142, 143, 144, 145, 146, 147, 148, 79, 149, 150, 151, 152, 425, 426, 427, 428, 429, 430, 431, 432, 433, 459, 460, 461, 462, 463, 464, 465] (by decide +kernel) (by decide +kernel)
set_option maxRecDepth 20000 in
theorem gL_law_X3_start : GoodIn wsL_law (wsV RL 63 RX3 yX3_start wsX3_start) := goodIn_app (goodIn_of _ (by decide +kernel)) ggL_law_X3_start
set_option maxRecDepth 20000 in
theorem ggL_law_X4_start : GoodIn wsL_law wsX4_start := goodIn_r _ [360, 361, 362, 363, 46, 88, 50, 52, 224, 246, 247, 248, 5, 249, 87, 89, 213, 214, 215, 216, 207, 434, 435, 436, 437, 438, 439, 440, 441, 442, 443, 444, 445, 446, 447, 448, 449, 450, 451, 452, 453] (by decide +kernel) (by decide +kernel)
set_option maxRecDepth 20000 in
theorem gL_law_X4_start : GoodIn wsL_law (wsV RL 67 RX4 yX4_start wsX4_start) := goodIn_app (goodIn_of _ (by decide +kernel)) ggL_law_X4_start
set_option maxRecDepth 20000 in
theorem ggL_law_X3_crash : GoodIn wsL_law wsX3_crash := goodIn_r _ [367, 170, 29, 171, 172, 173, 28, 174, 175, 176, 177, 178, 41, 425, 426, 427, 428, 429, 430, 431, 432, 433, 456, 457, 458] (by decide +kernel) (by decide +kernel)
set_option maxRecDepth 20000 in
theorem gL_law_X3_crash : GoodIn wsL_law (wsV RL 68 RX3 yX3_crash wsX3_crash) := goodIn_app (goodIn_of _ (by decide +kernel)) ggL_law_X3_crash
set_option maxRecDepth 20000 in
theorem ggL_law_X4_crash : GoodIn wsL_law wsX4_crash := goodIn_r _ [371, 87, 224, 225, 226, 227, 5, 228, 54, 229, 230, 231, 232, 233, 234, 434, 435, 436, 437, 438, 439, 440, 441, 442, 443, 444, 445, 446, 447, 448, 449, 450, 451, 452, 453] (by decide +kernel) (by decide +kernel)
set_option maxRecDepth 20000 in
theorem gL_law_X4_crash : GoodIn wsL_law (wsV RL 72 RX4 yX4_crash wsX4_crash) := goodIn_app (goodIn_of _ (by decide +kernel)) ggL_law_X4_crash
set_option maxRecDepth 20000 in
theorem ggL_law_X3_alarm : GoodIn wsL_law wsX3_alarm := goodIn_r _ [375, 29, 376, 377, 378, 379, 28, 380, 191, 192, 381, 193, 194, 195, 196, 41, 425, 426, 427, 428, 429, 430, 431, 432, 433, 456, 457, 458] (by decide +kernel) (by decide +kernel)
set_option maxRecDepth 20000 in
theorem gL_law_X3_alarm : GoodIn wsL_law (wsV RL 73 RX3 yX3_alarm wsX3_alarm) := goodIn_app (goodIn_of _ (by decide +kernel)) ggL_law_X3_alarm
set_option maxRecDepth 20000 in
theorem ggL_law_X4_alarm : GoodIn wsL_law wsX4_alarm := goodIn_r _ [385, 87, 229, 230, 386, 231, 232, 233, 5, 234, 54, 434, 435, 436, 437, 438, 439, 440, 441, 442, 443, 444, 445, 446, 447, 448, 449, 450, 451, 452, 453] (by decide +kernel) (by decide +kernel)
set_option maxRecDepth 20000 in
theorem gL_law_X4_alarm : GoodIn wsL_law (wsV RL 76 RX4 yX4_alarm wsX4_alarm) := goodIn_app (goodIn_of _ (by decide +kernel)) ggL_law_X4_alarm
set_option maxRecDepth 20000 in
theorem ggL_law_X3_battery : GoodIn wsL_law wsX3_battery := goodIn_r _ [390, 109, 71, 72, 73, 2, 74, 63, 20, 459, 460, 461, 462, 463, 464, 465, 425, 426, 427, 428, 429, 430, 431, 432, 433] (by decide +kernel) (by decide +kernel)
set_option maxRecDepth 20000 in
theorem gL_law_X3_battery : GoodIn wsL_law (wsV RL 77 RX3 yX3_battery wsX3_battery) := goodIn_app (goodIn_of _ (by decide +kernel)) ggL_law_X3_battery
set_option maxRecDepth 20000 in
theorem ggL_law_X4_battery : GoodIn wsL_law wsX4_battery := goodIn_r _ [394, 53, 246, 247, 248, 5, 249, 87, 89, 434, 435, 436, 437, 438, 439, 440, 441, 442, 443, 444, 445, 446, 447, 448, 449, 450, 451, 452, 453] (by decide +kernel) (by decide +kernel)
set_option maxRecDepth 20000 in
theorem gL_law_X4_battery : GoodIn wsL_law (wsV RL 80 RX4 yX4_battery wsX4_battery) := goodIn_app (goodIn_of _ (by decide +kernel)) ggL_law_X4_battery
set_option maxRecDepth 20000 in
theorem ggL_law_L_octet : GoodIn wsL_law wsL_octet := goodIn_r _ [397, 398, 399, 400, 2, 401, 25, 402, 403, 404, 405, 406, 119, 120, 23, 121, 98, 35, 425, 426, 427, 428, 429, 430, 431, 432, 433, 466, 467, 468, 469, 470, 471, 454, 455] (by decide +kernel) (by decide +kernel)
set_option maxRecDepth 20000 in
theorem gL_law_L_octet : GoodIn wsL_law (va_wsS RL 81 yL_octet wsL_octet) := goodIn_app (goodIn_of _ (by decide +kernel)) ggL_law_L_octet
set_option maxRecDepth 20000 in
theorem ggL_law_X4_octet : GoodIn wsL_law wsX4_octet := goodIn_r _ [410, 206, 87, 56, 434, 435, 436, 437, 438, 439, 440, 441, 442, 443, 444, 445, 446, 447, 448, 449, 450, 451, 452, 453] (by decide +kernel) (by decide +kernel)
set_option maxRecDepth 20000 in
theorem gL_law_X4_octet : GoodIn wsL_law (wsV RL 84 RX4 yX4_octet wsX4_octet) := goodIn_app (goodIn_of _ (by decide +kernel)) ggL_law_X4_octet
set_option maxRecDepth 20000 in
theorem ggL_law_X4_thrown : GoodIn wsL_law wsX4_thrown := goodIn_r _ [414, 87, 434, 435, 436, 437, 438, 439, 440, 441, 442, 443, 444, 445, 446, 447, 448, 449, 450, 451, 452, 453] (by decide +kernel) (by decide +kernel)
set_option maxRecDepth 20000 in
theorem gL_law_X4_thrown : GoodIn wsL_law (wsV RL 85 RX4 yX4_thrown wsX4_thrown) := goodIn_app (goodIn_of _ (by decide +kernel)) ggL_law_X4_thrown
set_option maxRecDepth 20000 in
theorem ggL_law_X3_state : GoodIn wsL_law wsX3_state := goodIn_r _ [418, 305, 350, 29, 419, 420, 322, 323, 28, 324, 41, 425, 426, 427, 428, 429, 430, 431, 432, 433, 456, 457, 458] (by decide +kernel) (by decide +kernel)
set_option maxRecDepth 20000 in
theorem gL_law_X3_state : GoodIn wsL_law (wsV RL 88 RX3 yX3_state wsX3_state) := goodIn_app (goodIn_of _ (by decide +kernel)) ggL_law_X3_state
set_option maxRecDepth 20000 in
theorem ggL_law_X4_state : GoodIn wsL_law wsX4_state := goodIn_r _ [424, 87, 333, 361, 54, 434, 435, 436, 437, 438, 439, 440, 441, 442, 443, 444, 445, 446, 447, 448, 449, 450, 451, 452, 453] (by decide +kernel) (by decide +kernel)
set_option maxRecDepth 20000 in
theorem gL_law_X4_state : GoodIn wsL_law (wsV RL 91 RX4 yX4_state wsX4_state) := goodIn_app (goodIn_of _ (by decide +kernel)) ggL_law_X4_state
end
section
theorem dL_law_0 : decode cL_law 0 = .ok (.new 8, 3) := by decide +kernel
theorem dL_law_3 : decode cL_law 3 = .ok (.dup, 1) := by decide +kernel
theorem dL_law_4 : decode cL_law 4 = .ok (.aload_n 0, 1) := by decide +kernel
theorem dL_law_5 : decode cL_law 5 = .ok (.iconst 0, 1) := by decide +kernel
theorem dL_law_6 : decode cL_law 6 = .ok (.invokestatic 15, 3) := by decide +kernel
theorem dL_law_9 : decode cL_law 9 = .ok (.invokespecial 21, 3) := by decide +kernel
theorem dL_law_12 : decode cL_law 12 = .ok (.astore_n 1, 1) := by decide +kernel
theorem dL_law_13 : decode cL_law 13 = .ok (.new 24, 3) := by decide +kernel
theorem dL_law_16 : decode cL_law 16 = .ok (.dup, 1) := by decide +kernel
theorem dL_law_17 : decode cL_law 17 = .ok (.aload_n 0, 1) := by decide +kernel
theorem dL_law_18 : decode cL_law 18 = .ok (.iconst 0, 1) := by decide +kernel
theorem dL_law_19 : decode cL_law 19 = .ok (.invokestatic 15, 3) := by decide +kernel
theorem dL_law_22 : decode cL_law 22 = .ok (.invokespecial 26, 3) := by decide +kernel
theorem dL_law_25 : decode cL_law 25 = .ok (.astore_n 2, 1) := by decide +kernel
theorem dL_law_26 : decode cL_law 26 = .ok (.iconst 1, 1) := by decide +kernel
theorem dL_law_27 : decode cL_law 27 = .ok (.newarray .long, 2) := by decide +kernel
theorem dL_law_29 : decode cL_law 29 = .ok (.astore_n 3, 1) := by decide +kernel
theorem dL_law_30 : decode cL_law 30 = .ok (.iconst 1, 1) := by decide +kernel
theorem dL_law_31 : decode cL_law 31 = .ok (.istore 4, 2) := by decide +kernel
theorem dL_law_33 : decode cL_law 33 = .ok (.iload 4, 2) := by decide +kernel
theorem dL_law_35 : decode cL_law 35 = .ok (.aload_n 0, 1) := by decide +kernel
theorem dL_law_36 : decode cL_law 36 = .ok (.arraylength, 1) := by decide +kernel
theorem dL_law_37 : decode cL_law 37 = .ok (.bipush 8, 2) := by decide +kernel
theorem dL_law_39 : decode cL_law 39 = .ok (.isub, 1) := by decide +kernel
theorem dL_law_40 : decode cL_law 40 = .ok (.if_icmp .gt 781, 3) := by decide +kernel
theorem dL_law_43 : decode cL_law 43 = .ok (.aload_n 0, 1) := by decide +kernel
theorem dL_law_44 : decode cL_law 44 = .ok (.iload 4, 2) := by decide +kernel
theorem dL_law_46 : decode cL_law 46 = .ok (.iaload, 1) := by decide +kernel
theorem dL_law_47 : decode cL_law 47 = .ok (.bipush 15, 2) := by decide +kernel
theorem dL_law_49 : decode cL_law 49 = .ok (.iand, 1) := by decide +kernel
theorem dL_law_50 : decode cL_law 50 = .ok (.tableswitch 765 0 12 #[66, 167, 222, 248, 273, 322, 347, 508, 577, 590, 659, 684, 740], 66) := by decide +kernel
theorem dL_law_116 : decode cL_law 116 = .ok (.aload_n 1, 1) := by decide +kernel
theorem dL_law_117 : decode cL_law 117 = .ok (.aload_n 0, 1) := by decide +kernel
theorem dL_law_118 : decode cL_law 118 = .ok (.iload 4, 2) := by decide +kernel
theorem dL_law_120 : decode cL_law 120 = .ok (.iconst 1, 1) := by decide +kernel
theorem dL_law_121 : decode cL_law 121 = .ok (.iadd, 1) := by decide +kernel
theorem dL_law_122 : decode cL_law 122 = .ok (.iaload, 1) := by decide +kernel
theorem dL_law_123 : decode cL_law 123 = .ok (.i2l, 1) := by decide +kernel
theorem dL_law_124 : decode cL_law 124 = .ok (.bipush 32, 2) := by decide +kernel
theorem dL_law_126 : decode cL_law 126 = .ok (.lshl, 1) := by decide +kernel
theorem dL_law_127 : decode cL_law 127 = .ok (.aload_n 0, 1) := by decide +kernel
theorem dL_law_128 : decode cL_law 128 = .ok (.iload 4, 2) := by decide +kernel
theorem dL_law_130 : decode cL_law 130 = .ok (.iconst 2, 1) := by decide +kernel
theorem dL_law_131 : decode cL_law 131 = .ok (.iadd, 1) := by decide +kernel
theorem dL_law_132 : decode cL_law 132 = .ok (.iaload, 1) := by decide +kernel
theorem dL_law_133 : decode cL_law 133 = .ok (.i2l, 1) := by decide +kernel
theorem dL_law_134 : decode cL_law 134 = .ok (.ldc2_w 27, 3) := by decide +kernel
theorem dL_law_137 : decode cL_law 137 = .ok (.land, 1) := by decide +kernel
theorem dL_law_138 : decode cL_law 138 = .ok (.lor, 1) := by decide +kernel
theorem dL_law_139 : decode cL_law 139 = .ok (.aload_n 0, 1) := by decide +kernel
theorem dL_law_140 : decode cL_law 140 = .ok (.iload 4, 2) := by decide +kernel
theorem dL_law_142 : decode cL_law 142 = .ok (.iconst 3, 1) := by decide +kernel
theorem dL_law_143 : decode cL_law 143 = .ok (.iadd, 1) := by decide +kernel
theorem dL_law_144 : decode cL_law 144 = .ok (.iaload, 1) := by decide +kernel
theorem dL_law_145 : decode cL_law 145 = .ok (.i2l, 1) := by decide +kernel
theorem dL_law_146 : decode cL_law 146 = .ok (.bipush 32, 2) := by decide +kernel
theorem dL_law_148 : decode cL_law 148 = .ok (.lshl, 1) := by decide +kernel
theorem dL_law_149 : decode cL_law 149 = .ok (.aload_n 0, 1) := by decide +kernel
theorem dL_law_150 : decode cL_law 150 = .ok (.iload 4, 2) := by decide +kernel
theorem dL_law_152 : decode cL_law 152 = .ok (.iconst 4, 1) := by decide +kernel
theorem dL_law_153 : decode cL_law 153 = .ok (.iadd, 1) := by decide +kernel
theorem dL_law_154 : decode cL_law 154 = .ok (.iaload, 1) := by decide +kernel
theorem dL_law_155 : decode cL_law 155 = .ok (.i2l, 1) := by decide +kernel
theorem dL_law_156 : decode cL_law 156 = .ok (.ldc2_w 27, 3) := by decide +kernel
theorem dL_law_159 : decode cL_law 159 = .ok (.land, 1) := by decide +kernel
theorem dL_law_160 : decode cL_law 160 = .ok (.lor, 1) := by decide +kernel
theorem dL_law_161 : decode cL_law 161 = .ok (.invokevirtual 29, 3) := by decide +kernel
theorem dL_law_164 : decode cL_law 164 = .ok (.aload_n 2, 1) := by decide +kernel
theorem dL_law_165 : decode cL_law 165 = .ok (.aload_n 0, 1) := by decide +kernel
theorem dL_law_166 : decode cL_law 166 = .ok (.iload 4, 2) := by decide +kernel
theorem dL_law_168 : decode cL_law 168 = .ok (.iconst 1, 1) := by decide +kernel
theorem dL_law_169 : decode cL_law 169 = .ok (.iadd, 1) := by decide +kernel
theorem dL_law_170 : decode cL_law 170 = .ok (.iaload, 1) := by decide +kernel
theorem dL_law_171 : decode cL_law 171 = .ok (.i2l, 1) := by decide +kernel
theorem dL_law_172 : decode cL_law 172 = .ok (.bipush 32, 2) := by decide +kernel
theorem dL_law_174 : decode cL_law 174 = .ok (.lshl, 1) := by decide +kernel
theorem dL_law_175 : decode cL_law 175 = .ok (.aload_n 0, 1) := by decide +kernel
theorem dL_law_176 : decode cL_law 176 = .ok (.iload 4, 2) := by decide +kernel
theorem dL_law_178 : decode cL_law 178 = .ok (.iconst 2, 1) := by decide +kernel
theorem dL_law_179 : decode cL_law 179 = .ok (.iadd, 1) := by decide +kernel
theorem dL_law_180 : decode cL_law 180 = .ok (.iaload, 1) := by decide +kernel
theorem dL_law_181 : decode cL_law 181 = .ok (.i2l, 1) := by decide +kernel
theorem dL_law_182 : decode cL_law 182 = .ok (.ldc2_w 27, 3) := by decide +kernel
theorem dL_law_185 : decode cL_law 185 = .ok (.land, 1) := by decide +kernel
theorem dL_law_186 : decode cL_law 186 = .ok (.lor, 1) := by decide +kernel
theorem dL_law_187 : decode cL_law 187 = .ok (.aload_n 0, 1) := by decide +kernel
theorem dL_law_188 : decode cL_law 188 = .ok (.iload 4, 2) := by decide +kernel
theorem dL_law_190 : decode cL_law 190 = .ok (.iconst 3, 1) := by decide +kernel
theorem dL_law_191 : decode cL_law 191 = .ok (.iadd, 1) := by decide +kernel
theorem dL_law_192 : decode cL_law 192 = .ok (.iaload, 1) := by decide +kernel
theorem dL_law_193 : decode cL_law 193 = .ok (.i2l, 1) := by decide +kernel
theorem dL_law_194 : decode cL_law 194 = .ok (.bipush 32, 2) := by decide +kernel
theorem dL_law_196 : decode cL_law 196 = .ok (.lshl, 1) := by decide +kernel
theorem dL_law_197 : decode cL_law 197 = .ok (.aload_n 0, 1) := by decide +kernel
theorem dL_law_198 : decode cL_law 198 = .ok (.iload 4, 2) := by decide +kernel
theorem dL_law_200 : decode cL_law 200 = .ok (.iconst 4, 1) := by decide +kernel
theorem dL_law_201 : decode cL_law 201 = .ok (.iadd, 1) := by decide +kernel
theorem dL_law_202 : decode cL_law 202 = .ok (.iaload, 1) := by decide +kernel
theorem dL_law_203 : decode cL_law 203 = .ok (.i2l, 1) := by decide +kernel
theorem dL_law_204 : decode cL_law 204 = .ok (.ldc2_w 27, 3) := by decide +kernel
theorem dL_law_207 : decode cL_law 207 = .ok (.land, 1) := by decide +kernel
theorem dL_law_208 : decode cL_law 208 = .ok (.lor, 1) := by decide +kernel
theorem dL_law_209 : decode cL_law 209 = .ok (.invokevirtual 33, 3) := by decide +kernel
theorem dL_law_212 : decode cL_law 212 = .ok (.if_icmp .eq 603, 3) := by decide +kernel
theorem dL_law_215 : decode cL_law 215 = .ok (.iconst 0, 1) := by decide +kernel
theorem dL_law_216 : decode cL_law 216 = .ok (.ireturn, 1) := by decide +kernel
theorem dL_law_217 : decode cL_law 217 = .ok (.aload_n 1, 1) := by decide +kernel
theorem dL_law_218 : decode cL_law 218 = .ok (.aload_n 0, 1) := by decide +kernel
theorem dL_law_219 : decode cL_law 219 = .ok (.iload 4, 2) := by decide +kernel
theorem dL_law_221 : decode cL_law 221 = .ok (.iconst 1, 1) := by decide +kernel
theorem dL_law_222 : decode cL_law 222 = .ok (.iadd, 1) := by decide +kernel
theorem dL_law_223 : decode cL_law 223 = .ok (.iaload, 1) := by decide +kernel
theorem dL_law_224 : decode cL_law 224 = .ok (.i2b, 1) := by decide +kernel
theorem dL_law_225 : decode cL_law 225 = .ok (.aload_n 0, 1) := by decide +kernel
theorem dL_law_226 : decode cL_law 226 = .ok (.iload 4, 2) := by decide +kernel
theorem dL_law_228 : decode cL_law 228 = .ok (.iconst 2, 1) := by decide +kernel
theorem dL_law_229 : decode cL_law 229 = .ok (.iadd, 1) := by decide +kernel
theorem dL_law_230 : decode cL_law 230 = .ok (.iaload, 1) := by decide +kernel
theorem dL_law_231 : decode cL_law 231 = .ok (.ifCond .eq 7, 3) := by decide +kernel
theorem dL_law_234 : decode cL_law 234 = .ok (.iconst 1, 1) := by decide +kernel
theorem dL_law_235 : decode cL_law 235 = .ok (.goto 4, 3) := by decide +kernel
theorem dL_law_238 : decode cL_law 238 = .ok (.iconst 0, 1) := by decide +kernel
theorem dL_law_239 : decode cL_law 239 = .ok (.invokevirtual 34, 3) := by decide +kernel
theorem dL_law_242 : decode cL_law 242 = .ok (.aload_n 2, 1) := by decide +kernel
theorem dL_law_243 : decode cL_law 243 = .ok (.aload_n 0, 1) := by decide +kernel
theorem dL_law_244 : decode cL_law 244 = .ok (.iload 4, 2) := by decide +kernel
theorem dL_law_246 : decode cL_law 246 = .ok (.iconst 1, 1) := by decide +kernel
theorem dL_law_247 : decode cL_law 247 = .ok (.iadd, 1) := by decide +kernel
theorem dL_law_248 : decode cL_law 248 = .ok (.iaload, 1) := by decide +kernel
theorem dL_law_249 : decode cL_law 249 = .ok (.i2b, 1) := by decide +kernel
theorem dL_law_250 : decode cL_law 250 = .ok (.aload_n 0, 1) := by decide +kernel
theorem dL_law_251 : decode cL_law 251 = .ok (.iload 4, 2) := by decide +kernel
theorem dL_law_253 : decode cL_law 253 = .ok (.iconst 2, 1) := by decide +kernel
theorem dL_law_254 : decode cL_law 254 = .ok (.iadd, 1) := by decide +kernel
theorem dL_law_255 : decode cL_law 255 = .ok (.iaload, 1) := by decide +kernel
theorem dL_law_256 : decode cL_law 256 = .ok (.ifCond .eq 7, 3) := by decide +kernel
theorem dL_law_259 : decode cL_law 259 = .ok (.iconst 1, 1) := by decide +kernel
theorem dL_law_260 : decode cL_law 260 = .ok (.goto 4, 3) := by decide +kernel
theorem dL_law_263 : decode cL_law 263 = .ok (.iconst 0, 1) := by decide +kernel
theorem dL_law_264 : decode cL_law 264 = .ok (.invokevirtual 38, 3) := by decide +kernel
theorem dL_law_267 : decode cL_law 267 = .ok (.if_icmp .eq 548, 3) := by decide +kernel
theorem dL_law_270 : decode cL_law 270 = .ok (.iconst 0, 1) := by decide +kernel
theorem dL_law_271 : decode cL_law 271 = .ok (.ireturn, 1) := by decide +kernel
theorem dL_law_272 : decode cL_law 272 = .ok (.aload_n 1, 1) := by decide +kernel
theorem dL_law_273 : decode cL_law 273 = .ok (.aload_n 0, 1) := by decide +kernel
theorem dL_law_274 : decode cL_law 274 = .ok (.iload 4, 2) := by decide +kernel
theorem dL_law_276 : decode cL_law 276 = .ok (.iconst 1, 1) := by decide +kernel
theorem dL_law_277 : decode cL_law 277 = .ok (.iadd, 1) := by decide +kernel
theorem dL_law_278 : decode cL_law 278 = .ok (.iaload, 1) := by decide +kernel
theorem dL_law_279 : decode cL_law 279 = .ok (.invokevirtual 39, 3) := by decide +kernel
theorem dL_law_282 : decode cL_law 282 = .ok (.aload_n 2, 1) := by decide +kernel
theorem dL_law_283 : decode cL_law 283 = .ok (.aload_n 0, 1) := by decide +kernel
theorem dL_law_284 : decode cL_law 284 = .ok (.iload 4, 2) := by decide +kernel
theorem dL_law_286 : decode cL_law 286 = .ok (.iconst 1, 1) := by decide +kernel
theorem dL_law_287 : decode cL_law 287 = .ok (.iadd, 1) := by decide +kernel
theorem dL_law_288 : decode cL_law 288 = .ok (.iaload, 1) := by decide +kernel
theorem dL_law_289 : decode cL_law 289 = .ok (.invokevirtual 43, 3) := by decide +kernel
theorem dL_law_292 : decode cL_law 292 = .ok (.lcmp, 1) := by decide +kernel
theorem dL_law_293 : decode cL_law 293 = .ok (.ifCond .eq 522, 3) := by decide +kernel
theorem dL_law_296 : decode cL_law 296 = .ok (.iconst 0, 1) := by decide +kernel
theorem dL_law_297 : decode cL_law 297 = .ok (.ireturn, 1) := by decide +kernel
theorem dL_law_298 : decode cL_law 298 = .ok (.aload_n 1, 1) := by decide +kernel
theorem dL_law_299 : decode cL_law 299 = .ok (.aload_n 0, 1) := by decide +kernel
theorem dL_law_300 : decode cL_law 300 = .ok (.iload 4, 2) := by decide +kernel
theorem dL_law_302 : decode cL_law 302 = .ok (.iconst 1, 1) := by decide +kernel
theorem dL_law_303 : decode cL_law 303 = .ok (.iadd, 1) := by decide +kernel
theorem dL_law_304 : decode cL_law 304 = .ok (.iaload, 1) := by decide +kernel
theorem dL_law_305 : decode cL_law 305 = .ok (.invokevirtual 44, 3) := by decide +kernel
theorem dL_law_308 : decode cL_law 308 = .ok (.aload_n 2, 1) := by decide +kernel
theorem dL_law_309 : decode cL_law 309 = .ok (.aload_n 0, 1) := by decide +kernel
theorem dL_law_310 : decode cL_law 310 = .ok (.iload 4, 2) := by decide +kernel
theorem dL_law_312 : decode cL_law 312 = .ok (.iconst 1, 1) := by decide +kernel
theorem dL_law_313 : decode cL_law 313 = .ok (.iadd, 1) := by decide +kernel
theorem dL_law_314 : decode cL_law 314 = .ok (.iaload, 1) := by decide +kernel
theorem dL_law_315 : decode cL_law 315 = .ok (.invokevirtual 48, 3) := by decide +kernel
theorem dL_law_318 : decode cL_law 318 = .ok (.if_icmp .eq 497, 3) := by decide +kernel
theorem dL_law_321 : decode cL_law 321 = .ok (.iconst 0, 1) := by decide +kernel
theorem dL_law_322 : decode cL_law 322 = .ok (.ireturn, 1) := by decide +kernel
theorem dL_law_323 : decode cL_law 323 = .ok (.aload_n 1, 1) := by decide +kernel
theorem dL_law_324 : decode cL_law 324 = .ok (.aload_n 0, 1) := by decide +kernel
theorem dL_law_325 : decode cL_law 325 = .ok (.iload 4, 2) := by decide +kernel
theorem dL_law_327 : decode cL_law 327 = .ok (.iconst 1, 1) := by decide +kernel
theorem dL_law_328 : decode cL_law 328 = .ok (.iadd, 1) := by decide +kernel
theorem dL_law_329 : decode cL_law 329 = .ok (.iaload, 1) := by decide +kernel
theorem dL_law_330 : decode cL_law 330 = .ok (.aload_n 0, 1) := by decide +kernel
theorem dL_law_331 : decode cL_law 331 = .ok (.iload 4, 2) := by decide +kernel
theorem dL_law_333 : decode cL_law 333 = .ok (.iconst 2, 1) := by decide +kernel
theorem dL_law_334 : decode cL_law 334 = .ok (.iadd, 1) := by decide +kernel
theorem dL_law_335 : decode cL_law 335 = .ok (.iaload, 1) := by decide +kernel
theorem dL_law_336 : decode cL_law 336 = .ok (.aload_n 0, 1) := by decide +kernel
theorem dL_law_337 : decode cL_law 337 = .ok (.iload 4, 2) := by decide +kernel
theorem dL_law_339 : decode cL_law 339 = .ok (.iconst 3, 1) := by decide +kernel
theorem dL_law_340 : decode cL_law 340 = .ok (.iadd, 1) := by decide +kernel
theorem dL_law_341 : decode cL_law 341 = .ok (.iaload, 1) := by decide +kernel
theorem dL_law_342 : decode cL_law 342 = .ok (.invokevirtual 49, 3) := by decide +kernel
theorem dL_law_345 : decode cL_law 345 = .ok (.aload_n 2, 1) := by decide +kernel
theorem dL_law_346 : decode cL_law 346 = .ok (.aload_n 0, 1) := by decide +kernel
theorem dL_law_347 : decode cL_law 347 = .ok (.iload 4, 2) := by decide +kernel
theorem dL_law_349 : decode cL_law 349 = .ok (.iconst 1, 1) := by decide +kernel
theorem dL_law_350 : decode cL_law 350 = .ok (.iadd, 1) := by decide +kernel
theorem dL_law_351 : decode cL_law 351 = .ok (.iaload, 1) := by decide +kernel
theorem dL_law_352 : decode cL_law 352 = .ok (.aload_n 0, 1) := by decide +kernel
theorem dL_law_353 : decode cL_law 353 = .ok (.iload 4, 2) := by decide +kernel
theorem dL_law_355 : decode cL_law 355 = .ok (.iconst 2, 1) := by decide +kernel
theorem dL_law_356 : decode cL_law 356 = .ok (.iadd, 1) := by decide +kernel
theorem dL_law_357 : decode cL_law 357 = .ok (.iaload, 1) := by decide +kernel
theorem dL_law_358 : decode cL_law 358 = .ok (.aload_n 0, 1) := by decide +kernel
theorem dL_law_359 : decode cL_law 359 = .ok (.iload 4, 2) := by decide +kernel
theorem dL_law_361 : decode cL_law 361 = .ok (.iconst 3, 1) := by decide +kernel
theorem dL_law_362 : decode cL_law 362 = .ok (.iadd, 1) := by decide +kernel
theorem dL_law_363 : decode cL_law 363 = .ok (.iaload, 1) := by decide +kernel
theorem dL_law_364 : decode cL_law 364 = .ok (.invokevirtual 53, 3) := by decide +kernel
theorem dL_law_367 : decode cL_law 367 = .ok (.if_icmp .eq 448, 3) := by decide +kernel
theorem dL_law_370 : decode cL_law 370 = .ok (.iconst 0, 1) := by decide +kernel
theorem dL_law_371 : decode cL_law 371 = .ok (.ireturn, 1) := by decide +kernel
theorem dL_law_372 : decode cL_law 372 = .ok (.aload_n 1, 1) := by decide +kernel
theorem dL_law_373 : decode cL_law 373 = .ok (.aload_n 0, 1) := by decide +kernel
theorem dL_law_374 : decode cL_law 374 = .ok (.iload 4, 2) := by decide +kernel
theorem dL_law_376 : decode cL_law 376 = .ok (.iconst 1, 1) := by decide +kernel
theorem dL_law_377 : decode cL_law 377 = .ok (.iadd, 1) := by decide +kernel
theorem dL_law_378 : decode cL_law 378 = .ok (.iaload, 1) := by decide +kernel
theorem dL_law_379 : decode cL_law 379 = .ok (.invokevirtual 54, 3) := by decide +kernel
theorem dL_law_382 : decode cL_law 382 = .ok (.aload_n 2, 1) := by decide +kernel
theorem dL_law_383 : decode cL_law 383 = .ok (.aload_n 0, 1) := by decide +kernel
theorem dL_law_384 : decode cL_law 384 = .ok (.iload 4, 2) := by decide +kernel
theorem dL_law_386 : decode cL_law 386 = .ok (.iconst 1, 1) := by decide +kernel
theorem dL_law_387 : decode cL_law 387 = .ok (.iadd, 1) := by decide +kernel
theorem dL_law_388 : decode cL_law 388 = .ok (.iaload, 1) := by decide +kernel
theorem dL_law_389 : decode cL_law 389 = .ok (.invokevirtual 57, 3) := by decide +kernel
theorem dL_law_392 : decode cL_law 392 = .ok (.if_icmp .eq 423, 3) := by decide +kernel
theorem dL_law_395 : decode cL_law 395 = .ok (.iconst 0, 1) := by decide +kernel
theorem dL_law_396 : decode cL_law 396 = .ok (.ireturn, 1) := by decide +kernel
theorem dL_law_397 : decode cL_law 397 = .ok (.aload_n 1, 1) := by decide +kernel
theorem dL_law_398 : decode cL_law 398 = .ok (.aload_n 0, 1) := by decide +kernel
theorem dL_law_399 : decode cL_law 399 = .ok (.iload 4, 2) := by decide +kernel
theorem dL_law_401 : decode cL_law 401 = .ok (.iconst 1, 1) := by decide +kernel
theorem dL_law_402 : decode cL_law 402 = .ok (.iadd, 1) := by decide +kernel
theorem dL_law_403 : decode cL_law 403 = .ok (.iaload, 1) := by decide +kernel
theorem dL_law_404 : decode cL_law 404 = .ok (.aload_n 0, 1) := by decide +kernel
theorem dL_law_405 : decode cL_law 405 = .ok (.iload 4, 2) := by decide +kernel
theorem dL_law_407 : decode cL_law 407 = .ok (.iconst 2, 1) := by decide +kernel
theorem dL_law_408 : decode cL_law 408 = .ok (.iadd, 1) := by decide +kernel
theorem dL_law_409 : decode cL_law 409 = .ok (.iaload, 1) := by decide +kernel
theorem dL_law_410 : decode cL_law 410 = .ok (.i2l, 1) := by decide +kernel
theorem dL_law_411 : decode cL_law 411 = .ok (.bipush 32, 2) := by decide +kernel
theorem dL_law_413 : decode cL_law 413 = .ok (.lshl, 1) := by decide +kernel
theorem dL_law_414 : decode cL_law 414 = .ok (.aload_n 0, 1) := by decide +kernel
theorem dL_law_415 : decode cL_law 415 = .ok (.iload 4, 2) := by decide +kernel
theorem dL_law_417 : decode cL_law 417 = .ok (.iconst 3, 1) := by decide +kernel
theorem dL_law_418 : decode cL_law 418 = .ok (.iadd, 1) := by decide +kernel
theorem dL_law_419 : decode cL_law 419 = .ok (.iaload, 1) := by decide +kernel
theorem dL_law_420 : decode cL_law 420 = .ok (.i2l, 1) := by decide +kernel
theorem dL_law_421 : decode cL_law 421 = .ok (.ldc2_w 27, 3) := by decide +kernel
theorem dL_law_424 : decode cL_law 424 = .ok (.land, 1) := by decide +kernel
theorem dL_law_425 : decode cL_law 425 = .ok (.lor, 1) := by decide +kernel
theorem dL_law_426 : decode cL_law 426 = .ok (.aload_n 0, 1) := by decide +kernel
theorem dL_law_427 : decode cL_law 427 = .ok (.iload 4, 2) := by decide +kernel
theorem dL_law_429 : decode cL_law 429 = .ok (.iconst 4, 1) := by decide +kernel
theorem dL_law_430 : decode cL_law 430 = .ok (.iadd, 1) := by decide +kernel
theorem dL_law_431 : decode cL_law 431 = .ok (.iaload, 1) := by decide +kernel
theorem dL_law_432 : decode cL_law 432 = .ok (.i2l, 1) := by decide +kernel
theorem dL_law_433 : decode cL_law 433 = .ok (.bipush 32, 2) := by decide +kernel
theorem dL_law_435 : decode cL_law 435 = .ok (.lshl, 1) := by decide +kernel
theorem dL_law_436 : decode cL_law 436 = .ok (.aload_n 0, 1) := by decide +kernel
theorem dL_law_437 : decode cL_law 437 = .ok (.iload 4, 2) := by decide +kernel
theorem dL_law_439 : decode cL_law 439 = .ok (.iconst 5, 1) := by decide +kernel
theorem dL_law_440 : decode cL_law 440 = .ok (.iadd, 1) := by decide +kernel
theorem dL_law_441 : decode cL_law 441 = .ok (.iaload, 1) := by decide +kernel
theorem dL_law_442 : decode cL_law 442 = .ok (.i2l, 1) := by decide +kernel
theorem dL_law_443 : decode cL_law 443 = .ok (.ldc2_w 27, 3) := by decide +kernel
theorem dL_law_446 : decode cL_law 446 = .ok (.land, 1) := by decide +kernel
theorem dL_law_447 : decode cL_law 447 = .ok (.lor, 1) := by decide +kernel
theorem dL_law_448 : decode cL_law 448 = .ok (.aload_n 0, 1) := by decide +kernel
theorem dL_law_449 : decode cL_law 449 = .ok (.iload 4, 2) := by decide +kernel
theorem dL_law_451 : decode cL_law 451 = .ok (.bipush 6, 2) := by decide +kernel
theorem dL_law_453 : decode cL_law 453 = .ok (.iadd, 1) := by decide +kernel
theorem dL_law_454 : decode cL_law 454 = .ok (.iaload, 1) := by decide +kernel
theorem dL_law_455 : decode cL_law 455 = .ok (.i2l, 1) := by decide +kernel
theorem dL_law_456 : decode cL_law 456 = .ok (.bipush 32, 2) := by decide +kernel
theorem dL_law_458 : decode cL_law 458 = .ok (.lshl, 1) := by decide +kernel
theorem dL_law_459 : decode cL_law 459 = .ok (.aload_n 0, 1) := by decide +kernel
theorem dL_law_460 : decode cL_law 460 = .ok (.iload 4, 2) := by decide +kernel
theorem dL_law_462 : decode cL_law 462 = .ok (.bipush 7, 2) := by decide +kernel
theorem dL_law_464 : decode cL_law 464 = .ok (.iadd, 1) := by decide +kernel
theorem dL_law_465 : decode cL_law 465 = .ok (.iaload, 1) := by decide +kernel
theorem dL_law_466 : decode cL_law 466 = .ok (.i2l, 1) := by decide +kernel
theorem dL_law_467 : decode cL_law 467 = .ok (.ldc2_w 27, 3) := by decide +kernel
theorem dL_law_470 : decode cL_law 470 = .ok (.land, 1) := by decide +kernel
theorem dL_law_471 : decode cL_law 471 = .ok (.lor, 1) := by decide +kernel
theorem dL_law_472 : decode cL_law 472 = .ok (.invokevirtual 58, 3) := by decide +kernel
theorem dL_law_475 : decode cL_law 475 = .ok (.aload_n 2, 1) := by decide +kernel
theorem dL_law_476 : decode cL_law 476 = .ok (.aload_n 0, 1) := by decide +kernel
theorem dL_law_477 : decode cL_law 477 = .ok (.iload 4, 2) := by decide +kernel
theorem dL_law_479 : decode cL_law 479 = .ok (.iconst 1, 1) := by decide +kernel
theorem dL_law_480 : decode cL_law 480 = .ok (.iadd, 1) := by decide +kernel
theorem dL_law_481 : decode cL_law 481 = .ok (.iaload, 1) := by decide +kernel
theorem dL_law_482 : decode cL_law 482 = .ok (.aload_n 0, 1) := by decide +kernel
theorem dL_law_483 : decode cL_law 483 = .ok (.iload 4, 2) := by decide +kernel
theorem dL_law_485 : decode cL_law 485 = .ok (.iconst 2, 1) := by decide +kernel
theorem dL_law_486 : decode cL_law 486 = .ok (.iadd, 1) := by decide +kernel
theorem dL_law_487 : decode cL_law 487 = .ok (.iaload, 1) := by decide +kernel
theorem dL_law_488 : decode cL_law 488 = .ok (.i2l, 1) := by decide +kernel
theorem dL_law_489 : decode cL_law 489 = .ok (.bipush 32, 2) := by decide +kernel
theorem dL_law_491 : decode cL_law 491 = .ok (.lshl, 1) := by decide +kernel
theorem dL_law_492 : decode cL_law 492 = .ok (.aload_n 0, 1) := by decide +kernel
theorem dL_law_493 : decode cL_law 493 = .ok (.iload 4, 2) := by decide +kernel
theorem dL_law_495 : decode cL_law 495 = .ok (.iconst 3, 1) := by decide +kernel
theorem dL_law_496 : decode cL_law 496 = .ok (.iadd, 1) := by decide +kernel
theorem dL_law_497 : decode cL_law 497 = .ok (.iaload, 1) := by decide +kernel
theorem dL_law_498 : decode cL_law 498 = .ok (.i2l, 1) := by decide +kernel
theorem dL_law_499 : decode cL_law 499 = .ok (.ldc2_w 27, 3) := by decide +kernel
theorem dL_law_502 : decode cL_law 502 = .ok (.land, 1) := by decide +kernel
theorem dL_law_503 : decode cL_law 503 = .ok (.lor, 1) := by decide +kernel
theorem dL_law_504 : decode cL_law 504 = .ok (.aload_n 0, 1) := by decide +kernel
theorem dL_law_505 : decode cL_law 505 = .ok (.iload 4, 2) := by decide +kernel
theorem dL_law_507 : decode cL_law 507 = .ok (.iconst 4, 1) := by decide +kernel
theorem dL_law_508 : decode cL_law 508 = .ok (.iadd, 1) := by decide +kernel
theorem dL_law_509 : decode cL_law 509 = .ok (.iaload, 1) := by decide +kernel
theorem dL_law_510 : decode cL_law 510 = .ok (.i2l, 1) := by decide +kernel
theorem dL_law_511 : decode cL_law 511 = .ok (.bipush 32, 2) := by decide +kernel
theorem dL_law_513 : decode cL_law 513 = .ok (.lshl, 1) := by decide +kernel
theorem dL_law_514 : decode cL_law 514 = .ok (.aload_n 0, 1) := by decide +kernel
theorem dL_law_515 : decode cL_law 515 = .ok (.iload 4, 2) := by decide +kernel
theorem dL_law_517 : decode cL_law 517 = .ok (.iconst 5, 1) := by decide +kernel
theorem dL_law_518 : decode cL_law 518 = .ok (.iadd, 1) := by decide +kernel
theorem dL_law_519 : decode cL_law 519 = .ok (.iaload, 1) := by decide +kernel
theorem dL_law_520 : decode cL_law 520 = .ok (.i2l, 1) := by decide +kernel
theorem dL_law_521 : decode cL_law 521 = .ok (.ldc2_w 27, 3) := by decide +kernel
theorem dL_law_524 : decode cL_law 524 = .ok (.land, 1) := by decide +kernel
theorem dL_law_525 : decode cL_law 525 = .ok (.lor, 1) := by decide +kernel
theorem dL_law_526 : decode cL_law 526 = .ok (.aload_n 0, 1) := by decide +kernel
theorem dL_law_527 : decode cL_law 527 = .ok (.iload 4, 2) := by decide +kernel
theorem dL_law_529 : decode cL_law 529 = .ok (.bipush 6, 2) := by decide +kernel
theorem dL_law_531 : decode cL_law 531 = .ok (.iadd, 1) := by decide +kernel
theorem dL_law_532 : decode cL_law 532 = .ok (.iaload, 1) := by decide +kernel
theorem dL_law_533 : decode cL_law 533 = .ok (.i2l, 1) := by decide +kernel
theorem dL_law_534 : decode cL_law 534 = .ok (.bipush 32, 2) := by decide +kernel
theorem dL_law_536 : decode cL_law 536 = .ok (.lshl, 1) := by decide +kernel
theorem dL_law_537 : decode cL_law 537 = .ok (.aload_n 0, 1) := by decide +kernel
theorem dL_law_538 : decode cL_law 538 = .ok (.iload 4, 2) := by decide +kernel
theorem dL_law_540 : decode cL_law 540 = .ok (.bipush 7, 2) := by decide +kernel
theorem dL_law_542 : decode cL_law 542 = .ok (.iadd, 1) := by decide +kernel
theorem dL_law_543 : decode cL_law 543 = .ok (.iaload, 1) := by decide +kernel
theorem dL_law_544 : decode cL_law 544 = .ok (.i2l, 1) := by decide +kernel
theorem dL_law_545 : decode cL_law 545 = .ok (.ldc2_w 27, 3) := by decide +kernel
theorem dL_law_548 : decode cL_law 548 = .ok (.land, 1) := by decide +kernel
theorem dL_law_549 : decode cL_law 549 = .ok (.lor, 1) := by decide +kernel
theorem dL_law_550 : decode cL_law 550 = .ok (.invokevirtual 62, 3) := by decide +kernel
theorem dL_law_553 : decode cL_law 553 = .ok (.if_icmp .eq 262, 3) := by decide +kernel
theorem dL_law_556 : decode cL_law 556 = .ok (.iconst 0, 1) := by decide +kernel
theorem dL_law_557 : decode cL_law 557 = .ok (.ireturn, 1) := by decide +kernel
theorem dL_law_558 : decode cL_law 558 = .ok (.aload_n 1, 1) := by decide +kernel
theorem dL_law_559 : decode cL_law 559 = .ok (.aload_n 0, 1) := by decide +kernel
theorem dL_law_560 : decode cL_law 560 = .ok (.iload 4, 2) := by decide +kernel
theorem dL_law_562 : decode cL_law 562 = .ok (.iconst 1, 1) := by decide +kernel
theorem dL_law_563 : decode cL_law 563 = .ok (.iadd, 1) := by decide +kernel
theorem dL_law_564 : decode cL_law 564 = .ok (.iaload, 1) := by decide +kernel
theorem dL_law_565 : decode cL_law 565 = .ok (.aload_n 0, 1) := by decide +kernel
theorem dL_law_566 : decode cL_law 566 = .ok (.iload 4, 2) := by decide +kernel
theorem dL_law_568 : decode cL_law 568 = .ok (.iconst 2, 1) := by decide +kernel
theorem dL_law_569 : decode cL_law 569 = .ok (.iadd, 1) := by decide +kernel
theorem dL_law_570 : decode cL_law 570 = .ok (.iaload, 1) := by decide +kernel
theorem dL_law_571 : decode cL_law 571 = .ok (.i2l, 1) := by decide +kernel
theorem dL_law_572 : decode cL_law 572 = .ok (.bipush 32, 2) := by decide +kernel
theorem dL_law_574 : decode cL_law 574 = .ok (.lshl, 1) := by decide +kernel
theorem dL_law_575 : decode cL_law 575 = .ok (.aload_n 0, 1) := by decide +kernel
theorem dL_law_576 : decode cL_law 576 = .ok (.iload 4, 2) := by decide +kernel
theorem dL_law_578 : decode cL_law 578 = .ok (.iconst 3, 1) := by decide +kernel
theorem dL_law_579 : decode cL_law 579 = .ok (.iadd, 1) := by decide +kernel
theorem dL_law_580 : decode cL_law 580 = .ok (.iaload, 1) := by decide +kernel
theorem dL_law_581 : decode cL_law 581 = .ok (.i2l, 1) := by decide +kernel
theorem dL_law_582 : decode cL_law 582 = .ok (.ldc2_w 27, 3) := by decide +kernel
theorem dL_law_585 : decode cL_law 585 = .ok (.land, 1) := by decide +kernel
theorem dL_law_586 : decode cL_law 586 = .ok (.lor, 1) := by decide +kernel
theorem dL_law_587 : decode cL_law 587 = .ok (.invokevirtual 63, 3) := by decide +kernel
theorem dL_law_590 : decode cL_law 590 = .ok (.aload_n 2, 1) := by decide +kernel
theorem dL_law_591 : decode cL_law 591 = .ok (.aload_n 0, 1) := by decide +kernel
theorem dL_law_592 : decode cL_law 592 = .ok (.iload 4, 2) := by decide +kernel
theorem dL_law_594 : decode cL_law 594 = .ok (.iconst 1, 1) := by decide +kernel
theorem dL_law_595 : decode cL_law 595 = .ok (.iadd, 1) := by decide +kernel
theorem dL_law_596 : decode cL_law 596 = .ok (.iaload, 1) := by decide +kernel
theorem dL_law_597 : decode cL_law 597 = .ok (.aload_n 0, 1) := by decide +kernel
theorem dL_law_598 : decode cL_law 598 = .ok (.iload 4, 2) := by decide +kernel
theorem dL_law_600 : decode cL_law 600 = .ok (.iconst 2, 1) := by decide +kernel
theorem dL_law_601 : decode cL_law 601 = .ok (.iadd, 1) := by decide +kernel
theorem dL_law_602 : decode cL_law 602 = .ok (.iaload, 1) := by decide +kernel
theorem dL_law_603 : decode cL_law 603 = .ok (.i2l, 1) := by decide +kernel
theorem dL_law_604 : decode cL_law 604 = .ok (.bipush 32, 2) := by decide +kernel
theorem dL_law_606 : decode cL_law 606 = .ok (.lshl, 1) := by decide +kernel
theorem dL_law_607 : decode cL_law 607 = .ok (.aload_n 0, 1) := by decide +kernel
theorem dL_law_608 : decode cL_law 608 = .ok (.iload 4, 2) := by decide +kernel
theorem dL_law_610 : decode cL_law 610 = .ok (.iconst 3, 1) := by decide +kernel
theorem dL_law_611 : decode cL_law 611 = .ok (.iadd, 1) := by decide +kernel
theorem dL_law_612 : decode cL_law 612 = .ok (.iaload, 1) := by decide +kernel
theorem dL_law_613 : decode cL_law 613 = .ok (.i2l, 1) := by decide +kernel
theorem dL_law_614 : decode cL_law 614 = .ok (.ldc2_w 27, 3) := by decide +kernel
theorem dL_law_617 : decode cL_law 617 = .ok (.land, 1) := by decide +kernel
theorem dL_law_618 : decode cL_law 618 = .ok (.lor, 1) := by decide +kernel
theorem dL_law_619 : decode cL_law 619 = .ok (.invokevirtual 67, 3) := by decide +kernel
theorem dL_law_622 : decode cL_law 622 = .ok (.if_icmp .eq 193, 3) := by decide +kernel
theorem dL_law_625 : decode cL_law 625 = .ok (.iconst 0, 1) := by decide +kernel
theorem dL_law_626 : decode cL_law 626 = .ok (.ireturn, 1) := by decide +kernel
theorem dL_law_627 : decode cL_law 627 = .ok (.aload_n 1, 1) := by decide +kernel
theorem dL_law_628 : decode cL_law 628 = .ok (.invokevirtual 68, 3) := by decide +kernel
theorem dL_law_631 : decode cL_law 631 = .ok (.aload_n 2, 1) := by decide +kernel
theorem dL_law_632 : decode cL_law 632 = .ok (.invokevirtual 72, 3) := by decide +kernel
theorem dL_law_635 : decode cL_law 635 = .ok (.if_icmp .eq 180, 3) := by decide +kernel
theorem dL_law_638 : decode cL_law 638 = .ok (.iconst 0, 1) := by decide +kernel
theorem dL_law_639 : decode cL_law 639 = .ok (.ireturn, 1) := by decide +kernel
theorem dL_law_640 : decode cL_law 640 = .ok (.aload_n 1, 1) := by decide +kernel
theorem dL_law_641 : decode cL_law 641 = .ok (.aload_n 0, 1) := by decide +kernel
theorem dL_law_642 : decode cL_law 642 = .ok (.iload 4, 2) := by decide +kernel
theorem dL_law_644 : decode cL_law 644 = .ok (.iconst 1, 1) := by decide +kernel
theorem dL_law_645 : decode cL_law 645 = .ok (.iadd, 1) := by decide +kernel
theorem dL_law_646 : decode cL_law 646 = .ok (.iaload, 1) := by decide +kernel
theorem dL_law_647 : decode cL_law 647 = .ok (.aload_n 0, 1) := by decide +kernel
theorem dL_law_648 : decode cL_law 648 = .ok (.iload 4, 2) := by decide +kernel
theorem dL_law_650 : decode cL_law 650 = .ok (.iconst 2, 1) := by decide +kernel
theorem dL_law_651 : decode cL_law 651 = .ok (.iadd, 1) := by decide +kernel
theorem dL_law_652 : decode cL_law 652 = .ok (.iaload, 1) := by decide +kernel
theorem dL_law_653 : decode cL_law 653 = .ok (.i2l, 1) := by decide +kernel
theorem dL_law_654 : decode cL_law 654 = .ok (.bipush 32, 2) := by decide +kernel
theorem dL_law_656 : decode cL_law 656 = .ok (.lshl, 1) := by decide +kernel
theorem dL_law_657 : decode cL_law 657 = .ok (.aload_n 0, 1) := by decide +kernel
theorem dL_law_658 : decode cL_law 658 = .ok (.iload 4, 2) := by decide +kernel
theorem dL_law_660 : decode cL_law 660 = .ok (.iconst 3, 1) := by decide +kernel
theorem dL_law_661 : decode cL_law 661 = .ok (.iadd, 1) := by decide +kernel
theorem dL_law_662 : decode cL_law 662 = .ok (.iaload, 1) := by decide +kernel
theorem dL_law_663 : decode cL_law 663 = .ok (.i2l, 1) := by decide +kernel
theorem dL_law_664 : decode cL_law 664 = .ok (.ldc2_w 27, 3) := by decide +kernel
theorem dL_law_667 : decode cL_law 667 = .ok (.land, 1) := by decide +kernel
theorem dL_law_668 : decode cL_law 668 = .ok (.lor, 1) := by decide +kernel
theorem dL_law_669 : decode cL_law 669 = .ok (.invokevirtual 73, 3) := by decide +kernel
theorem dL_law_672 : decode cL_law 672 = .ok (.aload_n 2, 1) := by decide +kernel
theorem dL_law_673 : decode cL_law 673 = .ok (.aload_n 0, 1) := by decide +kernel
theorem dL_law_674 : decode cL_law 674 = .ok (.iload 4, 2) := by decide +kernel
theorem dL_law_676 : decode cL_law 676 = .ok (.iconst 1, 1) := by decide +kernel
theorem dL_law_677 : decode cL_law 677 = .ok (.iadd, 1) := by decide +kernel
theorem dL_law_678 : decode cL_law 678 = .ok (.iaload, 1) := by decide +kernel
theorem dL_law_679 : decode cL_law 679 = .ok (.aload_n 0, 1) := by decide +kernel
theorem dL_law_680 : decode cL_law 680 = .ok (.iload 4, 2) := by decide +kernel
theorem dL_law_682 : decode cL_law 682 = .ok (.iconst 2, 1) := by decide +kernel
theorem dL_law_683 : decode cL_law 683 = .ok (.iadd, 1) := by decide +kernel
theorem dL_law_684 : decode cL_law 684 = .ok (.iaload, 1) := by decide +kernel
theorem dL_law_685 : decode cL_law 685 = .ok (.i2l, 1) := by decide +kernel
theorem dL_law_686 : decode cL_law 686 = .ok (.bipush 32, 2) := by decide +kernel
theorem dL_law_688 : decode cL_law 688 = .ok (.lshl, 1) := by decide +kernel
theorem dL_law_689 : decode cL_law 689 = .ok (.aload_n 0, 1) := by decide +kernel
theorem dL_law_690 : decode cL_law 690 = .ok (.iload 4, 2) := by decide +kernel
theorem dL_law_692 : decode cL_law 692 = .ok (.iconst 3, 1) := by decide +kernel
theorem dL_law_693 : decode cL_law 693 = .ok (.iadd, 1) := by decide +kernel
theorem dL_law_694 : decode cL_law 694 = .ok (.iaload, 1) := by decide +kernel
theorem dL_law_695 : decode cL_law 695 = .ok (.i2l, 1) := by decide +kernel
theorem dL_law_696 : decode cL_law 696 = .ok (.ldc2_w 27, 3) := by decide +kernel
theorem dL_law_699 : decode cL_law 699 = .ok (.land, 1) := by decide +kernel
theorem dL_law_700 : decode cL_law 700 = .ok (.lor, 1) := by decide +kernel
theorem dL_law_701 : decode cL_law 701 = .ok (.invokevirtual 76, 3) := by decide +kernel
theorem dL_law_704 : decode cL_law 704 = .ok (.if_icmp .eq 111, 3) := by decide +kernel
theorem dL_law_707 : decode cL_law 707 = .ok (.iconst 0, 1) := by decide +kernel
theorem dL_law_708 : decode cL_law 708 = .ok (.ireturn, 1) := by decide +kernel
theorem dL_law_709 : decode cL_law 709 = .ok (.aload_n 1, 1) := by decide +kernel
theorem dL_law_710 : decode cL_law 710 = .ok (.aload_n 0, 1) := by decide +kernel
theorem dL_law_711 : decode cL_law 711 = .ok (.iload 4, 2) := by decide +kernel
theorem dL_law_713 : decode cL_law 713 = .ok (.iconst 1, 1) := by decide +kernel
theorem dL_law_714 : decode cL_law 714 = .ok (.iadd, 1) := by decide +kernel
theorem dL_law_715 : decode cL_law 715 = .ok (.iaload, 1) := by decide +kernel
theorem dL_law_716 : decode cL_law 716 = .ok (.invokevirtual 77, 3) := by decide +kernel
theorem dL_law_719 : decode cL_law 719 = .ok (.aload_n 2, 1) := by decide +kernel
theorem dL_law_720 : decode cL_law 720 = .ok (.aload_n 0, 1) := by decide +kernel
theorem dL_law_721 : decode cL_law 721 = .ok (.iload 4, 2) := by decide +kernel
theorem dL_law_723 : decode cL_law 723 = .ok (.iconst 1, 1) := by decide +kernel
theorem dL_law_724 : decode cL_law 724 = .ok (.iadd, 1) := by decide +kernel
theorem dL_law_725 : decode cL_law 725 = .ok (.iaload, 1) := by decide +kernel
theorem dL_law_726 : decode cL_law 726 = .ok (.invokevirtual 80, 3) := by decide +kernel
theorem dL_law_729 : decode cL_law 729 = .ok (.if_icmp .eq 86, 3) := by decide +kernel
theorem dL_law_732 : decode cL_law 732 = .ok (.iconst 0, 1) := by decide +kernel
theorem dL_law_733 : decode cL_law 733 = .ok (.ireturn, 1) := by decide +kernel
theorem dL_law_734 : decode cL_law 734 = .ok (.aload_n 1, 1) := by decide +kernel
theorem dL_law_735 : decode cL_law 735 = .ok (.aload_n 0, 1) := by decide +kernel
theorem dL_law_736 : decode cL_law 736 = .ok (.iload 4, 2) := by decide +kernel
theorem dL_law_738 : decode cL_law 738 = .ok (.iconst 1, 1) := by decide +kernel
theorem dL_law_739 : decode cL_law 739 = .ok (.iadd, 1) := by decide +kernel
theorem dL_law_740 : decode cL_law 740 = .ok (.iaload, 1) := by decide +kernel
theorem dL_law_741 : decode cL_law 741 = .ok (.aload_n 3, 1) := by decide +kernel
theorem dL_law_742 : decode cL_law 742 = .ok (.invokestatic 81, 3) := by decide +kernel
theorem dL_law_745 : decode cL_law 745 = .ok (.istore 5, 2) := by decide +kernel
theorem dL_law_747 : decode cL_law 747 = .ok (.aload_n 2, 1) := by decide +kernel
theorem dL_law_748 : decode cL_law 748 = .ok (.aload_n 0, 1) := by decide +kernel
theorem dL_law_749 : decode cL_law 749 = .ok (.iload 4, 2) := by decide +kernel
theorem dL_law_751 : decode cL_law 751 = .ok (.iconst 1, 1) := by decide +kernel
theorem dL_law_752 : decode cL_law 752 = .ok (.iadd, 1) := by decide +kernel
theorem dL_law_753 : decode cL_law 753 = .ok (.iaload, 1) := by decide +kernel
theorem dL_law_754 : decode cL_law 754 = .ok (.invokevirtual 84, 3) := by decide +kernel
theorem dL_law_757 : decode cL_law 757 = .ok (.istore 6, 2) := by decide +kernel
theorem dL_law_759 : decode cL_law 759 = .ok (.aload_n 2, 1) := by decide +kernel
theorem dL_law_760 : decode cL_law 760 = .ok (.invokevirtual 85, 3) := by decide +kernel
theorem dL_law_763 : decode cL_law 763 = .ok (.iload 5, 2) := by decide +kernel
theorem dL_law_765 : decode cL_law 765 = .ok (.if_icmp .eq 5, 3) := by decide +kernel
theorem dL_law_768 : decode cL_law 768 = .ok (.iconst 0, 1) := by decide +kernel
theorem dL_law_769 : decode cL_law 769 = .ok (.ireturn, 1) := by decide +kernel
theorem dL_law_770 : decode cL_law 770 = .ok (.iload 5, 2) := by decide +kernel
theorem dL_law_772 : decode cL_law 772 = .ok (.ifCond .ne 15, 3) := by decide +kernel
theorem dL_law_775 : decode cL_law 775 = .ok (.aload_n 3, 1) := by decide +kernel
theorem dL_law_776 : decode cL_law 776 = .ok (.iconst 0, 1) := by decide +kernel
theorem dL_law_777 : decode cL_law 777 = .ok (.laload, 1) := by decide +kernel
theorem dL_law_778 : decode cL_law 778 = .ok (.iload 6, 2) := by decide +kernel
theorem dL_law_780 : decode cL_law 780 = .ok (.i2l, 1) := by decide +kernel
theorem dL_law_781 : decode cL_law 781 = .ok (.lcmp, 1) := by decide +kernel
theorem dL_law_782 : decode cL_law 782 = .ok (.ifCond .eq 5, 3) := by decide +kernel
theorem dL_law_785 : decode cL_law 785 = .ok (.iconst 0, 1) := by decide +kernel
theorem dL_law_786 : decode cL_law 786 = .ok (.ireturn, 1) := by decide +kernel
theorem dL_law_787 : decode cL_law 787 = .ok (.goto 28, 3) := by decide +kernel
theorem dL_law_790 : decode cL_law 790 = .ok (.aload_n 1, 1) := by decide +kernel
theorem dL_law_791 : decode cL_law 791 = .ok (.aload_n 0, 1) := by decide +kernel
theorem dL_law_792 : decode cL_law 792 = .ok (.iload 4, 2) := by decide +kernel
theorem dL_law_794 : decode cL_law 794 = .ok (.iconst 1, 1) := by decide +kernel
theorem dL_law_795 : decode cL_law 795 = .ok (.iadd, 1) := by decide +kernel
theorem dL_law_796 : decode cL_law 796 = .ok (.iaload, 1) := by decide +kernel
theorem dL_law_797 : decode cL_law 797 = .ok (.invokevirtual 88, 3) := by decide +kernel
theorem dL_law_800 : decode cL_law 800 = .ok (.aload_n 2, 1) := by decide +kernel
theorem dL_law_801 : decode cL_law 801 = .ok (.aload_n 0, 1) := by decide +kernel
theorem dL_law_802 : decode cL_law 802 = .ok (.iload 4, 2) := by decide +kernel
theorem dL_law_804 : decode cL_law 804 = .ok (.iconst 1, 1) := by decide +kernel
theorem dL_law_805 : decode cL_law 805 = .ok (.iadd, 1) := by decide +kernel
theorem dL_law_806 : decode cL_law 806 = .ok (.iaload, 1) := by decide +kernel
theorem dL_law_807 : decode cL_law 807 = .ok (.invokevirtual 91, 3) := by decide +kernel
theorem dL_law_810 : decode cL_law 810 = .ok (.if_icmp .eq 5, 3) := by decide +kernel
theorem dL_law_813 : decode cL_law 813 = .ok (.iconst 0, 1) := by decide +kernel
theorem dL_law_814 : decode cL_law 814 = .ok (.ireturn, 1) := by decide +kernel
theorem dL_law_815 : decode cL_law 815 = .ok (.iinc 4 8, 3) := by decide +kernel
theorem dL_law_818 : decode cL_law 818 = .ok (.goto (-785), 3) := by decide +kernel
theorem dL_law_821 : decode cL_law 821 = .ok (.iconst 1, 1) := by decide +kernel
theorem dL_law_822 : decode cL_law 822 = .ok (.ireturn, 1) := by decide +kernel
abbrev vwCl : List vw_C := [(RJx00060, TJx00060, 6), (RX0, TX0, 3), (RX1, TX1, 2), (RX2, TX2, 7), (RX3, TX3, 9), (RX4, TX4, 20)]
end
section
/-! What is the same for every class: a contract of a method that makes nothing and writes at most the cells of its world; a call of it. -/
/-- the addresses of a world -/
def up_c (ws : va_W) : Nat → Prop := fun q => ∃ (k : Nat) (e : va_E), ws[k]? = some (q, e)
/-- the end of a method that returns v and leaves the world ws' where ws was -/
def up_Q (D : va_G) (cl : List vw_C) (v : Option Value) (ws ws' : va_W) : Array Value → State → Outcome → State → Prop := fun _ st o t => o = .returned v ∧ va_P D cl ws' t.heap ∧ va_F (up_c ws) st t
/-- the start of a method over the world ws -/
def up_P (D : va_G) (cl : List vw_C) (tys : List (ClassId × FieldType)) (ws : va_W) (av : List Value) : Array Value → State → Prop := va_Pc av (fun U => va_P D cl ws U.heap ∧ va_K D cl tys U ∧ va_D (fun _ => True) ws)
theorem up_cast {D : va_G} {cl : List vw_C} {ws ws' : va_W} {H : Heap} (h : ws = ws') (x : va_P D cl ws H) : va_P D cl ws' H := h ▸ x
theorem up_castD {A : Nat → Prop} {ws ws' : va_W} (h : ws = ws') (x : va_D A ws) : va_D A ws' := h ▸ x
theorem up_self {B : Nat → Prop} {ws : va_W} (h : va_D B ws) : va_D (up_c ws) ws := ⟨h.1, fun k q hq => ⟨k, q.2, hq⟩⟩
theorem up_Dfst {A : Nat → Prop} {ws ws' : va_W} (h : ws'.map Prod.fst = ws.map Prod.fst) (hD : va_D A ws) : va_D A ws' := by
  have key : ∀ (k : Nat) (q : Nat × va_E), ws'[k]? = some q → ∃ q0, ws[k]? = some q0 ∧ q0.1 = q.1 := by
    intro k q hk
    have h1 : (ws'.map Prod.fst)[k]? = some q.1 := by rw [List.getElem?_map, hk]; rfl
    rw [h, List.getElem?_map] at h1
    cases h2 : ws[k]? with
    | none => rw [h2] at h1; cases h1
    | some q0 => rw [h2] at h1; exact ⟨q0, rfl, Option.some.inj h1⟩
  refine ⟨fun i j x y hi hj hxy => ?_, fun k q hk => ?_⟩
  · obtain ⟨x0, h1, h2⟩ := key i x hi
    obtain ⟨y0, h3, h4⟩ := key j y hj
    exact hD.1 i j x0 y0 h1 h3 (h2.trans (hxy.trans h4.symm))
  · obtain ⟨q0, h1, h2⟩ := key k q hk
    rw [← h2]
    exact hD.2 k q0 h1
theorem up_blind {D : va_G} {cl : List vw_C} {tys : List (ClassId × FieldType)} {ws : va_W} {av : List Value} : FrameBlind (up_P D cl tys ws av) := fun a U g mk q => by
  obtain ⟨q0, qP, qK, qD⟩ := q
  exact ⟨q0, qP, va_K.moved (u := U) (U := U.calling g mk a) (Vm.Alike.refl U.vm) qK, qD⟩
theorem up_preS {D : va_G} {cl : List vw_C} {tys : List (ClassId × FieldType)} {ws : va_W} {av : List Value} {s : State} {H : Heap} {A : Nat → Prop} (hP : va_P D cl ws H) (hK : va_K D cl tys s) (hD : va_D A ws) : PreS s H (up_P D cl tys ws av) av :=
  ⟨up_blind, fun U hU hW => ⟨rfl, by rw [hU]; exact hP, va_K.moved hW.alike hK, hD.weaken (fun _ _ _ _ => trivial)⟩⟩
theorem up_preV {D : va_G} {cl : List vw_C} {tys : List (ClassId × FieldType)} {ws : va_W} {As : List Value} {s : State} {H : Heap} {A : Nat → Prop} {C : String} {T : u_T} {N ci q0 b : Nat} {fs : List Value} (hP : va_P D cl ws H) (hK : va_K D cl tys s) (hD : va_D A ws) (hc : cl[ci]? = some (C, T, N)) (he : ws[q0]? = some (b, .inr (ci, fs))) : PreV s H C b (up_P D cl tys ws (.ref b :: As)) As :=
  ⟨up_blind, va_recv hK hP hc he, (up_preS hP hK hD).2⟩
theorem up_dec (x : Int32) : x + Int32.ofInt (-1) = x - 1 := by
  rw [Int32.sub_eq_add_neg]; rfl
theorem up_b8 (f : Nat → Int8) (k : Nat) (b : Int8) : upd (fun j => (f j).toInt32) k (vp_nar .byte b.toInt32) = fun j => (va_up f k b j).toInt32 := by
  funext j
  rw [vp_nar_byte]
  by_cases h : j = k <;> simp [upd, va_up, h]
theorem up_in {x : Int32} {N : Nat} (hN : N < 2 ^ 31) (h0 : ¬ x < 0) (h1 : ¬ nI N ≤ x) : vp_in x N := by
  rw [vp_in_iff]
  have e := nI_toInt hN
  simp only [Int32.lt_iff_toInt_lt, Int32.le_iff_toInt_le] at h0 h1
  rw [e] at h1
  have z : (0 : Int32).toInt = 0 := rfl
  rw [z] at h0
  omega
section UP
variable {p : Program} {l : Launch} {e : Env} {R : Room} {s : State} {m : MethodId} {args : Array Value} {below : List Frame} {meth : Method} {c : Code} {H : Heap} {locs : List Loc} {cells slots : Nat} {Q : State → Prop} {pc : Nat} {ls : Array Slot} {st0 rest : List Value} {D : va_G} {cl : List vw_C} {A : Nat → Prop} {ws ws' : va_W} {H0 : Heap} {a : Array Value}
theorem up_read {r : Value} (hr : CallRun p l e R s m args below meth c H locs cells slots 0 0 (F0 m pc ls st0) rest (k2_QcV r a) (fun _ => False)) (kk : W p l e R s m args below meth c H locs cells slots Q (F0 m (pc + 3) ls (r :: rest))) : W p l e R s m args below meth c H locs cells slots Q (F0 m pc ls st0) := W.callV hr kk
theorem up_call {v : Option Value} (hr : CallRun p l e R s m args below meth c H locs cells slots 0 0 (F0 m pc ls st0) rest (up_Q D cl v ws ws' a) (up_c ws)) (hD : va_D A ws) (hS : va_S A H0 H locs) (hf : ws'.map Prod.fst = ws.map Prod.fst)
    (kk : ∀ (H1 : Heap) (locs1 : List Loc), va_P D cl ws' H1 → va_D A ws' → va_S A H0 H1 locs1 → H.size ≤ H1.size → (∀ q : Nat, q < H.size → ¬ up_c ws q → H1[q]? = H[q]?) → W p l e R s m args below meth c H1 locs1 cells slots Q (F0 m (pc + 3) ls (v.toList ++ rest))) : W p l e R s m args below meth c H locs cells slots Q (F0 m pc ls st0) := by
  intro T hT X
  obtain ⟨v', st₀, t, T', L, h0, X', hL, e1, ⟨hv, hP1, hF⟩, st⟩ := hr T hT X
  cases hv
  subst h0
  have hc : ∀ q, up_c ws q → A q := fun q h => by
    obtain ⟨k, e9, h9⟩ := h
    exact hD.2 k (q, e9) h9
  have hS1 : va_S A H0 t.heap (locs ++ L) := by
    refine ⟨Nat.le_trans hS.1 hF.1, fun q hq hn => ?_, fun q hq => ?_⟩
    · rw [hF.2 q (Nat.lt_of_lt_of_le hq hS.1) (fun h => hn (hc q h))]
      exact hS.2.1 q hq hn
    · rcases List.mem_append.mp hq with h1 | h1
      · exact hS.2.2 q h1
      · exact hc _ (hL q h1)
  obtain ⟨t2, a1, b1⟩ := kk t.heap (locs ++ L) hP1 (up_Dfst hf hD) hS1 hF.1 hF.2 T' e1 X'
  exact ⟨t2, st t2 a1, b1⟩
end UP
end
section
/-! The class's world: DoorKeys, its keys' row, two frames with their octets, the doors with their states, and n keys. -/
abbrev KR : Type := Int64 × Int32 × Int32 × Int32 × Int32 × Int32 × Int32
abbrev kcell (k : KR) : va_E := .inr (3, [.long k.1, .int k.2.1, .int k.2.2.1, .int k.2.2.2.1, .int k.2.2.2.2.1, .int k.2.2.2.2.2.1, .int k.2.2.2.2.2.2])
def kpool (L : Nat → Nat) (K : Nat → KR) (n : Nat) : va_W := (List.range n).map (fun i => (L i, kcell (K i)))
def dkW (cK cB cI : ClassId) (o ks fa oa fb ob dr ds : Nat) (L : Nat → Nat) (n : Nat) (sp : Int32) (co en : Nat) (cr rl qs kA : Int32) (oA : Nat → Int8) (kB : Int32) (oB : Nat → Int8) (tt ss : Int64) (st : Nat → Int32) (K : Nat → KR) : va_W :=
  (o, .inr (4, [.int sp, .ref ks, .int (nI n), .ref co, .ref en, .ref dr, .int cr, .int rl, .int qs])) :: (ks, .inl (cK, 8, .inr (.inr (.inr (.inr (fun i => if i < n then some (L i) else none)))))) :: (fa, .inr (2, [.ref oa, .int kA])) :: (oa, .inl (cB, 16, .inl (fun j => (oA j).toInt32))) :: (fb, .inr (2, [.ref ob, .int kB])) :: (ob, .inl (cB, 16, .inl (fun j => (oB j).toInt32))) :: (dr, .inr (1, [.ref ds, .long tt, .long ss])) :: (ds, .inl (cI, 5, .inl st)) :: kpool L K n
abbrev dkT (cK cB cI : ClassId) : List (ClassId × FieldType) := [(cK, .object "DoorKeys$Key"), (cB, .byte), (cI, .int)]
theorem kpool_get {L : Nat → Nat} {K : Nat → KR} {n i : Nat} (hi : i < n) : (kpool L K n)[i]? = some (L i, kcell (K i)) := by
  simp [kpool, hi]
theorem kpool_set {L : Nat → Nat} {K : Nat → KR} {n i : Nat} {r : KR} : (kpool L K n).set i (L i, kcell r) = kpool L (va_up K i r) n := by
  apply List.ext_getElem?
  intro j
  by_cases hj : j < n
  · by_cases h : i = j
    · subst h
      simp [kpool, hj, va_up]
    · have h2 : ¬ j = i := fun z => h z.symm
      simp [kpool, hj, va_up, List.getElem?_set, h, h2]
  · have hl : ¬ i = j ∨ ¬ j < n := Or.inr hj
    by_cases h : i = j
    · subst h
      simp [kpool, hj, List.getElem?_set]
    · simp [kpool, hj, List.getElem?_set, h]
theorem kpool_fst {L : Nat → Nat} {K : Nat → KR} {n : Nat} : (kpool L K n).map Prod.fst = (List.range n).map L := by
  simp [kpool, Function.comp_def]
section DKW
variable {cK cB cI : ClassId} {o ks fa oa fb ob dr ds : Nat} {L : Nat → Nat} {n : Nat} {sp : Int32} {co en : Nat} {cr rl qs kA : Int32} {oA : Nat → Int8} {kB : Int32} {oB : Nat → Int8} {tt ss : Int64} {st : Nat → Int32} {K : Nat → KR} {i : Nat} {k r r0 : KR} {x : Int32}
theorem dk_keyk (hi : i < n) (hk : K i = k) : (dkW cK cB cI o ks fa oa fb ob dr ds L n sp co en cr rl qs kA oA kB oB tt ss st K)[i + 8]? = some (L i, kcell k) := by
  subst hk
  exact kpool_get hi
theorem dk_put (_hi : i < n) : (dkW cK cB cI o ks fa oa fb ob dr ds L n sp co en cr rl qs kA oA kB oB tt ss st K).set (i + 8) (L i, kcell r) = dkW cK cB cI o ks fa oa fb ob dr ds L n sp co en cr rl qs kA oA kB oB tt ss st (va_up K i r) := by
  unfold dkW
  rw [← kpool_set]
  rfl
theorem dk_putU (hi : i < n) : (dkW cK cB cI o ks fa oa fb ob dr ds L n sp co en cr rl qs kA oA kB oB tt ss st (va_up K i r0)).set (i + 8) (L i, kcell r) = dkW cK cB cI o ks fa oa fb ob dr ds L n sp co en cr rl qs kA oA kB oB tt ss st (va_up K i r) := by
  rw [dk_put hi, bx_uu]
theorem dk_fst : (dkW cK cB cI o ks fa oa fb ob dr ds L n sp co en cr rl qs kA oA kB oB tt ss st K).map Prod.fst = o :: ks :: fa :: oa :: fb :: ob :: dr :: ds :: (List.range n).map L := by
  unfold dkW
  simp only [List.map_cons, kpool_fst]
/-- the two frames change their places in the list -/
theorem dk_swapP {D : va_G} {cl : List vw_C} {H : Heap} (h : va_P D cl (dkW cK cB cI o ks fa oa fb ob dr ds L n sp co en cr rl qs kA oA kB oB tt ss st K) H) : va_P D cl (dkW cK cB cI o ks fb ob fa oa dr ds L n sp co en cr rl qs kB oB kA oA tt ss st K) H := by
  refine va_P.by h (fun k => match k with | 2 => 4 | 3 => 5 | 4 => 2 | 5 => 3 | k => k) ?_
  intro k q hk
  match k, hk with
  | 0, hk => exact hk
  | 1, hk => exact hk
  | 2, hk => exact hk
  | 3, hk => exact hk
  | 4, hk => exact hk
  | 5, hk => exact hk
  | 6, hk => exact hk
  | 7, hk => exact hk
  | k + 8, hk => exact hk
theorem dk_swapD {A : Nat → Prop} (h : va_D A (dkW cK cB cI o ks fa oa fb ob dr ds L n sp co en cr rl qs kA oA kB oB tt ss st K)) : va_D A (dkW cK cB cI o ks fb ob fa oa dr ds L n sp co en cr rl qs kB oB kA oA tt ss st K) := by
  refine va_D.by h (fun k => match k with | 2 => 4 | 3 => 5 | 4 => 2 | 5 => 3 | k => k) ?_ ?_
  · intro k q hk
    match k, hk with
    | 0, hk => exact hk
    | 1, hk => exact hk
    | 2, hk => exact hk
    | 3, hk => exact hk
    | 4, hk => exact hk
    | 5, hk => exact hk
    | 6, hk => exact hk
    | 7, hk => exact hk
    | k + 8, hk => exact hk
  · intro i j _ _ hij
    match i, j, hij with
    | 0, 0, _ | 1, 1, _ | 2, 2, _ | 3, 3, _ | 4, 4, _ | 5, 5, _ | 6, 6, _ | 7, 7, _ => rfl
    | i + 6, j + 6, hij => exact hij
    | 0, j + 6, hij | 1, j + 6, hij | 2, j + 6, hij | 3, j + 6, hij | 4, j + 6, hij | 5, j + 6, hij => simp at hij; try omega
    | i + 6, 0, hij | i + 6, 1, hij | i + 6, 2, hij | i + 6, 3, hij | i + 6, 4, hij | i + 6, 5, hij => simp at hij; try omega
    | 0, 1, hij | 0, 2, hij | 0, 3, hij | 0, 4, hij | 0, 5, hij | 1, 0, hij | 1, 2, hij | 1, 3, hij | 1, 4, hij | 1, 5, hij | 2, 0, hij | 2, 1, hij | 2, 3, hij | 2, 4, hij | 2, 5, hij | 3, 0, hij | 3, 1, hij | 3, 2, hij | 3, 4, hij | 3, 5, hij | 4, 0, hij | 4, 1, hij | 4, 2, hij | 4, 3, hij | 4, 5, hij | 5, 0, hij | 5, 1, hij | 5, 2, hij | 5, 3, hij | 5, 4, hij => simp at hij
/-- a number of a key -/
abbrev dk_fkP (n : Nat) (x : Int32) : Prop := ¬ x < 1 ∧ ¬ nI n < x
/-- its place -/
def dk_fki (x : Int32) : Nat := (x - 1).toNatClampNeg
theorem dk_fk_ex (hn : n ≤ 8) (h : dk_fkP n x) : ∃ j : Nat, j < n ∧ x = nI (j + 1) := by
  obtain ⟨h1, h2⟩ := h
  have h0 : ¬ x < 0 := by
    simp only [Int32.lt_iff_toInt_lt] at h1 ⊢
    have z : (0 : Int32).toInt = 0 := rfl
    have o : (1 : Int32).toInt = 1 := rfl
    omega
  obtain ⟨j, hj, rfl⟩ := nI_of h0
  have e2 := (nI_ltI (a := n) (b := j) (by omega) hj)
  have e1 := (nI_ltI (a := j) (b := 1) hj (by omega))
  have h1' : ¬ j < 1 := fun z => h1 (e1.mpr z)
  have h2' : ¬ n < j := fun z => h2 (e2.mpr z)
  exact ⟨j - 1, by omega, by congr 1; omega⟩
theorem dk_fki_nI {j : Nat} (hj : j < 8) : dk_fki (nI (j + 1)) = j := by
  unfold dk_fki
  rw [nI_pred]
  exact nI_clamp (by omega)
theorem dk_fk_lt (hn : n ≤ 8) (h : dk_fkP n x) : dk_fki x < n := by
  obtain ⟨j, hj, rfl⟩ := dk_fk_ex hn h
  rw [dk_fki_nI (by omega)]
  exact hj
theorem dk_fk_in (hn : n ≤ 8) (h : dk_fkP n x) : vp_in (x - 1) 8 := by
  obtain ⟨j, hj, rfl⟩ := dk_fk_ex hn h
  rw [nI_pred]
  exact vp_in_nI (by omega) (by decide)
theorem dk_fk_8 (hn : n ≤ 8) (h : dk_fkP n x) : ¬ 8 < x := by
  obtain ⟨j, hj, rfl⟩ := dk_fk_ex hn h
  exact nI_nlt (a := 8) (b := j + 1) (by omega) (by decide)
theorem dk_fkv (hn : n ≤ 8) (h : dk_fkP n x) : va_rf ((fun i => if i < n then some (L i) else none) (x - 1).toNatClampNeg) = .ref (L (dk_fki x)) := by
  have := dk_fk_lt hn h
  unfold dk_fki at this ⊢
  simp only [this, if_true]
  rfl
theorem dk_fk_nI {j : Nat} (hj : j < n) (hn : n ≤ 8) : dk_fkP n (nI (j + 1)) := ⟨nI_nlt (a := j + 1) (b := 1) (by omega) (by omega), nI_nlt (a := n) (b := j + 1) (by omega) (by omega)⟩
end DKW
end
section
/-! the doors (laid by wip/gen.py) -/
set_option maxRecDepth 20000 in
theorem inn_X0_has_X0 : ∀ w ∈ wsX00, w ∈ wsX0_has := by decide +kernel
set_option maxRecDepth 20000 in
theorem inn_X0_hasAny_X0 : ∀ w ∈ wsX00, w ∈ wsX0_hasAny := by decide +kernel
set_option maxRecDepth 20000 in
theorem inn_X0_turn_X0 : ∀ w ∈ wsX00, w ∈ wsX0_turn := by decide +kernel
set_option maxRecDepth 20000 in
theorem inn_X0_isGuarded_X0 : ∀ w ∈ wsX00, w ∈ wsX0_isGuarded := by decide +kernel
set_option maxRecDepth 20000 in
theorem inn_X0_openOne_X0 : ∀ w ∈ wsX00, w ∈ wsX0_openOne := by decide +kernel
set_option maxRecDepth 20000 in
theorem inn_X0_openBootUnlessDead_X0 : ∀ w ∈ wsX00, w ∈ wsX0_openBootUnlessDead := by decide +kernel
set_option maxRecDepth 20000 in
theorem inn_X0_noteShut_X0 : ∀ w ∈ wsX00, w ∈ wsX0_noteShut := by decide +kernel
set_option maxRecDepth 20000 in
theorem inn_X0_shutBoot_X0 : ∀ w ∈ wsX00, w ∈ wsX0_shutBoot := by decide +kernel
def dk_dhas (x : Int32) : Int32 :=
  if x < 0 then
    (0 : Int32)
  else
    if 5 ≤ x then
      (0 : Int32)
    else
      (1 : Int32)
theorem dk_dhas_in {x : Int32} (h : ¬ dk_dhas x = 0) : vp_in x 5 := by
  unfold dk_dhas at h
  by_cases h0 : x < 0
  · rw [if_pos h0] at h; exact absurd rfl h
  · rw [if_neg h0] at h
    by_cases h1 : 5 ≤ x
    · rw [if_pos h1] at h; exact absurd rfl h
    · exact up_in (N := 5) (by decide) h0 h1
def rm_X0_has : Room := { frames := 0, cells := 0, slots := 0, locals := 0 }
set_option maxHeartbeats 4000000 in
set_option maxRecDepth 100000 in
theorem c_X0_has (l : Launch) (dC : Nat → ClassId) (dI : Nat → Nat → Nat) (cK : ClassId) (cB : ClassId) (cI : ClassId) (o : Nat) (ks : Nat) (fa : Nat) (oa : Nat) (fb : Nat) (ob : Nat) (dr : Nat) (ds : Nat) (L : Nat → Nat) (n : Nat) (sp : Int32) (co : Nat) (en : Nat) (cr : Int32) (rl : Int32) (qs : Int32) (kA : Int32) (oA : Nat → Int8) (kB : Int32) (oB : Nat → Int8) (tt : Int64) (ss : Int64) (st : Nat → Int32) (K : Nat → KR) (x : Int32) : Met l yX0_has wsX0_has rm_X0_has (up_P (dC, dI) vwCl (dkT cK cB cI) (dkW cK cB cI o ks fa oa fb ob dr ds L n sp co en cr rl qs kA oA kB oB tt ss st K) [.ref dr, .int x]) (k2_QcV (.int (dk_dhas x))) 0 0 (fun _ => False) := by
  refine Met.ofW (cc := cX0_has) (maxL := 2) (ret := (some .boolean)) (by decide) rfl ?_
  intro p e s m args below meth c s₁ B hml hv
  obtain ⟨rfl, hP, hK, hD0⟩ := hv
  have hx := B.exec
  have hb := B.bytes
  have hr := B.returns
  have hts := atoms_spec (ws := wsX0_has) B.pre
  have hown : s.vm.findClass RX0 = some m.cls := findClass_of_methodNamed B.named
  have hlocks := B.notSynchronized
  have hD := up_self hD0
  have hS : va_S (up_c (dkW cK cB cI o ks fa oa fb ob dr ds L n sp co en cr rl qs kA oA kB oB tt ss st K)) s.heap s.heap [] := va_S.rf
  have hl := lv_entry ([.ref dr, .int x]) (n := 2) (Nat.le_of_ble_eq_true rfl)
  rw [lg_entry_eq]
  generalize (lg_sl ([.ref dr, .int x]) ++ List.replicate (2 - (lg_sl ([.ref dr, .int x])).length) Slot.unset).toArray = ls at hl ⊢
  have hl : lv_has ls 2 [(0, .ref dr), (1, .int x)] := hl
  refine lv_iload_n hx hb dX0_has_0 rfl (lv_at hl 1 rfl) ?_
  refine lv_if_lt (tgt := 17) hx hb dX0_has_1 (by decide) (fun c_1 => ?_) (fun c_1 => ?_)
  · refine lv_iconst (v := 0) hx hb dX0_has_17 (by decide) ?_
    have e_ : dk_dhas x = (0 : Int32) := by unfold dk_dhas; exact (if_pos c_1).trans rfl
    rw [e_]
    exact W.zret (v := 0) hx hb hr (by decide) (fun t ht hW => ⟨rfl, ht⟩) (fun q h => absurd h List.not_mem_nil) dX0_has_18
  · refine lv_iload_n hx hb dX0_has_4 rfl (lv_at hl 1 rfl) ?_
    refine lv_aload_n hx hb dX0_has_5 rfl (lv_at hl 0 rfl) ?_
    refine va_get (D := (dC, dI)) (ci := 1) (v := .ref ds) (C := RX0) (T := TX0) (N := 3) hx hb hts inn_X0_has_X0 hown hK hP 6 rfl rfl 0 (by decide) (hts (.fieldLink RX0 11 "DoorKeys$Doors" "states" "[I") (by decide +kernel)) (fun _ h9 => h9) rfl dX0_has_6 ?_
    refine va_alen (v := 5) hx hb hK hP 7 2 rfl rfl rfl dX0_has_9 ?_
    refine lv_icmp_ge (tgt := 17) hx hb dX0_has_10 (by decide) (fun c_10 => ?_) (fun c_10 => ?_)
    · refine lv_iconst (v := 0) hx hb dX0_has_17 (by decide) ?_
      have e_ : dk_dhas x = (0 : Int32) := by unfold dk_dhas; exact (if_neg c_1).trans ((if_pos c_10).trans rfl)
      rw [e_]
      exact W.zret (v := 0) hx hb hr (by decide) (fun t ht hW => ⟨rfl, ht⟩) (fun q h => absurd h List.not_mem_nil) dX0_has_18
    · refine lv_iconst (v := 1) hx hb dX0_has_13 (by decide) ?_
      refine lv_goto (tgt := 18) hx hb dX0_has_14 (by decide) ?_
      have e_ : dk_dhas x = (1 : Int32) := by unfold dk_dhas; exact (if_neg c_1).trans ((if_neg c_10).trans rfl)
      rw [e_]
      exact W.zret (v := 1) hx hb hr (by decide) (fun t ht hW => ⟨rfl, ht⟩) (fun q h => absurd h List.not_mem_nil) dX0_has_18
def dk_any_l (st : Nat → Int32) (x : Int32) : Nat → Nat → Int32
  | 0, _ =>
    (0 : Int32)
  | r + 1, j =>
    if (st ((nI j).toNatClampNeg)) = x then
      (1 : Int32)
    else
      dk_any_l st x r (j + 1)
def dk_any (st : Nat → Int32) (x : Int32) : Int32 :=
  dk_any_l st x 5 0
def rm_X0_hasAny : Room := { frames := 0, cells := 0, slots := 0, locals := 0 }
set_option maxHeartbeats 4000000 in
set_option maxRecDepth 100000 in
theorem c_X0_hasAny (l : Launch) (dC : Nat → ClassId) (dI : Nat → Nat → Nat) (cK : ClassId) (cB : ClassId) (cI : ClassId) (o : Nat) (ks : Nat) (fa : Nat) (oa : Nat) (fb : Nat) (ob : Nat) (dr : Nat) (ds : Nat) (L : Nat → Nat) (n : Nat) (sp : Int32) (co : Nat) (en : Nat) (cr : Int32) (rl : Int32) (qs : Int32) (kA : Int32) (oA : Nat → Int8) (kB : Int32) (oB : Nat → Int8) (tt : Int64) (ss : Int64) (st : Nat → Int32) (K : Nat → KR) (x : Int32) : Met l yX0_hasAny wsX0_hasAny rm_X0_hasAny (up_P (dC, dI) vwCl (dkT cK cB cI) (dkW cK cB cI o ks fa oa fb ob dr ds L n sp co en cr rl qs kA oA kB oB tt ss st K) [.ref dr, .int x]) (k2_QcV (.int (dk_any st x))) 0 0 (fun _ => False) := by
  refine Met.ofW (cc := cX0_hasAny) (maxL := 3) (ret := (some .boolean)) (by decide) rfl ?_
  intro p e s m args below meth c s₁ B hml hv
  obtain ⟨rfl, hP, hK, hD0⟩ := hv
  have hx := B.exec
  have hb := B.bytes
  have hr := B.returns
  have hts := atoms_spec (ws := wsX0_hasAny) B.pre
  have hown : s.vm.findClass RX0 = some m.cls := findClass_of_methodNamed B.named
  have hlocks := B.notSynchronized
  have hD := up_self hD0
  have hS : va_S (up_c (dkW cK cB cI o ks fa oa fb ob dr ds L n sp co en cr rl qs kA oA kB oB tt ss st K)) s.heap s.heap [] := va_S.rf
  have hl := lv_entry ([.ref dr, .int x]) (n := 3) (Nat.le_of_ble_eq_true rfl)
  rw [lg_entry_eq]
  generalize (lg_sl ([.ref dr, .int x]) ++ List.replicate (3 - (lg_sl ([.ref dr, .int x])).length) Slot.unset).toArray = ls at hl ⊢
  have hl : lv_has ls 3 [(0, .ref dr), (1, .int x)] := hl
  refine lv_iconst (v := 0) hx hb dX0_hasAny_0 (by decide) ?_
  refine lv_istore_n (lv' := [(2, .int 0), (0, .ref dr), (1, .int x)]) hx hb dX0_hasAny_1 rfl hl (by decide) rfl (fun ls hl => ?_)
  have lp : ∀ (r j : Nat)  , j + r = 5 → ∀ ls : Array Slot, lv_has ls 3 [(0, .ref dr), (1, .int x), (2, .int (nI j))] → W p l e (headSpec wsX0_hasAny rm_X0_hasAny).room s m ([.ref dr, .int x] : List Value).toArray below meth c s.heap [] 0 0 (MQ below (k2_QcV (.int (dk_any_l st x r j))) ([.ref dr, .int x] : List Value).toArray s 0 0 (fun _ => False)) (F0 m 2 ls []) := by
    intro r
    induction r with
    | zero =>
      intro j hj ls hl
      refine lv_iload_n hx hb dX0_hasAny_2 rfl (lv_at hl 2 rfl) ?_
      refine lv_aload_n hx hb dX0_hasAny_3 rfl (lv_at hl 0 rfl) ?_
      refine va_get (D := (dC, dI)) (ci := 1) (v := .ref ds) (C := RX0) (T := TX0) (N := 3) hx hb hts inn_X0_hasAny_X0 hown hK hP 6 rfl rfl 0 (by decide) (hts (.fieldLink RX0 11 "DoorKeys$Doors" "states" "[I") (by decide +kernel)) (fun _ h9 => h9) rfl dX0_hasAny_4 ?_
      refine va_alen (v := 5) hx hb hK hP 7 2 rfl rfl rfl dX0_hasAny_7 ?_
      refine lv_icmp_ge (tgt := 29) hx hb dX0_hasAny_8 (by decide) (fun c_8 => ?_) (fun c_8 => (c_8 (nI_le (a := 5) (b := j) (by omega) (by omega))).elim)
      refine lv_iconst (v := 0) hx hb dX0_hasAny_29 (by decide) ?_
      have e_ : dk_any_l st x 0 j = (0 : Int32) := (dk_any_l.eq_1 ..).trans rfl
      rw [e_]
      exact W.zret (v := 0) hx hb hr (by decide) (fun t ht hW => ⟨rfl, ht⟩) (fun q h => absurd h List.not_mem_nil) dX0_hasAny_30
    | succ r ih =>
      intro j hj ls hl
      refine lv_iload_n hx hb dX0_hasAny_2 rfl (lv_at hl 2 rfl) ?_
      refine lv_aload_n hx hb dX0_hasAny_3 rfl (lv_at hl 0 rfl) ?_
      refine va_get (D := (dC, dI)) (ci := 1) (v := .ref ds) (C := RX0) (T := TX0) (N := 3) hx hb hts inn_X0_hasAny_X0 hown hK hP 6 rfl rfl 0 (by decide) (hts (.fieldLink RX0 11 "DoorKeys$Doors" "states" "[I") (by decide +kernel)) (fun _ h9 => h9) rfl dX0_hasAny_4 ?_
      refine va_alen (v := 5) hx hb hK hP 7 2 rfl rfl rfl dX0_hasAny_7 ?_
      refine lv_icmp_ge (tgt := 29) hx hb dX0_hasAny_8 (by decide) (fun c_8 => (nI_ge (a := j) (b := 5) (by omega) (by omega) c_8).elim) (fun c_8 => ?_)
      refine lv_aload_n hx hb dX0_hasAny_11 rfl (lv_at hl 0 rfl) ?_
      refine va_get (D := (dC, dI)) (ci := 1) (v := .ref ds) (C := RX0) (T := TX0) (N := 3) hx hb hts inn_X0_hasAny_X0 hown hK hP 6 rfl rfl 0 (by decide) (hts (.fieldLink RX0 11 "DoorKeys$Doors" "states" "[I") (by decide +kernel)) (fun _ h9 => h9) rfl dX0_hasAny_12 ?_
      refine lv_iload_n hx hb dX0_hasAny_15 rfl (lv_at hl 2 rfl) ?_
      refine va_iald hx hb hK hP 7 2 rfl rfl (vp_in_nI (n := j) (N := 5) (by omega) (by decide)) dX0_hasAny_16 ?_
      refine lv_iload_n hx hb dX0_hasAny_17 rfl (lv_at hl 1 rfl) ?_
      refine lv_icmp_ne (tgt := 23) hx hb dX0_hasAny_18 (by decide) (fun c_18 => ?_) (fun c_18 => ?_)
      · refine lv_iinc (v := (nI (j + 1))) (lv' := [(2, .int (nI (j + 1))), (0, .ref dr), (1, .int x)]) hx hb dX0_hasAny_23 hl (k := 2) rfl (nI_1 _) (by decide) rfl (fun ls hl => ?_)
        refine lv_goto (tgt := 2) hx hb dX0_hasAny_26 (by decide) ?_
        have e_ : dk_any_l st x (r + 1) j = dk_any_l st x r (j + 1) := (dk_any_l.eq_2 ..).trans ((if_neg c_18).trans rfl)
        rw [e_]
        exact ih (j + 1)  (by omega) ls (lv_sub hl [1, 2, 0] rfl)
      · refine lv_iconst (v := 1) hx hb dX0_hasAny_21 (by decide) ?_
        have e_ : dk_any_l st x (r + 1) j = (1 : Int32) := (dk_any_l.eq_2 ..).trans ((if_pos c_18).trans rfl)
        rw [e_]
        exact W.zret (v := 1) hx hb hr (by decide) (fun t ht hW => ⟨rfl, ht⟩) (fun q h => absurd h List.not_mem_nil) dX0_hasAny_22
  have e_ : dk_any st x = dk_any_l st x 5 0 := by unfold dk_any; exact rfl
  rw [e_]
  exact lp 5 0 (by omega) ls (lv_sub hl [1, 2, 0] rfl)
def dk_turn_l (x : Int32) (y : Int32) : Nat → Nat → Int32 → (Nat → Int32) → Int32 × (Nat → Int32)
  | 0, _, ac, st_ =>
    (ac, st_)
  | r + 1, j, ac, st_ =>
    if (st_ ((nI j).toNatClampNeg)) = x then
      dk_turn_l x y r (j + 1) (ac + 1) (upd st_ ((nI j).toNatClampNeg) y)
    else
      dk_turn_l x y r (j + 1) ac st_
def dk_turn (st : Nat → Int32) (x : Int32) (y : Int32) : Int32 × (Nat → Int32) :=
  dk_turn_l x y 5 0 0 st
def rm_X0_turn : Room := { frames := 0, cells := 0, slots := 0, locals := 0 }
set_option maxHeartbeats 4000000 in
set_option maxRecDepth 100000 in
theorem c_X0_turn (l : Launch) (dC : Nat → ClassId) (dI : Nat → Nat → Nat) (cK : ClassId) (cB : ClassId) (cI : ClassId) (o : Nat) (ks : Nat) (fa : Nat) (oa : Nat) (fb : Nat) (ob : Nat) (dr : Nat) (ds : Nat) (L : Nat → Nat) (n : Nat) (sp : Int32) (co : Nat) (en : Nat) (cr : Int32) (rl : Int32) (qs : Int32) (kA : Int32) (oA : Nat → Int8) (kB : Int32) (oB : Nat → Int8) (tt : Int64) (ss : Int64) (st : Nat → Int32) (K : Nat → KR) (x : Int32) (y : Int32) : Met l yX0_turn wsX0_turn rm_X0_turn (up_P (dC, dI) vwCl (dkT cK cB cI) (dkW cK cB cI o ks fa oa fb ob dr ds L n sp co en cr rl qs kA oA kB oB tt ss st K) [.ref dr, .int x, .int y]) (up_Q (dC, dI) vwCl (some (.int ((dk_turn st x y).1))) (dkW cK cB cI o ks fa oa fb ob dr ds L n sp co en cr rl qs kA oA kB oB tt ss st K) (dkW cK cB cI o ks fa oa fb ob dr ds L n sp co en cr rl qs kA oA kB oB tt ss ((dk_turn st x y).2) K)) 0 0 (up_c (dkW cK cB cI o ks fa oa fb ob dr ds L n sp co en cr rl qs kA oA kB oB tt ss st K)) := by
  refine Met.ofW (cc := cX0_turn) (maxL := 5) (ret := (some .int)) (by decide) rfl ?_
  intro p e s m args below meth c s₁ B hml hv
  obtain ⟨rfl, hP, hK, hD0⟩ := hv
  have hx := B.exec
  have hb := B.bytes
  have hr := B.returns
  have hts := atoms_spec (ws := wsX0_turn) B.pre
  have hown : s.vm.findClass RX0 = some m.cls := findClass_of_methodNamed B.named
  have hlocks := B.notSynchronized
  have hD := up_self hD0
  have hS : va_S (up_c (dkW cK cB cI o ks fa oa fb ob dr ds L n sp co en cr rl qs kA oA kB oB tt ss st K)) s.heap s.heap [] := va_S.rf
  have hl := lv_entry ([.ref dr, .int x, .int y]) (n := 5) (Nat.le_of_ble_eq_true rfl)
  rw [lg_entry_eq]
  generalize (lg_sl ([.ref dr, .int x, .int y]) ++ List.replicate (5 - (lg_sl ([.ref dr, .int x, .int y])).length) Slot.unset).toArray = ls at hl ⊢
  have hl : lv_has ls 5 [(0, .ref dr), (1, .int x), (2, .int y)] := hl
  refine lv_iconst (v := 0) hx hb dX0_turn_0 (by decide) ?_
  refine lv_istore_n (lv' := [(3, .int 0), (0, .ref dr), (1, .int x), (2, .int y)]) hx hb dX0_turn_1 rfl hl (by decide) rfl (fun ls hl => ?_)
  refine lv_iconst (v := 0) hx hb dX0_turn_2 (by decide) ?_
  refine lv_istore (lv' := [(4, .int 0), (3, .int 0), (0, .ref dr), (1, .int x), (2, .int y)]) hx hb dX0_turn_3 hl (by decide) rfl (fun ls hl => ?_)
  have lp : ∀ (r j : Nat) (ac : Int32) (st_ : Nat → Int32), j + r = 5 → ∀ (H : Heap) (locs : List Loc), va_P (dC, dI) vwCl (dkW cK cB cI o ks fa oa fb ob dr ds L n sp co en cr rl qs kA oA kB oB tt ss st_ K) H → va_D (up_c (dkW cK cB cI o ks fa oa fb ob dr ds L n sp co en cr rl qs kA oA kB oB tt ss st K)) (dkW cK cB cI o ks fa oa fb ob dr ds L n sp co en cr rl qs kA oA kB oB tt ss st_ K) → va_S (up_c (dkW cK cB cI o ks fa oa fb ob dr ds L n sp co en cr rl qs kA oA kB oB tt ss st K)) s.heap H locs → ∀ ls : Array Slot, lv_has ls 5 [(0, .ref dr), (1, .int x), (2, .int y), (4, .int (nI j)), (3, .int ac)] → W p l e (headSpec wsX0_turn rm_X0_turn).room s m ([.ref dr, .int x, .int y] : List Value).toArray below meth c H locs 0 0 (MQ below (up_Q (dC, dI) vwCl (some (.int ((dk_turn_l x y r j ac st_).1))) (dkW cK cB cI o ks fa oa fb ob dr ds L n sp co en cr rl qs kA oA kB oB tt ss st K) (dkW cK cB cI o ks fa oa fb ob dr ds L n sp co en cr rl qs kA oA kB oB tt ss ((dk_turn_l x y r j ac st_).2) K)) ([.ref dr, .int x, .int y] : List Value).toArray s 0 0 (up_c (dkW cK cB cI o ks fa oa fb ob dr ds L n sp co en cr rl qs kA oA kB oB tt ss st K))) (F0 m 5 ls []) := by
    intro r
    induction r with
    | zero =>
      intro j ac st_ hj H locs hP hD hS ls hl
      refine lv_iload hx hb dX0_turn_5 (lv_at hl 3 rfl) ?_
      refine lv_aload_n hx hb dX0_turn_7 rfl (lv_at hl 0 rfl) ?_
      refine va_get (D := (dC, dI)) (ci := 1) (v := .ref ds) (C := RX0) (T := TX0) (N := 3) hx hb hts inn_X0_turn_X0 hown hK hP 6 rfl rfl 0 (by decide) (hts (.fieldLink RX0 11 "DoorKeys$Doors" "states" "[I") (by decide +kernel)) (fun _ h9 => h9) rfl dX0_turn_8 ?_
      refine va_alen (v := 5) hx hb hK hP 7 2 rfl rfl rfl dX0_turn_11 ?_
      refine lv_icmp_ge (tgt := 43) hx hb dX0_turn_12 (by decide) (fun c_12 => ?_) (fun c_12 => (c_12 (nI_le (a := 5) (b := j) (by omega) (by omega))).elim)
      refine lv_iload_n hx hb dX0_turn_43 rfl (lv_at hl 4 rfl) ?_
      have e_ : dk_turn_l x y 0 j ac st_ = (ac, st_) := (dk_turn_l.eq_1 ..).trans rfl
      rw [e_]
      exact W.iret (v := ac) hx hb hr (fun t ht hW => ⟨rfl, by rw [ht]; exact hP, hS.F ht⟩) hS.2.2 dX0_turn_44
    | succ r ih =>
      intro j ac st_ hj H locs hP hD hS ls hl
      refine lv_iload hx hb dX0_turn_5 (lv_at hl 3 rfl) ?_
      refine lv_aload_n hx hb dX0_turn_7 rfl (lv_at hl 0 rfl) ?_
      refine va_get (D := (dC, dI)) (ci := 1) (v := .ref ds) (C := RX0) (T := TX0) (N := 3) hx hb hts inn_X0_turn_X0 hown hK hP 6 rfl rfl 0 (by decide) (hts (.fieldLink RX0 11 "DoorKeys$Doors" "states" "[I") (by decide +kernel)) (fun _ h9 => h9) rfl dX0_turn_8 ?_
      refine va_alen (v := 5) hx hb hK hP 7 2 rfl rfl rfl dX0_turn_11 ?_
      refine lv_icmp_ge (tgt := 43) hx hb dX0_turn_12 (by decide) (fun c_12 => (nI_ge (a := j) (b := 5) (by omega) (by omega) c_12).elim) (fun c_12 => ?_)
      refine lv_aload_n hx hb dX0_turn_15 rfl (lv_at hl 0 rfl) ?_
      refine va_get (D := (dC, dI)) (ci := 1) (v := .ref ds) (C := RX0) (T := TX0) (N := 3) hx hb hts inn_X0_turn_X0 hown hK hP 6 rfl rfl 0 (by decide) (hts (.fieldLink RX0 11 "DoorKeys$Doors" "states" "[I") (by decide +kernel)) (fun _ h9 => h9) rfl dX0_turn_16 ?_
      refine lv_iload hx hb dX0_turn_19 (lv_at hl 3 rfl) ?_
      refine va_iald hx hb hK hP 7 2 rfl rfl (vp_in_nI (n := j) (N := 5) (by omega) (by decide)) dX0_turn_21 ?_
      refine lv_iload_n hx hb dX0_turn_22 rfl (lv_at hl 1 rfl) ?_
      refine lv_icmp_ne (tgt := 37) hx hb dX0_turn_23 (by decide) (fun c_23 => ?_) (fun c_23 => ?_)
      · refine lv_iinc (v := (nI (j + 1))) (lv' := [(4, .int (nI (j + 1))), (0, .ref dr), (1, .int x), (2, .int y), (3, .int ac)]) hx hb dX0_turn_37 hl (k := 3) rfl (nI_1 _) (by decide) rfl (fun ls hl => ?_)
        refine lv_goto (tgt := 5) hx hb dX0_turn_40 (by decide) ?_
        have e_ : dk_turn_l x y (r + 1) j ac st_ = dk_turn_l x y r (j + 1) ac st_ := (dk_turn_l.eq_2 ..).trans ((if_neg c_23).trans rfl)
        rw [e_]
        exact ih (j + 1) ac st_ (by omega) _ _ hP hD hS ls (lv_sub hl [1, 2, 3, 0, 4] rfl)
      · refine lv_aload_n hx hb dX0_turn_26 rfl (lv_at hl 0 rfl) ?_
        refine va_get (D := (dC, dI)) (ci := 1) (v := .ref ds) (C := RX0) (T := TX0) (N := 3) hx hb hts inn_X0_turn_X0 hown hK hP 6 rfl rfl 0 (by decide) (hts (.fieldLink RX0 11 "DoorKeys$Doors" "states" "[I") (by decide +kernel)) (fun _ h9 => h9) rfl dX0_turn_27 ?_
        refine lv_iload hx hb dX0_turn_30 (lv_at hl 3 rfl) ?_
        refine lv_iload_n hx hb dX0_turn_32 rfl (lv_at hl 2 rfl) ?_
        refine va_iast hx hb hK hP hD hS 7 2 rfl rfl (vp_in_nI (n := j) (N := 5) (by omega) (by decide)) dX0_turn_33 (fun H locs hP hD hS => ?_)
        have hP : va_P (dC, dI) vwCl (dkW cK cB cI o ks fa oa fb ob dr ds L n sp co en cr rl qs kA oA kB oB tt ss (upd st_ ((nI j).toNatClampNeg) y) K) H := hP
        have hD : va_D (up_c (dkW cK cB cI o ks fa oa fb ob dr ds L n sp co en cr rl qs kA oA kB oB tt ss st K)) (dkW cK cB cI o ks fa oa fb ob dr ds L n sp co en cr rl qs kA oA kB oB tt ss (upd st_ ((nI j).toNatClampNeg) y) K) := hD
        refine lv_iinc (v := (ac + 1)) (lv' := [(3, .int (ac + 1)), (0, .ref dr), (1, .int x), (2, .int y), (4, .int (nI j))]) hx hb dX0_turn_34 hl (k := 4) rfl (by rfl) (by decide) rfl (fun ls hl => ?_)
        refine lv_iinc (v := (nI (j + 1))) (lv' := [(4, .int (nI (j + 1))), (3, .int (ac + 1)), (0, .ref dr), (1, .int x), (2, .int y)]) hx hb dX0_turn_37 hl (k := 4) rfl (nI_1 _) (by decide) rfl (fun ls hl => ?_)
        refine lv_goto (tgt := 5) hx hb dX0_turn_40 (by decide) ?_
        have e_ : dk_turn_l x y (r + 1) j ac st_ = dk_turn_l x y r (j + 1) (ac + 1) (upd st_ ((nI j).toNatClampNeg) y) := (dk_turn_l.eq_2 ..).trans ((if_pos c_23).trans rfl)
        rw [e_]
        exact ih (j + 1) (ac + 1) (upd st_ ((nI j).toNatClampNeg) y) (by omega) _ _ hP hD hS ls (lv_sub hl [2, 3, 4, 0, 1] rfl)
  have e_ : dk_turn st x y = dk_turn_l x y 5 0 0 st := by unfold dk_turn; exact rfl
  rw [e_]
  exact lp 5 0 0 st (by omega) _ _ hP hD hS ls (lv_sub hl [2, 3, 4, 0, 1] rfl)
def dk_guard (st : Nat → Int32) (tt : Int64) (ss : Int64) : Int32 :=
  if dk_any st 0 = 0 then
    if (lg_cmp (tt - ss) 30) < 0 then
      (0 : Int32)
    else
      (1 : Int32)
  else
    (0 : Int32)
def rm_X0_isGuarded : Room := { frames := 1, cells := 0, slots := 0, locals := 22 }
set_option maxHeartbeats 4000000 in
set_option maxRecDepth 100000 in
theorem c_X0_isGuarded (l : Launch) (dC : Nat → ClassId) (dI : Nat → Nat → Nat) (cK : ClassId) (cB : ClassId) (cI : ClassId) (o : Nat) (ks : Nat) (fa : Nat) (oa : Nat) (fb : Nat) (ob : Nat) (dr : Nat) (ds : Nat) (L : Nat → Nat) (n : Nat) (sp : Int32) (co : Nat) (en : Nat) (cr : Int32) (rl : Int32) (qs : Int32) (kA : Int32) (oA : Nat → Int8) (kB : Int32) (oB : Nat → Int8) (tt : Int64) (ss : Int64) (st : Nat → Int32) (K : Nat → KR) : Met l yX0_isGuarded wsX0_isGuarded rm_X0_isGuarded (up_P (dC, dI) vwCl (dkT cK cB cI) (dkW cK cB cI o ks fa oa fb ob dr ds L n sp co en cr rl qs kA oA kB oB tt ss st K) [.ref dr]) (k2_QcV (.int (dk_guard st tt ss))) 0 0 (fun _ => False) := by
  refine Met.ofW (cc := cX0_isGuarded) (maxL := 1) (ret := (some .boolean)) (by decide) rfl ?_
  intro p e s m args below meth c s₁ B hml hv
  obtain ⟨rfl, hP, hK, hD0⟩ := hv
  have hx := B.exec
  have hb := B.bytes
  have hr := B.returns
  have hts := atoms_spec (ws := wsX0_isGuarded) B.pre
  have hown : s.vm.findClass RX0 = some m.cls := findClass_of_methodNamed B.named
  have hlocks := B.notSynchronized
  have hD := up_self hD0
  have hS : va_S (up_c (dkW cK cB cI o ks fa oa fb ob dr ds L n sp co en cr rl qs kA oA kB oB tt ss st K)) s.heap s.heap [] := va_S.rf
  have hl := lv_entry ([.ref dr]) (n := 1) (Nat.le_of_ble_eq_true rfl)
  rw [lg_entry_eq]
  generalize (lg_sl ([.ref dr]) ++ List.replicate (1 - (lg_sl ([.ref dr])).length) Slot.unset).toArray = ls at hl ⊢
  have hl : lv_has ls 1 [(0, .ref dr)] := hl
  refine lv_aload_n hx hb dX0_isGuarded_0 rfl (lv_at hl 0 rfl) ?_
  refine lv_iconst (v := 0) hx hb dX0_isGuarded_1 (by decide) ?_
  refine up_read (W.runV (As := [.int 0]) (rest := []) ⟨hx, hb, hml, hown, hts⟩ (c_X0_hasAny l dC dI cK cB cI o ks fa oa fb ob dr ds L n sp co en cr rl qs kA oA kB oB tt ss st K 0) (cwV 1 hts gX0_isGuarded_X0_hasAny rfl rfl rfl (by decide +kernel) ⟨Nat.le_of_ble_eq_true rfl, Nat.le_of_ble_eq_true rfl⟩) (up_preV (q0 := 6) (ci := 1) hP hK hD rfl rfl) rfl rfl hl.1 rfl (lv_room (Nat.le_of_ble_eq_true rfl)) dX0_isGuarded_2 ⟨Nat.le_of_ble_eq_true rfl, Nat.le_of_ble_eq_true rfl⟩) ?_
  refine lv_if_ne (tgt := 28) hx hb dX0_isGuarded_5 (by decide) (fun c_5 => ?_) (fun c_5 => ?_)
  · refine lv_iconst (v := 0) hx hb dX0_isGuarded_28 (by decide) ?_
    have e_ : dk_guard st tt ss = (0 : Int32) := by unfold dk_guard; exact (if_neg c_5).trans rfl
    rw [e_]
    exact W.zret (v := 0) hx hb hr (by decide) (fun t ht hW => ⟨rfl, ht⟩) (fun q h => absurd h List.not_mem_nil) dX0_isGuarded_29
  · refine lv_aload_n hx hb dX0_isGuarded_8 rfl (lv_at hl 0 rfl) ?_
    refine va_get (D := (dC, dI)) (ci := 1) (v := .long tt) (C := RX0) (T := TX0) (N := 3) hx hb hts inn_X0_isGuarded_X0 hown hK hP 6 rfl rfl 1 (by decide) (hts (.fieldLink RX0 19 "DoorKeys$Doors" "timeTold" "J") (by decide +kernel)) (fun _ h9 => h9) rfl dX0_isGuarded_9 ?_
    refine lv_aload_n hx hb dX0_isGuarded_12 rfl (lv_at hl 0 rfl) ?_
    refine va_get (D := (dC, dI)) (ci := 1) (v := .long ss) (C := RX0) (T := TX0) (N := 3) hx hb hts inn_X0_isGuarded_X0 hown hK hP 6 rfl rfl 2 (by decide) (hts (.fieldLink RX0 23 "DoorKeys$Doors" "shutSince" "J") (by decide +kernel)) (fun _ h9 => h9) rfl dX0_isGuarded_13 ?_
    refine lv_lsub hx hb dX0_isGuarded_16 ?_
    refine lv_ldc2 (v := 30) hx hb hown (hts (.constantLong RX0 26 30) (by decide +kernel)) dX0_isGuarded_17 ?_
    refine W.lcmp hx hb dX0_isGuarded_20 ?_
    refine lv_if_lt (tgt := 28) hx hb dX0_isGuarded_21 (by decide) (fun c_21 => ?_) (fun c_21 => ?_)
    · refine lv_iconst (v := 0) hx hb dX0_isGuarded_28 (by decide) ?_
      have e_ : dk_guard st tt ss = (0 : Int32) := by unfold dk_guard; exact (if_pos c_5).trans ((if_pos c_21).trans rfl)
      rw [e_]
      exact W.zret (v := 0) hx hb hr (by decide) (fun t ht hW => ⟨rfl, ht⟩) (fun q h => absurd h List.not_mem_nil) dX0_isGuarded_29
    · refine lv_iconst (v := 1) hx hb dX0_isGuarded_24 (by decide) ?_
      refine lv_goto (tgt := 29) hx hb dX0_isGuarded_25 (by decide) ?_
      have e_ : dk_guard st tt ss = (1 : Int32) := by unfold dk_guard; exact (if_pos c_5).trans ((if_neg c_21).trans rfl)
      rw [e_]
      exact W.zret (v := 1) hx hb hr (by decide) (fun t ht hW => ⟨rfl, ht⟩) (fun q h => absurd h List.not_mem_nil) dX0_isGuarded_29
def dk_openAll (st : Nat → Int32) : Int32 × (Nat → Int32) :=
  (((dk_turn st 1 0).1 + (dk_turn ((dk_turn st 1 0).2) 2 0).1), (dk_turn ((dk_turn st 1 0).2) 2 0).2)
def rm_X0_openAll : Room := { frames := 1, cells := 0, slots := 0, locals := 24 }
set_option maxHeartbeats 4000000 in
set_option maxRecDepth 100000 in
theorem c_X0_openAll (l : Launch) (dC : Nat → ClassId) (dI : Nat → Nat → Nat) (cK : ClassId) (cB : ClassId) (cI : ClassId) (o : Nat) (ks : Nat) (fa : Nat) (oa : Nat) (fb : Nat) (ob : Nat) (dr : Nat) (ds : Nat) (L : Nat → Nat) (n : Nat) (sp : Int32) (co : Nat) (en : Nat) (cr : Int32) (rl : Int32) (qs : Int32) (kA : Int32) (oA : Nat → Int8) (kB : Int32) (oB : Nat → Int8) (tt : Int64) (ss : Int64) (st : Nat → Int32) (K : Nat → KR) : Met l yX0_openAll wsX0_openAll rm_X0_openAll (up_P (dC, dI) vwCl (dkT cK cB cI) (dkW cK cB cI o ks fa oa fb ob dr ds L n sp co en cr rl qs kA oA kB oB tt ss st K) [.ref dr]) (up_Q (dC, dI) vwCl (some (.int ((dk_openAll st).1))) (dkW cK cB cI o ks fa oa fb ob dr ds L n sp co en cr rl qs kA oA kB oB tt ss st K) (dkW cK cB cI o ks fa oa fb ob dr ds L n sp co en cr rl qs kA oA kB oB tt ss ((dk_openAll st).2) K)) 0 0 (up_c (dkW cK cB cI o ks fa oa fb ob dr ds L n sp co en cr rl qs kA oA kB oB tt ss st K)) := by
  refine Met.ofW (cc := cX0_openAll) (maxL := 1) (ret := (some .int)) (by decide) rfl ?_
  intro p e s m args below meth c s₁ B hml hv
  obtain ⟨rfl, hP, hK, hD0⟩ := hv
  have hx := B.exec
  have hb := B.bytes
  have hr := B.returns
  have hts := atoms_spec (ws := wsX0_openAll) B.pre
  have hown : s.vm.findClass RX0 = some m.cls := findClass_of_methodNamed B.named
  have hlocks := B.notSynchronized
  have hD := up_self hD0
  have hS : va_S (up_c (dkW cK cB cI o ks fa oa fb ob dr ds L n sp co en cr rl qs kA oA kB oB tt ss st K)) s.heap s.heap [] := va_S.rf
  have hl := lv_entry ([.ref dr]) (n := 1) (Nat.le_of_ble_eq_true rfl)
  rw [lg_entry_eq]
  generalize (lg_sl ([.ref dr]) ++ List.replicate (1 - (lg_sl ([.ref dr])).length) Slot.unset).toArray = ls at hl ⊢
  have hl : lv_has ls 1 [(0, .ref dr)] := hl
  refine lv_aload_n hx hb dX0_openAll_0 rfl (lv_at hl 0 rfl) ?_
  refine lv_iconst (v := 1) hx hb dX0_openAll_1 (by decide) ?_
  refine lv_iconst (v := 0) hx hb dX0_openAll_2 (by decide) ?_
  refine up_call (W.runV (As := [.int 1, .int 0]) (rest := []) ⟨hx, hb, hml, hown, hts⟩ (c_X0_turn l dC dI cK cB cI o ks fa oa fb ob dr ds L n sp co en cr rl qs kA oA kB oB tt ss st K 1 0) (cwV 2 hts gX0_openAll_X0_turn rfl rfl rfl (by decide +kernel) ⟨Nat.le_of_ble_eq_true rfl, Nat.le_of_ble_eq_true rfl⟩) (up_preV (q0 := 6) (ci := 1) hP hK hD rfl rfl) rfl rfl hl.1 rfl (lv_room (Nat.le_of_ble_eq_true rfl)) dX0_openAll_3 ⟨Nat.le_of_ble_eq_true rfl, Nat.le_of_ble_eq_true rfl⟩) hD hS ((dk_fst ..).trans (dk_fst ..).symm) (fun H locs hP hD hS _ _ => ?_)
  have hP : va_P (dC, dI) vwCl (dkW cK cB cI o ks fa oa fb ob dr ds L n sp co en cr rl qs kA oA kB oB tt ss ((dk_turn st 1 0).2) K) H := hP
  have hD : va_D (up_c (dkW cK cB cI o ks fa oa fb ob dr ds L n sp co en cr rl qs kA oA kB oB tt ss st K)) (dkW cK cB cI o ks fa oa fb ob dr ds L n sp co en cr rl qs kA oA kB oB tt ss ((dk_turn st 1 0).2) K) := hD
  refine lv_aload_n hx hb dX0_openAll_6 rfl (lv_at hl 0 rfl) ?_
  refine lv_iconst (v := 2) hx hb dX0_openAll_7 (by decide) ?_
  refine lv_iconst (v := 0) hx hb dX0_openAll_8 (by decide) ?_
  refine up_call (W.runV (As := [.int 2, .int 0]) (rest := [.int ((dk_turn st 1 0).1)]) ⟨hx, hb, hml, hown, hts⟩ (c_X0_turn l dC dI cK cB cI o ks fa oa fb ob dr ds L n sp co en cr rl qs kA oA kB oB tt ss ((dk_turn st 1 0).2) K 2 0) (cwV 2 hts gX0_openAll_X0_turn rfl rfl rfl (by decide +kernel) ⟨Nat.le_of_ble_eq_true rfl, Nat.le_of_ble_eq_true rfl⟩) (up_preV (q0 := 6) (ci := 1) hP hK hD rfl rfl) rfl rfl hl.1 rfl (lv_room (Nat.le_of_ble_eq_true rfl)) dX0_openAll_9 ⟨Nat.le_of_ble_eq_true rfl, Nat.le_of_ble_eq_true rfl⟩) hD hS ((dk_fst ..).trans (dk_fst ..).symm) (fun H locs hP hD hS _ _ => ?_)
  have hP : va_P (dC, dI) vwCl (dkW cK cB cI o ks fa oa fb ob dr ds L n sp co en cr rl qs kA oA kB oB tt ss ((dk_turn ((dk_turn st 1 0).2) 2 0).2) K) H := hP
  have hD : va_D (up_c (dkW cK cB cI o ks fa oa fb ob dr ds L n sp co en cr rl qs kA oA kB oB tt ss st K)) (dkW cK cB cI o ks fa oa fb ob dr ds L n sp co en cr rl qs kA oA kB oB tt ss ((dk_turn ((dk_turn st 1 0).2) 2 0).2) K) := hD
  refine lv_iadd hx hb dX0_openAll_12 ?_
  have e_ : dk_openAll st = (((dk_turn st 1 0).1 + (dk_turn ((dk_turn st 1 0).2) 2 0).1), (dk_turn ((dk_turn st 1 0).2) 2 0).2) := by unfold dk_openAll; exact rfl
  rw [e_]
  exact W.iret (v := ((dk_turn st 1 0).1 + (dk_turn ((dk_turn st 1 0).2) 2 0).1)) hx hb hr (fun t ht hW => ⟨rfl, by rw [ht]; exact hP, hS.F ht⟩) hS.2.2 dX0_openAll_13
def dk_openOne (st : Nat → Int32) (x : Int32) : (Nat → Int32) :=
  if dk_dhas x = 0 then
    st
  else
    (upd st x.toNatClampNeg 0)
def rm_X0_openOne : Room := { frames := 1, cells := 0, slots := 0, locals := 21 }
set_option maxHeartbeats 4000000 in
set_option maxRecDepth 100000 in
theorem c_X0_openOne (l : Launch) (dC : Nat → ClassId) (dI : Nat → Nat → Nat) (cK : ClassId) (cB : ClassId) (cI : ClassId) (o : Nat) (ks : Nat) (fa : Nat) (oa : Nat) (fb : Nat) (ob : Nat) (dr : Nat) (ds : Nat) (L : Nat → Nat) (n : Nat) (sp : Int32) (co : Nat) (en : Nat) (cr : Int32) (rl : Int32) (qs : Int32) (kA : Int32) (oA : Nat → Int8) (kB : Int32) (oB : Nat → Int8) (tt : Int64) (ss : Int64) (st : Nat → Int32) (K : Nat → KR) (x : Int32) : Met l yX0_openOne wsX0_openOne rm_X0_openOne (up_P (dC, dI) vwCl (dkT cK cB cI) (dkW cK cB cI o ks fa oa fb ob dr ds L n sp co en cr rl qs kA oA kB oB tt ss st K) [.ref dr, .int x]) (up_Q (dC, dI) vwCl none (dkW cK cB cI o ks fa oa fb ob dr ds L n sp co en cr rl qs kA oA kB oB tt ss st K) (dkW cK cB cI o ks fa oa fb ob dr ds L n sp co en cr rl qs kA oA kB oB tt ss (dk_openOne st x) K)) 0 0 (up_c (dkW cK cB cI o ks fa oa fb ob dr ds L n sp co en cr rl qs kA oA kB oB tt ss st K)) := by
  refine Met.ofW (cc := cX0_openOne) (maxL := 2) (ret := none) (by decide) rfl ?_
  intro p e s m args below meth c s₁ B hml hv
  obtain ⟨rfl, hP, hK, hD0⟩ := hv
  have hx := B.exec
  have hb := B.bytes
  have hr := B.returns
  have hts := atoms_spec (ws := wsX0_openOne) B.pre
  have hown : s.vm.findClass RX0 = some m.cls := findClass_of_methodNamed B.named
  have hlocks := B.notSynchronized
  have hD := up_self hD0
  have hS : va_S (up_c (dkW cK cB cI o ks fa oa fb ob dr ds L n sp co en cr rl qs kA oA kB oB tt ss st K)) s.heap s.heap [] := va_S.rf
  have hl := lv_entry ([.ref dr, .int x]) (n := 2) (Nat.le_of_ble_eq_true rfl)
  rw [lg_entry_eq]
  generalize (lg_sl ([.ref dr, .int x]) ++ List.replicate (2 - (lg_sl ([.ref dr, .int x])).length) Slot.unset).toArray = ls at hl ⊢
  have hl : lv_has ls 2 [(0, .ref dr), (1, .int x)] := hl
  refine lv_aload_n hx hb dX0_openOne_0 rfl (lv_at hl 0 rfl) ?_
  refine lv_iload_n hx hb dX0_openOne_1 rfl (lv_at hl 1 rfl) ?_
  refine up_read (W.runV (As := [.int x]) (rest := []) ⟨hx, hb, hml, hown, hts⟩ (c_X0_has l dC dI cK cB cI o ks fa oa fb ob dr ds L n sp co en cr rl qs kA oA kB oB tt ss st K x) (cwV 1 hts gX0_openOne_X0_has rfl rfl rfl (by decide +kernel) ⟨Nat.le_of_ble_eq_true rfl, Nat.le_of_ble_eq_true rfl⟩) (up_preV (q0 := 6) (ci := 1) hP hK hD rfl rfl) rfl rfl hl.1 rfl (lv_room (Nat.le_of_ble_eq_true rfl)) dX0_openOne_2 ⟨Nat.le_of_ble_eq_true rfl, Nat.le_of_ble_eq_true rfl⟩) ?_
  refine lv_if_eq (tgt := 15) hx hb dX0_openOne_5 (by decide) (fun c_5 => ?_) (fun c_5 => ?_)
  · have e_ : dk_openOne st x = st := by unfold dk_openOne; exact (if_pos c_5).trans rfl
    rw [e_]
    exact W.vret hx hb hr (fun t ht hW => ⟨rfl, by rw [ht]; exact hP, hS.F ht⟩) hS.2.2 dX0_openOne_15
  · refine lv_aload_n hx hb dX0_openOne_8 rfl (lv_at hl 0 rfl) ?_
    refine va_get (D := (dC, dI)) (ci := 1) (v := .ref ds) (C := RX0) (T := TX0) (N := 3) hx hb hts inn_X0_openOne_X0 hown hK hP 6 rfl rfl 0 (by decide) (hts (.fieldLink RX0 11 "DoorKeys$Doors" "states" "[I") (by decide +kernel)) (fun _ h9 => h9) rfl dX0_openOne_9 ?_
    refine lv_iload_n hx hb dX0_openOne_12 rfl (lv_at hl 1 rfl) ?_
    refine lv_iconst (v := 0) hx hb dX0_openOne_13 (by decide) ?_
    refine va_iast hx hb hK hP hD hS 7 2 rfl rfl (dk_dhas_in c_5) dX0_openOne_14 (fun H locs hP hD hS => ?_)
    have hP : va_P (dC, dI) vwCl (dkW cK cB cI o ks fa oa fb ob dr ds L n sp co en cr rl qs kA oA kB oB tt ss (upd st x.toNatClampNeg 0) K) H := hP
    have hD : va_D (up_c (dkW cK cB cI o ks fa oa fb ob dr ds L n sp co en cr rl qs kA oA kB oB tt ss st K)) (dkW cK cB cI o ks fa oa fb ob dr ds L n sp co en cr rl qs kA oA kB oB tt ss (upd st x.toNatClampNeg 0) K) := hD
    have e_ : dk_openOne st x = (upd st x.toNatClampNeg 0) := by unfold dk_openOne; exact (if_neg c_5).trans rfl
    rw [e_]
    exact W.vret hx hb hr (fun t ht hW => ⟨rfl, by rw [ht]; exact hP, hS.F ht⟩) hS.2.2 dX0_openOne_15
def dk_boot (st : Nat → Int32) : (Nat → Int32) :=
  if (st ((4 : Int32).toNatClampNeg)) = 2 then
    st
  else
    (upd st ((4 : Int32).toNatClampNeg) 0)
def rm_X0_openBootUnlessDead : Room := { frames := 0, cells := 0, slots := 0, locals := 0 }
set_option maxHeartbeats 4000000 in
set_option maxRecDepth 100000 in
theorem c_X0_openBootUnlessDead (l : Launch) (dC : Nat → ClassId) (dI : Nat → Nat → Nat) (cK : ClassId) (cB : ClassId) (cI : ClassId) (o : Nat) (ks : Nat) (fa : Nat) (oa : Nat) (fb : Nat) (ob : Nat) (dr : Nat) (ds : Nat) (L : Nat → Nat) (n : Nat) (sp : Int32) (co : Nat) (en : Nat) (cr : Int32) (rl : Int32) (qs : Int32) (kA : Int32) (oA : Nat → Int8) (kB : Int32) (oB : Nat → Int8) (tt : Int64) (ss : Int64) (st : Nat → Int32) (K : Nat → KR) : Met l yX0_openBootUnlessDead wsX0_openBootUnlessDead rm_X0_openBootUnlessDead (up_P (dC, dI) vwCl (dkT cK cB cI) (dkW cK cB cI o ks fa oa fb ob dr ds L n sp co en cr rl qs kA oA kB oB tt ss st K) [.ref dr]) (up_Q (dC, dI) vwCl none (dkW cK cB cI o ks fa oa fb ob dr ds L n sp co en cr rl qs kA oA kB oB tt ss st K) (dkW cK cB cI o ks fa oa fb ob dr ds L n sp co en cr rl qs kA oA kB oB tt ss (dk_boot st) K)) 0 0 (up_c (dkW cK cB cI o ks fa oa fb ob dr ds L n sp co en cr rl qs kA oA kB oB tt ss st K)) := by
  refine Met.ofW (cc := cX0_openBootUnlessDead) (maxL := 1) (ret := none) (by decide) rfl ?_
  intro p e s m args below meth c s₁ B hml hv
  obtain ⟨rfl, hP, hK, hD0⟩ := hv
  have hx := B.exec
  have hb := B.bytes
  have hr := B.returns
  have hts := atoms_spec (ws := wsX0_openBootUnlessDead) B.pre
  have hown : s.vm.findClass RX0 = some m.cls := findClass_of_methodNamed B.named
  have hlocks := B.notSynchronized
  have hD := up_self hD0
  have hS : va_S (up_c (dkW cK cB cI o ks fa oa fb ob dr ds L n sp co en cr rl qs kA oA kB oB tt ss st K)) s.heap s.heap [] := va_S.rf
  have hl := lv_entry ([.ref dr]) (n := 1) (Nat.le_of_ble_eq_true rfl)
  rw [lg_entry_eq]
  generalize (lg_sl ([.ref dr]) ++ List.replicate (1 - (lg_sl ([.ref dr])).length) Slot.unset).toArray = ls at hl ⊢
  have hl : lv_has ls 1 [(0, .ref dr)] := hl
  refine lv_aload_n hx hb dX0_openBootUnlessDead_0 rfl (lv_at hl 0 rfl) ?_
  refine va_get (D := (dC, dI)) (ci := 1) (v := .ref ds) (C := RX0) (T := TX0) (N := 3) hx hb hts inn_X0_openBootUnlessDead_X0 hown hK hP 6 rfl rfl 0 (by decide) (hts (.fieldLink RX0 11 "DoorKeys$Doors" "states" "[I") (by decide +kernel)) (fun _ h9 => h9) rfl dX0_openBootUnlessDead_1 ?_
  refine lv_iconst (v := 4) hx hb dX0_openBootUnlessDead_4 (by decide) ?_
  refine va_iald hx hb hK hP 7 2 rfl rfl (show vp_in (nI 4) 5 from vp_in_nI (by decide) (by decide)) dX0_openBootUnlessDead_5 ?_
  refine lv_iconst (v := 2) hx hb dX0_openBootUnlessDead_6 (by decide) ?_
  refine lv_icmp_eq (tgt := 17) hx hb dX0_openBootUnlessDead_7 (by decide) (fun c_7 => ?_) (fun c_7 => ?_)
  · have e_ : dk_boot st = st := by unfold dk_boot; exact (if_pos c_7).trans rfl
    rw [e_]
    exact W.vret hx hb hr (fun t ht hW => ⟨rfl, by rw [ht]; exact hP, hS.F ht⟩) hS.2.2 dX0_openBootUnlessDead_17
  · refine lv_aload_n hx hb dX0_openBootUnlessDead_10 rfl (lv_at hl 0 rfl) ?_
    refine va_get (D := (dC, dI)) (ci := 1) (v := .ref ds) (C := RX0) (T := TX0) (N := 3) hx hb hts inn_X0_openBootUnlessDead_X0 hown hK hP 6 rfl rfl 0 (by decide) (hts (.fieldLink RX0 11 "DoorKeys$Doors" "states" "[I") (by decide +kernel)) (fun _ h9 => h9) rfl dX0_openBootUnlessDead_11 ?_
    refine lv_iconst (v := 4) hx hb dX0_openBootUnlessDead_14 (by decide) ?_
    refine lv_iconst (v := 0) hx hb dX0_openBootUnlessDead_15 (by decide) ?_
    refine va_iast hx hb hK hP hD hS 7 2 rfl rfl (show vp_in (nI 4) 5 from vp_in_nI (by decide) (by decide)) dX0_openBootUnlessDead_16 (fun H locs hP hD hS => ?_)
    have hP : va_P (dC, dI) vwCl (dkW cK cB cI o ks fa oa fb ob dr ds L n sp co en cr rl qs kA oA kB oB tt ss (upd st ((4 : Int32).toNatClampNeg) 0) K) H := hP
    have hD : va_D (up_c (dkW cK cB cI o ks fa oa fb ob dr ds L n sp co en cr rl qs kA oA kB oB tt ss st K)) (dkW cK cB cI o ks fa oa fb ob dr ds L n sp co en cr rl qs kA oA kB oB tt ss (upd st ((4 : Int32).toNatClampNeg) 0) K) := hD
    have e_ : dk_boot st = (upd st ((4 : Int32).toNatClampNeg) 0) := by unfold dk_boot; exact (if_neg c_7).trans rfl
    rw [e_]
    exact W.vret hx hb hr (fun t ht hW => ⟨rfl, by rw [ht]; exact hP, hS.F ht⟩) hS.2.2 dX0_openBootUnlessDead_17
def dk_note (st : Nat → Int32) (tt : Int64) (ss : Int64) (x : Int32) : Int64 :=
  if x ≤ 0 then
    ss
  else
    if dk_any st 0 = 0 then
      tt
    else
      ss
def rm_X0_noteShut : Room := { frames := 1, cells := 0, slots := 0, locals := 22 }
set_option maxHeartbeats 4000000 in
set_option maxRecDepth 100000 in
theorem c_X0_noteShut (l : Launch) (dC : Nat → ClassId) (dI : Nat → Nat → Nat) (cK : ClassId) (cB : ClassId) (cI : ClassId) (o : Nat) (ks : Nat) (fa : Nat) (oa : Nat) (fb : Nat) (ob : Nat) (dr : Nat) (ds : Nat) (L : Nat → Nat) (n : Nat) (sp : Int32) (co : Nat) (en : Nat) (cr : Int32) (rl : Int32) (qs : Int32) (kA : Int32) (oA : Nat → Int8) (kB : Int32) (oB : Nat → Int8) (tt : Int64) (ss : Int64) (st : Nat → Int32) (K : Nat → KR) (x : Int32) : Met l yX0_noteShut wsX0_noteShut rm_X0_noteShut (up_P (dC, dI) vwCl (dkT cK cB cI) (dkW cK cB cI o ks fa oa fb ob dr ds L n sp co en cr rl qs kA oA kB oB tt ss st K) [.ref dr, .int x]) (up_Q (dC, dI) vwCl none (dkW cK cB cI o ks fa oa fb ob dr ds L n sp co en cr rl qs kA oA kB oB tt ss st K) (dkW cK cB cI o ks fa oa fb ob dr ds L n sp co en cr rl qs kA oA kB oB tt (dk_note st tt ss x) st K)) 0 0 (up_c (dkW cK cB cI o ks fa oa fb ob dr ds L n sp co en cr rl qs kA oA kB oB tt ss st K)) := by
  refine Met.ofW (cc := cX0_noteShut) (maxL := 2) (ret := none) (by decide) rfl ?_
  intro p e s m args below meth c s₁ B hml hv
  obtain ⟨rfl, hP, hK, hD0⟩ := hv
  have hx := B.exec
  have hb := B.bytes
  have hr := B.returns
  have hts := atoms_spec (ws := wsX0_noteShut) B.pre
  have hown : s.vm.findClass RX0 = some m.cls := findClass_of_methodNamed B.named
  have hlocks := B.notSynchronized
  have hD := up_self hD0
  have hS : va_S (up_c (dkW cK cB cI o ks fa oa fb ob dr ds L n sp co en cr rl qs kA oA kB oB tt ss st K)) s.heap s.heap [] := va_S.rf
  have hl := lv_entry ([.ref dr, .int x]) (n := 2) (Nat.le_of_ble_eq_true rfl)
  rw [lg_entry_eq]
  generalize (lg_sl ([.ref dr, .int x]) ++ List.replicate (2 - (lg_sl ([.ref dr, .int x])).length) Slot.unset).toArray = ls at hl ⊢
  have hl : lv_has ls 2 [(0, .ref dr), (1, .int x)] := hl
  refine lv_iload_n hx hb dX0_noteShut_0 rfl (lv_at hl 1 rfl) ?_
  refine lv_if_le (tgt := 20) hx hb dX0_noteShut_1 (by decide) (fun c_1 => ?_) (fun c_1 => ?_)
  · have e_ : dk_note st tt ss x = ss := by unfold dk_note; exact (if_pos c_1).trans rfl
    rw [e_]
    exact W.vret hx hb hr (fun t ht hW => ⟨rfl, by rw [ht]; exact hP, hS.F ht⟩) hS.2.2 dX0_noteShut_20
  · refine lv_aload_n hx hb dX0_noteShut_4 rfl (lv_at hl 0 rfl) ?_
    refine lv_iconst (v := 0) hx hb dX0_noteShut_5 (by decide) ?_
    refine up_read (W.runV (As := [.int 0]) (rest := []) ⟨hx, hb, hml, hown, hts⟩ (c_X0_hasAny l dC dI cK cB cI o ks fa oa fb ob dr ds L n sp co en cr rl qs kA oA kB oB tt ss st K 0) (cwV 1 hts gX0_noteShut_X0_hasAny rfl rfl rfl (by decide +kernel) ⟨Nat.le_of_ble_eq_true rfl, Nat.le_of_ble_eq_true rfl⟩) (up_preV (q0 := 6) (ci := 1) hP hK hD rfl rfl) rfl rfl hl.1 rfl (lv_room (Nat.le_of_ble_eq_true rfl)) dX0_noteShut_6 ⟨Nat.le_of_ble_eq_true rfl, Nat.le_of_ble_eq_true rfl⟩) ?_
    refine lv_if_ne (tgt := 20) hx hb dX0_noteShut_9 (by decide) (fun c_9 => ?_) (fun c_9 => ?_)
    · have e_ : dk_note st tt ss x = ss := by unfold dk_note; exact (if_neg c_1).trans ((if_neg c_9).trans rfl)
      rw [e_]
      exact W.vret hx hb hr (fun t ht hW => ⟨rfl, by rw [ht]; exact hP, hS.F ht⟩) hS.2.2 dX0_noteShut_20
    · refine lv_aload_n hx hb dX0_noteShut_12 rfl (lv_at hl 0 rfl) ?_
      refine lv_aload_n hx hb dX0_noteShut_13 rfl (lv_at hl 0 rfl) ?_
      refine va_get (D := (dC, dI)) (ci := 1) (v := .long tt) (C := RX0) (T := TX0) (N := 3) hx hb hts inn_X0_noteShut_X0 hown hK hP 6 rfl rfl 1 (by decide) (hts (.fieldLink RX0 19 "DoorKeys$Doors" "timeTold" "J") (by decide +kernel)) (fun _ h9 => h9) rfl dX0_noteShut_14 ?_
      refine va_put (D := (dC, dI)) (ci := 1) (v := .long tt) (ty := .long) (C := RX0) (T := TX0) (N := 3) hx hb hts inn_X0_noteShut_X0 tyX0 tyX0_ok nmX0 hown hK hP hD hS 6 rfl rfl 2 (by decide) (hts (.fieldLink RX0 23 "DoorKeys$Doors" "shutSince" "J") (by decide +kernel)) (fun _ h9 => h9) rfl (by decide +kernel) rfl rfl (Nat.le_of_ble_eq_true rfl) dX0_noteShut_17 (fun H locs hP hD hS => ?_)
      have hP : va_P (dC, dI) vwCl (dkW cK cB cI o ks fa oa fb ob dr ds L n sp co en cr rl qs kA oA kB oB tt tt st K) H := hP
      have hD : va_D (up_c (dkW cK cB cI o ks fa oa fb ob dr ds L n sp co en cr rl qs kA oA kB oB tt ss st K)) (dkW cK cB cI o ks fa oa fb ob dr ds L n sp co en cr rl qs kA oA kB oB tt tt st K) := hD
      have e_ : dk_note st tt ss x = tt := by unfold dk_note; exact (if_neg c_1).trans ((if_pos c_9).trans rfl)
      rw [e_]
      exact W.vret hx hb hr (fun t ht hW => ⟨rfl, by rw [ht]; exact hP, hS.F ht⟩) hS.2.2 dX0_noteShut_20
def dk_shutAll (st : Nat → Int32) (tt : Int64) (ss : Int64) : Int32 × (Nat → Int32) × Int64 :=
  ((dk_turn st 0 1).1, (dk_turn st 0 1).2, (dk_note ((dk_turn st 0 1).2) tt ss ((dk_turn st 0 1).1)))
def rm_X0_shutAll : Room := { frames := 2, cells := 0, slots := 0, locals := 43 }
set_option maxHeartbeats 4000000 in
set_option maxRecDepth 100000 in
theorem c_X0_shutAll (l : Launch) (dC : Nat → ClassId) (dI : Nat → Nat → Nat) (cK : ClassId) (cB : ClassId) (cI : ClassId) (o : Nat) (ks : Nat) (fa : Nat) (oa : Nat) (fb : Nat) (ob : Nat) (dr : Nat) (ds : Nat) (L : Nat → Nat) (n : Nat) (sp : Int32) (co : Nat) (en : Nat) (cr : Int32) (rl : Int32) (qs : Int32) (kA : Int32) (oA : Nat → Int8) (kB : Int32) (oB : Nat → Int8) (tt : Int64) (ss : Int64) (st : Nat → Int32) (K : Nat → KR) : Met l yX0_shutAll wsX0_shutAll rm_X0_shutAll (up_P (dC, dI) vwCl (dkT cK cB cI) (dkW cK cB cI o ks fa oa fb ob dr ds L n sp co en cr rl qs kA oA kB oB tt ss st K) [.ref dr]) (up_Q (dC, dI) vwCl (some (.int ((dk_shutAll st tt ss).1))) (dkW cK cB cI o ks fa oa fb ob dr ds L n sp co en cr rl qs kA oA kB oB tt ss st K) (dkW cK cB cI o ks fa oa fb ob dr ds L n sp co en cr rl qs kA oA kB oB tt ((dk_shutAll st tt ss).2.2) ((dk_shutAll st tt ss).2.1) K)) 0 0 (up_c (dkW cK cB cI o ks fa oa fb ob dr ds L n sp co en cr rl qs kA oA kB oB tt ss st K)) := by
  refine Met.ofW (cc := cX0_shutAll) (maxL := 2) (ret := (some .int)) (by decide) rfl ?_
  intro p e s m args below meth c s₁ B hml hv
  obtain ⟨rfl, hP, hK, hD0⟩ := hv
  have hx := B.exec
  have hb := B.bytes
  have hr := B.returns
  have hts := atoms_spec (ws := wsX0_shutAll) B.pre
  have hown : s.vm.findClass RX0 = some m.cls := findClass_of_methodNamed B.named
  have hlocks := B.notSynchronized
  have hD := up_self hD0
  have hS : va_S (up_c (dkW cK cB cI o ks fa oa fb ob dr ds L n sp co en cr rl qs kA oA kB oB tt ss st K)) s.heap s.heap [] := va_S.rf
  have hl := lv_entry ([.ref dr]) (n := 2) (Nat.le_of_ble_eq_true rfl)
  rw [lg_entry_eq]
  generalize (lg_sl ([.ref dr]) ++ List.replicate (2 - (lg_sl ([.ref dr])).length) Slot.unset).toArray = ls at hl ⊢
  have hl : lv_has ls 2 [(0, .ref dr)] := hl
  refine lv_aload_n hx hb dX0_shutAll_0 rfl (lv_at hl 0 rfl) ?_
  refine lv_iconst (v := 0) hx hb dX0_shutAll_1 (by decide) ?_
  refine lv_iconst (v := 1) hx hb dX0_shutAll_2 (by decide) ?_
  refine up_call (W.runV (As := [.int 0, .int 1]) (rest := []) ⟨hx, hb, hml, hown, hts⟩ (c_X0_turn l dC dI cK cB cI o ks fa oa fb ob dr ds L n sp co en cr rl qs kA oA kB oB tt ss st K 0 1) (cwV 2 hts gX0_shutAll_X0_turn rfl rfl rfl (by decide +kernel) ⟨Nat.le_of_ble_eq_true rfl, Nat.le_of_ble_eq_true rfl⟩) (up_preV (q0 := 6) (ci := 1) hP hK hD rfl rfl) rfl rfl hl.1 rfl (lv_room (Nat.le_of_ble_eq_true rfl)) dX0_shutAll_3 ⟨Nat.le_of_ble_eq_true rfl, Nat.le_of_ble_eq_true rfl⟩) hD hS ((dk_fst ..).trans (dk_fst ..).symm) (fun H locs hP hD hS _ _ => ?_)
  have hP : va_P (dC, dI) vwCl (dkW cK cB cI o ks fa oa fb ob dr ds L n sp co en cr rl qs kA oA kB oB tt ss ((dk_turn st 0 1).2) K) H := hP
  have hD : va_D (up_c (dkW cK cB cI o ks fa oa fb ob dr ds L n sp co en cr rl qs kA oA kB oB tt ss st K)) (dkW cK cB cI o ks fa oa fb ob dr ds L n sp co en cr rl qs kA oA kB oB tt ss ((dk_turn st 0 1).2) K) := hD
  refine lv_istore_n (lv' := [(1, .int ((dk_turn st 0 1).1)), (0, .ref dr)]) hx hb dX0_shutAll_6 rfl hl (by decide) rfl (fun ls hl => ?_)
  refine lv_aload_n hx hb dX0_shutAll_7 rfl (lv_at hl 1 rfl) ?_
  refine lv_iload_n hx hb dX0_shutAll_8 rfl (lv_at hl 0 rfl) ?_
  refine up_call (W.runV (As := [.int ((dk_turn st 0 1).1)]) (rest := []) ⟨hx, hb, hml, hown, hts⟩ (c_X0_noteShut l dC dI cK cB cI o ks fa oa fb ob dr ds L n sp co en cr rl qs kA oA kB oB tt ss ((dk_turn st 0 1).2) K ((dk_turn st 0 1).1)) (cwV 1 hts gX0_shutAll_X0_noteShut rfl rfl rfl (by decide +kernel) ⟨Nat.le_of_ble_eq_true rfl, Nat.le_of_ble_eq_true rfl⟩) (up_preV (q0 := 6) (ci := 1) hP hK hD rfl rfl) rfl rfl hl.1 rfl (lv_room (Nat.le_of_ble_eq_true rfl)) dX0_shutAll_9 ⟨Nat.le_of_ble_eq_true rfl, Nat.le_of_ble_eq_true rfl⟩) hD hS ((dk_fst ..).trans (dk_fst ..).symm) (fun H locs hP hD hS _ _ => ?_)
  have hP : va_P (dC, dI) vwCl (dkW cK cB cI o ks fa oa fb ob dr ds L n sp co en cr rl qs kA oA kB oB tt (dk_note ((dk_turn st 0 1).2) tt ss ((dk_turn st 0 1).1)) ((dk_turn st 0 1).2) K) H := hP
  have hD : va_D (up_c (dkW cK cB cI o ks fa oa fb ob dr ds L n sp co en cr rl qs kA oA kB oB tt ss st K)) (dkW cK cB cI o ks fa oa fb ob dr ds L n sp co en cr rl qs kA oA kB oB tt (dk_note ((dk_turn st 0 1).2) tt ss ((dk_turn st 0 1).1)) ((dk_turn st 0 1).2) K) := hD
  refine lv_iload_n hx hb dX0_shutAll_12 rfl (lv_at hl 0 rfl) ?_
  have e_ : dk_shutAll st tt ss = ((dk_turn st 0 1).1, (dk_turn st 0 1).2, (dk_note ((dk_turn st 0 1).2) tt ss ((dk_turn st 0 1).1))) := by unfold dk_shutAll; exact rfl
  rw [e_]
  exact W.iret (v := (dk_turn st 0 1).1) hx hb hr (fun t ht hW => ⟨rfl, by rw [ht]; exact hP, hS.F ht⟩) hS.2.2 dX0_shutAll_13
def dk_shutBoot (st : Nat → Int32) (tt : Int64) (ss : Int64) : Int32 × (Nat → Int32) × Int64 :=
  if (st ((4 : Int32).toNatClampNeg)) = 0 then
    ((1 : Int32), (upd st ((4 : Int32).toNatClampNeg) 1), (dk_note (upd st ((4 : Int32).toNatClampNeg) 1) tt ss 1))
  else
    ((0 : Int32), st, ss)
def rm_X0_shutBoot : Room := { frames := 2, cells := 0, slots := 0, locals := 43 }
set_option maxHeartbeats 4000000 in
set_option maxRecDepth 100000 in
theorem c_X0_shutBoot (l : Launch) (dC : Nat → ClassId) (dI : Nat → Nat → Nat) (cK : ClassId) (cB : ClassId) (cI : ClassId) (o : Nat) (ks : Nat) (fa : Nat) (oa : Nat) (fb : Nat) (ob : Nat) (dr : Nat) (ds : Nat) (L : Nat → Nat) (n : Nat) (sp : Int32) (co : Nat) (en : Nat) (cr : Int32) (rl : Int32) (qs : Int32) (kA : Int32) (oA : Nat → Int8) (kB : Int32) (oB : Nat → Int8) (tt : Int64) (ss : Int64) (st : Nat → Int32) (K : Nat → KR) : Met l yX0_shutBoot wsX0_shutBoot rm_X0_shutBoot (up_P (dC, dI) vwCl (dkT cK cB cI) (dkW cK cB cI o ks fa oa fb ob dr ds L n sp co en cr rl qs kA oA kB oB tt ss st K) [.ref dr]) (up_Q (dC, dI) vwCl (some (.int ((dk_shutBoot st tt ss).1))) (dkW cK cB cI o ks fa oa fb ob dr ds L n sp co en cr rl qs kA oA kB oB tt ss st K) (dkW cK cB cI o ks fa oa fb ob dr ds L n sp co en cr rl qs kA oA kB oB tt ((dk_shutBoot st tt ss).2.2) ((dk_shutBoot st tt ss).2.1) K)) 0 0 (up_c (dkW cK cB cI o ks fa oa fb ob dr ds L n sp co en cr rl qs kA oA kB oB tt ss st K)) := by
  refine Met.ofW (cc := cX0_shutBoot) (maxL := 1) (ret := (some .int)) (by decide) rfl ?_
  intro p e s m args below meth c s₁ B hml hv
  obtain ⟨rfl, hP, hK, hD0⟩ := hv
  have hx := B.exec
  have hb := B.bytes
  have hr := B.returns
  have hts := atoms_spec (ws := wsX0_shutBoot) B.pre
  have hown : s.vm.findClass RX0 = some m.cls := findClass_of_methodNamed B.named
  have hlocks := B.notSynchronized
  have hD := up_self hD0
  have hS : va_S (up_c (dkW cK cB cI o ks fa oa fb ob dr ds L n sp co en cr rl qs kA oA kB oB tt ss st K)) s.heap s.heap [] := va_S.rf
  have hl := lv_entry ([.ref dr]) (n := 1) (Nat.le_of_ble_eq_true rfl)
  rw [lg_entry_eq]
  generalize (lg_sl ([.ref dr]) ++ List.replicate (1 - (lg_sl ([.ref dr])).length) Slot.unset).toArray = ls at hl ⊢
  have hl : lv_has ls 1 [(0, .ref dr)] := hl
  refine lv_aload_n hx hb dX0_shutBoot_0 rfl (lv_at hl 0 rfl) ?_
  refine va_get (D := (dC, dI)) (ci := 1) (v := .ref ds) (C := RX0) (T := TX0) (N := 3) hx hb hts inn_X0_shutBoot_X0 hown hK hP 6 rfl rfl 0 (by decide) (hts (.fieldLink RX0 11 "DoorKeys$Doors" "states" "[I") (by decide +kernel)) (fun _ h9 => h9) rfl dX0_shutBoot_1 ?_
  refine lv_iconst (v := 4) hx hb dX0_shutBoot_4 (by decide) ?_
  refine va_iald hx hb hK hP 7 2 rfl rfl (show vp_in (nI 4) 5 from vp_in_nI (by decide) (by decide)) dX0_shutBoot_5 ?_
  refine lv_if_eq (tgt := 11) hx hb dX0_shutBoot_6 (by decide) (fun c_6 => ?_) (fun c_6 => ?_)
  · refine lv_aload_n hx hb dX0_shutBoot_11 rfl (lv_at hl 0 rfl) ?_
    refine va_get (D := (dC, dI)) (ci := 1) (v := .ref ds) (C := RX0) (T := TX0) (N := 3) hx hb hts inn_X0_shutBoot_X0 hown hK hP 6 rfl rfl 0 (by decide) (hts (.fieldLink RX0 11 "DoorKeys$Doors" "states" "[I") (by decide +kernel)) (fun _ h9 => h9) rfl dX0_shutBoot_12 ?_
    refine lv_iconst (v := 4) hx hb dX0_shutBoot_15 (by decide) ?_
    refine lv_iconst (v := 1) hx hb dX0_shutBoot_16 (by decide) ?_
    refine va_iast hx hb hK hP hD hS 7 2 rfl rfl (show vp_in (nI 4) 5 from vp_in_nI (by decide) (by decide)) dX0_shutBoot_17 (fun H locs hP hD hS => ?_)
    have hP : va_P (dC, dI) vwCl (dkW cK cB cI o ks fa oa fb ob dr ds L n sp co en cr rl qs kA oA kB oB tt ss (upd st ((4 : Int32).toNatClampNeg) 1) K) H := hP
    have hD : va_D (up_c (dkW cK cB cI o ks fa oa fb ob dr ds L n sp co en cr rl qs kA oA kB oB tt ss st K)) (dkW cK cB cI o ks fa oa fb ob dr ds L n sp co en cr rl qs kA oA kB oB tt ss (upd st ((4 : Int32).toNatClampNeg) 1) K) := hD
    refine lv_aload_n hx hb dX0_shutBoot_18 rfl (lv_at hl 0 rfl) ?_
    refine lv_iconst (v := 1) hx hb dX0_shutBoot_19 (by decide) ?_
    refine up_call (W.runV (As := [.int 1]) (rest := []) ⟨hx, hb, hml, hown, hts⟩ (c_X0_noteShut l dC dI cK cB cI o ks fa oa fb ob dr ds L n sp co en cr rl qs kA oA kB oB tt ss (upd st ((4 : Int32).toNatClampNeg) 1) K 1) (cwV 1 hts gX0_shutBoot_X0_noteShut rfl rfl rfl (by decide +kernel) ⟨Nat.le_of_ble_eq_true rfl, Nat.le_of_ble_eq_true rfl⟩) (up_preV (q0 := 6) (ci := 1) hP hK hD rfl rfl) rfl rfl hl.1 rfl (lv_room (Nat.le_of_ble_eq_true rfl)) dX0_shutBoot_20 ⟨Nat.le_of_ble_eq_true rfl, Nat.le_of_ble_eq_true rfl⟩) hD hS ((dk_fst ..).trans (dk_fst ..).symm) (fun H locs hP hD hS _ _ => ?_)
    have hP : va_P (dC, dI) vwCl (dkW cK cB cI o ks fa oa fb ob dr ds L n sp co en cr rl qs kA oA kB oB tt (dk_note (upd st ((4 : Int32).toNatClampNeg) 1) tt ss 1) (upd st ((4 : Int32).toNatClampNeg) 1) K) H := hP
    have hD : va_D (up_c (dkW cK cB cI o ks fa oa fb ob dr ds L n sp co en cr rl qs kA oA kB oB tt ss st K)) (dkW cK cB cI o ks fa oa fb ob dr ds L n sp co en cr rl qs kA oA kB oB tt (dk_note (upd st ((4 : Int32).toNatClampNeg) 1) tt ss 1) (upd st ((4 : Int32).toNatClampNeg) 1) K) := hD
    refine lv_iconst (v := 1) hx hb dX0_shutBoot_23 (by decide) ?_
    have e_ : dk_shutBoot st tt ss = ((1 : Int32), (upd st ((4 : Int32).toNatClampNeg) 1), (dk_note (upd st ((4 : Int32).toNatClampNeg) 1) tt ss 1)) := by unfold dk_shutBoot; exact (if_pos c_6).trans rfl
    rw [e_]
    exact W.iret (v := 1) hx hb hr (fun t ht hW => ⟨rfl, by rw [ht]; exact hP, hS.F ht⟩) hS.2.2 dX0_shutBoot_24
  · refine lv_iconst (v := 0) hx hb dX0_shutBoot_9 (by decide) ?_
    have e_ : dk_shutBoot st tt ss = ((0 : Int32), st, ss) := by unfold dk_shutBoot; exact (if_neg c_6).trans rfl
    rw [e_]
    exact W.iret (v := 0) hx hb hr (fun t ht hW => ⟨rfl, by rw [ht]; exact hP, hS.F ht⟩) hS.2.2 dX0_shutBoot_10
def dk_deaden (st : Nat → Int32) : Int32 × (Nat → Int32) :=
  if dk_any st 0 = 0 then
    ((dk_turn st 1 2).1, (dk_turn st 1 2).2)
  else
    ((0 : Int32), st)
def rm_X0_deadenUnlessOpen : Room := { frames := 1, cells := 0, slots := 0, locals := 24 }
set_option maxHeartbeats 4000000 in
set_option maxRecDepth 100000 in
theorem c_X0_deadenUnlessOpen (l : Launch) (dC : Nat → ClassId) (dI : Nat → Nat → Nat) (cK : ClassId) (cB : ClassId) (cI : ClassId) (o : Nat) (ks : Nat) (fa : Nat) (oa : Nat) (fb : Nat) (ob : Nat) (dr : Nat) (ds : Nat) (L : Nat → Nat) (n : Nat) (sp : Int32) (co : Nat) (en : Nat) (cr : Int32) (rl : Int32) (qs : Int32) (kA : Int32) (oA : Nat → Int8) (kB : Int32) (oB : Nat → Int8) (tt : Int64) (ss : Int64) (st : Nat → Int32) (K : Nat → KR) : Met l yX0_deadenUnlessOpen wsX0_deadenUnlessOpen rm_X0_deadenUnlessOpen (up_P (dC, dI) vwCl (dkT cK cB cI) (dkW cK cB cI o ks fa oa fb ob dr ds L n sp co en cr rl qs kA oA kB oB tt ss st K) [.ref dr]) (up_Q (dC, dI) vwCl (some (.int ((dk_deaden st).1))) (dkW cK cB cI o ks fa oa fb ob dr ds L n sp co en cr rl qs kA oA kB oB tt ss st K) (dkW cK cB cI o ks fa oa fb ob dr ds L n sp co en cr rl qs kA oA kB oB tt ss ((dk_deaden st).2) K)) 0 0 (up_c (dkW cK cB cI o ks fa oa fb ob dr ds L n sp co en cr rl qs kA oA kB oB tt ss st K)) := by
  refine Met.ofW (cc := cX0_deadenUnlessOpen) (maxL := 1) (ret := (some .int)) (by decide) rfl ?_
  intro p e s m args below meth c s₁ B hml hv
  obtain ⟨rfl, hP, hK, hD0⟩ := hv
  have hx := B.exec
  have hb := B.bytes
  have hr := B.returns
  have hts := atoms_spec (ws := wsX0_deadenUnlessOpen) B.pre
  have hown : s.vm.findClass RX0 = some m.cls := findClass_of_methodNamed B.named
  have hlocks := B.notSynchronized
  have hD := up_self hD0
  have hS : va_S (up_c (dkW cK cB cI o ks fa oa fb ob dr ds L n sp co en cr rl qs kA oA kB oB tt ss st K)) s.heap s.heap [] := va_S.rf
  have hl := lv_entry ([.ref dr]) (n := 1) (Nat.le_of_ble_eq_true rfl)
  rw [lg_entry_eq]
  generalize (lg_sl ([.ref dr]) ++ List.replicate (1 - (lg_sl ([.ref dr])).length) Slot.unset).toArray = ls at hl ⊢
  have hl : lv_has ls 1 [(0, .ref dr)] := hl
  refine lv_aload_n hx hb dX0_deadenUnlessOpen_0 rfl (lv_at hl 0 rfl) ?_
  refine lv_iconst (v := 0) hx hb dX0_deadenUnlessOpen_1 (by decide) ?_
  refine up_read (W.runV (As := [.int 0]) (rest := []) ⟨hx, hb, hml, hown, hts⟩ (c_X0_hasAny l dC dI cK cB cI o ks fa oa fb ob dr ds L n sp co en cr rl qs kA oA kB oB tt ss st K 0) (cwV 1 hts gX0_deadenUnlessOpen_X0_hasAny rfl rfl rfl (by decide +kernel) ⟨Nat.le_of_ble_eq_true rfl, Nat.le_of_ble_eq_true rfl⟩) (up_preV (q0 := 6) (ci := 1) hP hK hD rfl rfl) rfl rfl hl.1 rfl (lv_room (Nat.le_of_ble_eq_true rfl)) dX0_deadenUnlessOpen_2 ⟨Nat.le_of_ble_eq_true rfl, Nat.le_of_ble_eq_true rfl⟩) ?_
  refine lv_if_eq (tgt := 12) hx hb dX0_deadenUnlessOpen_5 (by decide) (fun c_5 => ?_) (fun c_5 => ?_)
  · refine lv_aload_n hx hb dX0_deadenUnlessOpen_12 rfl (lv_at hl 0 rfl) ?_
    refine lv_iconst (v := 1) hx hb dX0_deadenUnlessOpen_13 (by decide) ?_
    refine lv_iconst (v := 2) hx hb dX0_deadenUnlessOpen_14 (by decide) ?_
    refine up_call (W.runV (As := [.int 1, .int 2]) (rest := []) ⟨hx, hb, hml, hown, hts⟩ (c_X0_turn l dC dI cK cB cI o ks fa oa fb ob dr ds L n sp co en cr rl qs kA oA kB oB tt ss st K 1 2) (cwV 2 hts gX0_deadenUnlessOpen_X0_turn rfl rfl rfl (by decide +kernel) ⟨Nat.le_of_ble_eq_true rfl, Nat.le_of_ble_eq_true rfl⟩) (up_preV (q0 := 6) (ci := 1) hP hK hD rfl rfl) rfl rfl hl.1 rfl (lv_room (Nat.le_of_ble_eq_true rfl)) dX0_deadenUnlessOpen_15 ⟨Nat.le_of_ble_eq_true rfl, Nat.le_of_ble_eq_true rfl⟩) hD hS ((dk_fst ..).trans (dk_fst ..).symm) (fun H locs hP hD hS _ _ => ?_)
    have hP : va_P (dC, dI) vwCl (dkW cK cB cI o ks fa oa fb ob dr ds L n sp co en cr rl qs kA oA kB oB tt ss ((dk_turn st 1 2).2) K) H := hP
    have hD : va_D (up_c (dkW cK cB cI o ks fa oa fb ob dr ds L n sp co en cr rl qs kA oA kB oB tt ss st K)) (dkW cK cB cI o ks fa oa fb ob dr ds L n sp co en cr rl qs kA oA kB oB tt ss ((dk_turn st 1 2).2) K) := hD
    have e_ : dk_deaden st = ((dk_turn st 1 2).1, (dk_turn st 1 2).2) := by unfold dk_deaden; exact (if_pos c_5).trans rfl
    rw [e_]
    exact W.iret (v := (dk_turn st 1 2).1) hx hb hr (fun t ht hW => ⟨rfl, by rw [ht]; exact hP, hS.F ht⟩) hS.2.2 dX0_deadenUnlessOpen_18
  · refine lv_iconst (v := 0) hx hb dX0_deadenUnlessOpen_8 (by decide) ?_
    refine lv_goto (tgt := 18) hx hb dX0_deadenUnlessOpen_9 (by decide) ?_
    have e_ : dk_deaden st = ((0 : Int32), st) := by unfold dk_deaden; exact (if_neg c_5).trans rfl
    rw [e_]
    exact W.iret (v := 0) hx hb hr (fun t ht hW => ⟨rfl, by rw [ht]; exact hP, hS.F ht⟩) hS.2.2 dX0_deadenUnlessOpen_18
end
section
/-! a frame (laid by wip/gen.py) -/
set_option maxRecDepth 20000 in
theorem inn_X1_clear_X1 : ∀ w ∈ wsX10, w ∈ wsX1_clear := by decide +kernel
set_option maxRecDepth 20000 in
theorem inn_X1_keep_X1 : ∀ w ∈ wsX10, w ∈ wsX1_keep := by decide +kernel
set_option maxRecDepth 20000 in
theorem inn_X1_has_X1 : ∀ w ∈ wsX10, w ∈ wsX1_has := by decide +kernel
set_option maxRecDepth 20000 in
theorem inn_X1_unsigned_X1 : ∀ w ∈ wsX10, w ∈ wsX1_unsigned := by decide +kernel
set_option maxRecDepth 20000 in
theorem inn_X1_isSound_X1 : ∀ w ∈ wsX10, w ∈ wsX1_isSound := by decide +kernel
def dk_clear  : Int32 :=
  0
def rm_X1_clear : Room := { frames := 0, cells := 0, slots := 0, locals := 0 }
set_option maxHeartbeats 4000000 in
set_option maxRecDepth 100000 in
theorem c_X1_clear (l : Launch) (dC : Nat → ClassId) (dI : Nat → Nat → Nat) (cK : ClassId) (cB : ClassId) (cI : ClassId) (o : Nat) (ks : Nat) (fa : Nat) (oa : Nat) (fb : Nat) (ob : Nat) (dr : Nat) (ds : Nat) (L : Nat → Nat) (n : Nat) (sp : Int32) (co : Nat) (en : Nat) (cr : Int32) (rl : Int32) (qs : Int32) (kA : Int32) (oA : Nat → Int8) (kB : Int32) (oB : Nat → Int8) (tt : Int64) (ss : Int64) (st : Nat → Int32) (K : Nat → KR) : Met l yX1_clear wsX1_clear rm_X1_clear (up_P (dC, dI) vwCl (dkT cK cB cI) (dkW cK cB cI o ks fa oa fb ob dr ds L n sp co en cr rl qs kA oA kB oB tt ss st K) [.ref fa]) (up_Q (dC, dI) vwCl none (dkW cK cB cI o ks fa oa fb ob dr ds L n sp co en cr rl qs kA oA kB oB tt ss st K) (dkW cK cB cI o ks fa oa fb ob dr ds L n sp co en cr rl qs dk_clear oA kB oB tt ss st K)) 0 0 (up_c (dkW cK cB cI o ks fa oa fb ob dr ds L n sp co en cr rl qs kA oA kB oB tt ss st K)) := by
  refine Met.ofW (cc := cX1_clear) (maxL := 1) (ret := none) (by decide) rfl ?_
  intro p e s m args below meth c s₁ B hml hv
  obtain ⟨rfl, hP, hK, hD0⟩ := hv
  have hx := B.exec
  have hb := B.bytes
  have hr := B.returns
  have hts := atoms_spec (ws := wsX1_clear) B.pre
  have hown : s.vm.findClass RX1 = some m.cls := findClass_of_methodNamed B.named
  have hlocks := B.notSynchronized
  have hD := up_self hD0
  have hS : va_S (up_c (dkW cK cB cI o ks fa oa fb ob dr ds L n sp co en cr rl qs kA oA kB oB tt ss st K)) s.heap s.heap [] := va_S.rf
  have hl := lv_entry ([.ref fa]) (n := 1) (Nat.le_of_ble_eq_true rfl)
  rw [lg_entry_eq]
  generalize (lg_sl ([.ref fa]) ++ List.replicate (1 - (lg_sl ([.ref fa])).length) Slot.unset).toArray = ls at hl ⊢
  have hl : lv_has ls 1 [(0, .ref fa)] := hl
  refine lv_aload_n hx hb dX1_clear_0 rfl (lv_at hl 0 rfl) ?_
  refine lv_iconst (v := 0) hx hb dX1_clear_1 (by decide) ?_
  refine va_put (D := (dC, dI)) (ci := 2) (v := .int 0) (ty := .int) (C := RX1) (T := TX1) (N := 2) hx hb hts inn_X1_clear_X1 tyX1 tyX1_ok nmX1 hown hK hP hD hS 2 rfl rfl 1 (by decide) (hts (.fieldLink RX1 13 "DoorKeys$Frame" "kept" "I") (by decide +kernel)) (fun _ h9 => h9) rfl (by decide +kernel) rfl rfl (Nat.le_of_ble_eq_true rfl) dX1_clear_2 (fun H locs hP hD hS => ?_)
  have hP : va_P (dC, dI) vwCl (dkW cK cB cI o ks fa oa fb ob dr ds L n sp co en cr rl qs 0 oA kB oB tt ss st K) H := hP
  have hD : va_D (up_c (dkW cK cB cI o ks fa oa fb ob dr ds L n sp co en cr rl qs kA oA kB oB tt ss st K)) (dkW cK cB cI o ks fa oa fb ob dr ds L n sp co en cr rl qs 0 oA kB oB tt ss st K) := hD
  have e_ : dk_clear = 0 := by unfold dk_clear; exact rfl
  rw [e_]
  exact W.vret hx hb hr (fun t ht hW => ⟨rfl, by rw [ht]; exact hP, hS.F ht⟩) hS.2.2 dX1_clear_5
def dk_keep (kA : Int32) (oA : Nat → Int8) (b : Int8) : Int32 × (Nat → Int8) :=
  if kA < 0 then
    (kA, oA)
  else
    if 16 ≤ kA then
      (kA, oA)
    else
      ((kA + 1), (va_up oA kA.toNatClampNeg b))
def rm_X1_keep : Room := { frames := 0, cells := 0, slots := 0, locals := 0 }
set_option maxHeartbeats 4000000 in
set_option maxRecDepth 100000 in
theorem c_X1_keep (l : Launch) (dC : Nat → ClassId) (dI : Nat → Nat → Nat) (cK : ClassId) (cB : ClassId) (cI : ClassId) (o : Nat) (ks : Nat) (fa : Nat) (oa : Nat) (fb : Nat) (ob : Nat) (dr : Nat) (ds : Nat) (L : Nat → Nat) (n : Nat) (sp : Int32) (co : Nat) (en : Nat) (cr : Int32) (rl : Int32) (qs : Int32) (kA : Int32) (oA : Nat → Int8) (kB : Int32) (oB : Nat → Int8) (tt : Int64) (ss : Int64) (st : Nat → Int32) (K : Nat → KR) (b : Int8) : Met l yX1_keep wsX1_keep rm_X1_keep (up_P (dC, dI) vwCl (dkT cK cB cI) (dkW cK cB cI o ks fa oa fb ob dr ds L n sp co en cr rl qs kA oA kB oB tt ss st K) [.ref fa, .int b.toInt32]) (up_Q (dC, dI) vwCl none (dkW cK cB cI o ks fa oa fb ob dr ds L n sp co en cr rl qs kA oA kB oB tt ss st K) (dkW cK cB cI o ks fa oa fb ob dr ds L n sp co en cr rl qs ((dk_keep kA oA b).1) ((dk_keep kA oA b).2) kB oB tt ss st K)) 0 0 (up_c (dkW cK cB cI o ks fa oa fb ob dr ds L n sp co en cr rl qs kA oA kB oB tt ss st K)) := by
  refine Met.ofW (cc := cX1_keep) (maxL := 2) (ret := none) (by decide) rfl ?_
  intro p e s m args below meth c s₁ B hml hv
  obtain ⟨rfl, hP, hK, hD0⟩ := hv
  have hx := B.exec
  have hb := B.bytes
  have hr := B.returns
  have hts := atoms_spec (ws := wsX1_keep) B.pre
  have hown : s.vm.findClass RX1 = some m.cls := findClass_of_methodNamed B.named
  have hlocks := B.notSynchronized
  have hD := up_self hD0
  have hS : va_S (up_c (dkW cK cB cI o ks fa oa fb ob dr ds L n sp co en cr rl qs kA oA kB oB tt ss st K)) s.heap s.heap [] := va_S.rf
  have hl := lv_entry ([.ref fa, .int b.toInt32]) (n := 2) (Nat.le_of_ble_eq_true rfl)
  rw [lg_entry_eq]
  generalize (lg_sl ([.ref fa, .int b.toInt32]) ++ List.replicate (2 - (lg_sl ([.ref fa, .int b.toInt32])).length) Slot.unset).toArray = ls at hl ⊢
  have hl : lv_has ls 2 [(0, .ref fa), (1, .int b.toInt32)] := hl
  refine lv_aload_n hx hb dX1_keep_0 rfl (lv_at hl 0 rfl) ?_
  refine va_get (D := (dC, dI)) (ci := 2) (v := .int kA) (C := RX1) (T := TX1) (N := 2) hx hb hts inn_X1_keep_X1 hown hK hP 2 rfl rfl 1 (by decide) (hts (.fieldLink RX1 13 "DoorKeys$Frame" "kept" "I") (by decide +kernel)) (fun _ h9 => h9) rfl dX1_keep_1 ?_
  refine lv_if_lt (tgt := 39) hx hb dX1_keep_4 (by decide) (fun c_4 => ?_) (fun c_4 => ?_)
  · have e_ : dk_keep kA oA b = (kA, oA) := by unfold dk_keep; exact (if_pos c_4).trans rfl
    rw [e_]
    exact W.vret hx hb hr (fun t ht hW => ⟨rfl, by rw [ht]; exact hP, hS.F ht⟩) hS.2.2 dX1_keep_39
  · refine lv_aload_n hx hb dX1_keep_7 rfl (lv_at hl 0 rfl) ?_
    refine va_get (D := (dC, dI)) (ci := 2) (v := .int kA) (C := RX1) (T := TX1) (N := 2) hx hb hts inn_X1_keep_X1 hown hK hP 2 rfl rfl 1 (by decide) (hts (.fieldLink RX1 13 "DoorKeys$Frame" "kept" "I") (by decide +kernel)) (fun _ h9 => h9) rfl dX1_keep_8 ?_
    refine lv_aload_n hx hb dX1_keep_11 rfl (lv_at hl 0 rfl) ?_
    refine va_get (D := (dC, dI)) (ci := 2) (v := .ref oa) (C := RX1) (T := TX1) (N := 2) hx hb hts inn_X1_keep_X1 hown hK hP 2 rfl rfl 0 (by decide) (hts (.fieldLink RX1 9 "DoorKeys$Frame" "octets" "[B") (by decide +kernel)) (fun _ h9 => h9) rfl dX1_keep_12 ?_
    refine va_alen (v := 16) hx hb hK hP 3 1 rfl rfl rfl dX1_keep_15 ?_
    refine lv_icmp_ge (tgt := 39) hx hb dX1_keep_16 (by decide) (fun c_16 => ?_) (fun c_16 => ?_)
    · have e_ : dk_keep kA oA b = (kA, oA) := by unfold dk_keep; exact (if_neg c_4).trans ((if_pos c_16).trans rfl)
      rw [e_]
      exact W.vret hx hb hr (fun t ht hW => ⟨rfl, by rw [ht]; exact hP, hS.F ht⟩) hS.2.2 dX1_keep_39
    · refine lv_aload_n hx hb dX1_keep_19 rfl (lv_at hl 0 rfl) ?_
      refine va_get (D := (dC, dI)) (ci := 2) (v := .ref oa) (C := RX1) (T := TX1) (N := 2) hx hb hts inn_X1_keep_X1 hown hK hP 2 rfl rfl 0 (by decide) (hts (.fieldLink RX1 9 "DoorKeys$Frame" "octets" "[B") (by decide +kernel)) (fun _ h9 => h9) rfl dX1_keep_20 ?_
      refine lv_aload_n hx hb dX1_keep_23 rfl (lv_at hl 0 rfl) ?_
      refine va_get (D := (dC, dI)) (ci := 2) (v := .int kA) (C := RX1) (T := TX1) (N := 2) hx hb hts inn_X1_keep_X1 hown hK hP 2 rfl rfl 1 (by decide) (hts (.fieldLink RX1 13 "DoorKeys$Frame" "kept" "I") (by decide +kernel)) (fun _ h9 => h9) rfl dX1_keep_24 ?_
      refine lv_iload_n hx hb dX1_keep_27 rfl (lv_at hl 1 rfl) ?_
      refine va_bast hx hb hK hP hD hS 3 1 rfl rfl (up_in (N := 16) (by decide) c_4 c_16) dX1_keep_28 (fun H locs hP hD hS => ?_)
      rw [up_b8] at hP hD
      have hP : va_P (dC, dI) vwCl (dkW cK cB cI o ks fa oa fb ob dr ds L n sp co en cr rl qs kA (va_up oA kA.toNatClampNeg b) kB oB tt ss st K) H := hP
      have hD : va_D (up_c (dkW cK cB cI o ks fa oa fb ob dr ds L n sp co en cr rl qs kA oA kB oB tt ss st K)) (dkW cK cB cI o ks fa oa fb ob dr ds L n sp co en cr rl qs kA (va_up oA kA.toNatClampNeg b) kB oB tt ss st K) := hD
      refine lv_aload_n hx hb dX1_keep_29 rfl (lv_at hl 0 rfl) ?_
      refine lv_dup hx hb dX1_keep_30 rfl ?_
      refine va_get (D := (dC, dI)) (ci := 2) (v := .int kA) (C := RX1) (T := TX1) (N := 2) hx hb hts inn_X1_keep_X1 hown hK hP 2 rfl rfl 1 (by decide) (hts (.fieldLink RX1 13 "DoorKeys$Frame" "kept" "I") (by decide +kernel)) (fun _ h9 => h9) rfl dX1_keep_31 ?_
      refine lv_iconst (v := 1) hx hb dX1_keep_34 (by decide) ?_
      refine lv_iadd hx hb dX1_keep_35 ?_
      refine va_put (D := (dC, dI)) (ci := 2) (v := .int (kA + 1)) (ty := .int) (C := RX1) (T := TX1) (N := 2) hx hb hts inn_X1_keep_X1 tyX1 tyX1_ok nmX1 hown hK hP hD hS 2 rfl rfl 1 (by decide) (hts (.fieldLink RX1 13 "DoorKeys$Frame" "kept" "I") (by decide +kernel)) (fun _ h9 => h9) rfl (by decide +kernel) rfl rfl (Nat.le_of_ble_eq_true rfl) dX1_keep_36 (fun H locs hP hD hS => ?_)
      have hP : va_P (dC, dI) vwCl (dkW cK cB cI o ks fa oa fb ob dr ds L n sp co en cr rl qs (kA + 1) (va_up oA kA.toNatClampNeg b) kB oB tt ss st K) H := hP
      have hD : va_D (up_c (dkW cK cB cI o ks fa oa fb ob dr ds L n sp co en cr rl qs kA oA kB oB tt ss st K)) (dkW cK cB cI o ks fa oa fb ob dr ds L n sp co en cr rl qs (kA + 1) (va_up oA kA.toNatClampNeg b) kB oB tt ss st K) := hD
      have e_ : dk_keep kA oA b = ((kA + 1), (va_up oA kA.toNatClampNeg b)) := by unfold dk_keep; exact (if_neg c_4).trans ((if_neg c_16).trans rfl)
      rw [e_]
      exact W.vret hx hb hr (fun t ht hW => ⟨rfl, by rw [ht]; exact hP, hS.F ht⟩) hS.2.2 dX1_keep_39
def dk_fhas (kB : Int32) (x : Int32) : Int32 :=
  if x < 0 then
    (0 : Int32)
  else
    if kB ≤ x then
      (0 : Int32)
    else
      if 16 ≤ x then
        (0 : Int32)
      else
        (1 : Int32)
theorem dk_fhas_in {k x : Int32} (h : ¬ dk_fhas k x = 0) : vp_in x 16 := by
  unfold dk_fhas at h
  by_cases h0 : x < 0
  · rw [if_pos h0] at h; exact absurd rfl h
  · rw [if_neg h0] at h
    by_cases h2 : k ≤ x
    · rw [if_pos h2] at h; exact absurd rfl h
    · rw [if_neg h2] at h
      by_cases h1 : 16 ≤ x
      · rw [if_pos h1] at h; exact absurd rfl h
      · exact up_in (N := 16) (by decide) h0 h1
def rm_X1_has : Room := { frames := 0, cells := 0, slots := 0, locals := 0 }
set_option maxHeartbeats 4000000 in
set_option maxRecDepth 100000 in
theorem c_X1_has (l : Launch) (dC : Nat → ClassId) (dI : Nat → Nat → Nat) (cK : ClassId) (cB : ClassId) (cI : ClassId) (o : Nat) (ks : Nat) (fa : Nat) (oa : Nat) (fb : Nat) (ob : Nat) (dr : Nat) (ds : Nat) (L : Nat → Nat) (n : Nat) (sp : Int32) (co : Nat) (en : Nat) (cr : Int32) (rl : Int32) (qs : Int32) (kA : Int32) (oA : Nat → Int8) (kB : Int32) (oB : Nat → Int8) (tt : Int64) (ss : Int64) (st : Nat → Int32) (K : Nat → KR) (x : Int32) : Met l yX1_has wsX1_has rm_X1_has (up_P (dC, dI) vwCl (dkT cK cB cI) (dkW cK cB cI o ks fa oa fb ob dr ds L n sp co en cr rl qs kA oA kB oB tt ss st K) [.ref fb, .int x]) (k2_QcV (.int (dk_fhas kB x))) 0 0 (fun _ => False) := by
  refine Met.ofW (cc := cX1_has) (maxL := 2) (ret := (some .boolean)) (by decide) rfl ?_
  intro p e s m args below meth c s₁ B hml hv
  obtain ⟨rfl, hP, hK, hD0⟩ := hv
  have hx := B.exec
  have hb := B.bytes
  have hr := B.returns
  have hts := atoms_spec (ws := wsX1_has) B.pre
  have hown : s.vm.findClass RX1 = some m.cls := findClass_of_methodNamed B.named
  have hlocks := B.notSynchronized
  have hD := up_self hD0
  have hS : va_S (up_c (dkW cK cB cI o ks fa oa fb ob dr ds L n sp co en cr rl qs kA oA kB oB tt ss st K)) s.heap s.heap [] := va_S.rf
  have hl := lv_entry ([.ref fb, .int x]) (n := 2) (Nat.le_of_ble_eq_true rfl)
  rw [lg_entry_eq]
  generalize (lg_sl ([.ref fb, .int x]) ++ List.replicate (2 - (lg_sl ([.ref fb, .int x])).length) Slot.unset).toArray = ls at hl ⊢
  have hl : lv_has ls 2 [(0, .ref fb), (1, .int x)] := hl
  refine lv_iload_n hx hb dX1_has_0 rfl (lv_at hl 1 rfl) ?_
  refine lv_if_lt (tgt := 25) hx hb dX1_has_1 (by decide) (fun c_1 => ?_) (fun c_1 => ?_)
  · refine lv_iconst (v := 0) hx hb dX1_has_25 (by decide) ?_
    have e_ : dk_fhas kB x = (0 : Int32) := by unfold dk_fhas; exact (if_pos c_1).trans rfl
    rw [e_]
    exact W.zret (v := 0) hx hb hr (by decide) (fun t ht hW => ⟨rfl, ht⟩) (fun q h => absurd h List.not_mem_nil) dX1_has_26
  · refine lv_iload_n hx hb dX1_has_4 rfl (lv_at hl 1 rfl) ?_
    refine lv_aload_n hx hb dX1_has_5 rfl (lv_at hl 0 rfl) ?_
    refine va_get (D := (dC, dI)) (ci := 2) (v := .int kB) (C := RX1) (T := TX1) (N := 2) hx hb hts inn_X1_has_X1 hown hK hP 4 rfl rfl 1 (by decide) (hts (.fieldLink RX1 13 "DoorKeys$Frame" "kept" "I") (by decide +kernel)) (fun _ h9 => h9) rfl dX1_has_6 ?_
    refine lv_icmp_ge (tgt := 25) hx hb dX1_has_9 (by decide) (fun c_9 => ?_) (fun c_9 => ?_)
    · refine lv_iconst (v := 0) hx hb dX1_has_25 (by decide) ?_
      have e_ : dk_fhas kB x = (0 : Int32) := by unfold dk_fhas; exact (if_neg c_1).trans ((if_pos c_9).trans rfl)
      rw [e_]
      exact W.zret (v := 0) hx hb hr (by decide) (fun t ht hW => ⟨rfl, ht⟩) (fun q h => absurd h List.not_mem_nil) dX1_has_26
    · refine lv_iload_n hx hb dX1_has_12 rfl (lv_at hl 1 rfl) ?_
      refine lv_aload_n hx hb dX1_has_13 rfl (lv_at hl 0 rfl) ?_
      refine va_get (D := (dC, dI)) (ci := 2) (v := .ref ob) (C := RX1) (T := TX1) (N := 2) hx hb hts inn_X1_has_X1 hown hK hP 4 rfl rfl 0 (by decide) (hts (.fieldLink RX1 9 "DoorKeys$Frame" "octets" "[B") (by decide +kernel)) (fun _ h9 => h9) rfl dX1_has_14 ?_
      refine va_alen (v := 16) hx hb hK hP 5 1 rfl rfl rfl dX1_has_17 ?_
      refine lv_icmp_ge (tgt := 25) hx hb dX1_has_18 (by decide) (fun c_18 => ?_) (fun c_18 => ?_)
      · refine lv_iconst (v := 0) hx hb dX1_has_25 (by decide) ?_
        have e_ : dk_fhas kB x = (0 : Int32) := by unfold dk_fhas; exact (if_neg c_1).trans ((if_neg c_9).trans ((if_pos c_18).trans rfl))
        rw [e_]
        exact W.zret (v := 0) hx hb hr (by decide) (fun t ht hW => ⟨rfl, ht⟩) (fun q h => absurd h List.not_mem_nil) dX1_has_26
      · refine lv_iconst (v := 1) hx hb dX1_has_21 (by decide) ?_
        refine lv_goto (tgt := 26) hx hb dX1_has_22 (by decide) ?_
        have e_ : dk_fhas kB x = (1 : Int32) := by unfold dk_fhas; exact (if_neg c_1).trans ((if_neg c_9).trans ((if_neg c_18).trans rfl))
        rw [e_]
        exact W.zret (v := 1) hx hb hr (by decide) (fun t ht hW => ⟨rfl, ht⟩) (fun q h => absurd h List.not_mem_nil) dX1_has_26
def dk_uns (kB : Int32) (oB : Nat → Int8) (x : Int32) : Int32 :=
  if dk_fhas kB x = 0 then
    (0 : Int32)
  else
    ((oB x.toNatClampNeg).toInt32 &&& 255)
def rm_X1_unsigned : Room := { frames := 1, cells := 0, slots := 0, locals := 21 }
set_option maxHeartbeats 4000000 in
set_option maxRecDepth 100000 in
theorem c_X1_unsigned (l : Launch) (dC : Nat → ClassId) (dI : Nat → Nat → Nat) (cK : ClassId) (cB : ClassId) (cI : ClassId) (o : Nat) (ks : Nat) (fa : Nat) (oa : Nat) (fb : Nat) (ob : Nat) (dr : Nat) (ds : Nat) (L : Nat → Nat) (n : Nat) (sp : Int32) (co : Nat) (en : Nat) (cr : Int32) (rl : Int32) (qs : Int32) (kA : Int32) (oA : Nat → Int8) (kB : Int32) (oB : Nat → Int8) (tt : Int64) (ss : Int64) (st : Nat → Int32) (K : Nat → KR) (x : Int32) : Met l yX1_unsigned wsX1_unsigned rm_X1_unsigned (up_P (dC, dI) vwCl (dkT cK cB cI) (dkW cK cB cI o ks fa oa fb ob dr ds L n sp co en cr rl qs kA oA kB oB tt ss st K) [.ref fb, .int x]) (k2_QcV (.int (dk_uns kB oB x))) 0 0 (fun _ => False) := by
  refine Met.ofW (cc := cX1_unsigned) (maxL := 2) (ret := (some .int)) (by decide) rfl ?_
  intro p e s m args below meth c s₁ B hml hv
  obtain ⟨rfl, hP, hK, hD0⟩ := hv
  have hx := B.exec
  have hb := B.bytes
  have hr := B.returns
  have hts := atoms_spec (ws := wsX1_unsigned) B.pre
  have hown : s.vm.findClass RX1 = some m.cls := findClass_of_methodNamed B.named
  have hlocks := B.notSynchronized
  have hD := up_self hD0
  have hS : va_S (up_c (dkW cK cB cI o ks fa oa fb ob dr ds L n sp co en cr rl qs kA oA kB oB tt ss st K)) s.heap s.heap [] := va_S.rf
  have hl := lv_entry ([.ref fb, .int x]) (n := 2) (Nat.le_of_ble_eq_true rfl)
  rw [lg_entry_eq]
  generalize (lg_sl ([.ref fb, .int x]) ++ List.replicate (2 - (lg_sl ([.ref fb, .int x])).length) Slot.unset).toArray = ls at hl ⊢
  have hl : lv_has ls 2 [(0, .ref fb), (1, .int x)] := hl
  refine lv_aload_n hx hb dX1_unsigned_0 rfl (lv_at hl 0 rfl) ?_
  refine lv_iload_n hx hb dX1_unsigned_1 rfl (lv_at hl 1 rfl) ?_
  refine up_read (W.runV (As := [.int x]) (rest := []) ⟨hx, hb, hml, hown, hts⟩ (c_X1_has l dC dI cK cB cI o ks fa oa fb ob dr ds L n sp co en cr rl qs kA oA kB oB tt ss st K x) (cwV 1 hts gX1_unsigned_X1_has rfl rfl rfl (by decide +kernel) ⟨Nat.le_of_ble_eq_true rfl, Nat.le_of_ble_eq_true rfl⟩) (up_preV (q0 := 4) (ci := 2) hP hK hD rfl rfl) rfl rfl hl.1 rfl (lv_room (Nat.le_of_ble_eq_true rfl)) dX1_unsigned_2 ⟨Nat.le_of_ble_eq_true rfl, Nat.le_of_ble_eq_true rfl⟩) ?_
  refine lv_if_eq (tgt := 21) hx hb dX1_unsigned_5 (by decide) (fun c_5 => ?_) (fun c_5 => ?_)
  · refine lv_iconst (v := 0) hx hb dX1_unsigned_21 (by decide) ?_
    have e_ : dk_uns kB oB x = (0 : Int32) := by unfold dk_uns; exact (if_pos c_5).trans rfl
    rw [e_]
    exact W.iret (v := 0) hx hb hr (fun t ht hW => ⟨rfl, ht⟩) (fun q h => absurd h List.not_mem_nil) dX1_unsigned_22
  · refine lv_aload_n hx hb dX1_unsigned_8 rfl (lv_at hl 0 rfl) ?_
    refine va_get (D := (dC, dI)) (ci := 2) (v := .ref ob) (C := RX1) (T := TX1) (N := 2) hx hb hts inn_X1_unsigned_X1 hown hK hP 4 rfl rfl 0 (by decide) (hts (.fieldLink RX1 9 "DoorKeys$Frame" "octets" "[B") (by decide +kernel)) (fun _ h9 => h9) rfl dX1_unsigned_9 ?_
    refine lv_iload_n hx hb dX1_unsigned_12 rfl (lv_at hl 1 rfl) ?_
    refine va_bald hx hb hK hP 5 1 rfl rfl (dk_fhas_in c_5) dX1_unsigned_13 ?_
    refine lv_sipush (v := 255) hx hb dX1_unsigned_14 (by decide) ?_
    refine lv_iand hx hb dX1_unsigned_17 ?_
    refine lv_goto (tgt := 22) hx hb dX1_unsigned_18 (by decide) ?_
    have e_ : dk_uns kB oB x = ((oB x.toNatClampNeg).toInt32 &&& 255) := by unfold dk_uns; exact (if_neg c_5).trans rfl
    rw [e_]
    exact W.iret (v := ((oB x.toNatClampNeg).toInt32 &&& 255)) hx hb hr (fun t ht hW => ⟨rfl, ht⟩) (fun q h => absurd h List.not_mem_nil) dX1_unsigned_22
def dk_sound_l (kB : Int32) (oB : Nat → Int8) : Nat → Nat → Int32 → Int32
  | 0, _, ac =>
    if ac = 0 then
      (1 : Int32)
    else
      (0 : Int32)
  | r + 1, j, ac =>
    dk_sound_l kB oB r (j + 1) (ac ^^^ dk_uns kB oB (nI j))
def dk_sound (kB : Int32) (oB : Nat → Int8) : Int32 :=
  if kB = 8 then
    dk_sound_l kB oB 8 0 0
  else
    (0 : Int32)
def rm_X1_isSound : Room := { frames := 2, cells := 0, slots := 0, locals := 42 }
set_option maxHeartbeats 4000000 in
set_option maxRecDepth 100000 in
theorem c_X1_isSound (l : Launch) (dC : Nat → ClassId) (dI : Nat → Nat → Nat) (cK : ClassId) (cB : ClassId) (cI : ClassId) (o : Nat) (ks : Nat) (fa : Nat) (oa : Nat) (fb : Nat) (ob : Nat) (dr : Nat) (ds : Nat) (L : Nat → Nat) (n : Nat) (sp : Int32) (co : Nat) (en : Nat) (cr : Int32) (rl : Int32) (qs : Int32) (kA : Int32) (oA : Nat → Int8) (kB : Int32) (oB : Nat → Int8) (tt : Int64) (ss : Int64) (st : Nat → Int32) (K : Nat → KR) : Met l yX1_isSound wsX1_isSound rm_X1_isSound (up_P (dC, dI) vwCl (dkT cK cB cI) (dkW cK cB cI o ks fa oa fb ob dr ds L n sp co en cr rl qs kA oA kB oB tt ss st K) [.ref fb]) (k2_QcV (.int (dk_sound kB oB))) 0 0 (fun _ => False) := by
  refine Met.ofW (cc := cX1_isSound) (maxL := 3) (ret := (some .boolean)) (by decide) rfl ?_
  intro p e s m args below meth c s₁ B hml hv
  obtain ⟨rfl, hP, hK, hD0⟩ := hv
  have hx := B.exec
  have hb := B.bytes
  have hr := B.returns
  have hts := atoms_spec (ws := wsX1_isSound) B.pre
  have hown : s.vm.findClass RX1 = some m.cls := findClass_of_methodNamed B.named
  have hlocks := B.notSynchronized
  have hD := up_self hD0
  have hS : va_S (up_c (dkW cK cB cI o ks fa oa fb ob dr ds L n sp co en cr rl qs kA oA kB oB tt ss st K)) s.heap s.heap [] := va_S.rf
  have hl := lv_entry ([.ref fb]) (n := 3) (Nat.le_of_ble_eq_true rfl)
  rw [lg_entry_eq]
  generalize (lg_sl ([.ref fb]) ++ List.replicate (3 - (lg_sl ([.ref fb])).length) Slot.unset).toArray = ls at hl ⊢
  have hl : lv_has ls 3 [(0, .ref fb)] := hl
  refine lv_aload_n hx hb dX1_isSound_0 rfl (lv_at hl 0 rfl) ?_
  refine va_get (D := (dC, dI)) (ci := 2) (v := .int kB) (C := RX1) (T := TX1) (N := 2) hx hb hts inn_X1_isSound_X1 hown hK hP 4 rfl rfl 1 (by decide) (hts (.fieldLink RX1 13 "DoorKeys$Frame" "kept" "I") (by decide +kernel)) (fun _ h9 => h9) rfl dX1_isSound_1 ?_
  refine lv_bipush (v := 8) hx hb dX1_isSound_4 (by decide) ?_
  refine lv_icmp_eq (tgt := 11) hx hb dX1_isSound_6 (by decide) (fun c_6 => ?_) (fun c_6 => ?_)
  · refine lv_iconst (v := 0) hx hb dX1_isSound_11 (by decide) ?_
    refine lv_istore_n (lv' := [(1, .int 0), (0, .ref fb)]) hx hb dX1_isSound_12 rfl hl (by decide) rfl (fun ls hl => ?_)
    refine lv_iconst (v := 0) hx hb dX1_isSound_13 (by decide) ?_
    refine lv_istore_n (lv' := [(2, .int 0), (1, .int 0), (0, .ref fb)]) hx hb dX1_isSound_14 rfl hl (by decide) rfl (fun ls hl => ?_)
    have lp : ∀ (r j : Nat) (ac : Int32) , j + r = 8 → ∀ ls : Array Slot, lv_has ls 3 [(0, .ref fb), (2, .int (nI j)), (1, .int ac)] → W p l e (headSpec wsX1_isSound rm_X1_isSound).room s m ([.ref fb] : List Value).toArray below meth c s.heap [] 0 0 (MQ below (k2_QcV (.int (dk_sound_l kB oB r j ac))) ([.ref fb] : List Value).toArray s 0 0 (fun _ => False)) (F0 m 15 ls []) := by
      intro r
      induction r with
      | zero =>
        intro j ac hj ls hl
        refine lv_iload_n hx hb dX1_isSound_15 rfl (lv_at hl 1 rfl) ?_
        refine lv_bipush (v := 8) hx hb dX1_isSound_16 (by decide) ?_
        refine lv_icmp_ge (tgt := 35) hx hb dX1_isSound_18 (by decide) (fun c_18 => ?_) (fun c_18 => (c_18 (nI_le (a := 8) (b := j) (by omega) (by omega))).elim)
        refine lv_iload_n hx hb dX1_isSound_35 rfl (lv_at hl 2 rfl) ?_
        refine lv_if_ne (tgt := 43) hx hb dX1_isSound_36 (by decide) (fun c_36 => ?_) (fun c_36 => ?_)
        · refine lv_iconst (v := 0) hx hb dX1_isSound_43 (by decide) ?_
          have e_ : dk_sound_l kB oB 0 j ac = (0 : Int32) := (dk_sound_l.eq_1 ..).trans ((if_neg c_36).trans rfl)
          rw [e_]
          exact W.zret (v := 0) hx hb hr (by decide) (fun t ht hW => ⟨rfl, ht⟩) (fun q h => absurd h List.not_mem_nil) dX1_isSound_44
        · refine lv_iconst (v := 1) hx hb dX1_isSound_39 (by decide) ?_
          refine lv_goto (tgt := 44) hx hb dX1_isSound_40 (by decide) ?_
          have e_ : dk_sound_l kB oB 0 j ac = (1 : Int32) := (dk_sound_l.eq_1 ..).trans ((if_pos c_36).trans rfl)
          rw [e_]
          exact W.zret (v := 1) hx hb hr (by decide) (fun t ht hW => ⟨rfl, ht⟩) (fun q h => absurd h List.not_mem_nil) dX1_isSound_44
      | succ r ih =>
        intro j ac hj ls hl
        refine lv_iload_n hx hb dX1_isSound_15 rfl (lv_at hl 1 rfl) ?_
        refine lv_bipush (v := 8) hx hb dX1_isSound_16 (by decide) ?_
        refine lv_icmp_ge (tgt := 35) hx hb dX1_isSound_18 (by decide) (fun c_18 => (nI_ge (a := j) (b := 8) (by omega) (by omega) c_18).elim) (fun c_18 => ?_)
        refine lv_iload_n hx hb dX1_isSound_21 rfl (lv_at hl 2 rfl) ?_
        refine lv_aload_n hx hb dX1_isSound_22 rfl (lv_at hl 0 rfl) ?_
        refine lv_iload_n hx hb dX1_isSound_23 rfl (lv_at hl 1 rfl) ?_
        refine up_read (W.runV (As := [.int (nI j)]) (rest := [.int ac]) ⟨hx, hb, hml, hown, hts⟩ (c_X1_unsigned l dC dI cK cB cI o ks fa oa fb ob dr ds L n sp co en cr rl qs kA oA kB oB tt ss st K (nI j)) (cwV 1 hts gX1_isSound_X1_unsigned rfl rfl rfl (by decide +kernel) ⟨Nat.le_of_ble_eq_true rfl, Nat.le_of_ble_eq_true rfl⟩) (up_preV (q0 := 4) (ci := 2) hP hK hD rfl rfl) rfl rfl hl.1 rfl (lv_room (Nat.le_of_ble_eq_true rfl)) dX1_isSound_24 ⟨Nat.le_of_ble_eq_true rfl, Nat.le_of_ble_eq_true rfl⟩) ?_
        refine lv_ixor hx hb dX1_isSound_27 ?_
        refine lv_istore_n (lv' := [(1, .int (ac ^^^ dk_uns kB oB (nI j))), (0, .ref fb), (2, .int (nI j))]) hx hb dX1_isSound_28 rfl hl (by decide) rfl (fun ls hl => ?_)
        refine lv_iinc (v := (nI (j + 1))) (lv' := [(2, .int (nI (j + 1))), (1, .int (ac ^^^ dk_uns kB oB (nI j))), (0, .ref fb)]) hx hb dX1_isSound_29 hl (k := 2) rfl (nI_1 _) (by decide) rfl (fun ls hl => ?_)
        refine lv_goto (tgt := 15) hx hb dX1_isSound_32 (by decide) ?_
        have e_ : dk_sound_l kB oB (r + 1) j ac = dk_sound_l kB oB r (j + 1) (ac ^^^ dk_uns kB oB (nI j)) := (dk_sound_l.eq_2 ..).trans rfl
        rw [e_]
        exact ih (j + 1) (ac ^^^ dk_uns kB oB (nI j)) (by omega) ls (lv_sub hl [2, 0, 1] rfl)
    have e_ : dk_sound kB oB = dk_sound_l kB oB 8 0 0 := by unfold dk_sound; exact (if_pos c_6).trans rfl
    rw [e_]
    exact lp 8 0 0 (by omega) ls (lv_sub hl [2, 0, 1] rfl)
  · refine lv_iconst (v := 0) hx hb dX1_isSound_9 (by decide) ?_
    have e_ : dk_sound kB oB = (0 : Int32) := by unfold dk_sound; exact (if_neg c_6).trans rfl
    rw [e_]
    exact W.zret (v := 0) hx hb hr (by decide) (fun t ht hW => ⟨rfl, ht⟩) (fun q h => absurd h List.not_mem_nil) dX1_isSound_10
def dk_sender (kB : Int32) (oB : Nat → Int8) : Int32 :=
  dk_uns kB oB 0
def rm_X1_sender : Room := { frames := 2, cells := 0, slots := 0, locals := 42 }
set_option maxHeartbeats 4000000 in
set_option maxRecDepth 100000 in
theorem c_X1_sender (l : Launch) (dC : Nat → ClassId) (dI : Nat → Nat → Nat) (cK : ClassId) (cB : ClassId) (cI : ClassId) (o : Nat) (ks : Nat) (fa : Nat) (oa : Nat) (fb : Nat) (ob : Nat) (dr : Nat) (ds : Nat) (L : Nat → Nat) (n : Nat) (sp : Int32) (co : Nat) (en : Nat) (cr : Int32) (rl : Int32) (qs : Int32) (kA : Int32) (oA : Nat → Int8) (kB : Int32) (oB : Nat → Int8) (tt : Int64) (ss : Int64) (st : Nat → Int32) (K : Nat → KR) : Met l yX1_sender wsX1_sender rm_X1_sender (up_P (dC, dI) vwCl (dkT cK cB cI) (dkW cK cB cI o ks fa oa fb ob dr ds L n sp co en cr rl qs kA oA kB oB tt ss st K) [.ref fb]) (k2_QcV (.int (dk_sender kB oB))) 0 0 (fun _ => False) := by
  refine Met.ofW (cc := cX1_sender) (maxL := 1) (ret := (some .int)) (by decide) rfl ?_
  intro p e s m args below meth c s₁ B hml hv
  obtain ⟨rfl, hP, hK, hD0⟩ := hv
  have hx := B.exec
  have hb := B.bytes
  have hr := B.returns
  have hts := atoms_spec (ws := wsX1_sender) B.pre
  have hown : s.vm.findClass RX1 = some m.cls := findClass_of_methodNamed B.named
  have hlocks := B.notSynchronized
  have hD := up_self hD0
  have hS : va_S (up_c (dkW cK cB cI o ks fa oa fb ob dr ds L n sp co en cr rl qs kA oA kB oB tt ss st K)) s.heap s.heap [] := va_S.rf
  have hl := lv_entry ([.ref fb]) (n := 1) (Nat.le_of_ble_eq_true rfl)
  rw [lg_entry_eq]
  generalize (lg_sl ([.ref fb]) ++ List.replicate (1 - (lg_sl ([.ref fb])).length) Slot.unset).toArray = ls at hl ⊢
  have hl : lv_has ls 1 [(0, .ref fb)] := hl
  refine lv_aload_n hx hb dX1_sender_0 rfl (lv_at hl 0 rfl) ?_
  refine lv_iconst (v := 0) hx hb dX1_sender_1 (by decide) ?_
  refine up_read (W.runV (As := [.int 0]) (rest := []) ⟨hx, hb, hml, hown, hts⟩ (c_X1_unsigned l dC dI cK cB cI o ks fa oa fb ob dr ds L n sp co en cr rl qs kA oA kB oB tt ss st K 0) (cwV 1 hts gX1_sender_X1_unsigned rfl rfl rfl (by decide +kernel) ⟨Nat.le_of_ble_eq_true rfl, Nat.le_of_ble_eq_true rfl⟩) (up_preV (q0 := 4) (ci := 2) hP hK hD rfl rfl) rfl rfl hl.1 rfl (lv_room (Nat.le_of_ble_eq_true rfl)) dX1_sender_2 ⟨Nat.le_of_ble_eq_true rfl, Nat.le_of_ble_eq_true rfl⟩) ?_
  have e_ : dk_sender kB oB = dk_uns kB oB 0 := by unfold dk_sender; exact rfl
  rw [e_]
  exact W.iret (v := dk_uns kB oB 0) hx hb hr (fun t ht hW => ⟨rfl, ht⟩) (fun q h => absurd h List.not_mem_nil) dX1_sender_5
def dk_command (kB : Int32) (oB : Nat → Int8) : Int32 :=
  dk_uns kB oB 1
def rm_X1_command : Room := { frames := 2, cells := 0, slots := 0, locals := 42 }
set_option maxHeartbeats 4000000 in
set_option maxRecDepth 100000 in
theorem c_X1_command (l : Launch) (dC : Nat → ClassId) (dI : Nat → Nat → Nat) (cK : ClassId) (cB : ClassId) (cI : ClassId) (o : Nat) (ks : Nat) (fa : Nat) (oa : Nat) (fb : Nat) (ob : Nat) (dr : Nat) (ds : Nat) (L : Nat → Nat) (n : Nat) (sp : Int32) (co : Nat) (en : Nat) (cr : Int32) (rl : Int32) (qs : Int32) (kA : Int32) (oA : Nat → Int8) (kB : Int32) (oB : Nat → Int8) (tt : Int64) (ss : Int64) (st : Nat → Int32) (K : Nat → KR) : Met l yX1_command wsX1_command rm_X1_command (up_P (dC, dI) vwCl (dkT cK cB cI) (dkW cK cB cI o ks fa oa fb ob dr ds L n sp co en cr rl qs kA oA kB oB tt ss st K) [.ref fb]) (k2_QcV (.int (dk_command kB oB))) 0 0 (fun _ => False) := by
  refine Met.ofW (cc := cX1_command) (maxL := 1) (ret := (some .int)) (by decide) rfl ?_
  intro p e s m args below meth c s₁ B hml hv
  obtain ⟨rfl, hP, hK, hD0⟩ := hv
  have hx := B.exec
  have hb := B.bytes
  have hr := B.returns
  have hts := atoms_spec (ws := wsX1_command) B.pre
  have hown : s.vm.findClass RX1 = some m.cls := findClass_of_methodNamed B.named
  have hlocks := B.notSynchronized
  have hD := up_self hD0
  have hS : va_S (up_c (dkW cK cB cI o ks fa oa fb ob dr ds L n sp co en cr rl qs kA oA kB oB tt ss st K)) s.heap s.heap [] := va_S.rf
  have hl := lv_entry ([.ref fb]) (n := 1) (Nat.le_of_ble_eq_true rfl)
  rw [lg_entry_eq]
  generalize (lg_sl ([.ref fb]) ++ List.replicate (1 - (lg_sl ([.ref fb])).length) Slot.unset).toArray = ls at hl ⊢
  have hl : lv_has ls 1 [(0, .ref fb)] := hl
  refine lv_aload_n hx hb dX1_command_0 rfl (lv_at hl 0 rfl) ?_
  refine lv_iconst (v := 1) hx hb dX1_command_1 (by decide) ?_
  refine up_read (W.runV (As := [.int 1]) (rest := []) ⟨hx, hb, hml, hown, hts⟩ (c_X1_unsigned l dC dI cK cB cI o ks fa oa fb ob dr ds L n sp co en cr rl qs kA oA kB oB tt ss st K 1) (cwV 1 hts gX1_command_X1_unsigned rfl rfl rfl (by decide +kernel) ⟨Nat.le_of_ble_eq_true rfl, Nat.le_of_ble_eq_true rfl⟩) (up_preV (q0 := 4) (ci := 2) hP hK hD rfl rfl) rfl rfl hl.1 rfl (lv_room (Nat.le_of_ble_eq_true rfl)) dX1_command_2 ⟨Nat.le_of_ble_eq_true rfl, Nat.le_of_ble_eq_true rfl⟩) ?_
  have e_ : dk_command kB oB = dk_uns kB oB 1 := by unfold dk_command; exact rfl
  rw [e_]
  exact W.iret (v := dk_uns kB oB 1) hx hb hr (fun t ht hW => ⟨rfl, ht⟩) (fun q h => absurd h List.not_mem_nil) dX1_command_5
def dk_flags (kB : Int32) (oB : Nat → Int8) : Int32 :=
  dk_uns kB oB 6
def rm_X1_flags : Room := { frames := 2, cells := 0, slots := 0, locals := 42 }
set_option maxHeartbeats 4000000 in
set_option maxRecDepth 100000 in
theorem c_X1_flags (l : Launch) (dC : Nat → ClassId) (dI : Nat → Nat → Nat) (cK : ClassId) (cB : ClassId) (cI : ClassId) (o : Nat) (ks : Nat) (fa : Nat) (oa : Nat) (fb : Nat) (ob : Nat) (dr : Nat) (ds : Nat) (L : Nat → Nat) (n : Nat) (sp : Int32) (co : Nat) (en : Nat) (cr : Int32) (rl : Int32) (qs : Int32) (kA : Int32) (oA : Nat → Int8) (kB : Int32) (oB : Nat → Int8) (tt : Int64) (ss : Int64) (st : Nat → Int32) (K : Nat → KR) : Met l yX1_flags wsX1_flags rm_X1_flags (up_P (dC, dI) vwCl (dkT cK cB cI) (dkW cK cB cI o ks fa oa fb ob dr ds L n sp co en cr rl qs kA oA kB oB tt ss st K) [.ref fb]) (k2_QcV (.int (dk_flags kB oB))) 0 0 (fun _ => False) := by
  refine Met.ofW (cc := cX1_flags) (maxL := 1) (ret := (some .int)) (by decide) rfl ?_
  intro p e s m args below meth c s₁ B hml hv
  obtain ⟨rfl, hP, hK, hD0⟩ := hv
  have hx := B.exec
  have hb := B.bytes
  have hr := B.returns
  have hts := atoms_spec (ws := wsX1_flags) B.pre
  have hown : s.vm.findClass RX1 = some m.cls := findClass_of_methodNamed B.named
  have hlocks := B.notSynchronized
  have hD := up_self hD0
  have hS : va_S (up_c (dkW cK cB cI o ks fa oa fb ob dr ds L n sp co en cr rl qs kA oA kB oB tt ss st K)) s.heap s.heap [] := va_S.rf
  have hl := lv_entry ([.ref fb]) (n := 1) (Nat.le_of_ble_eq_true rfl)
  rw [lg_entry_eq]
  generalize (lg_sl ([.ref fb]) ++ List.replicate (1 - (lg_sl ([.ref fb])).length) Slot.unset).toArray = ls at hl ⊢
  have hl : lv_has ls 1 [(0, .ref fb)] := hl
  refine lv_aload_n hx hb dX1_flags_0 rfl (lv_at hl 0 rfl) ?_
  refine lv_bipush (v := 6) hx hb dX1_flags_1 (by decide) ?_
  refine up_read (W.runV (As := [.int 6]) (rest := []) ⟨hx, hb, hml, hown, hts⟩ (c_X1_unsigned l dC dI cK cB cI o ks fa oa fb ob dr ds L n sp co en cr rl qs kA oA kB oB tt ss st K 6) (cwV 1 hts gX1_flags_X1_unsigned rfl rfl rfl (by decide +kernel) ⟨Nat.le_of_ble_eq_true rfl, Nat.le_of_ble_eq_true rfl⟩) (up_preV (q0 := 4) (ci := 2) hP hK hD rfl rfl) rfl rfl hl.1 rfl (lv_room (Nat.le_of_ble_eq_true rfl)) dX1_flags_3 ⟨Nat.le_of_ble_eq_true rfl, Nat.le_of_ble_eq_true rfl⟩) ?_
  have e_ : dk_flags kB oB = dk_uns kB oB 6 := by unfold dk_flags; exact rfl
  rw [e_]
  exact W.iret (v := dk_uns kB oB 6) hx hb hr (fun t ht hW => ⟨rfl, ht⟩) (fun q h => absurd h List.not_mem_nil) dX1_flags_6
def dk_code_l (kB : Int32) (oB : Nat → Int8) : Nat → Nat → Int64 → Int64
  | 0, _, ac =>
    ac
  | r + 1, j, ac =>
    dk_code_l kB oB r (j + 1) ((ac * 256) + (dk_uns kB oB (nI (j + 2))).toInt64)
def dk_code (kB : Int32) (oB : Nat → Int8) : Int64 :=
  dk_code_l kB oB 4 0 0
def rm_X1_code : Room := { frames := 2, cells := 0, slots := 0, locals := 42 }
set_option maxHeartbeats 4000000 in
set_option maxRecDepth 100000 in
theorem c_X1_code (l : Launch) (dC : Nat → ClassId) (dI : Nat → Nat → Nat) (cK : ClassId) (cB : ClassId) (cI : ClassId) (o : Nat) (ks : Nat) (fa : Nat) (oa : Nat) (fb : Nat) (ob : Nat) (dr : Nat) (ds : Nat) (L : Nat → Nat) (n : Nat) (sp : Int32) (co : Nat) (en : Nat) (cr : Int32) (rl : Int32) (qs : Int32) (kA : Int32) (oA : Nat → Int8) (kB : Int32) (oB : Nat → Int8) (tt : Int64) (ss : Int64) (st : Nat → Int32) (K : Nat → KR) : Met l yX1_code wsX1_code rm_X1_code (up_P (dC, dI) vwCl (dkT cK cB cI) (dkW cK cB cI o ks fa oa fb ob dr ds L n sp co en cr rl qs kA oA kB oB tt ss st K) [.ref fb]) (k2_QcV (.long (dk_code kB oB))) 0 0 (fun _ => False) := by
  refine Met.ofW (cc := cX1_code) (maxL := 4) (ret := (some .long)) (by decide) rfl ?_
  intro p e s m args below meth c s₁ B hml hv
  obtain ⟨rfl, hP, hK, hD0⟩ := hv
  have hx := B.exec
  have hb := B.bytes
  have hr := B.returns
  have hts := atoms_spec (ws := wsX1_code) B.pre
  have hown : s.vm.findClass RX1 = some m.cls := findClass_of_methodNamed B.named
  have hlocks := B.notSynchronized
  have hD := up_self hD0
  have hS : va_S (up_c (dkW cK cB cI o ks fa oa fb ob dr ds L n sp co en cr rl qs kA oA kB oB tt ss st K)) s.heap s.heap [] := va_S.rf
  have hl := lv_entry ([.ref fb]) (n := 4) (Nat.le_of_ble_eq_true rfl)
  rw [lg_entry_eq]
  generalize (lg_sl ([.ref fb]) ++ List.replicate (4 - (lg_sl ([.ref fb])).length) Slot.unset).toArray = ls at hl ⊢
  have hl : lv_has ls 4 [(0, .ref fb)] := hl
  refine lv_lconst (v := 0) hx hb dX1_code_0 (by decide) ?_
  refine lv_lstore_n (lv' := [(1, .long 0), (0, .ref fb)]) hx hb dX1_code_1 rfl hl (by decide) rfl (fun ls hl => ?_)
  refine lv_iconst (v := 2) hx hb dX1_code_2 (by decide) ?_
  refine lv_istore_n (lv' := [(3, .int 2), (1, .long 0), (0, .ref fb)]) hx hb dX1_code_3 rfl hl (by decide) rfl (fun ls hl => ?_)
  have lp : ∀ (r j : Nat) (ac : Int64) , j + r = 4 → ∀ ls : Array Slot, lv_has ls 4 [(0, .ref fb), (3, .int (nI (j + 2))), (1, .long ac)] → W p l e (headSpec wsX1_code rm_X1_code).room s m ([.ref fb] : List Value).toArray below meth c s.heap [] 0 0 (MQ below (k2_QcV (.long (dk_code_l kB oB r j ac))) ([.ref fb] : List Value).toArray s 0 0 (fun _ => False)) (F0 m 4 ls []) := by
    intro r
    induction r with
    | zero =>
      intro j ac hj ls hl
      refine lv_iload_n hx hb dX1_code_4 rfl (lv_at hl 1 rfl) ?_
      refine lv_iconst (v := 5) hx hb dX1_code_5 (by decide) ?_
      refine lv_icmp_gt (tgt := 28) hx hb dX1_code_6 (by decide) (fun c_6 => ?_) (fun c_6 => (c_6 (nI_lt (a := 5) (b := (j + 2)) (by omega) (by omega))).elim)
      refine lv_lload_n hx hb dX1_code_28 rfl (lv_at hl 2 rfl) ?_
      have e_ : dk_code_l kB oB 0 j ac = ac := (dk_code_l.eq_1 ..).trans rfl
      rw [e_]
      exact W.lret (v := ac) hx hb hr (fun t ht hW => ⟨rfl, ht⟩) (fun q h => absurd h List.not_mem_nil) dX1_code_29
    | succ r ih =>
      intro j ac hj ls hl
      refine lv_iload_n hx hb dX1_code_4 rfl (lv_at hl 1 rfl) ?_
      refine lv_iconst (v := 5) hx hb dX1_code_5 (by decide) ?_
      refine lv_icmp_gt (tgt := 28) hx hb dX1_code_6 (by decide) (fun c_6 => (nI_nlt (a := 5) (b := (j + 2)) (by omega) (by omega) c_6).elim) (fun c_6 => ?_)
      refine lv_lload_n hx hb dX1_code_9 rfl (lv_at hl 2 rfl) ?_
      refine lv_ldc2 (v := 256) hx hb hown (hts (.constantLong RX1 21 256) (by decide +kernel)) dX1_code_10 ?_
      refine lv_lmul hx hb dX1_code_13 ?_
      refine lv_aload_n hx hb dX1_code_14 rfl (lv_at hl 0 rfl) ?_
      refine lv_iload_n hx hb dX1_code_15 rfl (lv_at hl 1 rfl) ?_
      refine up_read (W.runV (As := [.int (nI (j + 2))]) (rest := [.long (ac * 256)]) ⟨hx, hb, hml, hown, hts⟩ (c_X1_unsigned l dC dI cK cB cI o ks fa oa fb ob dr ds L n sp co en cr rl qs kA oA kB oB tt ss st K (nI (j + 2))) (cwV 1 hts gX1_code_X1_unsigned rfl rfl rfl (by decide +kernel) ⟨Nat.le_of_ble_eq_true rfl, Nat.le_of_ble_eq_true rfl⟩) (up_preV (q0 := 4) (ci := 2) hP hK hD rfl rfl) rfl rfl hl.1 rfl (lv_room (Nat.le_of_ble_eq_true rfl)) dX1_code_16 ⟨Nat.le_of_ble_eq_true rfl, Nat.le_of_ble_eq_true rfl⟩) ?_
      refine lv_i2l (v := (dk_uns kB oB (nI (j + 2))).toInt64) hx hb dX1_code_19 rfl ?_
      refine lv_ladd hx hb dX1_code_20 ?_
      refine lv_lstore_n (lv' := [(1, .long ((ac * 256) + (dk_uns kB oB (nI (j + 2))).toInt64)), (0, .ref fb), (3, .int (nI (j + 2)))]) hx hb dX1_code_21 rfl hl (by decide) rfl (fun ls hl => ?_)
      refine lv_iinc (v := (nI ((j + 2) + 1))) (lv' := [(3, .int (nI ((j + 2) + 1))), (1, .long ((ac * 256) + (dk_uns kB oB (nI (j + 2))).toInt64)), (0, .ref fb)]) hx hb dX1_code_22 hl (k := 2) rfl (nI_1 _) (by decide) rfl (fun ls hl => ?_)
      refine lv_goto (tgt := 4) hx hb dX1_code_25 (by decide) ?_
      have e_ : dk_code_l kB oB (r + 1) j ac = dk_code_l kB oB r (j + 1) ((ac * 256) + (dk_uns kB oB (nI (j + 2))).toInt64) := (dk_code_l.eq_2 ..).trans rfl
      rw [e_]
      exact ih (j + 1) ((ac * 256) + (dk_uns kB oB (nI (j + 2))).toInt64) (by omega) ls (lv_sub hl [2, 0, 1] rfl)
  have e_ : dk_code kB oB = dk_code_l kB oB 4 0 0 := by unfold dk_code; exact rfl
  rw [e_]
  exact lp 4 0 0 (by omega) ls (lv_sub hl [2, 0, 1] rfl)
end
section
/-! a key (laid by wip/gen.py) -/
set_option maxRecDepth 20000 in
theorem inn_X2_isAtHand_X2 : ∀ w ∈ wsX20, w ∈ wsX2_isAtHand := by decide +kernel
set_option maxRecDepth 20000 in
theorem inn_X2_mayTeach_X2 : ∀ w ∈ wsX20, w ∈ wsX2_mayTeach := by decide +kernel
set_option maxRecDepth 20000 in
theorem inn_X2_roll_X2 : ∀ w ∈ wsX20, w ∈ wsX2_roll := by decide +kernel
set_option maxRecDepth 20000 in
theorem inn_X2_part_X2 : ∀ w ∈ wsX20, w ∈ wsX2_part := by decide +kernel
def dk_hand (k : KR) : Int32 :=
  if k.2.2.2.2.1 = 0 then
    if k.2.2.2.2.2.1 = 0 then
      (0 : Int32)
    else
      (1 : Int32)
  else
    (1 : Int32)
def rm_X2_isAtHand : Room := { frames := 0, cells := 0, slots := 0, locals := 0 }
set_option maxHeartbeats 4000000 in
set_option maxRecDepth 100000 in
theorem c_X2_isAtHand (l : Launch) (dC : Nat → ClassId) (dI : Nat → Nat → Nat) (cK : ClassId) (cB : ClassId) (cI : ClassId) (o : Nat) (ks : Nat) (fa : Nat) (oa : Nat) (fb : Nat) (ob : Nat) (dr : Nat) (ds : Nat) (L : Nat → Nat) (n : Nat) (sp : Int32) (co : Nat) (en : Nat) (cr : Int32) (rl : Int32) (qs : Int32) (kA : Int32) (oA : Nat → Int8) (kB : Int32) (oB : Nat → Int8) (tt : Int64) (ss : Int64) (st : Nat → Int32) (K : Nat → KR) (i : Nat) (k : KR) (hi : i < n) (hk : K i = k) : Met l yX2_isAtHand wsX2_isAtHand rm_X2_isAtHand (up_P (dC, dI) vwCl (dkT cK cB cI) (dkW cK cB cI o ks fa oa fb ob dr ds L n sp co en cr rl qs kA oA kB oB tt ss st K) [.ref (L i)]) (k2_QcV (.int (dk_hand k))) 0 0 (fun _ => False) := by
  refine Met.ofW (cc := cX2_isAtHand) (maxL := 1) (ret := (some .boolean)) (by decide) rfl ?_
  intro p e s m args below meth c s₁ B hml hv
  obtain ⟨rfl, hP, hK, hD0⟩ := hv
  have hx := B.exec
  have hb := B.bytes
  have hr := B.returns
  have hts := atoms_spec (ws := wsX2_isAtHand) B.pre
  have hown : s.vm.findClass RX2 = some m.cls := findClass_of_methodNamed B.named
  have hlocks := B.notSynchronized
  have hD := up_self hD0
  have hS : va_S (up_c (dkW cK cB cI o ks fa oa fb ob dr ds L n sp co en cr rl qs kA oA kB oB tt ss st K)) s.heap s.heap [] := va_S.rf
  have hl := lv_entry ([.ref (L i)]) (n := 1) (Nat.le_of_ble_eq_true rfl)
  rw [lg_entry_eq]
  generalize (lg_sl ([.ref (L i)]) ++ List.replicate (1 - (lg_sl ([.ref (L i)])).length) Slot.unset).toArray = ls at hl ⊢
  have hl : lv_has ls 1 [(0, .ref (L i))] := hl
  refine lv_aload_n hx hb dX2_isAtHand_0 rfl (lv_at hl 0 rfl) ?_
  refine va_get (D := (dC, dI)) (ci := 3) (v := .int k.2.2.2.2.1) (C := RX2) (T := TX2) (N := 7) hx hb hts inn_X2_isAtHand_X2 hown hK hP (i + 8) (dk_keyk hi hk) rfl 4 (by decide) (hts (.fieldLink RX2 26 "DoorKeys$Key" "near" "Z") (by decide +kernel)) (fun _ h9 => h9) rfl dX2_isAtHand_1 ?_
  refine lv_if_ne (tgt := 14) hx hb dX2_isAtHand_4 (by decide) (fun c_4 => ?_) (fun c_4 => ?_)
  · refine lv_iconst (v := 1) hx hb dX2_isAtHand_14 (by decide) ?_
    refine lv_goto (tgt := 19) hx hb dX2_isAtHand_15 (by decide) ?_
    have e_ : dk_hand k = (1 : Int32) := by unfold dk_hand; exact (if_neg c_4).trans rfl
    rw [e_]
    exact W.zret (v := 1) hx hb hr (by decide) (fun t ht hW => ⟨rfl, ht⟩) (fun q h => absurd h List.not_mem_nil) dX2_isAtHand_19
  · refine lv_aload_n hx hb dX2_isAtHand_7 rfl (lv_at hl 0 rfl) ?_
    refine va_get (D := (dC, dI)) (ci := 3) (v := .int k.2.2.2.2.2.1) (C := RX2) (T := TX2) (N := 7) hx hb hts inn_X2_isAtHand_X2 hown hK hP (i + 8) (dk_keyk hi hk) rfl 5 (by decide) (hts (.fieldLink RX2 29 "DoorKeys$Key" "inside" "Z") (by decide +kernel)) (fun _ h9 => h9) rfl dX2_isAtHand_8 ?_
    refine lv_if_eq (tgt := 18) hx hb dX2_isAtHand_11 (by decide) (fun c_11 => ?_) (fun c_11 => ?_)
    · refine lv_iconst (v := 0) hx hb dX2_isAtHand_18 (by decide) ?_
      have e_ : dk_hand k = (0 : Int32) := by unfold dk_hand; exact (if_pos c_4).trans ((if_pos c_11).trans rfl)
      rw [e_]
      exact W.zret (v := 0) hx hb hr (by decide) (fun t ht hW => ⟨rfl, ht⟩) (fun q h => absurd h List.not_mem_nil) dX2_isAtHand_19
    · refine lv_iconst (v := 1) hx hb dX2_isAtHand_14 (by decide) ?_
      refine lv_goto (tgt := 19) hx hb dX2_isAtHand_15 (by decide) ?_
      have e_ : dk_hand k = (1 : Int32) := by unfold dk_hand; exact (if_pos c_4).trans ((if_neg c_11).trans rfl)
      rw [e_]
      exact W.zret (v := 1) hx hb hr (by decide) (fun t ht hW => ⟨rfl, ht⟩) (fun q h => absurd h List.not_mem_nil) dX2_isAtHand_19
def dk_teach (k : KR) : Int32 :=
  if k.2.2.2.1 = 0 then
    (0 : Int32)
  else
    if dk_hand k = 0 then
      (0 : Int32)
    else
      (1 : Int32)
def rm_X2_mayTeach : Room := { frames := 1, cells := 0, slots := 0, locals := 20 }
set_option maxHeartbeats 4000000 in
set_option maxRecDepth 100000 in
theorem c_X2_mayTeach (l : Launch) (dC : Nat → ClassId) (dI : Nat → Nat → Nat) (cK : ClassId) (cB : ClassId) (cI : ClassId) (o : Nat) (ks : Nat) (fa : Nat) (oa : Nat) (fb : Nat) (ob : Nat) (dr : Nat) (ds : Nat) (L : Nat → Nat) (n : Nat) (sp : Int32) (co : Nat) (en : Nat) (cr : Int32) (rl : Int32) (qs : Int32) (kA : Int32) (oA : Nat → Int8) (kB : Int32) (oB : Nat → Int8) (tt : Int64) (ss : Int64) (st : Nat → Int32) (K : Nat → KR) (i : Nat) (k : KR) (hi : i < n) (hk : K i = k) : Met l yX2_mayTeach wsX2_mayTeach rm_X2_mayTeach (up_P (dC, dI) vwCl (dkT cK cB cI) (dkW cK cB cI o ks fa oa fb ob dr ds L n sp co en cr rl qs kA oA kB oB tt ss st K) [.ref (L i)]) (k2_QcV (.int (dk_teach k))) 0 0 (fun _ => False) := by
  refine Met.ofW (cc := cX2_mayTeach) (maxL := 1) (ret := (some .boolean)) (by decide) rfl ?_
  intro p e s m args below meth c s₁ B hml hv
  obtain ⟨rfl, hP, hK, hD0⟩ := hv
  have hx := B.exec
  have hb := B.bytes
  have hr := B.returns
  have hts := atoms_spec (ws := wsX2_mayTeach) B.pre
  have hown : s.vm.findClass RX2 = some m.cls := findClass_of_methodNamed B.named
  have hlocks := B.notSynchronized
  have hD := up_self hD0
  have hS : va_S (up_c (dkW cK cB cI o ks fa oa fb ob dr ds L n sp co en cr rl qs kA oA kB oB tt ss st K)) s.heap s.heap [] := va_S.rf
  have hl := lv_entry ([.ref (L i)]) (n := 1) (Nat.le_of_ble_eq_true rfl)
  rw [lg_entry_eq]
  generalize (lg_sl ([.ref (L i)]) ++ List.replicate (1 - (lg_sl ([.ref (L i)])).length) Slot.unset).toArray = ls at hl ⊢
  have hl : lv_has ls 1 [(0, .ref (L i))] := hl
  refine lv_aload_n hx hb dX2_mayTeach_0 rfl (lv_at hl 0 rfl) ?_
  refine va_get (D := (dC, dI)) (ci := 3) (v := .int k.2.2.2.1) (C := RX2) (T := TX2) (N := 7) hx hb hts inn_X2_mayTeach_X2 hown hK hP (i + 8) (dk_keyk hi hk) rfl 3 (by decide) (hts (.fieldLink RX2 22 "DoorKeys$Key" "learned" "Z") (by decide +kernel)) (fun _ h9 => h9) rfl dX2_mayTeach_1 ?_
  refine lv_if_eq (tgt := 18) hx hb dX2_mayTeach_4 (by decide) (fun c_4 => ?_) (fun c_4 => ?_)
  · refine lv_iconst (v := 0) hx hb dX2_mayTeach_18 (by decide) ?_
    have e_ : dk_teach k = (0 : Int32) := by unfold dk_teach; exact (if_pos c_4).trans rfl
    rw [e_]
    exact W.zret (v := 0) hx hb hr (by decide) (fun t ht hW => ⟨rfl, ht⟩) (fun q h => absurd h List.not_mem_nil) dX2_mayTeach_19
  · refine lv_aload_n hx hb dX2_mayTeach_7 rfl (lv_at hl 0 rfl) ?_
    refine up_read (W.runV (As := []) (rest := []) ⟨hx, hb, hml, hown, hts⟩ (c_X2_isAtHand l dC dI cK cB cI o ks fa oa fb ob dr ds L n sp co en cr rl qs kA oA kB oB tt ss st K i k hi hk) (cwV 0 hts gX2_mayTeach_X2_isAtHand rfl rfl rfl (by decide +kernel) ⟨Nat.le_of_ble_eq_true rfl, Nat.le_of_ble_eq_true rfl⟩) (up_preV (q0 := (i + 8)) (ci := 3) hP hK hD rfl (dk_keyk hi hk)) rfl rfl hl.1 rfl (lv_room (Nat.le_of_ble_eq_true rfl)) dX2_mayTeach_8 ⟨Nat.le_of_ble_eq_true rfl, Nat.le_of_ble_eq_true rfl⟩) ?_
    refine lv_if_eq (tgt := 18) hx hb dX2_mayTeach_11 (by decide) (fun c_11 => ?_) (fun c_11 => ?_)
    · refine lv_iconst (v := 0) hx hb dX2_mayTeach_18 (by decide) ?_
      have e_ : dk_teach k = (0 : Int32) := by unfold dk_teach; exact (if_neg c_4).trans ((if_pos c_11).trans rfl)
      rw [e_]
      exact W.zret (v := 0) hx hb hr (by decide) (fun t ht hW => ⟨rfl, ht⟩) (fun q h => absurd h List.not_mem_nil) dX2_mayTeach_19
    · refine lv_iconst (v := 1) hx hb dX2_mayTeach_14 (by decide) ?_
      refine lv_goto (tgt := 19) hx hb dX2_mayTeach_15 (by decide) ?_
      have e_ : dk_teach k = (1 : Int32) := by unfold dk_teach; exact (if_neg c_4).trans ((if_neg c_11).trans rfl)
      rw [e_]
      exact W.zret (v := 1) hx hb hr (by decide) (fun t ht hW => ⟨rfl, ht⟩) (fun q h => absurd h List.not_mem_nil) dX2_mayTeach_19
def dk_roll (k : KR) (x : Int32) (y : Int32) : Int32 × KR :=
  if ((x - k.2.1) &&& 65535) = 0 then
    ((0 : Int32), (k.1, k.2.1, (-1), k.2.2.2.1, k.2.2.2.2.1, k.2.2.2.2.2.1, k.2.2.2.2.2.2))
  else
    if ((x - k.2.1) &&& 65535) ≤ 32768 then
      if ((x - k.2.1) &&& 65535) ≤ y then
        ((1 : Int32), (k.1, x, (-1), k.2.2.2.1, k.2.2.2.2.1, k.2.2.2.2.2.1, k.2.2.2.2.2.2))
      else
        if x = k.2.2.1 then
          ((1 : Int32), (k.1, x, (-1), k.2.2.2.1, k.2.2.2.2.1, k.2.2.2.2.2.1, k.2.2.2.2.2.2))
        else
          ((2 : Int32), (k.1, k.2.1, ((x + 1) &&& 65535), k.2.2.2.1, k.2.2.2.2.1, k.2.2.2.2.2.1, k.2.2.2.2.2.2))
    else
      ((0 : Int32), (k.1, k.2.1, (-1), k.2.2.2.1, k.2.2.2.2.1, k.2.2.2.2.2.1, k.2.2.2.2.2.2))
def rm_X2_roll : Room := { frames := 0, cells := 0, slots := 0, locals := 0 }
set_option maxHeartbeats 4000000 in
set_option maxRecDepth 100000 in
theorem c_X2_roll (l : Launch) (dC : Nat → ClassId) (dI : Nat → Nat → Nat) (cK : ClassId) (cB : ClassId) (cI : ClassId) (o : Nat) (ks : Nat) (fa : Nat) (oa : Nat) (fb : Nat) (ob : Nat) (dr : Nat) (ds : Nat) (L : Nat → Nat) (n : Nat) (sp : Int32) (co : Nat) (en : Nat) (cr : Int32) (rl : Int32) (qs : Int32) (kA : Int32) (oA : Nat → Int8) (kB : Int32) (oB : Nat → Int8) (tt : Int64) (ss : Int64) (st : Nat → Int32) (K : Nat → KR) (i : Nat) (k : KR) (x : Int32) (y : Int32) (hi : i < n) (hk : K i = k) : Met l yX2_roll wsX2_roll rm_X2_roll (up_P (dC, dI) vwCl (dkT cK cB cI) (dkW cK cB cI o ks fa oa fb ob dr ds L n sp co en cr rl qs kA oA kB oB tt ss st K) [.ref (L i), .int x, .int y]) (up_Q (dC, dI) vwCl (some (.int ((dk_roll k x y).1))) (dkW cK cB cI o ks fa oa fb ob dr ds L n sp co en cr rl qs kA oA kB oB tt ss st K) (dkW cK cB cI o ks fa oa fb ob dr ds L n sp co en cr rl qs kA oA kB oB tt ss st (va_up K i ((dk_roll k x y).2)))) 0 0 (up_c (dkW cK cB cI o ks fa oa fb ob dr ds L n sp co en cr rl qs kA oA kB oB tt ss st K)) := by
  refine Met.ofW (cc := cX2_roll) (maxL := 4) (ret := (some .int)) (by decide) rfl ?_
  intro p e s m args below meth c s₁ B hml hv
  obtain ⟨rfl, hP, hK, hD0⟩ := hv
  have hx := B.exec
  have hb := B.bytes
  have hr := B.returns
  have hts := atoms_spec (ws := wsX2_roll) B.pre
  have hown : s.vm.findClass RX2 = some m.cls := findClass_of_methodNamed B.named
  have hlocks := B.notSynchronized
  have hD := up_self hD0
  have hS : va_S (up_c (dkW cK cB cI o ks fa oa fb ob dr ds L n sp co en cr rl qs kA oA kB oB tt ss st K)) s.heap s.heap [] := va_S.rf
  have hl := lv_entry ([.ref (L i), .int x, .int y]) (n := 4) (Nat.le_of_ble_eq_true rfl)
  rw [lg_entry_eq]
  generalize (lg_sl ([.ref (L i), .int x, .int y]) ++ List.replicate (4 - (lg_sl ([.ref (L i), .int x, .int y])).length) Slot.unset).toArray = ls at hl ⊢
  have hl : lv_has ls 4 [(0, .ref (L i)), (1, .int x), (2, .int y)] := hl
  refine lv_iload_n hx hb dX2_roll_0 rfl (lv_at hl 1 rfl) ?_
  refine lv_aload_n hx hb dX2_roll_1 rfl (lv_at hl 0 rfl) ?_
  refine va_get (D := (dC, dI)) (ci := 3) (v := .int k.2.1) (C := RX2) (T := TX2) (N := 7) hx hb hts inn_X2_roll_X2 hown hK hP (i + 8) (dk_keyk hi hk) rfl 1 (by decide) (hts (.fieldLink RX2 15 "DoorKeys$Key" "counter" "I") (by decide +kernel)) (fun _ h9 => h9) rfl dX2_roll_2 ?_
  refine lv_isub hx hb dX2_roll_5 ?_
  refine lv_ldc (v := 65535) hx hb hown (hts (.constant RX2 36 65535) (by decide +kernel)) dX2_roll_6 ?_
  refine lv_iand hx hb dX2_roll_8 ?_
  refine lv_istore_n (lv' := [(3, .int ((x - k.2.1) &&& 65535)), (0, .ref (L i)), (1, .int x), (2, .int y)]) hx hb dX2_roll_9 rfl hl (by decide) rfl (fun ls hl => ?_)
  refine lv_iload_n hx hb dX2_roll_10 rfl (lv_at hl 0 rfl) ?_
  refine lv_if_eq (tgt := 20) hx hb dX2_roll_11 (by decide) (fun c_11 => ?_) (fun c_11 => ?_)
  · refine lv_aload_n hx hb dX2_roll_20 rfl (lv_at hl 1 rfl) ?_
    refine lv_iconst (v := (-1)) hx hb dX2_roll_21 (by decide) ?_
    refine va_put (D := (dC, dI)) (ci := 3) (v := .int (-1)) (ty := .int) (C := RX2) (T := TX2) (N := 7) hx hb hts inn_X2_roll_X2 tyX2 tyX2_ok nmX2 hown hK hP hD hS (i + 8) (dk_keyk hi hk) rfl 2 (by decide) (hts (.fieldLink RX2 19 "DoorKeys$Key" "awaited" "I") (by decide +kernel)) (fun _ h9 => h9) rfl (by decide +kernel) rfl rfl (Nat.le_of_ble_eq_true rfl) dX2_roll_22 (fun H locs hP hD hS => ?_)
    have hP : va_P (dC, dI) vwCl (dkW cK cB cI o ks fa oa fb ob dr ds L n sp co en cr rl qs kA oA kB oB tt ss st (va_up K i (k.1, k.2.1, (-1), k.2.2.2.1, k.2.2.2.2.1, k.2.2.2.2.2.1, k.2.2.2.2.2.2))) H := up_cast (dk_put hi) hP
    have hD : va_D (up_c (dkW cK cB cI o ks fa oa fb ob dr ds L n sp co en cr rl qs kA oA kB oB tt ss st K)) (dkW cK cB cI o ks fa oa fb ob dr ds L n sp co en cr rl qs kA oA kB oB tt ss st (va_up K i (k.1, k.2.1, (-1), k.2.2.2.1, k.2.2.2.2.1, k.2.2.2.2.2.1, k.2.2.2.2.2.2))) := up_castD (dk_put hi) hD
    have hP : va_P (dC, dI) vwCl (dkW cK cB cI o ks fa oa fb ob dr ds L n sp co en cr rl qs kA oA kB oB tt ss st (va_up K i (k.1, k.2.1, (-1), k.2.2.2.1, k.2.2.2.2.1, k.2.2.2.2.2.1, k.2.2.2.2.2.2))) H := hP
    have hD : va_D (up_c (dkW cK cB cI o ks fa oa fb ob dr ds L n sp co en cr rl qs kA oA kB oB tt ss st K)) (dkW cK cB cI o ks fa oa fb ob dr ds L n sp co en cr rl qs kA oA kB oB tt ss st (va_up K i (k.1, k.2.1, (-1), k.2.2.2.1, k.2.2.2.2.1, k.2.2.2.2.2.1, k.2.2.2.2.2.2))) := hD
    refine lv_iconst (v := 0) hx hb dX2_roll_25 (by decide) ?_
    have e_ : dk_roll k x y = ((0 : Int32), (k.1, k.2.1, (-1), k.2.2.2.1, k.2.2.2.2.1, k.2.2.2.2.2.1, k.2.2.2.2.2.2)) := by unfold dk_roll; exact (if_pos c_11).trans rfl
    rw [e_]
    exact W.iret (v := 0) hx hb hr (fun t ht hW => ⟨rfl, by rw [ht]; exact hP, hS.F ht⟩) hS.2.2 dX2_roll_26
  · refine lv_iload_n hx hb dX2_roll_14 rfl (lv_at hl 0 rfl) ?_
    refine lv_ldc (v := 32768) hx hb hown (hts (.constant RX2 37 32768) (by decide +kernel)) dX2_roll_15 ?_
    refine lv_icmp_le (tgt := 27) hx hb dX2_roll_17 (by decide) (fun c_17 => ?_) (fun c_17 => ?_)
    · refine lv_iload_n hx hb dX2_roll_27 rfl (lv_at hl 0 rfl) ?_
      refine lv_iload_n hx hb dX2_roll_28 rfl (lv_at hl 3 rfl) ?_
      refine lv_icmp_le (tgt := 52) hx hb dX2_roll_29 (by decide) (fun c_29 => ?_) (fun c_29 => ?_)
      · refine lv_aload_n hx hb dX2_roll_52 rfl (lv_at hl 1 rfl) ?_
        refine lv_iload_n hx hb dX2_roll_53 rfl (lv_at hl 2 rfl) ?_
        refine va_put (D := (dC, dI)) (ci := 3) (v := .int x) (ty := .int) (C := RX2) (T := TX2) (N := 7) hx hb hts inn_X2_roll_X2 tyX2 tyX2_ok nmX2 hown hK hP hD hS (i + 8) (dk_keyk hi hk) rfl 1 (by decide) (hts (.fieldLink RX2 15 "DoorKeys$Key" "counter" "I") (by decide +kernel)) (fun _ h9 => h9) rfl (by decide +kernel) rfl rfl (Nat.le_of_ble_eq_true rfl) dX2_roll_54 (fun H locs hP hD hS => ?_)
        have hP : va_P (dC, dI) vwCl (dkW cK cB cI o ks fa oa fb ob dr ds L n sp co en cr rl qs kA oA kB oB tt ss st (va_up K i (k.1, x, k.2.2.1, k.2.2.2.1, k.2.2.2.2.1, k.2.2.2.2.2.1, k.2.2.2.2.2.2))) H := up_cast (dk_put hi) hP
        have hD : va_D (up_c (dkW cK cB cI o ks fa oa fb ob dr ds L n sp co en cr rl qs kA oA kB oB tt ss st K)) (dkW cK cB cI o ks fa oa fb ob dr ds L n sp co en cr rl qs kA oA kB oB tt ss st (va_up K i (k.1, x, k.2.2.1, k.2.2.2.1, k.2.2.2.2.1, k.2.2.2.2.2.1, k.2.2.2.2.2.2))) := up_castD (dk_put hi) hD
        have hP : va_P (dC, dI) vwCl (dkW cK cB cI o ks fa oa fb ob dr ds L n sp co en cr rl qs kA oA kB oB tt ss st (va_up K i (k.1, x, k.2.2.1, k.2.2.2.1, k.2.2.2.2.1, k.2.2.2.2.2.1, k.2.2.2.2.2.2))) H := hP
        have hD : va_D (up_c (dkW cK cB cI o ks fa oa fb ob dr ds L n sp co en cr rl qs kA oA kB oB tt ss st K)) (dkW cK cB cI o ks fa oa fb ob dr ds L n sp co en cr rl qs kA oA kB oB tt ss st (va_up K i (k.1, x, k.2.2.1, k.2.2.2.1, k.2.2.2.2.1, k.2.2.2.2.2.1, k.2.2.2.2.2.2))) := hD
        refine lv_aload_n hx hb dX2_roll_57 rfl (lv_at hl 1 rfl) ?_
        refine lv_iconst (v := (-1)) hx hb dX2_roll_58 (by decide) ?_
        refine va_put (D := (dC, dI)) (ci := 3) (v := .int (-1)) (ty := .int) (C := RX2) (T := TX2) (N := 7) hx hb hts inn_X2_roll_X2 tyX2 tyX2_ok nmX2 hown hK hP hD hS (i + 8) (dk_keyk hi (va_up_self _ _ _)) rfl 2 (by decide) (hts (.fieldLink RX2 19 "DoorKeys$Key" "awaited" "I") (by decide +kernel)) (fun _ h9 => h9) rfl (by decide +kernel) rfl rfl (Nat.le_of_ble_eq_true rfl) dX2_roll_59 (fun H locs hP hD hS => ?_)
        have hP : va_P (dC, dI) vwCl (dkW cK cB cI o ks fa oa fb ob dr ds L n sp co en cr rl qs kA oA kB oB tt ss st (va_up K i (k.1, x, (-1), k.2.2.2.1, k.2.2.2.2.1, k.2.2.2.2.2.1, k.2.2.2.2.2.2))) H := up_cast (dk_putU hi) hP
        have hD : va_D (up_c (dkW cK cB cI o ks fa oa fb ob dr ds L n sp co en cr rl qs kA oA kB oB tt ss st K)) (dkW cK cB cI o ks fa oa fb ob dr ds L n sp co en cr rl qs kA oA kB oB tt ss st (va_up K i (k.1, x, (-1), k.2.2.2.1, k.2.2.2.2.1, k.2.2.2.2.2.1, k.2.2.2.2.2.2))) := up_castD (dk_putU hi) hD
        have hP : va_P (dC, dI) vwCl (dkW cK cB cI o ks fa oa fb ob dr ds L n sp co en cr rl qs kA oA kB oB tt ss st (va_up K i (k.1, x, (-1), k.2.2.2.1, k.2.2.2.2.1, k.2.2.2.2.2.1, k.2.2.2.2.2.2))) H := hP
        have hD : va_D (up_c (dkW cK cB cI o ks fa oa fb ob dr ds L n sp co en cr rl qs kA oA kB oB tt ss st K)) (dkW cK cB cI o ks fa oa fb ob dr ds L n sp co en cr rl qs kA oA kB oB tt ss st (va_up K i (k.1, x, (-1), k.2.2.2.1, k.2.2.2.2.1, k.2.2.2.2.2.1, k.2.2.2.2.2.2))) := hD
        refine lv_iconst (v := 1) hx hb dX2_roll_62 (by decide) ?_
        have e_ : dk_roll k x y = ((1 : Int32), (k.1, x, (-1), k.2.2.2.1, k.2.2.2.2.1, k.2.2.2.2.2.1, k.2.2.2.2.2.2)) := by unfold dk_roll; exact (if_neg c_11).trans ((if_pos c_17).trans ((if_pos c_29).trans rfl))
        rw [e_]
        exact W.iret (v := 1) hx hb hr (fun t ht hW => ⟨rfl, by rw [ht]; exact hP, hS.F ht⟩) hS.2.2 dX2_roll_63
      · refine lv_iload_n hx hb dX2_roll_32 rfl (lv_at hl 2 rfl) ?_
        refine lv_aload_n hx hb dX2_roll_33 rfl (lv_at hl 1 rfl) ?_
        refine va_get (D := (dC, dI)) (ci := 3) (v := .int k.2.2.1) (C := RX2) (T := TX2) (N := 7) hx hb hts inn_X2_roll_X2 hown hK hP (i + 8) (dk_keyk hi hk) rfl 2 (by decide) (hts (.fieldLink RX2 19 "DoorKeys$Key" "awaited" "I") (by decide +kernel)) (fun _ h9 => h9) rfl dX2_roll_34 ?_
        refine lv_icmp_eq (tgt := 52) hx hb dX2_roll_37 (by decide) (fun c_37 => ?_) (fun c_37 => ?_)
        · refine lv_aload_n hx hb dX2_roll_52 rfl (lv_at hl 1 rfl) ?_
          refine lv_iload_n hx hb dX2_roll_53 rfl (lv_at hl 2 rfl) ?_
          refine va_put (D := (dC, dI)) (ci := 3) (v := .int x) (ty := .int) (C := RX2) (T := TX2) (N := 7) hx hb hts inn_X2_roll_X2 tyX2 tyX2_ok nmX2 hown hK hP hD hS (i + 8) (dk_keyk hi hk) rfl 1 (by decide) (hts (.fieldLink RX2 15 "DoorKeys$Key" "counter" "I") (by decide +kernel)) (fun _ h9 => h9) rfl (by decide +kernel) rfl rfl (Nat.le_of_ble_eq_true rfl) dX2_roll_54 (fun H locs hP hD hS => ?_)
          have hP : va_P (dC, dI) vwCl (dkW cK cB cI o ks fa oa fb ob dr ds L n sp co en cr rl qs kA oA kB oB tt ss st (va_up K i (k.1, x, k.2.2.1, k.2.2.2.1, k.2.2.2.2.1, k.2.2.2.2.2.1, k.2.2.2.2.2.2))) H := up_cast (dk_put hi) hP
          have hD : va_D (up_c (dkW cK cB cI o ks fa oa fb ob dr ds L n sp co en cr rl qs kA oA kB oB tt ss st K)) (dkW cK cB cI o ks fa oa fb ob dr ds L n sp co en cr rl qs kA oA kB oB tt ss st (va_up K i (k.1, x, k.2.2.1, k.2.2.2.1, k.2.2.2.2.1, k.2.2.2.2.2.1, k.2.2.2.2.2.2))) := up_castD (dk_put hi) hD
          have hP : va_P (dC, dI) vwCl (dkW cK cB cI o ks fa oa fb ob dr ds L n sp co en cr rl qs kA oA kB oB tt ss st (va_up K i (k.1, x, k.2.2.1, k.2.2.2.1, k.2.2.2.2.1, k.2.2.2.2.2.1, k.2.2.2.2.2.2))) H := hP
          have hD : va_D (up_c (dkW cK cB cI o ks fa oa fb ob dr ds L n sp co en cr rl qs kA oA kB oB tt ss st K)) (dkW cK cB cI o ks fa oa fb ob dr ds L n sp co en cr rl qs kA oA kB oB tt ss st (va_up K i (k.1, x, k.2.2.1, k.2.2.2.1, k.2.2.2.2.1, k.2.2.2.2.2.1, k.2.2.2.2.2.2))) := hD
          refine lv_aload_n hx hb dX2_roll_57 rfl (lv_at hl 1 rfl) ?_
          refine lv_iconst (v := (-1)) hx hb dX2_roll_58 (by decide) ?_
          refine va_put (D := (dC, dI)) (ci := 3) (v := .int (-1)) (ty := .int) (C := RX2) (T := TX2) (N := 7) hx hb hts inn_X2_roll_X2 tyX2 tyX2_ok nmX2 hown hK hP hD hS (i + 8) (dk_keyk hi (va_up_self _ _ _)) rfl 2 (by decide) (hts (.fieldLink RX2 19 "DoorKeys$Key" "awaited" "I") (by decide +kernel)) (fun _ h9 => h9) rfl (by decide +kernel) rfl rfl (Nat.le_of_ble_eq_true rfl) dX2_roll_59 (fun H locs hP hD hS => ?_)
          have hP : va_P (dC, dI) vwCl (dkW cK cB cI o ks fa oa fb ob dr ds L n sp co en cr rl qs kA oA kB oB tt ss st (va_up K i (k.1, x, (-1), k.2.2.2.1, k.2.2.2.2.1, k.2.2.2.2.2.1, k.2.2.2.2.2.2))) H := up_cast (dk_putU hi) hP
          have hD : va_D (up_c (dkW cK cB cI o ks fa oa fb ob dr ds L n sp co en cr rl qs kA oA kB oB tt ss st K)) (dkW cK cB cI o ks fa oa fb ob dr ds L n sp co en cr rl qs kA oA kB oB tt ss st (va_up K i (k.1, x, (-1), k.2.2.2.1, k.2.2.2.2.1, k.2.2.2.2.2.1, k.2.2.2.2.2.2))) := up_castD (dk_putU hi) hD
          have hP : va_P (dC, dI) vwCl (dkW cK cB cI o ks fa oa fb ob dr ds L n sp co en cr rl qs kA oA kB oB tt ss st (va_up K i (k.1, x, (-1), k.2.2.2.1, k.2.2.2.2.1, k.2.2.2.2.2.1, k.2.2.2.2.2.2))) H := hP
          have hD : va_D (up_c (dkW cK cB cI o ks fa oa fb ob dr ds L n sp co en cr rl qs kA oA kB oB tt ss st K)) (dkW cK cB cI o ks fa oa fb ob dr ds L n sp co en cr rl qs kA oA kB oB tt ss st (va_up K i (k.1, x, (-1), k.2.2.2.1, k.2.2.2.2.1, k.2.2.2.2.2.1, k.2.2.2.2.2.2))) := hD
          refine lv_iconst (v := 1) hx hb dX2_roll_62 (by decide) ?_
          have e_ : dk_roll k x y = ((1 : Int32), (k.1, x, (-1), k.2.2.2.1, k.2.2.2.2.1, k.2.2.2.2.2.1, k.2.2.2.2.2.2)) := by unfold dk_roll; exact (if_neg c_11).trans ((if_pos c_17).trans ((if_neg c_29).trans ((if_pos c_37).trans rfl)))
          rw [e_]
          exact W.iret (v := 1) hx hb hr (fun t ht hW => ⟨rfl, by rw [ht]; exact hP, hS.F ht⟩) hS.2.2 dX2_roll_63
        · refine lv_aload_n hx hb dX2_roll_40 rfl (lv_at hl 1 rfl) ?_
          refine lv_iload_n hx hb dX2_roll_41 rfl (lv_at hl 2 rfl) ?_
          refine lv_iconst (v := 1) hx hb dX2_roll_42 (by decide) ?_
          refine lv_iadd hx hb dX2_roll_43 ?_
          refine lv_ldc (v := 65535) hx hb hown (hts (.constant RX2 36 65535) (by decide +kernel)) dX2_roll_44 ?_
          refine lv_iand hx hb dX2_roll_46 ?_
          refine va_put (D := (dC, dI)) (ci := 3) (v := .int ((x + 1) &&& 65535)) (ty := .int) (C := RX2) (T := TX2) (N := 7) hx hb hts inn_X2_roll_X2 tyX2 tyX2_ok nmX2 hown hK hP hD hS (i + 8) (dk_keyk hi hk) rfl 2 (by decide) (hts (.fieldLink RX2 19 "DoorKeys$Key" "awaited" "I") (by decide +kernel)) (fun _ h9 => h9) rfl (by decide +kernel) rfl rfl (Nat.le_of_ble_eq_true rfl) dX2_roll_47 (fun H locs hP hD hS => ?_)
          have hP : va_P (dC, dI) vwCl (dkW cK cB cI o ks fa oa fb ob dr ds L n sp co en cr rl qs kA oA kB oB tt ss st (va_up K i (k.1, k.2.1, ((x + 1) &&& 65535), k.2.2.2.1, k.2.2.2.2.1, k.2.2.2.2.2.1, k.2.2.2.2.2.2))) H := up_cast (dk_put hi) hP
          have hD : va_D (up_c (dkW cK cB cI o ks fa oa fb ob dr ds L n sp co en cr rl qs kA oA kB oB tt ss st K)) (dkW cK cB cI o ks fa oa fb ob dr ds L n sp co en cr rl qs kA oA kB oB tt ss st (va_up K i (k.1, k.2.1, ((x + 1) &&& 65535), k.2.2.2.1, k.2.2.2.2.1, k.2.2.2.2.2.1, k.2.2.2.2.2.2))) := up_castD (dk_put hi) hD
          have hP : va_P (dC, dI) vwCl (dkW cK cB cI o ks fa oa fb ob dr ds L n sp co en cr rl qs kA oA kB oB tt ss st (va_up K i (k.1, k.2.1, ((x + 1) &&& 65535), k.2.2.2.1, k.2.2.2.2.1, k.2.2.2.2.2.1, k.2.2.2.2.2.2))) H := hP
          have hD : va_D (up_c (dkW cK cB cI o ks fa oa fb ob dr ds L n sp co en cr rl qs kA oA kB oB tt ss st K)) (dkW cK cB cI o ks fa oa fb ob dr ds L n sp co en cr rl qs kA oA kB oB tt ss st (va_up K i (k.1, k.2.1, ((x + 1) &&& 65535), k.2.2.2.1, k.2.2.2.2.1, k.2.2.2.2.2.1, k.2.2.2.2.2.2))) := hD
          refine lv_iconst (v := 2) hx hb dX2_roll_50 (by decide) ?_
          have e_ : dk_roll k x y = ((2 : Int32), (k.1, k.2.1, ((x + 1) &&& 65535), k.2.2.2.1, k.2.2.2.2.1, k.2.2.2.2.2.1, k.2.2.2.2.2.2)) := by unfold dk_roll; exact (if_neg c_11).trans ((if_pos c_17).trans ((if_neg c_29).trans ((if_neg c_37).trans rfl)))
          rw [e_]
          exact W.iret (v := 2) hx hb hr (fun t ht hW => ⟨rfl, by rw [ht]; exact hP, hS.F ht⟩) hS.2.2 dX2_roll_51
    · refine lv_aload_n hx hb dX2_roll_20 rfl (lv_at hl 1 rfl) ?_
      refine lv_iconst (v := (-1)) hx hb dX2_roll_21 (by decide) ?_
      refine va_put (D := (dC, dI)) (ci := 3) (v := .int (-1)) (ty := .int) (C := RX2) (T := TX2) (N := 7) hx hb hts inn_X2_roll_X2 tyX2 tyX2_ok nmX2 hown hK hP hD hS (i + 8) (dk_keyk hi hk) rfl 2 (by decide) (hts (.fieldLink RX2 19 "DoorKeys$Key" "awaited" "I") (by decide +kernel)) (fun _ h9 => h9) rfl (by decide +kernel) rfl rfl (Nat.le_of_ble_eq_true rfl) dX2_roll_22 (fun H locs hP hD hS => ?_)
      have hP : va_P (dC, dI) vwCl (dkW cK cB cI o ks fa oa fb ob dr ds L n sp co en cr rl qs kA oA kB oB tt ss st (va_up K i (k.1, k.2.1, (-1), k.2.2.2.1, k.2.2.2.2.1, k.2.2.2.2.2.1, k.2.2.2.2.2.2))) H := up_cast (dk_put hi) hP
      have hD : va_D (up_c (dkW cK cB cI o ks fa oa fb ob dr ds L n sp co en cr rl qs kA oA kB oB tt ss st K)) (dkW cK cB cI o ks fa oa fb ob dr ds L n sp co en cr rl qs kA oA kB oB tt ss st (va_up K i (k.1, k.2.1, (-1), k.2.2.2.1, k.2.2.2.2.1, k.2.2.2.2.2.1, k.2.2.2.2.2.2))) := up_castD (dk_put hi) hD
      have hP : va_P (dC, dI) vwCl (dkW cK cB cI o ks fa oa fb ob dr ds L n sp co en cr rl qs kA oA kB oB tt ss st (va_up K i (k.1, k.2.1, (-1), k.2.2.2.1, k.2.2.2.2.1, k.2.2.2.2.2.1, k.2.2.2.2.2.2))) H := hP
      have hD : va_D (up_c (dkW cK cB cI o ks fa oa fb ob dr ds L n sp co en cr rl qs kA oA kB oB tt ss st K)) (dkW cK cB cI o ks fa oa fb ob dr ds L n sp co en cr rl qs kA oA kB oB tt ss st (va_up K i (k.1, k.2.1, (-1), k.2.2.2.1, k.2.2.2.2.1, k.2.2.2.2.2.1, k.2.2.2.2.2.2))) := hD
      refine lv_iconst (v := 0) hx hb dX2_roll_25 (by decide) ?_
      have e_ : dk_roll k x y = ((0 : Int32), (k.1, k.2.1, (-1), k.2.2.2.1, k.2.2.2.2.1, k.2.2.2.2.2.1, k.2.2.2.2.2.2)) := by unfold dk_roll; exact (if_neg c_11).trans ((if_neg c_17).trans rfl)
      rw [e_]
      exact W.iret (v := 0) hx hb hr (fun t ht hW => ⟨rfl, by rw [ht]; exact hP, hS.F ht⟩) hS.2.2 dX2_roll_26
def dk_part (k : KR) (x : Int32) : Int32 :=
  (((k.1.toUInt64 >>> (((16 * (x &&& 3)) : Int32).toInt64.toUInt64 &&& Int64.toUInt64 63)).toInt64).toInt32 &&& 65535)
def rm_X2_part : Room := { frames := 0, cells := 0, slots := 0, locals := 0 }
set_option maxHeartbeats 4000000 in
set_option maxRecDepth 100000 in
theorem c_X2_part (l : Launch) (dC : Nat → ClassId) (dI : Nat → Nat → Nat) (cK : ClassId) (cB : ClassId) (cI : ClassId) (o : Nat) (ks : Nat) (fa : Nat) (oa : Nat) (fb : Nat) (ob : Nat) (dr : Nat) (ds : Nat) (L : Nat → Nat) (n : Nat) (sp : Int32) (co : Nat) (en : Nat) (cr : Int32) (rl : Int32) (qs : Int32) (kA : Int32) (oA : Nat → Int8) (kB : Int32) (oB : Nat → Int8) (tt : Int64) (ss : Int64) (st : Nat → Int32) (K : Nat → KR) (i : Nat) (k : KR) (x : Int32) (hi : i < n) (hk : K i = k) : Met l yX2_part wsX2_part rm_X2_part (up_P (dC, dI) vwCl (dkT cK cB cI) (dkW cK cB cI o ks fa oa fb ob dr ds L n sp co en cr rl qs kA oA kB oB tt ss st K) [.ref (L i), .int x]) (k2_QcV (.int (dk_part k x))) 0 0 (fun _ => False) := by
  refine Met.ofW (cc := cX2_part) (maxL := 2) (ret := (some .int)) (by decide) rfl ?_
  intro p e s m args below meth c s₁ B hml hv
  obtain ⟨rfl, hP, hK, hD0⟩ := hv
  have hx := B.exec
  have hb := B.bytes
  have hr := B.returns
  have hts := atoms_spec (ws := wsX2_part) B.pre
  have hown : s.vm.findClass RX2 = some m.cls := findClass_of_methodNamed B.named
  have hlocks := B.notSynchronized
  have hD := up_self hD0
  have hS : va_S (up_c (dkW cK cB cI o ks fa oa fb ob dr ds L n sp co en cr rl qs kA oA kB oB tt ss st K)) s.heap s.heap [] := va_S.rf
  have hl := lv_entry ([.ref (L i), .int x]) (n := 2) (Nat.le_of_ble_eq_true rfl)
  rw [lg_entry_eq]
  generalize (lg_sl ([.ref (L i), .int x]) ++ List.replicate (2 - (lg_sl ([.ref (L i), .int x])).length) Slot.unset).toArray = ls at hl ⊢
  have hl : lv_has ls 2 [(0, .ref (L i)), (1, .int x)] := hl
  refine lv_aload_n hx hb dX2_part_0 rfl (lv_at hl 0 rfl) ?_
  refine va_get (D := (dC, dI)) (ci := 3) (v := .long k.1) (C := RX2) (T := TX2) (N := 7) hx hb hts inn_X2_part_X2 hown hK hP (i + 8) (dk_keyk hi hk) rfl 0 (by decide) (hts (.fieldLink RX2 9 "DoorKeys$Key" "secret" "J") (by decide +kernel)) (fun _ h9 => h9) rfl dX2_part_1 ?_
  refine lv_bipush (v := 16) hx hb dX2_part_4 (by decide) ?_
  refine lv_iload_n hx hb dX2_part_6 rfl (lv_at hl 1 rfl) ?_
  refine lv_iconst (v := 3) hx hb dX2_part_7 (by decide) ?_
  refine lv_iand hx hb dX2_part_8 ?_
  refine lv_imul hx hb dX2_part_9 ?_
  refine lv_lushr (v := (k.1.toUInt64 >>> (((16 * (x &&& 3)) : Int32).toInt64.toUInt64 &&& Int64.toUInt64 63)).toInt64) hx hb dX2_part_10 rfl ?_
  refine lv_l2i (v := ((k.1.toUInt64 >>> (((16 * (x &&& 3)) : Int32).toInt64.toUInt64 &&& Int64.toUInt64 63)).toInt64).toInt32) hx hb dX2_part_11 rfl ?_
  refine lv_ldc (v := 65535) hx hb hown (hts (.constant RX2 36 65535) (by decide +kernel)) dX2_part_12 ?_
  refine lv_iand hx hb dX2_part_14 ?_
  have e_ : dk_part k x = (((k.1.toUInt64 >>> (((16 * (x &&& 3)) : Int32).toInt64.toUInt64 &&& Int64.toUInt64 63)).toInt64).toInt32 &&& 65535) := by unfold dk_part; exact rfl
  rw [e_]
  exact W.iret (v := (((k.1.toUInt64 >>> (((16 * (x &&& 3)) : Int32).toInt64.toUInt64 &&& Int64.toUInt64 63)).toInt64).toInt32 &&& 65535)) hx hb hr (fun t ht hW => ⟨rfl, ht⟩) (fun q h => absurd h List.not_mem_nil) dX2_part_15
def dk_sign (k : KR) : Int32 :=
  (((dk_part k 0 ^^^ dk_part k 1) ^^^ dk_part k 2) ^^^ dk_part k 3)
def rm_X2_sign : Room := { frames := 1, cells := 0, slots := 0, locals := 21 }
set_option maxHeartbeats 4000000 in
set_option maxRecDepth 100000 in
theorem c_X2_sign (l : Launch) (dC : Nat → ClassId) (dI : Nat → Nat → Nat) (cK : ClassId) (cB : ClassId) (cI : ClassId) (o : Nat) (ks : Nat) (fa : Nat) (oa : Nat) (fb : Nat) (ob : Nat) (dr : Nat) (ds : Nat) (L : Nat → Nat) (n : Nat) (sp : Int32) (co : Nat) (en : Nat) (cr : Int32) (rl : Int32) (qs : Int32) (kA : Int32) (oA : Nat → Int8) (kB : Int32) (oB : Nat → Int8) (tt : Int64) (ss : Int64) (st : Nat → Int32) (K : Nat → KR) (i : Nat) (k : KR) (hi : i < n) (hk : K i = k) : Met l yX2_sign wsX2_sign rm_X2_sign (up_P (dC, dI) vwCl (dkT cK cB cI) (dkW cK cB cI o ks fa oa fb ob dr ds L n sp co en cr rl qs kA oA kB oB tt ss st K) [.ref (L i)]) (k2_QcV (.int (dk_sign k))) 0 0 (fun _ => False) := by
  refine Met.ofW (cc := cX2_sign) (maxL := 1) (ret := (some .int)) (by decide) rfl ?_
  intro p e s m args below meth c s₁ B hml hv
  obtain ⟨rfl, hP, hK, hD0⟩ := hv
  have hx := B.exec
  have hb := B.bytes
  have hr := B.returns
  have hts := atoms_spec (ws := wsX2_sign) B.pre
  have hown : s.vm.findClass RX2 = some m.cls := findClass_of_methodNamed B.named
  have hlocks := B.notSynchronized
  have hD := up_self hD0
  have hS : va_S (up_c (dkW cK cB cI o ks fa oa fb ob dr ds L n sp co en cr rl qs kA oA kB oB tt ss st K)) s.heap s.heap [] := va_S.rf
  have hl := lv_entry ([.ref (L i)]) (n := 1) (Nat.le_of_ble_eq_true rfl)
  rw [lg_entry_eq]
  generalize (lg_sl ([.ref (L i)]) ++ List.replicate (1 - (lg_sl ([.ref (L i)])).length) Slot.unset).toArray = ls at hl ⊢
  have hl : lv_has ls 1 [(0, .ref (L i))] := hl
  refine lv_aload_n hx hb dX2_sign_0 rfl (lv_at hl 0 rfl) ?_
  refine lv_iconst (v := 0) hx hb dX2_sign_1 (by decide) ?_
  refine up_read (W.runV (As := [.int 0]) (rest := []) ⟨hx, hb, hml, hown, hts⟩ (c_X2_part l dC dI cK cB cI o ks fa oa fb ob dr ds L n sp co en cr rl qs kA oA kB oB tt ss st K i k 0 hi hk) (cwV 1 hts gX2_sign_X2_part rfl rfl rfl (by decide +kernel) ⟨Nat.le_of_ble_eq_true rfl, Nat.le_of_ble_eq_true rfl⟩) (up_preV (q0 := (i + 8)) (ci := 3) hP hK hD rfl (dk_keyk hi hk)) rfl rfl hl.1 rfl (lv_room (Nat.le_of_ble_eq_true rfl)) dX2_sign_2 ⟨Nat.le_of_ble_eq_true rfl, Nat.le_of_ble_eq_true rfl⟩) ?_
  refine lv_aload_n hx hb dX2_sign_5 rfl (lv_at hl 0 rfl) ?_
  refine lv_iconst (v := 1) hx hb dX2_sign_6 (by decide) ?_
  refine up_read (W.runV (As := [.int 1]) (rest := [.int (dk_part k 0)]) ⟨hx, hb, hml, hown, hts⟩ (c_X2_part l dC dI cK cB cI o ks fa oa fb ob dr ds L n sp co en cr rl qs kA oA kB oB tt ss st K i k 1 hi hk) (cwV 1 hts gX2_sign_X2_part rfl rfl rfl (by decide +kernel) ⟨Nat.le_of_ble_eq_true rfl, Nat.le_of_ble_eq_true rfl⟩) (up_preV (q0 := (i + 8)) (ci := 3) hP hK hD rfl (dk_keyk hi hk)) rfl rfl hl.1 rfl (lv_room (Nat.le_of_ble_eq_true rfl)) dX2_sign_7 ⟨Nat.le_of_ble_eq_true rfl, Nat.le_of_ble_eq_true rfl⟩) ?_
  refine lv_ixor hx hb dX2_sign_10 ?_
  refine lv_aload_n hx hb dX2_sign_11 rfl (lv_at hl 0 rfl) ?_
  refine lv_iconst (v := 2) hx hb dX2_sign_12 (by decide) ?_
  refine up_read (W.runV (As := [.int 2]) (rest := [.int (dk_part k 0 ^^^ dk_part k 1)]) ⟨hx, hb, hml, hown, hts⟩ (c_X2_part l dC dI cK cB cI o ks fa oa fb ob dr ds L n sp co en cr rl qs kA oA kB oB tt ss st K i k 2 hi hk) (cwV 1 hts gX2_sign_X2_part rfl rfl rfl (by decide +kernel) ⟨Nat.le_of_ble_eq_true rfl, Nat.le_of_ble_eq_true rfl⟩) (up_preV (q0 := (i + 8)) (ci := 3) hP hK hD rfl (dk_keyk hi hk)) rfl rfl hl.1 rfl (lv_room (Nat.le_of_ble_eq_true rfl)) dX2_sign_13 ⟨Nat.le_of_ble_eq_true rfl, Nat.le_of_ble_eq_true rfl⟩) ?_
  refine lv_ixor hx hb dX2_sign_16 ?_
  refine lv_aload_n hx hb dX2_sign_17 rfl (lv_at hl 0 rfl) ?_
  refine lv_iconst (v := 3) hx hb dX2_sign_18 (by decide) ?_
  refine up_read (W.runV (As := [.int 3]) (rest := [.int ((dk_part k 0 ^^^ dk_part k 1) ^^^ dk_part k 2)]) ⟨hx, hb, hml, hown, hts⟩ (c_X2_part l dC dI cK cB cI o ks fa oa fb ob dr ds L n sp co en cr rl qs kA oA kB oB tt ss st K i k 3 hi hk) (cwV 1 hts gX2_sign_X2_part rfl rfl rfl (by decide +kernel) ⟨Nat.le_of_ble_eq_true rfl, Nat.le_of_ble_eq_true rfl⟩) (up_preV (q0 := (i + 8)) (ci := 3) hP hK hD rfl (dk_keyk hi hk)) rfl rfl hl.1 rfl (lv_room (Nat.le_of_ble_eq_true rfl)) dX2_sign_19 ⟨Nat.le_of_ble_eq_true rfl, Nat.le_of_ble_eq_true rfl⟩) ?_
  refine lv_ixor hx hb dX2_sign_22 ?_
  have e_ : dk_sign k = (((dk_part k 0 ^^^ dk_part k 1) ^^^ dk_part k 2) ^^^ dk_part k 3) := by unfold dk_sign; exact rfl
  rw [e_]
  exact W.iret (v := (((dk_part k 0 ^^^ dk_part k 1) ^^^ dk_part k 2) ^^^ dk_part k 3)) hx hb hr (fun t ht hW => ⟨rfl, ht⟩) (fun q h => absurd h List.not_mem_nil) dX2_sign_23
def dk_mix (k : KR) (x : Int32) (y : Int32) : Int32 :=
  (((((x * 40503) + (dk_part k y * ((2 * y) + 1))) ^^^ (x / 32)) ^^^ (dk_part k y * 8)) &&& 65535)
def rm_X2_mix : Room := { frames := 1, cells := 0, slots := 0, locals := 21 }
set_option maxHeartbeats 4000000 in
set_option maxRecDepth 100000 in
theorem c_X2_mix (l : Launch) (dC : Nat → ClassId) (dI : Nat → Nat → Nat) (cK : ClassId) (cB : ClassId) (cI : ClassId) (o : Nat) (ks : Nat) (fa : Nat) (oa : Nat) (fb : Nat) (ob : Nat) (dr : Nat) (ds : Nat) (L : Nat → Nat) (n : Nat) (sp : Int32) (co : Nat) (en : Nat) (cr : Int32) (rl : Int32) (qs : Int32) (kA : Int32) (oA : Nat → Int8) (kB : Int32) (oB : Nat → Int8) (tt : Int64) (ss : Int64) (st : Nat → Int32) (K : Nat → KR) (i : Nat) (k : KR) (x : Int32) (y : Int32) (hi : i < n) (hk : K i = k) : Met l yX2_mix wsX2_mix rm_X2_mix (up_P (dC, dI) vwCl (dkT cK cB cI) (dkW cK cB cI o ks fa oa fb ob dr ds L n sp co en cr rl qs kA oA kB oB tt ss st K) [.ref (L i), .int x, .int y]) (k2_QcV (.int (dk_mix k x y))) 0 0 (fun _ => False) := by
  refine Met.ofW (cc := cX2_mix) (maxL := 5) (ret := (some .int)) (by decide) rfl ?_
  intro p e s m args below meth c s₁ B hml hv
  obtain ⟨rfl, hP, hK, hD0⟩ := hv
  have hx := B.exec
  have hb := B.bytes
  have hr := B.returns
  have hts := atoms_spec (ws := wsX2_mix) B.pre
  have hown : s.vm.findClass RX2 = some m.cls := findClass_of_methodNamed B.named
  have hlocks := B.notSynchronized
  have hD := up_self hD0
  have hS : va_S (up_c (dkW cK cB cI o ks fa oa fb ob dr ds L n sp co en cr rl qs kA oA kB oB tt ss st K)) s.heap s.heap [] := va_S.rf
  have hl := lv_entry ([.ref (L i), .int x, .int y]) (n := 5) (Nat.le_of_ble_eq_true rfl)
  rw [lg_entry_eq]
  generalize (lg_sl ([.ref (L i), .int x, .int y]) ++ List.replicate (5 - (lg_sl ([.ref (L i), .int x, .int y])).length) Slot.unset).toArray = ls at hl ⊢
  have hl : lv_has ls 5 [(0, .ref (L i)), (1, .int x), (2, .int y)] := hl
  refine lv_aload_n hx hb dX2_mix_0 rfl (lv_at hl 0 rfl) ?_
  refine lv_iload_n hx hb dX2_mix_1 rfl (lv_at hl 2 rfl) ?_
  refine up_read (W.runV (As := [.int y]) (rest := []) ⟨hx, hb, hml, hown, hts⟩ (c_X2_part l dC dI cK cB cI o ks fa oa fb ob dr ds L n sp co en cr rl qs kA oA kB oB tt ss st K i k y hi hk) (cwV 1 hts gX2_mix_X2_part rfl rfl rfl (by decide +kernel) ⟨Nat.le_of_ble_eq_true rfl, Nat.le_of_ble_eq_true rfl⟩) (up_preV (q0 := (i + 8)) (ci := 3) hP hK hD rfl (dk_keyk hi hk)) rfl rfl hl.1 rfl (lv_room (Nat.le_of_ble_eq_true rfl)) dX2_mix_2 ⟨Nat.le_of_ble_eq_true rfl, Nat.le_of_ble_eq_true rfl⟩) ?_
  refine lv_istore_n (lv' := [(3, .int (dk_part k y)), (0, .ref (L i)), (1, .int x), (2, .int y)]) hx hb dX2_mix_5 rfl hl (by decide) rfl (fun ls hl => ?_)
  refine lv_iload_n hx hb dX2_mix_6 rfl (lv_at hl 2 rfl) ?_
  refine lv_ldc (v := 40503) hx hb hown (hts (.constant RX2 50 40503) (by decide +kernel)) dX2_mix_7 ?_
  refine lv_imul hx hb dX2_mix_9 ?_
  refine lv_iload_n hx hb dX2_mix_10 rfl (lv_at hl 0 rfl) ?_
  refine lv_iconst (v := 2) hx hb dX2_mix_11 (by decide) ?_
  refine lv_iload_n hx hb dX2_mix_12 rfl (lv_at hl 3 rfl) ?_
  refine lv_imul hx hb dX2_mix_13 ?_
  refine lv_iconst (v := 1) hx hb dX2_mix_14 (by decide) ?_
  refine lv_iadd hx hb dX2_mix_15 ?_
  refine lv_imul hx hb dX2_mix_16 ?_
  refine lv_iadd hx hb dX2_mix_17 ?_
  refine lv_iload_n hx hb dX2_mix_18 rfl (lv_at hl 2 rfl) ?_
  refine lv_bipush (v := 32) hx hb dX2_mix_19 (by decide) ?_
  refine lv_idiv hx hb dX2_mix_21 (by decide) ?_
  refine lv_ixor hx hb dX2_mix_22 ?_
  refine lv_iload_n hx hb dX2_mix_23 rfl (lv_at hl 0 rfl) ?_
  refine lv_bipush (v := 8) hx hb dX2_mix_24 (by decide) ?_
  refine lv_imul hx hb dX2_mix_26 ?_
  refine lv_ixor hx hb dX2_mix_27 ?_
  refine lv_istore (lv' := [(4, .int ((((x * 40503) + (dk_part k y * ((2 * y) + 1))) ^^^ (x / 32)) ^^^ (dk_part k y * 8))), (3, .int (dk_part k y)), (0, .ref (L i)), (1, .int x), (2, .int y)]) hx hb dX2_mix_28 hl (by decide) rfl (fun ls hl => ?_)
  refine lv_iload hx hb dX2_mix_30 (lv_at hl 0 rfl) ?_
  refine lv_ldc (v := 65535) hx hb hown (hts (.constant RX2 36 65535) (by decide +kernel)) dX2_mix_32 ?_
  refine lv_iand hx hb dX2_mix_34 ?_
  have e_ : dk_mix k x y = (((((x * 40503) + (dk_part k y * ((2 * y) + 1))) ^^^ (x / 32)) ^^^ (dk_part k y * 8)) &&& 65535) := by unfold dk_mix; exact rfl
  rw [e_]
  exact W.iret (v := (((((x * 40503) + (dk_part k y * ((2 * y) + 1))) ^^^ (x / 32)) ^^^ (dk_part k y * 8)) &&& 65535)) hx hb hr (fun t ht hW => ⟨rfl, ht⟩) (fun q h => absurd h List.not_mem_nil) dX2_mix_35
def dk_join (x : Int32) (y : Int32) : Int64 :=
  ((x.toInt64 * 65536) + y.toInt64)
def rm_X2_joined : Room := { frames := 0, cells := 0, slots := 0, locals := 0 }
set_option maxHeartbeats 4000000 in
set_option maxRecDepth 100000 in
theorem c_X2_joined (l : Launch) (dC : Nat → ClassId) (dI : Nat → Nat → Nat) (cK : ClassId) (cB : ClassId) (cI : ClassId) (o : Nat) (ks : Nat) (fa : Nat) (oa : Nat) (fb : Nat) (ob : Nat) (dr : Nat) (ds : Nat) (L : Nat → Nat) (n : Nat) (sp : Int32) (co : Nat) (en : Nat) (cr : Int32) (rl : Int32) (qs : Int32) (kA : Int32) (oA : Nat → Int8) (kB : Int32) (oB : Nat → Int8) (tt : Int64) (ss : Int64) (st : Nat → Int32) (K : Nat → KR) (x : Int32) (y : Int32) : Met l yX2_joined wsX2_joined rm_X2_joined (up_P (dC, dI) vwCl (dkT cK cB cI) (dkW cK cB cI o ks fa oa fb ob dr ds L n sp co en cr rl qs kA oA kB oB tt ss st K) [.int x, .int y]) (k2_QcV (.long (dk_join x y))) 0 0 (fun _ => False) := by
  refine Met.ofW (cc := cX2_joined) (maxL := 2) (ret := (some .long)) (by decide) rfl ?_
  intro p e s m args below meth c s₁ B hml hv
  obtain ⟨rfl, hP, hK, hD0⟩ := hv
  have hx := B.exec
  have hb := B.bytes
  have hr := B.returns
  have hts := atoms_spec (ws := wsX2_joined) B.pre
  have hown : s.vm.findClass RX2 = some m.cls := findClass_of_methodNamed B.named
  have hlocks := B.notSynchronized
  have hD := up_self hD0
  have hS : va_S (up_c (dkW cK cB cI o ks fa oa fb ob dr ds L n sp co en cr rl qs kA oA kB oB tt ss st K)) s.heap s.heap [] := va_S.rf
  have hl := lv_entry ([.int x, .int y]) (n := 2) (Nat.le_of_ble_eq_true rfl)
  rw [lg_entry_eq]
  generalize (lg_sl ([.int x, .int y]) ++ List.replicate (2 - (lg_sl ([.int x, .int y])).length) Slot.unset).toArray = ls at hl ⊢
  have hl : lv_has ls 2 [(0, .int x), (1, .int y)] := hl
  refine lv_iload_n hx hb dX2_joined_0 rfl (lv_at hl 0 rfl) ?_
  refine lv_i2l (v := x.toInt64) hx hb dX2_joined_1 rfl ?_
  refine lv_ldc2 (v := 65536) hx hb hown (hts (.constantLong RX2 51 65536) (by decide +kernel)) dX2_joined_2 ?_
  refine lv_lmul hx hb dX2_joined_5 ?_
  refine lv_iload_n hx hb dX2_joined_6 rfl (lv_at hl 1 rfl) ?_
  refine lv_i2l (v := y.toInt64) hx hb dX2_joined_7 rfl ?_
  refine lv_ladd hx hb dX2_joined_8 ?_
  have e_ : dk_join x y = ((x.toInt64 * 65536) + y.toInt64) := by unfold dk_join; exact rfl
  rw [e_]
  exact W.lret (v := ((x.toInt64 * 65536) + y.toInt64)) hx hb hr (fun t ht hW => ⟨rfl, ht⟩) (fun q h => absurd h List.not_mem_nil) dX2_joined_9
def dk_enc_l (k : KR) : Nat → Nat → Int32 → Int32 → Int64
  | 0, _, a, b =>
    dk_join a b
  | r + 1, j, a, b =>
    dk_enc_l k r (j + 1) b (a ^^^ dk_mix k b (nI j))
def dk_enc (k : KR) (x : Int64) : Int64 :=
  dk_enc_l k 16 0 (((x.toUInt64 >>> ((16 : Int32).toInt64.toUInt64 &&& Int64.toUInt64 63)).toInt64).toInt32 &&& 65535) (x.toInt32 &&& 65535)
def rm_X2_encipher : Room := { frames := 2, cells := 0, slots := 0, locals := 45 }
set_option maxHeartbeats 4000000 in
set_option maxRecDepth 100000 in
theorem c_X2_encipher (l : Launch) (dC : Nat → ClassId) (dI : Nat → Nat → Nat) (cK : ClassId) (cB : ClassId) (cI : ClassId) (o : Nat) (ks : Nat) (fa : Nat) (oa : Nat) (fb : Nat) (ob : Nat) (dr : Nat) (ds : Nat) (L : Nat → Nat) (n : Nat) (sp : Int32) (co : Nat) (en : Nat) (cr : Int32) (rl : Int32) (qs : Int32) (kA : Int32) (oA : Nat → Int8) (kB : Int32) (oB : Nat → Int8) (tt : Int64) (ss : Int64) (st : Nat → Int32) (K : Nat → KR) (i : Nat) (k : KR) (x : Int64) (hi : i < n) (hk : K i = k) : Met l yX2_encipher wsX2_encipher rm_X2_encipher (up_P (dC, dI) vwCl (dkT cK cB cI) (dkW cK cB cI o ks fa oa fb ob dr ds L n sp co en cr rl qs kA oA kB oB tt ss st K) [.ref (L i), .long x]) (k2_QcV (.long (dk_enc k x))) 0 0 (fun _ => False) := by
  refine Met.ofW (cc := cX2_encipher) (maxL := 7) (ret := (some .long)) (by decide) rfl ?_
  intro p e s m args below meth c s₁ B hml hv
  obtain ⟨rfl, hP, hK, hD0⟩ := hv
  have hx := B.exec
  have hb := B.bytes
  have hr := B.returns
  have hts := atoms_spec (ws := wsX2_encipher) B.pre
  have hown : s.vm.findClass RX2 = some m.cls := findClass_of_methodNamed B.named
  have hlocks := B.notSynchronized
  have hD := up_self hD0
  have hS : va_S (up_c (dkW cK cB cI o ks fa oa fb ob dr ds L n sp co en cr rl qs kA oA kB oB tt ss st K)) s.heap s.heap [] := va_S.rf
  have hl := lv_entry ([.ref (L i), .long x]) (n := 7) (Nat.le_of_ble_eq_true rfl)
  rw [lg_entry_eq]
  generalize (lg_sl ([.ref (L i), .long x]) ++ List.replicate (7 - (lg_sl ([.ref (L i), .long x])).length) Slot.unset).toArray = ls at hl ⊢
  have hl : lv_has ls 7 [(0, .ref (L i)), (1, .long x)] := hl
  refine lv_lload_n hx hb dX2_encipher_0 rfl (lv_at hl 1 rfl) ?_
  refine lv_bipush (v := 16) hx hb dX2_encipher_1 (by decide) ?_
  refine lv_lushr (v := (x.toUInt64 >>> ((16 : Int32).toInt64.toUInt64 &&& Int64.toUInt64 63)).toInt64) hx hb dX2_encipher_3 rfl ?_
  refine lv_l2i (v := ((x.toUInt64 >>> ((16 : Int32).toInt64.toUInt64 &&& Int64.toUInt64 63)).toInt64).toInt32) hx hb dX2_encipher_4 rfl ?_
  refine lv_ldc (v := 65535) hx hb hown (hts (.constant RX2 36 65535) (by decide +kernel)) dX2_encipher_5 ?_
  refine lv_iand hx hb dX2_encipher_7 ?_
  refine lv_istore_n (lv' := [(3, .int (((x.toUInt64 >>> ((16 : Int32).toInt64.toUInt64 &&& Int64.toUInt64 63)).toInt64).toInt32 &&& 65535)), (0, .ref (L i)), (1, .long x)]) hx hb dX2_encipher_8 rfl hl (by decide) rfl (fun ls hl => ?_)
  refine lv_lload_n hx hb dX2_encipher_9 rfl (lv_at hl 2 rfl) ?_
  refine lv_l2i (v := x.toInt32) hx hb dX2_encipher_10 rfl ?_
  refine lv_ldc (v := 65535) hx hb hown (hts (.constant RX2 36 65535) (by decide +kernel)) dX2_encipher_11 ?_
  refine lv_iand hx hb dX2_encipher_13 ?_
  refine lv_istore (lv' := [(4, .int (x.toInt32 &&& 65535)), (3, .int (((x.toUInt64 >>> ((16 : Int32).toInt64.toUInt64 &&& Int64.toUInt64 63)).toInt64).toInt32 &&& 65535)), (0, .ref (L i)), (1, .long x)]) hx hb dX2_encipher_14 hl (by decide) rfl (fun ls hl => ?_)
  refine lv_iconst (v := 0) hx hb dX2_encipher_16 (by decide) ?_
  refine lv_istore (lv' := [(5, .int 0), (4, .int (x.toInt32 &&& 65535)), (3, .int (((x.toUInt64 >>> ((16 : Int32).toInt64.toUInt64 &&& Int64.toUInt64 63)).toInt64).toInt32 &&& 65535)), (0, .ref (L i)), (1, .long x)]) hx hb dX2_encipher_17 hl (by decide) rfl (fun ls hl => ?_)
  have lp : ∀ (r j : Nat) (a : Int32) (b : Int32) , j + r = 16 → ∀ ls : Array Slot, lv_has ls 7 [(0, .ref (L i)), (5, .int (nI j)), (3, .int a), (4, .int b)] → W p l e (headSpec wsX2_encipher rm_X2_encipher).room s m ([.ref (L i), .long x] : List Value).toArray below meth c s.heap [] 0 0 (MQ below (k2_QcV (.long (dk_enc_l k r j a b))) ([.ref (L i), .long x] : List Value).toArray s 0 0 (fun _ => False)) (F0 m 19 ls []) := by
    intro r
    induction r with
    | zero =>
      intro j a b hj ls hl
      refine lv_iload hx hb dX2_encipher_19 (lv_at hl 1 rfl) ?_
      refine lv_bipush (v := 16) hx hb dX2_encipher_21 (by decide) ?_
      refine lv_icmp_ge (tgt := 51) hx hb dX2_encipher_23 (by decide) (fun c_23 => ?_) (fun c_23 => (c_23 (nI_le (a := 16) (b := j) (by omega) (by omega))).elim)
      refine lv_iload_n hx hb dX2_encipher_51 rfl (lv_at hl 2 rfl) ?_
      refine lv_iload hx hb dX2_encipher_52 (lv_at hl 3 rfl) ?_
      refine up_read (W.runS (As := [.int a, .int b]) (rest := []) ⟨hx, hb, hml, hown, hts⟩ (c_X2_joined l dC dI cK cB cI o ks fa oa fb ob dr ds L n sp co en cr rl qs kA oA kB oB tt ss st K a b) (va_cwS 2 hts gX2_encipher_X2_joined rfl rfl rfl (by decide +kernel) ⟨Nat.le_of_ble_eq_true rfl, Nat.le_of_ble_eq_true rfl⟩) (up_preS hP hK hD) rfl rfl hl.1 rfl (lv_room (Nat.le_of_ble_eq_true rfl)) dX2_encipher_54 ⟨Nat.le_of_ble_eq_true rfl, Nat.le_of_ble_eq_true rfl⟩) ?_
      have e_ : dk_enc_l k 0 j a b = dk_join a b := (dk_enc_l.eq_1 ..).trans rfl
      rw [e_]
      exact W.lret (v := dk_join a b) hx hb hr (fun t ht hW => ⟨rfl, ht⟩) (fun q h => absurd h List.not_mem_nil) dX2_encipher_57
    | succ r ih =>
      intro j a b hj ls hl
      refine lv_iload hx hb dX2_encipher_19 (lv_at hl 1 rfl) ?_
      refine lv_bipush (v := 16) hx hb dX2_encipher_21 (by decide) ?_
      refine lv_icmp_ge (tgt := 51) hx hb dX2_encipher_23 (by decide) (fun c_23 => (nI_ge (a := j) (b := 16) (by omega) (by omega) c_23).elim) (fun c_23 => ?_)
      refine lv_iload_n hx hb dX2_encipher_26 rfl (lv_at hl 2 rfl) ?_
      refine lv_aload_n hx hb dX2_encipher_27 rfl (lv_at hl 0 rfl) ?_
      refine lv_iload hx hb dX2_encipher_28 (lv_at hl 3 rfl) ?_
      refine lv_iload hx hb dX2_encipher_30 (lv_at hl 1 rfl) ?_
      refine up_read (W.runV (As := [.int b, .int (nI j)]) (rest := [.int a]) ⟨hx, hb, hml, hown, hts⟩ (c_X2_mix l dC dI cK cB cI o ks fa oa fb ob dr ds L n sp co en cr rl qs kA oA kB oB tt ss st K i k b (nI j) hi hk) (cwV 2 hts gX2_encipher_X2_mix rfl rfl rfl (by decide +kernel) ⟨Nat.le_of_ble_eq_true rfl, Nat.le_of_ble_eq_true rfl⟩) (up_preV (q0 := (i + 8)) (ci := 3) hP hK hD rfl (dk_keyk hi hk)) rfl rfl hl.1 rfl (lv_room (Nat.le_of_ble_eq_true rfl)) dX2_encipher_32 ⟨Nat.le_of_ble_eq_true rfl, Nat.le_of_ble_eq_true rfl⟩) ?_
      refine lv_ixor hx hb dX2_encipher_35 ?_
      refine lv_istore (lv' := [(6, .int (a ^^^ dk_mix k b (nI j))), (0, .ref (L i)), (5, .int (nI j)), (3, .int a), (4, .int b)]) hx hb dX2_encipher_36 hl (by decide) rfl (fun ls hl => ?_)
      refine lv_iload hx hb dX2_encipher_38 (lv_at hl 4 rfl) ?_
      refine lv_istore_n (lv' := [(3, .int b), (6, .int (a ^^^ dk_mix k b (nI j))), (0, .ref (L i)), (5, .int (nI j)), (4, .int b)]) hx hb dX2_encipher_40 rfl hl (by decide) rfl (fun ls hl => ?_)
      refine lv_iload hx hb dX2_encipher_41 (lv_at hl 1 rfl) ?_
      refine lv_istore (lv' := [(4, .int (a ^^^ dk_mix k b (nI j))), (3, .int b), (6, .int (a ^^^ dk_mix k b (nI j))), (0, .ref (L i)), (5, .int (nI j))]) hx hb dX2_encipher_43 hl (by decide) rfl (fun ls hl => ?_)
      refine lv_iinc (v := (nI (j + 1))) (lv' := [(5, .int (nI (j + 1))), (4, .int (a ^^^ dk_mix k b (nI j))), (3, .int b), (6, .int (a ^^^ dk_mix k b (nI j))), (0, .ref (L i))]) hx hb dX2_encipher_45 hl (k := 4) rfl (nI_1 _) (by decide) rfl (fun ls hl => ?_)
      refine lv_goto (tgt := 19) hx hb dX2_encipher_48 (by decide) ?_
      have e_ : dk_enc_l k (r + 1) j a b = dk_enc_l k r (j + 1) b (a ^^^ dk_mix k b (nI j)) := (dk_enc_l.eq_2 ..).trans rfl
      rw [e_]
      exact ih (j + 1) b (a ^^^ dk_mix k b (nI j)) (by omega) ls (lv_sub hl [4, 0, 2, 1] rfl)
  have e_ : dk_enc k x = dk_enc_l k 16 0 (((x.toUInt64 >>> ((16 : Int32).toInt64.toUInt64 &&& Int64.toUInt64 63)).toInt64).toInt32 &&& 65535) (x.toInt32 &&& 65535) := by unfold dk_enc; exact rfl
  rw [e_]
  exact lp 16 0 (((x.toUInt64 >>> ((16 : Int32).toInt64.toUInt64 &&& Int64.toUInt64 63)).toInt64).toInt32 &&& 65535) (x.toInt32 &&& 65535) (by omega) ls (lv_sub hl [3, 0, 2, 1] rfl)
def dk_dec_l (k : KR) : Nat → Int32 → Int32 → Int64
  | 0, a, b =>
    dk_join a b
  | r + 1, a, b =>
    dk_dec_l k r (b ^^^ dk_mix k a (nI r)) a
def dk_dec (k : KR) (x : Int64) : Int64 :=
  dk_dec_l k 16 (((x.toUInt64 >>> ((16 : Int32).toInt64.toUInt64 &&& Int64.toUInt64 63)).toInt64).toInt32 &&& 65535) (x.toInt32 &&& 65535)
def rm_X2_decipher : Room := { frames := 2, cells := 0, slots := 0, locals := 45 }
set_option maxHeartbeats 4000000 in
set_option maxRecDepth 100000 in
theorem c_X2_decipher (l : Launch) (dC : Nat → ClassId) (dI : Nat → Nat → Nat) (cK : ClassId) (cB : ClassId) (cI : ClassId) (o : Nat) (ks : Nat) (fa : Nat) (oa : Nat) (fb : Nat) (ob : Nat) (dr : Nat) (ds : Nat) (L : Nat → Nat) (n : Nat) (sp : Int32) (co : Nat) (en : Nat) (cr : Int32) (rl : Int32) (qs : Int32) (kA : Int32) (oA : Nat → Int8) (kB : Int32) (oB : Nat → Int8) (tt : Int64) (ss : Int64) (st : Nat → Int32) (K : Nat → KR) (i : Nat) (k : KR) (x : Int64) (hi : i < n) (hk : K i = k) : Met l yX2_decipher wsX2_decipher rm_X2_decipher (up_P (dC, dI) vwCl (dkT cK cB cI) (dkW cK cB cI o ks fa oa fb ob dr ds L n sp co en cr rl qs kA oA kB oB tt ss st K) [.ref (L i), .long x]) (k2_QcV (.long (dk_dec k x))) 0 0 (fun _ => False) := by
  refine Met.ofW (cc := cX2_decipher) (maxL := 7) (ret := (some .long)) (by decide) rfl ?_
  intro p e s m args below meth c s₁ B hml hv
  obtain ⟨rfl, hP, hK, hD0⟩ := hv
  have hx := B.exec
  have hb := B.bytes
  have hr := B.returns
  have hts := atoms_spec (ws := wsX2_decipher) B.pre
  have hown : s.vm.findClass RX2 = some m.cls := findClass_of_methodNamed B.named
  have hlocks := B.notSynchronized
  have hD := up_self hD0
  have hS : va_S (up_c (dkW cK cB cI o ks fa oa fb ob dr ds L n sp co en cr rl qs kA oA kB oB tt ss st K)) s.heap s.heap [] := va_S.rf
  have hl := lv_entry ([.ref (L i), .long x]) (n := 7) (Nat.le_of_ble_eq_true rfl)
  rw [lg_entry_eq]
  generalize (lg_sl ([.ref (L i), .long x]) ++ List.replicate (7 - (lg_sl ([.ref (L i), .long x])).length) Slot.unset).toArray = ls at hl ⊢
  have hl : lv_has ls 7 [(0, .ref (L i)), (1, .long x)] := hl
  refine lv_lload_n hx hb dX2_decipher_0 rfl (lv_at hl 1 rfl) ?_
  refine lv_bipush (v := 16) hx hb dX2_decipher_1 (by decide) ?_
  refine lv_lushr (v := (x.toUInt64 >>> ((16 : Int32).toInt64.toUInt64 &&& Int64.toUInt64 63)).toInt64) hx hb dX2_decipher_3 rfl ?_
  refine lv_l2i (v := ((x.toUInt64 >>> ((16 : Int32).toInt64.toUInt64 &&& Int64.toUInt64 63)).toInt64).toInt32) hx hb dX2_decipher_4 rfl ?_
  refine lv_ldc (v := 65535) hx hb hown (hts (.constant RX2 36 65535) (by decide +kernel)) dX2_decipher_5 ?_
  refine lv_iand hx hb dX2_decipher_7 ?_
  refine lv_istore_n (lv' := [(3, .int (((x.toUInt64 >>> ((16 : Int32).toInt64.toUInt64 &&& Int64.toUInt64 63)).toInt64).toInt32 &&& 65535)), (0, .ref (L i)), (1, .long x)]) hx hb dX2_decipher_8 rfl hl (by decide) rfl (fun ls hl => ?_)
  refine lv_lload_n hx hb dX2_decipher_9 rfl (lv_at hl 2 rfl) ?_
  refine lv_l2i (v := x.toInt32) hx hb dX2_decipher_10 rfl ?_
  refine lv_ldc (v := 65535) hx hb hown (hts (.constant RX2 36 65535) (by decide +kernel)) dX2_decipher_11 ?_
  refine lv_iand hx hb dX2_decipher_13 ?_
  refine lv_istore (lv' := [(4, .int (x.toInt32 &&& 65535)), (3, .int (((x.toUInt64 >>> ((16 : Int32).toInt64.toUInt64 &&& Int64.toUInt64 63)).toInt64).toInt32 &&& 65535)), (0, .ref (L i)), (1, .long x)]) hx hb dX2_decipher_14 hl (by decide) rfl (fun ls hl => ?_)
  refine lv_bipush (v := 15) hx hb dX2_decipher_16 (by decide) ?_
  refine lv_istore (lv' := [(5, .int 15), (4, .int (x.toInt32 &&& 65535)), (3, .int (((x.toUInt64 >>> ((16 : Int32).toInt64.toUInt64 &&& Int64.toUInt64 63)).toInt64).toInt32 &&& 65535)), (0, .ref (L i)), (1, .long x)]) hx hb dX2_decipher_18 hl (by decide) rfl (fun ls hl => ?_)
  have lp : ∀ (r : Nat) (a : Int32) (b : Int32) , r ≤ 16 → ∀ ls : Array Slot, lv_has ls 7 [(0, .ref (L i)), (5, .int (nI r - 1)), (3, .int a), (4, .int b)] → W p l e (headSpec wsX2_decipher rm_X2_decipher).room s m ([.ref (L i), .long x] : List Value).toArray below meth c s.heap [] 0 0 (MQ below (k2_QcV (.long (dk_dec_l k r a b))) ([.ref (L i), .long x] : List Value).toArray s 0 0 (fun _ => False)) (F0 m 20 ls []) := by
    intro r
    induction r with
    | zero =>
      intro a b hj ls hl
      refine lv_iload hx hb dX2_decipher_20 (lv_at hl 1 rfl) ?_
      refine lv_if_lt (tgt := 49) hx hb dX2_decipher_22 (by decide) (fun c_22 => ?_) (fun c_22 => (c_22 (by decide)).elim)
      refine lv_iload_n hx hb dX2_decipher_49 rfl (lv_at hl 2 rfl) ?_
      refine lv_iload hx hb dX2_decipher_50 (lv_at hl 3 rfl) ?_
      refine up_read (W.runS (As := [.int a, .int b]) (rest := []) ⟨hx, hb, hml, hown, hts⟩ (c_X2_joined l dC dI cK cB cI o ks fa oa fb ob dr ds L n sp co en cr rl qs kA oA kB oB tt ss st K a b) (va_cwS 2 hts gX2_decipher_X2_joined rfl rfl rfl (by decide +kernel) ⟨Nat.le_of_ble_eq_true rfl, Nat.le_of_ble_eq_true rfl⟩) (up_preS hP hK hD) rfl rfl hl.1 rfl (lv_room (Nat.le_of_ble_eq_true rfl)) dX2_decipher_52 ⟨Nat.le_of_ble_eq_true rfl, Nat.le_of_ble_eq_true rfl⟩) ?_
      have e_ : dk_dec_l k 0 a b = dk_join a b := (dk_dec_l.eq_1 ..).trans rfl
      rw [e_]
      exact W.lret (v := dk_join a b) hx hb hr (fun t ht hW => ⟨rfl, ht⟩) (fun q h => absurd h List.not_mem_nil) dX2_decipher_55
    | succ r ih =>
      intro a b hj ls hl
      rw [nI_pred] at hl
      refine lv_iload hx hb dX2_decipher_20 (lv_at hl 1 rfl) ?_
      refine lv_if_lt (tgt := 49) hx hb dX2_decipher_22 (by decide) (fun c_22 => (nI_pos (n := r) (by omega) c_22).elim) (fun c_22 => ?_)
      refine lv_iload hx hb dX2_decipher_25 (lv_at hl 3 rfl) ?_
      refine lv_aload_n hx hb dX2_decipher_27 rfl (lv_at hl 0 rfl) ?_
      refine lv_iload_n hx hb dX2_decipher_28 rfl (lv_at hl 2 rfl) ?_
      refine lv_iload hx hb dX2_decipher_29 (lv_at hl 1 rfl) ?_
      refine up_read (W.runV (As := [.int a, .int (nI r)]) (rest := [.int b]) ⟨hx, hb, hml, hown, hts⟩ (c_X2_mix l dC dI cK cB cI o ks fa oa fb ob dr ds L n sp co en cr rl qs kA oA kB oB tt ss st K i k a (nI r) hi hk) (cwV 2 hts gX2_decipher_X2_mix rfl rfl rfl (by decide +kernel) ⟨Nat.le_of_ble_eq_true rfl, Nat.le_of_ble_eq_true rfl⟩) (up_preV (q0 := (i + 8)) (ci := 3) hP hK hD rfl (dk_keyk hi hk)) rfl rfl hl.1 rfl (lv_room (Nat.le_of_ble_eq_true rfl)) dX2_decipher_31 ⟨Nat.le_of_ble_eq_true rfl, Nat.le_of_ble_eq_true rfl⟩) ?_
      refine lv_ixor hx hb dX2_decipher_34 ?_
      refine lv_istore (lv' := [(6, .int (b ^^^ dk_mix k a (nI r))), (0, .ref (L i)), (5, .int (nI r)), (3, .int a), (4, .int b)]) hx hb dX2_decipher_35 hl (by decide) rfl (fun ls hl => ?_)
      refine lv_iload_n hx hb dX2_decipher_37 rfl (lv_at hl 3 rfl) ?_
      refine lv_istore (lv' := [(4, .int a), (6, .int (b ^^^ dk_mix k a (nI r))), (0, .ref (L i)), (5, .int (nI r)), (3, .int a)]) hx hb dX2_decipher_38 hl (by decide) rfl (fun ls hl => ?_)
      refine lv_iload hx hb dX2_decipher_40 (lv_at hl 1 rfl) ?_
      refine lv_istore_n (lv' := [(3, .int (b ^^^ dk_mix k a (nI r))), (4, .int a), (6, .int (b ^^^ dk_mix k a (nI r))), (0, .ref (L i)), (5, .int (nI r))]) hx hb dX2_decipher_42 rfl hl (by decide) rfl (fun ls hl => ?_)
      refine lv_iinc (v := (nI r - 1)) (lv' := [(5, .int (nI r - 1)), (3, .int (b ^^^ dk_mix k a (nI r))), (4, .int a), (6, .int (b ^^^ dk_mix k a (nI r))), (0, .ref (L i))]) hx hb dX2_decipher_43 hl (k := 4) rfl (up_dec _) (by decide) rfl (fun ls hl => ?_)
      refine lv_goto (tgt := 20) hx hb dX2_decipher_46 (by decide) ?_
      have e_ : dk_dec_l k (r + 1) a b = dk_dec_l k r (b ^^^ dk_mix k a (nI r)) a := (dk_dec_l.eq_2 ..).trans rfl
      rw [e_]
      exact ih (b ^^^ dk_mix k a (nI r)) a (by omega) ls (lv_sub hl [4, 0, 1, 2] rfl)
  have e_ : dk_dec k x = dk_dec_l k 16 (((x.toUInt64 >>> ((16 : Int32).toInt64.toUInt64 &&& Int64.toUInt64 63)).toInt64).toInt32 &&& 65535) (x.toInt32 &&& 65535) := by unfold dk_dec; exact rfl
  rw [e_]
  exact lp 16 (((x.toUInt64 >>> ((16 : Int32).toInt64.toUInt64 &&& Int64.toUInt64 63)).toInt64).toInt32 &&& 65535) (x.toInt32 &&& 65535) (by omega) ls (lv_sub hl [3, 0, 2, 1] rfl)
end
section
/-! DoorKeys: what makes nothing (laid by wip/gen.py) -/
set_option maxRecDepth 20000 in
theorem inn_X3_find_X3 : ∀ w ∈ wsX30, w ∈ wsX3_find := by decide +kernel
set_option maxRecDepth 20000 in
theorem inn_X3_isSecretOfAKey_X3 : ∀ w ∈ wsX30, w ∈ wsX3_isSecretOfAKey := by decide +kernel
set_option maxRecDepth 20000 in
theorem inn_X3_isSecretOfAKey_X2 : ∀ w ∈ wsX20, w ∈ wsX3_isSecretOfAKey := by decide +kernel
set_option maxRecDepth 20000 in
theorem inn_X3_learnedKeys_X3 : ∀ w ∈ wsX30, w ∈ wsX3_learnedKeys := by decide +kernel
set_option maxRecDepth 20000 in
theorem inn_X3_learnedKeys_X2 : ∀ w ∈ wsX20, w ∈ wsX3_learnedKeys := by decide +kernel
set_option maxRecDepth 20000 in
theorem inn_X3_obey_X3 : ∀ w ∈ wsX30, w ∈ wsX3_obey := by decide +kernel
set_option maxRecDepth 20000 in
theorem inn_X3_judge_X2 : ∀ w ∈ wsX20, w ∈ wsX3_judge := by decide +kernel
set_option maxRecDepth 20000 in
theorem inn_X3_judge_X3 : ∀ w ∈ wsX30, w ∈ wsX3_judge := by decide +kernel
set_option maxRecDepth 20000 in
theorem inn_X3_counter_X2 : ∀ w ∈ wsX20, w ∈ wsX3_counter := by decide +kernel
set_option maxRecDepth 20000 in
theorem inn_X3_battery_X2 : ∀ w ∈ wsX20, w ∈ wsX3_battery := by decide +kernel
set_option maxRecDepth 20000 in
theorem inn_X3_state_X3 : ∀ w ∈ wsX30, w ∈ wsX3_state := by decide +kernel
set_option maxRecDepth 20000 in
theorem inn_X3_state_X0 : ∀ w ∈ wsX00, w ∈ wsX3_state := by decide +kernel
set_option maxRecDepth 20000 in
theorem inn_X3_lock_X3 : ∀ w ∈ wsX30, w ∈ wsX3_lock := by decide +kernel
set_option maxRecDepth 20000 in
theorem inn_X3_learn_X2 : ∀ w ∈ wsX20, w ∈ wsX3_learn := by decide +kernel
set_option maxRecDepth 20000 in
theorem inn_X3_erase_X2 : ∀ w ∈ wsX20, w ∈ wsX3_erase := by decide +kernel
set_option maxRecDepth 20000 in
theorem inn_X3_start_X3 : ∀ w ∈ wsX30, w ∈ wsX3_start := by decide +kernel
set_option maxRecDepth 20000 in
theorem inn_X3_start_X2 : ∀ w ∈ wsX20, w ∈ wsX3_start := by decide +kernel
set_option maxRecDepth 20000 in
theorem inn_X3_crash_X3 : ∀ w ∈ wsX30, w ∈ wsX3_crash := by decide +kernel
set_option maxRecDepth 20000 in
theorem inn_X3_alarm_X3 : ∀ w ∈ wsX30, w ∈ wsX3_alarm := by decide +kernel
set_option maxRecDepth 20000 in
theorem inn_X3_alarm_X0 : ∀ w ∈ wsX00, w ∈ wsX3_alarm := by decide +kernel
def rm_X3_findS : Room := { frames := 0, cells := 0, slots := 0, locals := 0 }
set_option maxHeartbeats 4000000 in
set_option maxRecDepth 100000 in
theorem c_X3_findS (l : Launch) (dC : Nat → ClassId) (dI : Nat → Nat → Nat) (cK : ClassId) (cB : ClassId) (cI : ClassId) (o : Nat) (ks : Nat) (fa : Nat) (oa : Nat) (fb : Nat) (ob : Nat) (dr : Nat) (ds : Nat) (L : Nat → Nat) (n : Nat) (sp : Int32) (co : Nat) (en : Nat) (cr : Int32) (rl : Int32) (qs : Int32) (kA : Int32) (oA : Nat → Int8) (kB : Int32) (oB : Nat → Int8) (tt : Int64) (ss : Int64) (st : Nat → Int32) (K : Nat → KR) (x : Int32) (hn : n ≤ 8) (hk : dk_fkP n x) : Met l yX3_find wsX3_find rm_X3_findS (up_P (dC, dI) vwCl (dkT cK cB cI) (dkW cK cB cI o ks fa oa fb ob dr ds L n sp co en cr rl qs kA oA kB oB tt ss st K) [.ref o, .int x]) (k2_QcV (.ref (L (dk_fki x)))) 0 0 (fun _ => False) := by
  refine Met.ofW (cc := cX3_find) (maxL := 2) (ret := (some (.object "DoorKeys$Key"))) (by decide) rfl ?_
  intro p e s m args below meth c s₁ B hml hv
  obtain ⟨rfl, hP, hK, hD0⟩ := hv
  have hx := B.exec
  have hb := B.bytes
  have hr := B.returns
  have hts := atoms_spec (ws := wsX3_find) B.pre
  have hown : s.vm.findClass RX3 = some m.cls := findClass_of_methodNamed B.named
  have hlocks := B.notSynchronized
  have hD := up_self hD0
  have hS : va_S (up_c (dkW cK cB cI o ks fa oa fb ob dr ds L n sp co en cr rl qs kA oA kB oB tt ss st K)) s.heap s.heap [] := va_S.rf
  have hl := lv_entry ([.ref o, .int x]) (n := 2) (Nat.le_of_ble_eq_true rfl)
  rw [lg_entry_eq]
  generalize (lg_sl ([.ref o, .int x]) ++ List.replicate (2 - (lg_sl ([.ref o, .int x])).length) Slot.unset).toArray = ls at hl ⊢
  have hl : lv_has ls 2 [(0, .ref o), (1, .int x)] := hl
  refine lv_iload_n hx hb dX3_find_0 rfl (lv_at hl 1 rfl) ?_
  refine lv_iconst (v := 1) hx hb dX3_find_1 (by decide) ?_
  refine lv_icmp_lt (tgt := 33) hx hb dX3_find_2 (by decide) (fun c_2 => (hk.1 c_2).elim) (fun c_2 => ?_)
  refine lv_iload_n hx hb dX3_find_5 rfl (lv_at hl 1 rfl) ?_
  refine lv_aload_n hx hb dX3_find_6 rfl (lv_at hl 0 rfl) ?_
  refine va_get (D := (dC, dI)) (ci := 4) (v := .int (nI n)) (C := RX3) (T := TX3) (N := 9) hx hb hts inn_X3_find_X3 hown hK hP 0 rfl rfl 2 (by decide) (hts (.fieldLink RX3 42 "DoorKeys" "keyCount" "I") (by decide +kernel)) (fun _ h9 => h9) rfl dX3_find_7 ?_
  refine lv_icmp_gt (tgt := 33) hx hb dX3_find_10 (by decide) (fun c_10 => (hk.2 c_10).elim) (fun c_10 => ?_)
  refine lv_iload_n hx hb dX3_find_13 rfl (lv_at hl 1 rfl) ?_
  refine lv_aload_n hx hb dX3_find_14 rfl (lv_at hl 0 rfl) ?_
  refine va_get (D := (dC, dI)) (ci := 4) (v := .ref ks) (C := RX3) (T := TX3) (N := 9) hx hb hts inn_X3_find_X3 hown hK hP 0 rfl rfl 1 (by decide) (hts (.fieldLink RX3 15 "DoorKeys" "keys" "[LDoorKeys$Key;") (by decide +kernel)) (fun _ h9 => h9) rfl dX3_find_15 ?_
  refine va_alen (v := 8) hx hb hK hP 1 0 rfl rfl rfl dX3_find_18 ?_
  refine lv_icmp_gt (tgt := 33) hx hb dX3_find_19 (by decide) (fun c_19 => (dk_fk_8 hn hk c_19).elim) (fun c_19 => ?_)
  refine lv_aload_n hx hb dX3_find_22 rfl (lv_at hl 0 rfl) ?_
  refine va_get (D := (dC, dI)) (ci := 4) (v := .ref ks) (C := RX3) (T := TX3) (N := 9) hx hb hts inn_X3_find_X3 hown hK hP 0 rfl rfl 1 (by decide) (hts (.fieldLink RX3 15 "DoorKeys" "keys" "[LDoorKeys$Key;") (by decide +kernel)) (fun _ h9 => h9) rfl dX3_find_23 ?_
  refine lv_iload_n hx hb dX3_find_26 rfl (lv_at hl 1 rfl) ?_
  refine lv_iconst (v := 1) hx hb dX3_find_27 (by decide) ?_
  refine lv_isub hx hb dX3_find_28 ?_
  refine va_aldq hx hb hK hP 1 0 rfl rfl (dk_fk_in hn hk) dX3_find_29 ?_
  refine W.eq (g2 := F0 m 30 ls [.ref (L (dk_fki x))]) (congrArg (fun v => F0 m 30 ls [v]) (dk_fkv hn hk)) ?_
  refine lv_goto (tgt := 34) hx hb dX3_find_30 (by decide) ?_
  exact W.aret (v := .ref (L (dk_fki x))) hx hb hr (Or.inl ⟨_, rfl⟩) (Or.inr ⟨_, rfl⟩) (fun t ht hW => ⟨rfl, ht⟩) (fun q h => absurd h List.not_mem_nil) dX3_find_34
def rm_X3_findN : Room := { frames := 0, cells := 0, slots := 0, locals := 0 }
set_option maxHeartbeats 4000000 in
set_option maxRecDepth 100000 in
theorem c_X3_findN (l : Launch) (dC : Nat → ClassId) (dI : Nat → Nat → Nat) (cK : ClassId) (cB : ClassId) (cI : ClassId) (o : Nat) (ks : Nat) (fa : Nat) (oa : Nat) (fb : Nat) (ob : Nat) (dr : Nat) (ds : Nat) (L : Nat → Nat) (n : Nat) (sp : Int32) (co : Nat) (en : Nat) (cr : Int32) (rl : Int32) (qs : Int32) (kA : Int32) (oA : Nat → Int8) (kB : Int32) (oB : Nat → Int8) (tt : Int64) (ss : Int64) (st : Nat → Int32) (K : Nat → KR) (x : Int32) (hn : n ≤ 8) (hk : ¬ dk_fkP n x) : Met l yX3_find wsX3_find rm_X3_findN (up_P (dC, dI) vwCl (dkT cK cB cI) (dkW cK cB cI o ks fa oa fb ob dr ds L n sp co en cr rl qs kA oA kB oB tt ss st K) [.ref o, .int x]) (k2_QcV .null) 0 0 (fun _ => False) := by
  refine Met.ofW (cc := cX3_find) (maxL := 2) (ret := (some (.object "DoorKeys$Key"))) (by decide) rfl ?_
  intro p e s m args below meth c s₁ B hml hv
  obtain ⟨rfl, hP, hK, hD0⟩ := hv
  have hx := B.exec
  have hb := B.bytes
  have hr := B.returns
  have hts := atoms_spec (ws := wsX3_find) B.pre
  have hown : s.vm.findClass RX3 = some m.cls := findClass_of_methodNamed B.named
  have hlocks := B.notSynchronized
  have hD := up_self hD0
  have hS : va_S (up_c (dkW cK cB cI o ks fa oa fb ob dr ds L n sp co en cr rl qs kA oA kB oB tt ss st K)) s.heap s.heap [] := va_S.rf
  have hl := lv_entry ([.ref o, .int x]) (n := 2) (Nat.le_of_ble_eq_true rfl)
  rw [lg_entry_eq]
  generalize (lg_sl ([.ref o, .int x]) ++ List.replicate (2 - (lg_sl ([.ref o, .int x])).length) Slot.unset).toArray = ls at hl ⊢
  have hl : lv_has ls 2 [(0, .ref o), (1, .int x)] := hl
  refine lv_iload_n hx hb dX3_find_0 rfl (lv_at hl 1 rfl) ?_
  refine lv_iconst (v := 1) hx hb dX3_find_1 (by decide) ?_
  refine lv_icmp_lt (tgt := 33) hx hb dX3_find_2 (by decide) (fun c_2 => ?_) (fun c_2 => ?_)
  · refine lv_null hx hb dX3_find_33 ?_
    exact W.aret (v := .null) hx hb hr (Or.inl ⟨_, rfl⟩) (Or.inl rfl) (fun t ht hW => ⟨rfl, ht⟩) (fun q h => absurd h List.not_mem_nil) dX3_find_34
  · refine lv_iload_n hx hb dX3_find_5 rfl (lv_at hl 1 rfl) ?_
    refine lv_aload_n hx hb dX3_find_6 rfl (lv_at hl 0 rfl) ?_
    refine va_get (D := (dC, dI)) (ci := 4) (v := .int (nI n)) (C := RX3) (T := TX3) (N := 9) hx hb hts inn_X3_find_X3 hown hK hP 0 rfl rfl 2 (by decide) (hts (.fieldLink RX3 42 "DoorKeys" "keyCount" "I") (by decide +kernel)) (fun _ h9 => h9) rfl dX3_find_7 ?_
    refine lv_icmp_gt (tgt := 33) hx hb dX3_find_10 (by decide) (fun c_10 => ?_) (fun c_10 => (hk ⟨c_2, c_10⟩).elim)
    refine lv_null hx hb dX3_find_33 ?_
    exact W.aret (v := .null) hx hb hr (Or.inl ⟨_, rfl⟩) (Or.inl rfl) (fun t ht hW => ⟨rfl, ht⟩) (fun q h => absurd h List.not_mem_nil) dX3_find_34
def dk_within (x : Int64) (y : Int64) : Int32 :=
  if (lg_cmp x (-y)) < 0 then
    (0 : Int32)
  else
    if 0 < (lg_cmp x y) then
      (0 : Int32)
    else
      (1 : Int32)
def rm_X3_isWithin : Room := { frames := 0, cells := 0, slots := 0, locals := 0 }
set_option maxHeartbeats 4000000 in
set_option maxRecDepth 100000 in
theorem c_X3_isWithin (l : Launch) (dC : Nat → ClassId) (dI : Nat → Nat → Nat) (cK : ClassId) (cB : ClassId) (cI : ClassId) (o : Nat) (ks : Nat) (fa : Nat) (oa : Nat) (fb : Nat) (ob : Nat) (dr : Nat) (ds : Nat) (L : Nat → Nat) (n : Nat) (sp : Int32) (co : Nat) (en : Nat) (cr : Int32) (rl : Int32) (qs : Int32) (kA : Int32) (oA : Nat → Int8) (kB : Int32) (oB : Nat → Int8) (tt : Int64) (ss : Int64) (st : Nat → Int32) (K : Nat → KR) (x : Int64) (y : Int64) : Met l yX3_isWithin wsX3_isWithin rm_X3_isWithin (up_P (dC, dI) vwCl (dkT cK cB cI) (dkW cK cB cI o ks fa oa fb ob dr ds L n sp co en cr rl qs kA oA kB oB tt ss st K) [.long x, .long y]) (k2_QcV (.int (dk_within x y))) 0 0 (fun _ => False) := by
  refine Met.ofW (cc := cX3_isWithin) (maxL := 4) (ret := (some .boolean)) (by decide) rfl ?_
  intro p e s m args below meth c s₁ B hml hv
  obtain ⟨rfl, hP, hK, hD0⟩ := hv
  have hx := B.exec
  have hb := B.bytes
  have hr := B.returns
  have hts := atoms_spec (ws := wsX3_isWithin) B.pre
  have hown : s.vm.findClass RX3 = some m.cls := findClass_of_methodNamed B.named
  have hlocks := B.notSynchronized
  have hD := up_self hD0
  have hS : va_S (up_c (dkW cK cB cI o ks fa oa fb ob dr ds L n sp co en cr rl qs kA oA kB oB tt ss st K)) s.heap s.heap [] := va_S.rf
  have hl := lv_entry ([.long x, .long y]) (n := 4) (Nat.le_of_ble_eq_true rfl)
  rw [lg_entry_eq]
  generalize (lg_sl ([.long x, .long y]) ++ List.replicate (4 - (lg_sl ([.long x, .long y])).length) Slot.unset).toArray = ls at hl ⊢
  have hl : lv_has ls 4 [(0, .long x), (2, .long y)] := hl
  refine lv_lload_n hx hb dX3_isWithin_0 rfl (lv_at hl 0 rfl) ?_
  refine lv_lload_n hx hb dX3_isWithin_1 rfl (lv_at hl 1 rfl) ?_
  refine lv_lneg hx hb dX3_isWithin_2 ?_
  refine W.lcmp hx hb dX3_isWithin_3 ?_
  refine lv_if_lt (tgt := 17) hx hb dX3_isWithin_4 (by decide) (fun c_4 => ?_) (fun c_4 => ?_)
  · refine lv_iconst (v := 0) hx hb dX3_isWithin_17 (by decide) ?_
    have e_ : dk_within x y = (0 : Int32) := by unfold dk_within; exact (if_pos c_4).trans rfl
    rw [e_]
    exact W.zret (v := 0) hx hb hr (by decide) (fun t ht hW => ⟨rfl, ht⟩) (fun q h => absurd h List.not_mem_nil) dX3_isWithin_18
  · refine lv_lload_n hx hb dX3_isWithin_7 rfl (lv_at hl 0 rfl) ?_
    refine lv_lload_n hx hb dX3_isWithin_8 rfl (lv_at hl 1 rfl) ?_
    refine W.lcmp hx hb dX3_isWithin_9 ?_
    refine lv_if_gt (tgt := 17) hx hb dX3_isWithin_10 (by decide) (fun c_10 => ?_) (fun c_10 => ?_)
    · refine lv_iconst (v := 0) hx hb dX3_isWithin_17 (by decide) ?_
      have e_ : dk_within x y = (0 : Int32) := by unfold dk_within; exact (if_neg c_4).trans ((if_pos c_10).trans rfl)
      rw [e_]
      exact W.zret (v := 0) hx hb hr (by decide) (fun t ht hW => ⟨rfl, ht⟩) (fun q h => absurd h List.not_mem_nil) dX3_isWithin_18
    · refine lv_iconst (v := 1) hx hb dX3_isWithin_13 (by decide) ?_
      refine lv_goto (tgt := 18) hx hb dX3_isWithin_14 (by decide) ?_
      have e_ : dk_within x y = (1 : Int32) := by unfold dk_within; exact (if_neg c_4).trans ((if_neg c_10).trans rfl)
      rw [e_]
      exact W.zret (v := 1) hx hb hr (by decide) (fun t ht hW => ⟨rfl, ht⟩) (fun q h => absurd h List.not_mem_nil) dX3_isWithin_18
def dk_isSec_l (n : Nat) (K : Nat → KR) (x : Int64) : Nat → Nat → Int32
  | 0, _ =>
    (0 : Int32)
  | r + 1, j =>
    if (lg_cmp ((K (dk_fki (nI (j + 1)))).1) x) = 0 then
      (1 : Int32)
    else
      dk_isSec_l n K x r (j + 1)
def dk_isSec (n : Nat) (K : Nat → KR) (x : Int64) : Int32 :=
  dk_isSec_l n K x n 0
def rm_X3_isSecretOfAKey : Room := { frames := 1, cells := 0, slots := 0, locals := 21 }
set_option maxHeartbeats 4000000 in
set_option maxRecDepth 100000 in
theorem c_X3_isSecretOfAKey (l : Launch) (dC : Nat → ClassId) (dI : Nat → Nat → Nat) (cK : ClassId) (cB : ClassId) (cI : ClassId) (o : Nat) (ks : Nat) (fa : Nat) (oa : Nat) (fb : Nat) (ob : Nat) (dr : Nat) (ds : Nat) (L : Nat → Nat) (n : Nat) (sp : Int32) (co : Nat) (en : Nat) (cr : Int32) (rl : Int32) (qs : Int32) (kA : Int32) (oA : Nat → Int8) (kB : Int32) (oB : Nat → Int8) (tt : Int64) (ss : Int64) (st : Nat → Int32) (K : Nat → KR) (x : Int64) (hn : n ≤ 8) : Met l yX3_isSecretOfAKey wsX3_isSecretOfAKey rm_X3_isSecretOfAKey (up_P (dC, dI) vwCl (dkT cK cB cI) (dkW cK cB cI o ks fa oa fb ob dr ds L n sp co en cr rl qs kA oA kB oB tt ss st K) [.ref o, .long x]) (k2_QcV (.int (dk_isSec n K x))) 0 0 (fun _ => False) := by
  refine Met.ofW (cc := cX3_isSecretOfAKey) (maxL := 5) (ret := (some .boolean)) (by decide) rfl ?_
  intro p e s m args below meth c s₁ B hml hv
  obtain ⟨rfl, hP, hK, hD0⟩ := hv
  have hx := B.exec
  have hb := B.bytes
  have hr := B.returns
  have hts := atoms_spec (ws := wsX3_isSecretOfAKey) B.pre
  have hown : s.vm.findClass RX3 = some m.cls := findClass_of_methodNamed B.named
  have hlocks := B.notSynchronized
  have hD := up_self hD0
  have hS : va_S (up_c (dkW cK cB cI o ks fa oa fb ob dr ds L n sp co en cr rl qs kA oA kB oB tt ss st K)) s.heap s.heap [] := va_S.rf
  have hl := lv_entry ([.ref o, .long x]) (n := 5) (Nat.le_of_ble_eq_true rfl)
  rw [lg_entry_eq]
  generalize (lg_sl ([.ref o, .long x]) ++ List.replicate (5 - (lg_sl ([.ref o, .long x])).length) Slot.unset).toArray = ls at hl ⊢
  have hl : lv_has ls 5 [(0, .ref o), (1, .long x)] := hl
  refine lv_iconst (v := 1) hx hb dX3_isSecretOfAKey_0 (by decide) ?_
  refine lv_istore_n (lv' := [(3, .int 1), (0, .ref o), (1, .long x)]) hx hb dX3_isSecretOfAKey_1 rfl hl (by decide) rfl (fun ls hl => ?_)
  have lp : ∀ (r j : Nat)  , j + r = n → ∀ ls : Array Slot, lv_has ls 5 [(0, .ref o), (1, .long x), (3, .int (nI (j + 1)))] → W p l e (headSpec wsX3_isSecretOfAKey rm_X3_isSecretOfAKey).room s m ([.ref o, .long x] : List Value).toArray below meth c s.heap [] 0 0 (MQ below (k2_QcV (.int (dk_isSec_l n K x r j))) ([.ref o, .long x] : List Value).toArray s 0 0 (fun _ => False)) (F0 m 2 ls []) := by
    intro r
    induction r with
    | zero =>
      intro j hj ls hl
      refine lv_iload_n hx hb dX3_isSecretOfAKey_2 rfl (lv_at hl 2 rfl) ?_
      refine lv_aload_n hx hb dX3_isSecretOfAKey_3 rfl (lv_at hl 0 rfl) ?_
      refine va_get (D := (dC, dI)) (ci := 4) (v := .int (nI n)) (C := RX3) (T := TX3) (N := 9) hx hb hts inn_X3_isSecretOfAKey_X3 hown hK hP 0 rfl rfl 2 (by decide) (hts (.fieldLink RX3 42 "DoorKeys" "keyCount" "I") (by decide +kernel)) (fun _ h9 => h9) rfl dX3_isSecretOfAKey_4 ?_
      refine lv_icmp_gt (tgt := 40) hx hb dX3_isSecretOfAKey_7 (by decide) (fun c_7 => ?_) (fun c_7 => (c_7 (nI_lt (a := n) (b := (j + 1)) (by omega) (by omega))).elim)
      refine lv_iconst (v := 0) hx hb dX3_isSecretOfAKey_40 (by decide) ?_
      have e_ : dk_isSec_l n K x 0 j = (0 : Int32) := (dk_isSec_l.eq_1 ..).trans rfl
      rw [e_]
      exact W.zret (v := 0) hx hb hr (by decide) (fun t ht hW => ⟨rfl, ht⟩) (fun q h => absurd h List.not_mem_nil) dX3_isSecretOfAKey_41
    | succ r ih =>
      intro j hj ls hl
      refine lv_iload_n hx hb dX3_isSecretOfAKey_2 rfl (lv_at hl 2 rfl) ?_
      refine lv_aload_n hx hb dX3_isSecretOfAKey_3 rfl (lv_at hl 0 rfl) ?_
      refine va_get (D := (dC, dI)) (ci := 4) (v := .int (nI n)) (C := RX3) (T := TX3) (N := 9) hx hb hts inn_X3_isSecretOfAKey_X3 hown hK hP 0 rfl rfl 2 (by decide) (hts (.fieldLink RX3 42 "DoorKeys" "keyCount" "I") (by decide +kernel)) (fun _ h9 => h9) rfl dX3_isSecretOfAKey_4 ?_
      refine lv_icmp_gt (tgt := 40) hx hb dX3_isSecretOfAKey_7 (by decide) (fun c_7 => (nI_nlt (a := n) (b := (j + 1)) (by omega) (by omega) c_7).elim) (fun c_7 => ?_)
      refine lv_aload_n hx hb dX3_isSecretOfAKey_10 rfl (lv_at hl 0 rfl) ?_
      refine lv_iload_n hx hb dX3_isSecretOfAKey_11 rfl (lv_at hl 2 rfl) ?_
      have hk_12 : dk_fkP n (nI (j + 1)) := dk_fk_nI (by omega) hn
      have hi_12 : dk_fki (nI (j + 1)) < n := dk_fk_lt hn hk_12
      refine up_read (W.runV (As := [.int (nI (j + 1))]) (rest := []) ⟨hx, hb, hml, hown, hts⟩ (c_X3_findS l dC dI cK cB cI o ks fa oa fb ob dr ds L n sp co en cr rl qs kA oA kB oB tt ss st K (nI (j + 1)) hn hk_12) (cwV 1 hts gX3_isSecretOfAKey_X3_find rfl rfl rfl (by decide +kernel) ⟨Nat.le_of_ble_eq_true rfl, Nat.le_of_ble_eq_true rfl⟩) (up_preV (q0 := 0) (ci := 4) hP hK hD rfl rfl) rfl rfl hl.1 rfl (lv_room (Nat.le_of_ble_eq_true rfl)) dX3_isSecretOfAKey_12 ⟨Nat.le_of_ble_eq_true rfl, Nat.le_of_ble_eq_true rfl⟩) ?_
      refine lv_astore (lv' := [(4, .ref (L (dk_fki (nI (j + 1))))), (0, .ref o), (1, .long x), (3, .int (nI (j + 1)))]) hx hb dX3_isSecretOfAKey_15 hl (by decide) rfl (fun ls hl => ?_)
      refine lv_aload hx hb dX3_isSecretOfAKey_17 (lv_at hl 0 rfl) ?_
      refine lv_ifnull hx hb dX3_isSecretOfAKey_19 ?_
      refine lv_aload hx hb dX3_isSecretOfAKey_22 (lv_at hl 0 rfl) ?_
      refine va_get (D := (dC, dI)) (ci := 3) (v := .long ((K (dk_fki (nI (j + 1)))).1)) (C := RX2) (T := TX2) (N := 7) hx hb hts inn_X3_isSecretOfAKey_X2 hown hK hP ((dk_fki (nI (j + 1))) + 8) (dk_keyk hi_12 rfl) rfl 0 (by decide) (hts (.fieldLink RX3 165 "DoorKeys$Key" "secret" "J") (by decide +kernel)) (fun _ h9 => h9) rfl dX3_isSecretOfAKey_24 ?_
      refine lv_lload_n hx hb dX3_isSecretOfAKey_27 rfl (lv_at hl 2 rfl) ?_
      refine W.lcmp hx hb dX3_isSecretOfAKey_28 ?_
      refine lv_if_ne (tgt := 34) hx hb dX3_isSecretOfAKey_29 (by decide) (fun c_29 => ?_) (fun c_29 => ?_)
      · refine lv_iinc (v := (nI ((j + 1) + 1))) (lv' := [(3, .int (nI ((j + 1) + 1))), (4, .ref (L (dk_fki (nI (j + 1))))), (0, .ref o), (1, .long x)]) hx hb dX3_isSecretOfAKey_34 hl (k := 3) rfl (nI_1 _) (by decide) rfl (fun ls hl => ?_)
        refine lv_goto (tgt := 2) hx hb dX3_isSecretOfAKey_37 (by decide) ?_
        have e_ : dk_isSec_l n K x (r + 1) j = dk_isSec_l n K x r (j + 1) := (dk_isSec_l.eq_2 ..).trans ((if_neg c_29).trans rfl)
        rw [e_]
        exact ih (j + 1)  (by omega) ls (lv_sub hl [2, 3, 0] rfl)
      · refine lv_iconst (v := 1) hx hb dX3_isSecretOfAKey_32 (by decide) ?_
        have e_ : dk_isSec_l n K x (r + 1) j = (1 : Int32) := (dk_isSec_l.eq_2 ..).trans ((if_pos c_29).trans rfl)
        rw [e_]
        exact W.zret (v := 1) hx hb hr (by decide) (fun t ht hW => ⟨rfl, ht⟩) (fun q h => absurd h List.not_mem_nil) dX3_isSecretOfAKey_33
  have e_ : dk_isSec n K x = dk_isSec_l n K x n 0 := by unfold dk_isSec; exact rfl
  rw [e_]
  exact lp n 0 (by omega) ls (lv_sub hl [1, 2, 0] rfl)
def dk_lk_l (n : Nat) (K : Nat → KR) : Nat → Nat → Int32 → Int32
  | 0, _, ac =>
    ac
  | r + 1, j, ac =>
    if (K (dk_fki (nI (j + 1)))).2.2.2.1 = 0 then
      dk_lk_l n K r (j + 1) ac
    else
      dk_lk_l n K r (j + 1) (ac + 1)
def dk_lk (n : Nat) (K : Nat → KR) : Int32 :=
  dk_lk_l n K n 0 0
def rm_X3_learnedKeys : Room := { frames := 1, cells := 0, slots := 0, locals := 21 }
set_option maxHeartbeats 4000000 in
set_option maxRecDepth 100000 in
theorem c_X3_learnedKeys (l : Launch) (dC : Nat → ClassId) (dI : Nat → Nat → Nat) (cK : ClassId) (cB : ClassId) (cI : ClassId) (o : Nat) (ks : Nat) (fa : Nat) (oa : Nat) (fb : Nat) (ob : Nat) (dr : Nat) (ds : Nat) (L : Nat → Nat) (n : Nat) (sp : Int32) (co : Nat) (en : Nat) (cr : Int32) (rl : Int32) (qs : Int32) (kA : Int32) (oA : Nat → Int8) (kB : Int32) (oB : Nat → Int8) (tt : Int64) (ss : Int64) (st : Nat → Int32) (K : Nat → KR) (hn : n ≤ 8) : Met l yX3_learnedKeys wsX3_learnedKeys rm_X3_learnedKeys (up_P (dC, dI) vwCl (dkT cK cB cI) (dkW cK cB cI o ks fa oa fb ob dr ds L n sp co en cr rl qs kA oA kB oB tt ss st K) [.ref o]) (k2_QcV (.int (dk_lk n K))) 0 0 (fun _ => False) := by
  refine Met.ofW (cc := cX3_learnedKeys) (maxL := 4) (ret := (some .int)) (by decide) rfl ?_
  intro p e s m args below meth c s₁ B hml hv
  obtain ⟨rfl, hP, hK, hD0⟩ := hv
  have hx := B.exec
  have hb := B.bytes
  have hr := B.returns
  have hts := atoms_spec (ws := wsX3_learnedKeys) B.pre
  have hown : s.vm.findClass RX3 = some m.cls := findClass_of_methodNamed B.named
  have hlocks := B.notSynchronized
  have hD := up_self hD0
  have hS : va_S (up_c (dkW cK cB cI o ks fa oa fb ob dr ds L n sp co en cr rl qs kA oA kB oB tt ss st K)) s.heap s.heap [] := va_S.rf
  have hl := lv_entry ([.ref o]) (n := 4) (Nat.le_of_ble_eq_true rfl)
  rw [lg_entry_eq]
  generalize (lg_sl ([.ref o]) ++ List.replicate (4 - (lg_sl ([.ref o])).length) Slot.unset).toArray = ls at hl ⊢
  have hl : lv_has ls 4 [(0, .ref o)] := hl
  refine lv_iconst (v := 0) hx hb dX3_learnedKeys_0 (by decide) ?_
  refine lv_istore_n (lv' := [(1, .int 0), (0, .ref o)]) hx hb dX3_learnedKeys_1 rfl hl (by decide) rfl (fun ls hl => ?_)
  refine lv_iconst (v := 1) hx hb dX3_learnedKeys_2 (by decide) ?_
  refine lv_istore_n (lv' := [(2, .int 1), (1, .int 0), (0, .ref o)]) hx hb dX3_learnedKeys_3 rfl hl (by decide) rfl (fun ls hl => ?_)
  have lp : ∀ (r j : Nat) (ac : Int32) , j + r = n → ∀ ls : Array Slot, lv_has ls 4 [(0, .ref o), (2, .int (nI (j + 1))), (1, .int ac)] → W p l e (headSpec wsX3_learnedKeys rm_X3_learnedKeys).room s m ([.ref o] : List Value).toArray below meth c s.heap [] 0 0 (MQ below (k2_QcV (.int (dk_lk_l n K r j ac))) ([.ref o] : List Value).toArray s 0 0 (fun _ => False)) (F0 m 4 ls []) := by
    intro r
    induction r with
    | zero =>
      intro j ac hj ls hl
      refine lv_iload_n hx hb dX3_learnedKeys_4 rfl (lv_at hl 1 rfl) ?_
      refine lv_aload_n hx hb dX3_learnedKeys_5 rfl (lv_at hl 0 rfl) ?_
      refine va_get (D := (dC, dI)) (ci := 4) (v := .int (nI n)) (C := RX3) (T := TX3) (N := 9) hx hb hts inn_X3_learnedKeys_X3 hown hK hP 0 rfl rfl 2 (by decide) (hts (.fieldLink RX3 42 "DoorKeys" "keyCount" "I") (by decide +kernel)) (fun _ h9 => h9) rfl dX3_learnedKeys_6 ?_
      refine lv_icmp_gt (tgt := 38) hx hb dX3_learnedKeys_9 (by decide) (fun c_9 => ?_) (fun c_9 => (c_9 (nI_lt (a := n) (b := (j + 1)) (by omega) (by omega))).elim)
      refine lv_iload_n hx hb dX3_learnedKeys_38 rfl (lv_at hl 2 rfl) ?_
      have e_ : dk_lk_l n K 0 j ac = ac := (dk_lk_l.eq_1 ..).trans rfl
      rw [e_]
      exact W.iret (v := ac) hx hb hr (fun t ht hW => ⟨rfl, ht⟩) (fun q h => absurd h List.not_mem_nil) dX3_learnedKeys_39
    | succ r ih =>
      intro j ac hj ls hl
      refine lv_iload_n hx hb dX3_learnedKeys_4 rfl (lv_at hl 1 rfl) ?_
      refine lv_aload_n hx hb dX3_learnedKeys_5 rfl (lv_at hl 0 rfl) ?_
      refine va_get (D := (dC, dI)) (ci := 4) (v := .int (nI n)) (C := RX3) (T := TX3) (N := 9) hx hb hts inn_X3_learnedKeys_X3 hown hK hP 0 rfl rfl 2 (by decide) (hts (.fieldLink RX3 42 "DoorKeys" "keyCount" "I") (by decide +kernel)) (fun _ h9 => h9) rfl dX3_learnedKeys_6 ?_
      refine lv_icmp_gt (tgt := 38) hx hb dX3_learnedKeys_9 (by decide) (fun c_9 => (nI_nlt (a := n) (b := (j + 1)) (by omega) (by omega) c_9).elim) (fun c_9 => ?_)
      refine lv_aload_n hx hb dX3_learnedKeys_12 rfl (lv_at hl 0 rfl) ?_
      refine lv_iload_n hx hb dX3_learnedKeys_13 rfl (lv_at hl 1 rfl) ?_
      have hk_14 : dk_fkP n (nI (j + 1)) := dk_fk_nI (by omega) hn
      have hi_14 : dk_fki (nI (j + 1)) < n := dk_fk_lt hn hk_14
      refine up_read (W.runV (As := [.int (nI (j + 1))]) (rest := []) ⟨hx, hb, hml, hown, hts⟩ (c_X3_findS l dC dI cK cB cI o ks fa oa fb ob dr ds L n sp co en cr rl qs kA oA kB oB tt ss st K (nI (j + 1)) hn hk_14) (cwV 1 hts gX3_learnedKeys_X3_find rfl rfl rfl (by decide +kernel) ⟨Nat.le_of_ble_eq_true rfl, Nat.le_of_ble_eq_true rfl⟩) (up_preV (q0 := 0) (ci := 4) hP hK hD rfl rfl) rfl rfl hl.1 rfl (lv_room (Nat.le_of_ble_eq_true rfl)) dX3_learnedKeys_14 ⟨Nat.le_of_ble_eq_true rfl, Nat.le_of_ble_eq_true rfl⟩) ?_
      refine lv_astore_n (lv' := [(3, .ref (L (dk_fki (nI (j + 1))))), (0, .ref o), (2, .int (nI (j + 1))), (1, .int ac)]) hx hb dX3_learnedKeys_17 rfl hl (by decide) rfl (fun ls hl => ?_)
      refine lv_aload_n hx hb dX3_learnedKeys_18 rfl (lv_at hl 0 rfl) ?_
      refine lv_ifnull hx hb dX3_learnedKeys_19 ?_
      refine lv_aload_n hx hb dX3_learnedKeys_22 rfl (lv_at hl 0 rfl) ?_
      refine va_get (D := (dC, dI)) (ci := 3) (v := .int ((K (dk_fki (nI (j + 1)))).2.2.2.1)) (C := RX2) (T := TX2) (N := 7) hx hb hts inn_X3_learnedKeys_X2 hown hK hP ((dk_fki (nI (j + 1))) + 8) (dk_keyk hi_14 rfl) rfl 3 (by decide) (hts (.fieldLink RX3 89 "DoorKeys$Key" "learned" "Z") (by decide +kernel)) (fun _ h9 => h9) rfl dX3_learnedKeys_23 ?_
      refine lv_if_eq (tgt := 32) hx hb dX3_learnedKeys_26 (by decide) (fun c_26 => ?_) (fun c_26 => ?_)
      · refine lv_iinc (v := (nI ((j + 1) + 1))) (lv' := [(2, .int (nI ((j + 1) + 1))), (3, .ref (L (dk_fki (nI (j + 1))))), (0, .ref o), (1, .int ac)]) hx hb dX3_learnedKeys_32 hl (k := 2) rfl (nI_1 _) (by decide) rfl (fun ls hl => ?_)
        refine lv_goto (tgt := 4) hx hb dX3_learnedKeys_35 (by decide) ?_
        have e_ : dk_lk_l n K (r + 1) j ac = dk_lk_l n K r (j + 1) ac := (dk_lk_l.eq_2 ..).trans ((if_pos c_26).trans rfl)
        rw [e_]
        exact ih (j + 1) ac (by omega) ls (lv_sub hl [2, 0, 3] rfl)
      · refine lv_iinc (v := (ac + 1)) (lv' := [(1, .int (ac + 1)), (3, .ref (L (dk_fki (nI (j + 1))))), (0, .ref o), (2, .int (nI (j + 1)))]) hx hb dX3_learnedKeys_29 hl (k := 3) rfl (by rfl) (by decide) rfl (fun ls hl => ?_)
        refine lv_iinc (v := (nI ((j + 1) + 1))) (lv' := [(2, .int (nI ((j + 1) + 1))), (1, .int (ac + 1)), (3, .ref (L (dk_fki (nI (j + 1))))), (0, .ref o)]) hx hb dX3_learnedKeys_32 hl (k := 3) rfl (nI_1 _) (by decide) rfl (fun ls hl => ?_)
        refine lv_goto (tgt := 4) hx hb dX3_learnedKeys_35 (by decide) ?_
        have e_ : dk_lk_l n K (r + 1) j ac = dk_lk_l n K r (j + 1) (ac + 1) := (dk_lk_l.eq_2 ..).trans ((if_neg c_26).trans rfl)
        rw [e_]
        exact ih (j + 1) (ac + 1) (by omega) ls (lv_sub hl [3, 0, 1] rfl)
  have e_ : dk_lk n K = dk_lk_l n K n 0 0 := by unfold dk_lk; exact rfl
  rw [e_]
  exact lp n 0 0 (by omega) ls (lv_sub hl [2, 0, 1] rfl)
def dk_obey (cr : Int32) (st : Nat → Int32) (tt : Int64) (ss : Int64) (x : Int32) : (Nat → Int32) × Int64 :=
  if x = 0 then
    ((dk_openAll st).2, ss)
  else
    if x = 2 then
      ((dk_boot st), ss)
    else
      if cr = 0 then
        if x = 1 then
          ((dk_shutAll st tt ss).2.1, (dk_shutAll st tt ss).2.2)
        else
          if x = 3 then
            ((dk_deaden st).2, ss)
          else
            (st, ss)
      else
        (st, ss)
def rm_X3_obey : Room := { frames := 3, cells := 0, slots := 0, locals := 64 }
set_option maxHeartbeats 4000000 in
set_option maxRecDepth 100000 in
theorem c_X3_obey (l : Launch) (dC : Nat → ClassId) (dI : Nat → Nat → Nat) (cK : ClassId) (cB : ClassId) (cI : ClassId) (o : Nat) (ks : Nat) (fa : Nat) (oa : Nat) (fb : Nat) (ob : Nat) (dr : Nat) (ds : Nat) (L : Nat → Nat) (n : Nat) (sp : Int32) (co : Nat) (en : Nat) (cr : Int32) (rl : Int32) (qs : Int32) (kA : Int32) (oA : Nat → Int8) (kB : Int32) (oB : Nat → Int8) (tt : Int64) (ss : Int64) (st : Nat → Int32) (K : Nat → KR) (x : Int32) : Met l yX3_obey wsX3_obey rm_X3_obey (up_P (dC, dI) vwCl (dkT cK cB cI) (dkW cK cB cI o ks fa oa fb ob dr ds L n sp co en cr rl qs kA oA kB oB tt ss st K) [.ref o, .int x]) (up_Q (dC, dI) vwCl none (dkW cK cB cI o ks fa oa fb ob dr ds L n sp co en cr rl qs kA oA kB oB tt ss st K) (dkW cK cB cI o ks fa oa fb ob dr ds L n sp co en cr rl qs kA oA kB oB tt ((dk_obey cr st tt ss x).2) ((dk_obey cr st tt ss x).1) K)) 0 0 (up_c (dkW cK cB cI o ks fa oa fb ob dr ds L n sp co en cr rl qs kA oA kB oB tt ss st K)) := by
  refine Met.ofW (cc := cX3_obey) (maxL := 2) (ret := none) (by decide) rfl ?_
  intro p e s m args below meth c s₁ B hml hv
  obtain ⟨rfl, hP, hK, hD0⟩ := hv
  have hx := B.exec
  have hb := B.bytes
  have hr := B.returns
  have hts := atoms_spec (ws := wsX3_obey) B.pre
  have hown : s.vm.findClass RX3 = some m.cls := findClass_of_methodNamed B.named
  have hlocks := B.notSynchronized
  have hD := up_self hD0
  have hS : va_S (up_c (dkW cK cB cI o ks fa oa fb ob dr ds L n sp co en cr rl qs kA oA kB oB tt ss st K)) s.heap s.heap [] := va_S.rf
  have hl := lv_entry ([.ref o, .int x]) (n := 2) (Nat.le_of_ble_eq_true rfl)
  rw [lg_entry_eq]
  generalize (lg_sl ([.ref o, .int x]) ++ List.replicate (2 - (lg_sl ([.ref o, .int x])).length) Slot.unset).toArray = ls at hl ⊢
  have hl : lv_has ls 2 [(0, .ref o), (1, .int x)] := hl
  refine lv_iload_n hx hb dX3_obey_0 rfl (lv_at hl 1 rfl) ?_
  refine lv_if_ne (tgt := 15) hx hb dX3_obey_1 (by decide) (fun c_1 => ?_) (fun c_1 => ?_)
  · refine lv_iload_n hx hb dX3_obey_15 rfl (lv_at hl 1 rfl) ?_
    refine lv_iconst (v := 2) hx hb dX3_obey_16 (by decide) ?_
    refine lv_icmp_ne (tgt := 30) hx hb dX3_obey_17 (by decide) (fun c_17 => ?_) (fun c_17 => ?_)
    · refine lv_aload_n hx hb dX3_obey_30 rfl (lv_at hl 0 rfl) ?_
      refine va_get (D := (dC, dI)) (ci := 4) (v := .int cr) (C := RX3) (T := TX3) (N := 9) hx hb hts inn_X3_obey_X3 hown hK hP 0 rfl rfl 6 (by decide) (hts (.fieldLink RX3 76 "DoorKeys" "crashed" "Z") (by decide +kernel)) (fun _ h9 => h9) rfl dX3_obey_31 ?_
      refine lv_if_ne (tgt := 53) hx hb dX3_obey_34 (by decide) (fun c_34 => ?_) (fun c_34 => ?_)
      · refine lv_aload_n hx hb dX3_obey_53 rfl (lv_at hl 0 rfl) ?_
        refine va_get (D := (dC, dI)) (ci := 4) (v := .int cr) (C := RX3) (T := TX3) (N := 9) hx hb hts inn_X3_obey_X3 hown hK hP 0 rfl rfl 6 (by decide) (hts (.fieldLink RX3 76 "DoorKeys" "crashed" "Z") (by decide +kernel)) (fun _ h9 => h9) rfl dX3_obey_54 ?_
        refine lv_if_ne (tgt := 73) hx hb dX3_obey_57 (by decide) (fun c_57 => ?_) (fun c_57 => absurd c_57 c_34)
        have e_ : dk_obey cr st tt ss x = (st, ss) := by unfold dk_obey; exact (if_neg c_1).trans ((if_neg c_17).trans ((if_neg c_34).trans rfl))
        rw [e_]
        exact W.vret hx hb hr (fun t ht hW => ⟨rfl, by rw [ht]; exact hP, hS.F ht⟩) hS.2.2 dX3_obey_73
      · refine lv_iload_n hx hb dX3_obey_37 rfl (lv_at hl 1 rfl) ?_
        refine lv_iconst (v := 1) hx hb dX3_obey_38 (by decide) ?_
        refine lv_icmp_ne (tgt := 53) hx hb dX3_obey_39 (by decide) (fun c_39 => ?_) (fun c_39 => ?_)
        · refine lv_aload_n hx hb dX3_obey_53 rfl (lv_at hl 0 rfl) ?_
          refine va_get (D := (dC, dI)) (ci := 4) (v := .int cr) (C := RX3) (T := TX3) (N := 9) hx hb hts inn_X3_obey_X3 hown hK hP 0 rfl rfl 6 (by decide) (hts (.fieldLink RX3 76 "DoorKeys" "crashed" "Z") (by decide +kernel)) (fun _ h9 => h9) rfl dX3_obey_54 ?_
          refine lv_if_ne (tgt := 73) hx hb dX3_obey_57 (by decide) (fun c_57 => absurd c_34 c_57) (fun c_57 => ?_)
          refine lv_iload_n hx hb dX3_obey_60 rfl (lv_at hl 1 rfl) ?_
          refine lv_iconst (v := 3) hx hb dX3_obey_61 (by decide) ?_
          refine lv_icmp_ne (tgt := 73) hx hb dX3_obey_62 (by decide) (fun c_62 => ?_) (fun c_62 => ?_)
          · have e_ : dk_obey cr st tt ss x = (st, ss) := by unfold dk_obey; exact (if_neg c_1).trans ((if_neg c_17).trans ((if_pos c_34).trans ((if_neg c_39).trans ((if_neg c_62).trans rfl))))
            rw [e_]
            exact W.vret hx hb hr (fun t ht hW => ⟨rfl, by rw [ht]; exact hP, hS.F ht⟩) hS.2.2 dX3_obey_73
          · refine lv_aload_n hx hb dX3_obey_65 rfl (lv_at hl 0 rfl) ?_
            refine va_get (D := (dC, dI)) (ci := 4) (v := .ref dr) (C := RX3) (T := TX3) (N := 9) hx hb hts inn_X3_obey_X3 hown hK hP 0 rfl rfl 5 (by decide) (hts (.fieldLink RX3 32 "DoorKeys" "doors" "LDoorKeys$Doors;") (by decide +kernel)) (fun _ h9 => h9) rfl dX3_obey_66 ?_
            refine up_call (W.runV (As := []) (rest := []) ⟨hx, hb, hml, hown, hts⟩ (c_X0_deadenUnlessOpen l dC dI cK cB cI o ks fa oa fb ob dr ds L n sp co en cr rl qs kA oA kB oB tt ss st K) (cwV 0 hts gX3_obey_X0_deadenUnlessOpen rfl rfl rfl (by decide +kernel) ⟨Nat.le_of_ble_eq_true rfl, Nat.le_of_ble_eq_true rfl⟩) (up_preV (q0 := 6) (ci := 1) hP hK hD rfl rfl) rfl rfl hl.1 rfl (lv_room (Nat.le_of_ble_eq_true rfl)) dX3_obey_69 ⟨Nat.le_of_ble_eq_true rfl, Nat.le_of_ble_eq_true rfl⟩) hD hS ((dk_fst ..).trans (dk_fst ..).symm) (fun H locs hP hD hS _ _ => ?_)
            have hP : va_P (dC, dI) vwCl (dkW cK cB cI o ks fa oa fb ob dr ds L n sp co en cr rl qs kA oA kB oB tt ss ((dk_deaden st).2) K) H := hP
            have hD : va_D (up_c (dkW cK cB cI o ks fa oa fb ob dr ds L n sp co en cr rl qs kA oA kB oB tt ss st K)) (dkW cK cB cI o ks fa oa fb ob dr ds L n sp co en cr rl qs kA oA kB oB tt ss ((dk_deaden st).2) K) := hD
            refine lv_pop hx hb dX3_obey_72 rfl ?_
            have e_ : dk_obey cr st tt ss x = ((dk_deaden st).2, ss) := by unfold dk_obey; exact (if_neg c_1).trans ((if_neg c_17).trans ((if_pos c_34).trans ((if_neg c_39).trans ((if_pos c_62).trans rfl))))
            rw [e_]
            exact W.vret hx hb hr (fun t ht hW => ⟨rfl, by rw [ht]; exact hP, hS.F ht⟩) hS.2.2 dX3_obey_73
        · refine lv_aload_n hx hb dX3_obey_42 rfl (lv_at hl 0 rfl) ?_
          refine va_get (D := (dC, dI)) (ci := 4) (v := .ref dr) (C := RX3) (T := TX3) (N := 9) hx hb hts inn_X3_obey_X3 hown hK hP 0 rfl rfl 5 (by decide) (hts (.fieldLink RX3 32 "DoorKeys" "doors" "LDoorKeys$Doors;") (by decide +kernel)) (fun _ h9 => h9) rfl dX3_obey_43 ?_
          refine up_call (W.runV (As := []) (rest := []) ⟨hx, hb, hml, hown, hts⟩ (c_X0_shutAll l dC dI cK cB cI o ks fa oa fb ob dr ds L n sp co en cr rl qs kA oA kB oB tt ss st K) (cwV 0 hts gX3_obey_X0_shutAll rfl rfl rfl (by decide +kernel) ⟨Nat.le_of_ble_eq_true rfl, Nat.le_of_ble_eq_true rfl⟩) (up_preV (q0 := 6) (ci := 1) hP hK hD rfl rfl) rfl rfl hl.1 rfl (lv_room (Nat.le_of_ble_eq_true rfl)) dX3_obey_46 ⟨Nat.le_of_ble_eq_true rfl, Nat.le_of_ble_eq_true rfl⟩) hD hS ((dk_fst ..).trans (dk_fst ..).symm) (fun H locs hP hD hS _ _ => ?_)
          have hP : va_P (dC, dI) vwCl (dkW cK cB cI o ks fa oa fb ob dr ds L n sp co en cr rl qs kA oA kB oB tt ((dk_shutAll st tt ss).2.2) ((dk_shutAll st tt ss).2.1) K) H := hP
          have hD : va_D (up_c (dkW cK cB cI o ks fa oa fb ob dr ds L n sp co en cr rl qs kA oA kB oB tt ss st K)) (dkW cK cB cI o ks fa oa fb ob dr ds L n sp co en cr rl qs kA oA kB oB tt ((dk_shutAll st tt ss).2.2) ((dk_shutAll st tt ss).2.1) K) := hD
          refine lv_pop hx hb dX3_obey_49 rfl ?_
          refine lv_goto (tgt := 73) hx hb dX3_obey_50 (by decide) ?_
          have e_ : dk_obey cr st tt ss x = ((dk_shutAll st tt ss).2.1, (dk_shutAll st tt ss).2.2) := by unfold dk_obey; exact (if_neg c_1).trans ((if_neg c_17).trans ((if_pos c_34).trans ((if_pos c_39).trans rfl)))
          rw [e_]
          exact W.vret hx hb hr (fun t ht hW => ⟨rfl, by rw [ht]; exact hP, hS.F ht⟩) hS.2.2 dX3_obey_73
    · refine lv_aload_n hx hb dX3_obey_20 rfl (lv_at hl 0 rfl) ?_
      refine va_get (D := (dC, dI)) (ci := 4) (v := .ref dr) (C := RX3) (T := TX3) (N := 9) hx hb hts inn_X3_obey_X3 hown hK hP 0 rfl rfl 5 (by decide) (hts (.fieldLink RX3 32 "DoorKeys" "doors" "LDoorKeys$Doors;") (by decide +kernel)) (fun _ h9 => h9) rfl dX3_obey_21 ?_
      refine up_call (W.runV (As := []) (rest := []) ⟨hx, hb, hml, hown, hts⟩ (c_X0_openBootUnlessDead l dC dI cK cB cI o ks fa oa fb ob dr ds L n sp co en cr rl qs kA oA kB oB tt ss st K) (cwV 0 hts gX3_obey_X0_openBootUnlessDead rfl rfl rfl (by decide +kernel) ⟨Nat.le_of_ble_eq_true rfl, Nat.le_of_ble_eq_true rfl⟩) (up_preV (q0 := 6) (ci := 1) hP hK hD rfl rfl) rfl rfl hl.1 rfl (lv_room (Nat.le_of_ble_eq_true rfl)) dX3_obey_24 ⟨Nat.le_of_ble_eq_true rfl, Nat.le_of_ble_eq_true rfl⟩) hD hS ((dk_fst ..).trans (dk_fst ..).symm) (fun H locs hP hD hS _ _ => ?_)
      have hP : va_P (dC, dI) vwCl (dkW cK cB cI o ks fa oa fb ob dr ds L n sp co en cr rl qs kA oA kB oB tt ss (dk_boot st) K) H := hP
      have hD : va_D (up_c (dkW cK cB cI o ks fa oa fb ob dr ds L n sp co en cr rl qs kA oA kB oB tt ss st K)) (dkW cK cB cI o ks fa oa fb ob dr ds L n sp co en cr rl qs kA oA kB oB tt ss (dk_boot st) K) := hD
      refine lv_goto (tgt := 73) hx hb dX3_obey_27 (by decide) ?_
      have e_ : dk_obey cr st tt ss x = ((dk_boot st), ss) := by unfold dk_obey; exact (if_neg c_1).trans ((if_pos c_17).trans rfl)
      rw [e_]
      exact W.vret hx hb hr (fun t ht hW => ⟨rfl, by rw [ht]; exact hP, hS.F ht⟩) hS.2.2 dX3_obey_73
  · refine lv_aload_n hx hb dX3_obey_4 rfl (lv_at hl 0 rfl) ?_
    refine va_get (D := (dC, dI)) (ci := 4) (v := .ref dr) (C := RX3) (T := TX3) (N := 9) hx hb hts inn_X3_obey_X3 hown hK hP 0 rfl rfl 5 (by decide) (hts (.fieldLink RX3 32 "DoorKeys" "doors" "LDoorKeys$Doors;") (by decide +kernel)) (fun _ h9 => h9) rfl dX3_obey_5 ?_
    refine up_call (W.runV (As := []) (rest := []) ⟨hx, hb, hml, hown, hts⟩ (c_X0_openAll l dC dI cK cB cI o ks fa oa fb ob dr ds L n sp co en cr rl qs kA oA kB oB tt ss st K) (cwV 0 hts gX3_obey_X0_openAll rfl rfl rfl (by decide +kernel) ⟨Nat.le_of_ble_eq_true rfl, Nat.le_of_ble_eq_true rfl⟩) (up_preV (q0 := 6) (ci := 1) hP hK hD rfl rfl) rfl rfl hl.1 rfl (lv_room (Nat.le_of_ble_eq_true rfl)) dX3_obey_8 ⟨Nat.le_of_ble_eq_true rfl, Nat.le_of_ble_eq_true rfl⟩) hD hS ((dk_fst ..).trans (dk_fst ..).symm) (fun H locs hP hD hS _ _ => ?_)
    have hP : va_P (dC, dI) vwCl (dkW cK cB cI o ks fa oa fb ob dr ds L n sp co en cr rl qs kA oA kB oB tt ss ((dk_openAll st).2) K) H := hP
    have hD : va_D (up_c (dkW cK cB cI o ks fa oa fb ob dr ds L n sp co en cr rl qs kA oA kB oB tt ss st K)) (dkW cK cB cI o ks fa oa fb ob dr ds L n sp co en cr rl qs kA oA kB oB tt ss ((dk_openAll st).2) K) := hD
    refine lv_pop hx hb dX3_obey_11 rfl ?_
    refine lv_goto (tgt := 73) hx hb dX3_obey_12 (by decide) ?_
    have e_ : dk_obey cr st tt ss x = ((dk_openAll st).2, ss) := by unfold dk_obey; exact (if_pos c_1).trans rfl
    rw [e_]
    exact W.vret hx hb hr (fun t ht hW => ⟨rfl, by rw [ht]; exact hP, hS.F ht⟩) hS.2.2 dX3_obey_73
def dk_judge (n : Nat) (sp : Int32) (cr : Int32) (kB : Int32) (oB : Nat → Int8) (tt : Int64) (ss : Int64) (st : Nat → Int32) (K : Nat → KR) : Int32 × (Nat → KR) × (Nat → Int32) × Int64 :=
  if dk_sound kB oB = 0 then
    ((0 : Int32), K, st, ss)
  else
    if dk_command kB oB ≤ 3 then
      if dk_fkP n (dk_sender kB oB) then
        if (K (dk_fki (dk_sender kB oB))).2.2.2.1 = 0 then
          ((0 : Int32), K, st, ss)
        else
          if (lg_cmp (((dk_dec (K (dk_fki (dk_sender kB oB))) (dk_code kB oB)).toUInt64 >>> ((16 : Int32).toInt64.toUInt64 &&& Int64.toUInt64 63)).toInt64) ((dk_sign (K (dk_fki (dk_sender kB oB)))).toInt64)) = 0 then
            if (dk_roll (K (dk_fki (dk_sender kB oB))) ((dk_dec (K (dk_fki (dk_sender kB oB))) (dk_code kB oB)).toInt32 &&& 65535) sp).1 = 1 then
              ((dk_roll (K (dk_fki (dk_sender kB oB))) ((dk_dec (K (dk_fki (dk_sender kB oB))) (dk_code kB oB)).toInt32 &&& 65535) sp).1, (va_up K (dk_fki (dk_sender kB oB)) (((dk_roll (K (dk_fki (dk_sender kB oB))) ((dk_dec (K (dk_fki (dk_sender kB oB))) (dk_code kB oB)).toInt32 &&& 65535) sp).2).1, ((dk_roll (K (dk_fki (dk_sender kB oB))) ((dk_dec (K (dk_fki (dk_sender kB oB))) (dk_code kB oB)).toInt32 &&& 65535) sp).2).2.1, ((dk_roll (K (dk_fki (dk_sender kB oB))) ((dk_dec (K (dk_fki (dk_sender kB oB))) (dk_code kB oB)).toInt32 &&& 65535) sp).2).2.2.1, ((dk_roll (K (dk_fki (dk_sender kB oB))) ((dk_dec (K (dk_fki (dk_sender kB oB))) (dk_code kB oB)).toInt32 &&& 65535) sp).2).2.2.2.1, ((dk_roll (K (dk_fki (dk_sender kB oB))) ((dk_dec (K (dk_fki (dk_sender kB oB))) (dk_code kB oB)).toInt32 &&& 65535) sp).2).2.2.2.2.1, ((dk_roll (K (dk_fki (dk_sender kB oB))) ((dk_dec (K (dk_fki (dk_sender kB oB))) (dk_code kB oB)).toInt32 &&& 65535) sp).2).2.2.2.2.2.1, (dk_flags kB oB &&& 1))), (dk_obey cr st tt ss (dk_command kB oB)).1, (dk_obey cr st tt ss (dk_command kB oB)).2)
            else
              ((dk_roll (K (dk_fki (dk_sender kB oB))) ((dk_dec (K (dk_fki (dk_sender kB oB))) (dk_code kB oB)).toInt32 &&& 65535) sp).1, (va_up K (dk_fki (dk_sender kB oB)) ((dk_roll (K (dk_fki (dk_sender kB oB))) ((dk_dec (K (dk_fki (dk_sender kB oB))) (dk_code kB oB)).toInt32 &&& 65535) sp).2)), st, ss)
          else
            ((0 : Int32), K, st, ss)
      else
        ((0 : Int32), K, st, ss)
    else
      ((0 : Int32), K, st, ss)
def rm_X3_judge : Room := { frames := 4, cells := 0, slots := 0, locals := 85 }
set_option maxHeartbeats 4000000 in
set_option maxRecDepth 100000 in
theorem c_X3_judge (l : Launch) (dC : Nat → ClassId) (dI : Nat → Nat → Nat) (cK : ClassId) (cB : ClassId) (cI : ClassId) (o : Nat) (ks : Nat) (fa : Nat) (oa : Nat) (fb : Nat) (ob : Nat) (dr : Nat) (ds : Nat) (L : Nat → Nat) (n : Nat) (sp : Int32) (co : Nat) (en : Nat) (cr : Int32) (rl : Int32) (qs : Int32) (kA : Int32) (oA : Nat → Int8) (kB : Int32) (oB : Nat → Int8) (tt : Int64) (ss : Int64) (st : Nat → Int32) (K : Nat → KR) (hn : n ≤ 8) : Met l yX3_judge wsX3_judge rm_X3_judge (up_P (dC, dI) vwCl (dkT cK cB cI) (dkW cK cB cI o ks fa oa fb ob dr ds L n sp co en cr rl qs kA oA kB oB tt ss st K) [.ref o, .ref fb]) (up_Q (dC, dI) vwCl (some (.int ((dk_judge n sp cr kB oB tt ss st K).1))) (dkW cK cB cI o ks fa oa fb ob dr ds L n sp co en cr rl qs kA oA kB oB tt ss st K) (dkW cK cB cI o ks fa oa fb ob dr ds L n sp co en cr rl qs kA oA kB oB tt ((dk_judge n sp cr kB oB tt ss st K).2.2.2) ((dk_judge n sp cr kB oB tt ss st K).2.2.1) ((dk_judge n sp cr kB oB tt ss st K).2.1))) 0 0 (up_c (dkW cK cB cI o ks fa oa fb ob dr ds L n sp co en cr rl qs kA oA kB oB tt ss st K)) := by
  refine Met.ofW (cc := cX3_judge) (maxL := 6) (ret := (some .int)) (by decide) rfl ?_
  intro p e s m args below meth c s₁ B hml hv
  obtain ⟨rfl, hP, hK, hD0⟩ := hv
  have hx := B.exec
  have hb := B.bytes
  have hr := B.returns
  have hts := atoms_spec (ws := wsX3_judge) B.pre
  have hown : s.vm.findClass RX3 = some m.cls := findClass_of_methodNamed B.named
  have hlocks := B.notSynchronized
  have hD := up_self hD0
  have hS : va_S (up_c (dkW cK cB cI o ks fa oa fb ob dr ds L n sp co en cr rl qs kA oA kB oB tt ss st K)) s.heap s.heap [] := va_S.rf
  have hl := lv_entry ([.ref o, .ref fb]) (n := 6) (Nat.le_of_ble_eq_true rfl)
  rw [lg_entry_eq]
  generalize (lg_sl ([.ref o, .ref fb]) ++ List.replicate (6 - (lg_sl ([.ref o, .ref fb])).length) Slot.unset).toArray = ls at hl ⊢
  have hl : lv_has ls 6 [(0, .ref o), (1, .ref fb)] := hl
  refine lv_aload_n hx hb dX3_judge_0 rfl (lv_at hl 1 rfl) ?_
  refine up_read (W.runV (As := []) (rest := []) ⟨hx, hb, hml, hown, hts⟩ (c_X1_isSound l dC dI cK cB cI o ks fa oa fb ob dr ds L n sp co en cr rl qs kA oA kB oB tt ss st K) (cwV 0 hts gX3_judge_X1_isSound rfl rfl rfl (by decide +kernel) ⟨Nat.le_of_ble_eq_true rfl, Nat.le_of_ble_eq_true rfl⟩) (up_preV (q0 := 4) (ci := 2) hP hK hD rfl rfl) rfl rfl hl.1 rfl (lv_room (Nat.le_of_ble_eq_true rfl)) dX3_judge_1 ⟨Nat.le_of_ble_eq_true rfl, Nat.le_of_ble_eq_true rfl⟩) ?_
  refine lv_if_eq (tgt := 15) hx hb dX3_judge_4 (by decide) (fun c_4 => ?_) (fun c_4 => ?_)
  · refine lv_iconst (v := 0) hx hb dX3_judge_15 (by decide) ?_
    have e_ : dk_judge n sp cr kB oB tt ss st K = ((0 : Int32), K, st, ss) := by unfold dk_judge; exact (if_pos c_4).trans rfl
    rw [e_]
    exact W.iret (v := 0) hx hb hr (fun t ht hW => ⟨rfl, by rw [ht]; exact hP, hS.F ht⟩) hS.2.2 dX3_judge_16
  · refine lv_aload_n hx hb dX3_judge_7 rfl (lv_at hl 1 rfl) ?_
    refine up_read (W.runV (As := []) (rest := []) ⟨hx, hb, hml, hown, hts⟩ (c_X1_command l dC dI cK cB cI o ks fa oa fb ob dr ds L n sp co en cr rl qs kA oA kB oB tt ss st K) (cwV 0 hts gX3_judge_X1_command rfl rfl rfl (by decide +kernel) ⟨Nat.le_of_ble_eq_true rfl, Nat.le_of_ble_eq_true rfl⟩) (up_preV (q0 := 4) (ci := 2) hP hK hD rfl rfl) rfl rfl hl.1 rfl (lv_room (Nat.le_of_ble_eq_true rfl)) dX3_judge_8 ⟨Nat.le_of_ble_eq_true rfl, Nat.le_of_ble_eq_true rfl⟩) ?_
    refine lv_iconst (v := 3) hx hb dX3_judge_11 (by decide) ?_
    refine lv_icmp_le (tgt := 17) hx hb dX3_judge_12 (by decide) (fun c_12 => ?_) (fun c_12 => ?_)
    · refine lv_aload_n hx hb dX3_judge_17 rfl (lv_at hl 0 rfl) ?_
      refine lv_aload_n hx hb dX3_judge_18 rfl (lv_at hl 1 rfl) ?_
      refine up_read (W.runV (As := []) (rest := [.ref o]) ⟨hx, hb, hml, hown, hts⟩ (c_X1_sender l dC dI cK cB cI o ks fa oa fb ob dr ds L n sp co en cr rl qs kA oA kB oB tt ss st K) (cwV 0 hts gX3_judge_X1_sender rfl rfl rfl (by decide +kernel) ⟨Nat.le_of_ble_eq_true rfl, Nat.le_of_ble_eq_true rfl⟩) (up_preV (q0 := 4) (ci := 2) hP hK hD rfl rfl) rfl rfl hl.1 rfl (lv_room (Nat.le_of_ble_eq_true rfl)) dX3_judge_19 ⟨Nat.le_of_ble_eq_true rfl, Nat.le_of_ble_eq_true rfl⟩) ?_
      by_cases hk_22 : dk_fkP n (dk_sender kB oB)
      · have hi_22 : dk_fki (dk_sender kB oB) < n := dk_fk_lt hn hk_22
        refine up_read (W.runV (As := [.int (dk_sender kB oB)]) (rest := []) ⟨hx, hb, hml, hown, hts⟩ (c_X3_findS l dC dI cK cB cI o ks fa oa fb ob dr ds L n sp co en cr rl qs kA oA kB oB tt ss st K (dk_sender kB oB) hn hk_22) (cwV 1 hts gX3_judge_X3_find rfl rfl rfl (by decide +kernel) ⟨Nat.le_of_ble_eq_true rfl, Nat.le_of_ble_eq_true rfl⟩) (up_preV (q0 := 0) (ci := 4) hP hK hD rfl rfl) rfl rfl hl.1 rfl (lv_room (Nat.le_of_ble_eq_true rfl)) dX3_judge_22 ⟨Nat.le_of_ble_eq_true rfl, Nat.le_of_ble_eq_true rfl⟩) ?_
        refine lv_astore_n (lv' := [(2, .ref (L (dk_fki (dk_sender kB oB)))), (0, .ref o), (1, .ref fb)]) hx hb dX3_judge_25 rfl hl (by decide) rfl (fun ls hl => ?_)
        refine lv_aload_n hx hb dX3_judge_26 rfl (lv_at hl 0 rfl) ?_
        refine lv_ifnull hx hb dX3_judge_27 ?_
        refine lv_aload_n hx hb dX3_judge_30 rfl (lv_at hl 0 rfl) ?_
        refine va_get (D := (dC, dI)) (ci := 3) (v := .int ((K (dk_fki (dk_sender kB oB))).2.2.2.1)) (C := RX2) (T := TX2) (N := 7) hx hb hts inn_X3_judge_X2 hown hK hP ((dk_fki (dk_sender kB oB)) + 8) (dk_keyk hi_22 rfl) rfl 3 (by decide) (hts (.fieldLink RX3 89 "DoorKeys$Key" "learned" "Z") (by decide +kernel)) (fun _ h9 => h9) rfl dX3_judge_31 ?_
        refine lv_if_ne (tgt := 39) hx hb dX3_judge_34 (by decide) (fun c_34 => ?_) (fun c_34 => ?_)
        · refine lv_aload_n hx hb dX3_judge_39 rfl (lv_at hl 0 rfl) ?_
          refine lv_aload_n hx hb dX3_judge_40 rfl (lv_at hl 2 rfl) ?_
          refine up_read (W.runV (As := []) (rest := [.ref (L (dk_fki (dk_sender kB oB)))]) ⟨hx, hb, hml, hown, hts⟩ (c_X1_code l dC dI cK cB cI o ks fa oa fb ob dr ds L n sp co en cr rl qs kA oA kB oB tt ss st K) (cwV 0 hts gX3_judge_X1_code rfl rfl rfl (by decide +kernel) ⟨Nat.le_of_ble_eq_true rfl, Nat.le_of_ble_eq_true rfl⟩) (up_preV (q0 := 4) (ci := 2) hP hK hD rfl rfl) rfl rfl hl.1 rfl (lv_room (Nat.le_of_ble_eq_true rfl)) dX3_judge_41 ⟨Nat.le_of_ble_eq_true rfl, Nat.le_of_ble_eq_true rfl⟩) ?_
          refine up_read (W.runV (As := [.long (dk_code kB oB)]) (rest := []) ⟨hx, hb, hml, hown, hts⟩ (c_X2_decipher l dC dI cK cB cI o ks fa oa fb ob dr ds L n sp co en cr rl qs kA oA kB oB tt ss st K (dk_fki (dk_sender kB oB)) (K (dk_fki (dk_sender kB oB))) (dk_code kB oB) hi_22 rfl) (cwV 1 hts gX3_judge_X2_decipher rfl rfl rfl (by decide +kernel) ⟨Nat.le_of_ble_eq_true rfl, Nat.le_of_ble_eq_true rfl⟩) (up_preV (q0 := ((dk_fki (dk_sender kB oB)) + 8)) (ci := 3) hP hK hD rfl (dk_keyk hi_22 rfl)) rfl rfl hl.1 rfl (lv_room (Nat.le_of_ble_eq_true rfl)) dX3_judge_44 ⟨Nat.le_of_ble_eq_true rfl, Nat.le_of_ble_eq_true rfl⟩) ?_
          refine lv_lstore_n (lv' := [(3, .long (dk_dec (K (dk_fki (dk_sender kB oB))) (dk_code kB oB))), (2, .ref (L (dk_fki (dk_sender kB oB)))), (0, .ref o), (1, .ref fb)]) hx hb dX3_judge_47 rfl hl (by decide) rfl (fun ls hl => ?_)
          refine lv_lload_n hx hb dX3_judge_48 rfl (lv_at hl 0 rfl) ?_
          refine lv_bipush (v := 16) hx hb dX3_judge_49 (by decide) ?_
          refine lv_lushr (v := ((dk_dec (K (dk_fki (dk_sender kB oB))) (dk_code kB oB)).toUInt64 >>> ((16 : Int32).toInt64.toUInt64 &&& Int64.toUInt64 63)).toInt64) hx hb dX3_judge_51 rfl ?_
          refine lv_aload_n hx hb dX3_judge_52 rfl (lv_at hl 1 rfl) ?_
          refine up_read (W.runV (As := []) (rest := [.long (((dk_dec (K (dk_fki (dk_sender kB oB))) (dk_code kB oB)).toUInt64 >>> ((16 : Int32).toInt64.toUInt64 &&& Int64.toUInt64 63)).toInt64)]) ⟨hx, hb, hml, hown, hts⟩ (c_X2_sign l dC dI cK cB cI o ks fa oa fb ob dr ds L n sp co en cr rl qs kA oA kB oB tt ss st K (dk_fki (dk_sender kB oB)) (K (dk_fki (dk_sender kB oB))) hi_22 rfl) (cwV 0 hts gX3_judge_X2_sign rfl rfl rfl (by decide +kernel) ⟨Nat.le_of_ble_eq_true rfl, Nat.le_of_ble_eq_true rfl⟩) (up_preV (q0 := ((dk_fki (dk_sender kB oB)) + 8)) (ci := 3) hP hK hD rfl (dk_keyk hi_22 rfl)) rfl rfl hl.1 rfl (lv_room (Nat.le_of_ble_eq_true rfl)) dX3_judge_53 ⟨Nat.le_of_ble_eq_true rfl, Nat.le_of_ble_eq_true rfl⟩) ?_
          refine lv_i2l (v := (dk_sign (K (dk_fki (dk_sender kB oB)))).toInt64) hx hb dX3_judge_56 rfl ?_
          refine W.lcmp hx hb dX3_judge_57 ?_
          refine lv_if_eq (tgt := 63) hx hb dX3_judge_58 (by decide) (fun c_58 => ?_) (fun c_58 => ?_)
          · refine lv_aload_n hx hb dX3_judge_63 rfl (lv_at hl 1 rfl) ?_
            refine lv_lload_n hx hb dX3_judge_64 rfl (lv_at hl 0 rfl) ?_
            refine lv_l2i (v := (dk_dec (K (dk_fki (dk_sender kB oB))) (dk_code kB oB)).toInt32) hx hb dX3_judge_65 rfl ?_
            refine lv_ldc (v := 65535) hx hb hown (hts (.constant RX3 187 65535) (by decide +kernel)) dX3_judge_66 ?_
            refine lv_iand hx hb dX3_judge_68 ?_
            refine lv_aload_n hx hb dX3_judge_69 rfl (lv_at hl 2 rfl) ?_
            refine va_get (D := (dC, dI)) (ci := 4) (v := .int sp) (C := RX3) (T := TX3) (N := 9) hx hb hts inn_X3_judge_X3 hown hK hP 0 rfl rfl 0 (by decide) (hts (.fieldLink RX3 9 "DoorKeys" "span" "I") (by decide +kernel)) (fun _ h9 => h9) rfl dX3_judge_70 ?_
            refine up_call (W.runV (As := [.int ((dk_dec (K (dk_fki (dk_sender kB oB))) (dk_code kB oB)).toInt32 &&& 65535), .int sp]) (rest := []) ⟨hx, hb, hml, hown, hts⟩ (c_X2_roll l dC dI cK cB cI o ks fa oa fb ob dr ds L n sp co en cr rl qs kA oA kB oB tt ss st K (dk_fki (dk_sender kB oB)) (K (dk_fki (dk_sender kB oB))) ((dk_dec (K (dk_fki (dk_sender kB oB))) (dk_code kB oB)).toInt32 &&& 65535) sp hi_22 rfl) (cwV 2 hts gX3_judge_X2_roll rfl rfl rfl (by decide +kernel) ⟨Nat.le_of_ble_eq_true rfl, Nat.le_of_ble_eq_true rfl⟩) (up_preV (q0 := ((dk_fki (dk_sender kB oB)) + 8)) (ci := 3) hP hK hD rfl (dk_keyk hi_22 rfl)) rfl rfl hl.1 rfl (lv_room (Nat.le_of_ble_eq_true rfl)) dX3_judge_73 ⟨Nat.le_of_ble_eq_true rfl, Nat.le_of_ble_eq_true rfl⟩) hD hS ((dk_fst ..).trans (dk_fst ..).symm) (fun H locs hP hD hS _ _ => ?_)
            have hP : va_P (dC, dI) vwCl (dkW cK cB cI o ks fa oa fb ob dr ds L n sp co en cr rl qs kA oA kB oB tt ss st (va_up K (dk_fki (dk_sender kB oB)) ((dk_roll (K (dk_fki (dk_sender kB oB))) ((dk_dec (K (dk_fki (dk_sender kB oB))) (dk_code kB oB)).toInt32 &&& 65535) sp).2))) H := hP
            have hD : va_D (up_c (dkW cK cB cI o ks fa oa fb ob dr ds L n sp co en cr rl qs kA oA kB oB tt ss st K)) (dkW cK cB cI o ks fa oa fb ob dr ds L n sp co en cr rl qs kA oA kB oB tt ss st (va_up K (dk_fki (dk_sender kB oB)) ((dk_roll (K (dk_fki (dk_sender kB oB))) ((dk_dec (K (dk_fki (dk_sender kB oB))) (dk_code kB oB)).toInt32 &&& 65535) sp).2))) := hD
            refine lv_istore (lv' := [(5, .int ((dk_roll (K (dk_fki (dk_sender kB oB))) ((dk_dec (K (dk_fki (dk_sender kB oB))) (dk_code kB oB)).toInt32 &&& 65535) sp).1)), (3, .long (dk_dec (K (dk_fki (dk_sender kB oB))) (dk_code kB oB))), (2, .ref (L (dk_fki (dk_sender kB oB)))), (0, .ref o), (1, .ref fb)]) hx hb dX3_judge_76 hl (by decide) rfl (fun ls hl => ?_)
            refine lv_iload hx hb dX3_judge_78 (lv_at hl 0 rfl) ?_
            refine lv_iconst (v := 1) hx hb dX3_judge_80 (by decide) ?_
            refine lv_icmp_ne (tgt := 102) hx hb dX3_judge_81 (by decide) (fun c_81 => ?_) (fun c_81 => ?_)
            · refine lv_iload hx hb dX3_judge_102 (lv_at hl 0 rfl) ?_
              have e_ : dk_judge n sp cr kB oB tt ss st K = ((dk_roll (K (dk_fki (dk_sender kB oB))) ((dk_dec (K (dk_fki (dk_sender kB oB))) (dk_code kB oB)).toInt32 &&& 65535) sp).1, (va_up K (dk_fki (dk_sender kB oB)) ((dk_roll (K (dk_fki (dk_sender kB oB))) ((dk_dec (K (dk_fki (dk_sender kB oB))) (dk_code kB oB)).toInt32 &&& 65535) sp).2)), st, ss) := by unfold dk_judge; exact (if_neg c_4).trans ((if_pos c_12).trans ((if_pos hk_22).trans ((if_neg c_34).trans ((if_pos c_58).trans ((if_neg c_81).trans rfl)))))
              rw [e_]
              exact W.iret (v := (dk_roll (K (dk_fki (dk_sender kB oB))) ((dk_dec (K (dk_fki (dk_sender kB oB))) (dk_code kB oB)).toInt32 &&& 65535) sp).1) hx hb hr (fun t ht hW => ⟨rfl, by rw [ht]; exact hP, hS.F ht⟩) hS.2.2 dX3_judge_104
            · refine lv_aload_n hx hb dX3_judge_84 rfl (lv_at hl 2 rfl) ?_
              refine lv_aload_n hx hb dX3_judge_85 rfl (lv_at hl 4 rfl) ?_
              refine up_read (W.runV (As := []) (rest := [.ref (L (dk_fki (dk_sender kB oB)))]) ⟨hx, hb, hml, hown, hts⟩ (c_X1_flags l dC dI cK cB cI o ks fa oa fb ob dr ds L n sp co en cr rl qs kA oA kB oB tt ss st (va_up K (dk_fki (dk_sender kB oB)) ((dk_roll (K (dk_fki (dk_sender kB oB))) ((dk_dec (K (dk_fki (dk_sender kB oB))) (dk_code kB oB)).toInt32 &&& 65535) sp).2))) (cwV 0 hts gX3_judge_X1_flags rfl rfl rfl (by decide +kernel) ⟨Nat.le_of_ble_eq_true rfl, Nat.le_of_ble_eq_true rfl⟩) (up_preV (q0 := 4) (ci := 2) hP hK hD rfl rfl) rfl rfl hl.1 rfl (lv_room (Nat.le_of_ble_eq_true rfl)) dX3_judge_86 ⟨Nat.le_of_ble_eq_true rfl, Nat.le_of_ble_eq_true rfl⟩) ?_
              refine lv_iconst (v := 1) hx hb dX3_judge_89 (by decide) ?_
              refine lv_iand hx hb dX3_judge_90 ?_
              refine va_put (D := (dC, dI)) (ci := 3) (v := .int (dk_flags kB oB &&& 1)) (ty := .int) (C := RX2) (T := TX2) (N := 7) hx hb hts inn_X3_judge_X2 tyX2 tyX2_ok nmX2 hown hK hP hD hS ((dk_fki (dk_sender kB oB)) + 8) (dk_keyk hi_22 (va_up_self _ _ _)) rfl 6 (by decide) (hts (.fieldLink RX3 147 "DoorKeys$Key" "lowBattery" "I") (by decide +kernel)) (fun _ h9 => h9) rfl (by decide +kernel) rfl rfl (Nat.le_of_ble_eq_true rfl) dX3_judge_91 (fun H locs hP hD hS => ?_)
              have hP : va_P (dC, dI) vwCl (dkW cK cB cI o ks fa oa fb ob dr ds L n sp co en cr rl qs kA oA kB oB tt ss st (va_up K (dk_fki (dk_sender kB oB)) (((dk_roll (K (dk_fki (dk_sender kB oB))) ((dk_dec (K (dk_fki (dk_sender kB oB))) (dk_code kB oB)).toInt32 &&& 65535) sp).2).1, ((dk_roll (K (dk_fki (dk_sender kB oB))) ((dk_dec (K (dk_fki (dk_sender kB oB))) (dk_code kB oB)).toInt32 &&& 65535) sp).2).2.1, ((dk_roll (K (dk_fki (dk_sender kB oB))) ((dk_dec (K (dk_fki (dk_sender kB oB))) (dk_code kB oB)).toInt32 &&& 65535) sp).2).2.2.1, ((dk_roll (K (dk_fki (dk_sender kB oB))) ((dk_dec (K (dk_fki (dk_sender kB oB))) (dk_code kB oB)).toInt32 &&& 65535) sp).2).2.2.2.1, ((dk_roll (K (dk_fki (dk_sender kB oB))) ((dk_dec (K (dk_fki (dk_sender kB oB))) (dk_code kB oB)).toInt32 &&& 65535) sp).2).2.2.2.2.1, ((dk_roll (K (dk_fki (dk_sender kB oB))) ((dk_dec (K (dk_fki (dk_sender kB oB))) (dk_code kB oB)).toInt32 &&& 65535) sp).2).2.2.2.2.2.1, (dk_flags kB oB &&& 1)))) H := up_cast (dk_putU hi_22) hP
              have hD : va_D (up_c (dkW cK cB cI o ks fa oa fb ob dr ds L n sp co en cr rl qs kA oA kB oB tt ss st K)) (dkW cK cB cI o ks fa oa fb ob dr ds L n sp co en cr rl qs kA oA kB oB tt ss st (va_up K (dk_fki (dk_sender kB oB)) (((dk_roll (K (dk_fki (dk_sender kB oB))) ((dk_dec (K (dk_fki (dk_sender kB oB))) (dk_code kB oB)).toInt32 &&& 65535) sp).2).1, ((dk_roll (K (dk_fki (dk_sender kB oB))) ((dk_dec (K (dk_fki (dk_sender kB oB))) (dk_code kB oB)).toInt32 &&& 65535) sp).2).2.1, ((dk_roll (K (dk_fki (dk_sender kB oB))) ((dk_dec (K (dk_fki (dk_sender kB oB))) (dk_code kB oB)).toInt32 &&& 65535) sp).2).2.2.1, ((dk_roll (K (dk_fki (dk_sender kB oB))) ((dk_dec (K (dk_fki (dk_sender kB oB))) (dk_code kB oB)).toInt32 &&& 65535) sp).2).2.2.2.1, ((dk_roll (K (dk_fki (dk_sender kB oB))) ((dk_dec (K (dk_fki (dk_sender kB oB))) (dk_code kB oB)).toInt32 &&& 65535) sp).2).2.2.2.2.1, ((dk_roll (K (dk_fki (dk_sender kB oB))) ((dk_dec (K (dk_fki (dk_sender kB oB))) (dk_code kB oB)).toInt32 &&& 65535) sp).2).2.2.2.2.2.1, (dk_flags kB oB &&& 1)))) := up_castD (dk_putU hi_22) hD
              have hP : va_P (dC, dI) vwCl (dkW cK cB cI o ks fa oa fb ob dr ds L n sp co en cr rl qs kA oA kB oB tt ss st (va_up K (dk_fki (dk_sender kB oB)) (((dk_roll (K (dk_fki (dk_sender kB oB))) ((dk_dec (K (dk_fki (dk_sender kB oB))) (dk_code kB oB)).toInt32 &&& 65535) sp).2).1, ((dk_roll (K (dk_fki (dk_sender kB oB))) ((dk_dec (K (dk_fki (dk_sender kB oB))) (dk_code kB oB)).toInt32 &&& 65535) sp).2).2.1, ((dk_roll (K (dk_fki (dk_sender kB oB))) ((dk_dec (K (dk_fki (dk_sender kB oB))) (dk_code kB oB)).toInt32 &&& 65535) sp).2).2.2.1, ((dk_roll (K (dk_fki (dk_sender kB oB))) ((dk_dec (K (dk_fki (dk_sender kB oB))) (dk_code kB oB)).toInt32 &&& 65535) sp).2).2.2.2.1, ((dk_roll (K (dk_fki (dk_sender kB oB))) ((dk_dec (K (dk_fki (dk_sender kB oB))) (dk_code kB oB)).toInt32 &&& 65535) sp).2).2.2.2.2.1, ((dk_roll (K (dk_fki (dk_sender kB oB))) ((dk_dec (K (dk_fki (dk_sender kB oB))) (dk_code kB oB)).toInt32 &&& 65535) sp).2).2.2.2.2.2.1, (dk_flags kB oB &&& 1)))) H := hP
              have hD : va_D (up_c (dkW cK cB cI o ks fa oa fb ob dr ds L n sp co en cr rl qs kA oA kB oB tt ss st K)) (dkW cK cB cI o ks fa oa fb ob dr ds L n sp co en cr rl qs kA oA kB oB tt ss st (va_up K (dk_fki (dk_sender kB oB)) (((dk_roll (K (dk_fki (dk_sender kB oB))) ((dk_dec (K (dk_fki (dk_sender kB oB))) (dk_code kB oB)).toInt32 &&& 65535) sp).2).1, ((dk_roll (K (dk_fki (dk_sender kB oB))) ((dk_dec (K (dk_fki (dk_sender kB oB))) (dk_code kB oB)).toInt32 &&& 65535) sp).2).2.1, ((dk_roll (K (dk_fki (dk_sender kB oB))) ((dk_dec (K (dk_fki (dk_sender kB oB))) (dk_code kB oB)).toInt32 &&& 65535) sp).2).2.2.1, ((dk_roll (K (dk_fki (dk_sender kB oB))) ((dk_dec (K (dk_fki (dk_sender kB oB))) (dk_code kB oB)).toInt32 &&& 65535) sp).2).2.2.2.1, ((dk_roll (K (dk_fki (dk_sender kB oB))) ((dk_dec (K (dk_fki (dk_sender kB oB))) (dk_code kB oB)).toInt32 &&& 65535) sp).2).2.2.2.2.1, ((dk_roll (K (dk_fki (dk_sender kB oB))) ((dk_dec (K (dk_fki (dk_sender kB oB))) (dk_code kB oB)).toInt32 &&& 65535) sp).2).2.2.2.2.2.1, (dk_flags kB oB &&& 1)))) := hD
              refine lv_aload_n hx hb dX3_judge_94 rfl (lv_at hl 3 rfl) ?_
              refine lv_aload_n hx hb dX3_judge_95 rfl (lv_at hl 4 rfl) ?_
              refine up_read (W.runV (As := []) (rest := [.ref o]) ⟨hx, hb, hml, hown, hts⟩ (c_X1_command l dC dI cK cB cI o ks fa oa fb ob dr ds L n sp co en cr rl qs kA oA kB oB tt ss st (va_up K (dk_fki (dk_sender kB oB)) (((dk_roll (K (dk_fki (dk_sender kB oB))) ((dk_dec (K (dk_fki (dk_sender kB oB))) (dk_code kB oB)).toInt32 &&& 65535) sp).2).1, ((dk_roll (K (dk_fki (dk_sender kB oB))) ((dk_dec (K (dk_fki (dk_sender kB oB))) (dk_code kB oB)).toInt32 &&& 65535) sp).2).2.1, ((dk_roll (K (dk_fki (dk_sender kB oB))) ((dk_dec (K (dk_fki (dk_sender kB oB))) (dk_code kB oB)).toInt32 &&& 65535) sp).2).2.2.1, ((dk_roll (K (dk_fki (dk_sender kB oB))) ((dk_dec (K (dk_fki (dk_sender kB oB))) (dk_code kB oB)).toInt32 &&& 65535) sp).2).2.2.2.1, ((dk_roll (K (dk_fki (dk_sender kB oB))) ((dk_dec (K (dk_fki (dk_sender kB oB))) (dk_code kB oB)).toInt32 &&& 65535) sp).2).2.2.2.2.1, ((dk_roll (K (dk_fki (dk_sender kB oB))) ((dk_dec (K (dk_fki (dk_sender kB oB))) (dk_code kB oB)).toInt32 &&& 65535) sp).2).2.2.2.2.2.1, (dk_flags kB oB &&& 1)))) (cwV 0 hts gX3_judge_X1_command rfl rfl rfl (by decide +kernel) ⟨Nat.le_of_ble_eq_true rfl, Nat.le_of_ble_eq_true rfl⟩) (up_preV (q0 := 4) (ci := 2) hP hK hD rfl rfl) rfl rfl hl.1 rfl (lv_room (Nat.le_of_ble_eq_true rfl)) dX3_judge_96 ⟨Nat.le_of_ble_eq_true rfl, Nat.le_of_ble_eq_true rfl⟩) ?_
              refine up_call (W.runV (As := [.int (dk_command kB oB)]) (rest := []) ⟨hx, hb, hml, hown, hts⟩ (c_X3_obey l dC dI cK cB cI o ks fa oa fb ob dr ds L n sp co en cr rl qs kA oA kB oB tt ss st (va_up K (dk_fki (dk_sender kB oB)) (((dk_roll (K (dk_fki (dk_sender kB oB))) ((dk_dec (K (dk_fki (dk_sender kB oB))) (dk_code kB oB)).toInt32 &&& 65535) sp).2).1, ((dk_roll (K (dk_fki (dk_sender kB oB))) ((dk_dec (K (dk_fki (dk_sender kB oB))) (dk_code kB oB)).toInt32 &&& 65535) sp).2).2.1, ((dk_roll (K (dk_fki (dk_sender kB oB))) ((dk_dec (K (dk_fki (dk_sender kB oB))) (dk_code kB oB)).toInt32 &&& 65535) sp).2).2.2.1, ((dk_roll (K (dk_fki (dk_sender kB oB))) ((dk_dec (K (dk_fki (dk_sender kB oB))) (dk_code kB oB)).toInt32 &&& 65535) sp).2).2.2.2.1, ((dk_roll (K (dk_fki (dk_sender kB oB))) ((dk_dec (K (dk_fki (dk_sender kB oB))) (dk_code kB oB)).toInt32 &&& 65535) sp).2).2.2.2.2.1, ((dk_roll (K (dk_fki (dk_sender kB oB))) ((dk_dec (K (dk_fki (dk_sender kB oB))) (dk_code kB oB)).toInt32 &&& 65535) sp).2).2.2.2.2.2.1, (dk_flags kB oB &&& 1))) (dk_command kB oB)) (cwV 1 hts gX3_judge_X3_obey rfl rfl rfl (by decide +kernel) ⟨Nat.le_of_ble_eq_true rfl, Nat.le_of_ble_eq_true rfl⟩) (up_preV (q0 := 0) (ci := 4) hP hK hD rfl rfl) rfl rfl hl.1 rfl (lv_room (Nat.le_of_ble_eq_true rfl)) dX3_judge_99 ⟨Nat.le_of_ble_eq_true rfl, Nat.le_of_ble_eq_true rfl⟩) hD hS ((dk_fst ..).trans (dk_fst ..).symm) (fun H locs hP hD hS _ _ => ?_)
              have hP : va_P (dC, dI) vwCl (dkW cK cB cI o ks fa oa fb ob dr ds L n sp co en cr rl qs kA oA kB oB tt ((dk_obey cr st tt ss (dk_command kB oB)).2) ((dk_obey cr st tt ss (dk_command kB oB)).1) (va_up K (dk_fki (dk_sender kB oB)) (((dk_roll (K (dk_fki (dk_sender kB oB))) ((dk_dec (K (dk_fki (dk_sender kB oB))) (dk_code kB oB)).toInt32 &&& 65535) sp).2).1, ((dk_roll (K (dk_fki (dk_sender kB oB))) ((dk_dec (K (dk_fki (dk_sender kB oB))) (dk_code kB oB)).toInt32 &&& 65535) sp).2).2.1, ((dk_roll (K (dk_fki (dk_sender kB oB))) ((dk_dec (K (dk_fki (dk_sender kB oB))) (dk_code kB oB)).toInt32 &&& 65535) sp).2).2.2.1, ((dk_roll (K (dk_fki (dk_sender kB oB))) ((dk_dec (K (dk_fki (dk_sender kB oB))) (dk_code kB oB)).toInt32 &&& 65535) sp).2).2.2.2.1, ((dk_roll (K (dk_fki (dk_sender kB oB))) ((dk_dec (K (dk_fki (dk_sender kB oB))) (dk_code kB oB)).toInt32 &&& 65535) sp).2).2.2.2.2.1, ((dk_roll (K (dk_fki (dk_sender kB oB))) ((dk_dec (K (dk_fki (dk_sender kB oB))) (dk_code kB oB)).toInt32 &&& 65535) sp).2).2.2.2.2.2.1, (dk_flags kB oB &&& 1)))) H := hP
              have hD : va_D (up_c (dkW cK cB cI o ks fa oa fb ob dr ds L n sp co en cr rl qs kA oA kB oB tt ss st K)) (dkW cK cB cI o ks fa oa fb ob dr ds L n sp co en cr rl qs kA oA kB oB tt ((dk_obey cr st tt ss (dk_command kB oB)).2) ((dk_obey cr st tt ss (dk_command kB oB)).1) (va_up K (dk_fki (dk_sender kB oB)) (((dk_roll (K (dk_fki (dk_sender kB oB))) ((dk_dec (K (dk_fki (dk_sender kB oB))) (dk_code kB oB)).toInt32 &&& 65535) sp).2).1, ((dk_roll (K (dk_fki (dk_sender kB oB))) ((dk_dec (K (dk_fki (dk_sender kB oB))) (dk_code kB oB)).toInt32 &&& 65535) sp).2).2.1, ((dk_roll (K (dk_fki (dk_sender kB oB))) ((dk_dec (K (dk_fki (dk_sender kB oB))) (dk_code kB oB)).toInt32 &&& 65535) sp).2).2.2.1, ((dk_roll (K (dk_fki (dk_sender kB oB))) ((dk_dec (K (dk_fki (dk_sender kB oB))) (dk_code kB oB)).toInt32 &&& 65535) sp).2).2.2.2.1, ((dk_roll (K (dk_fki (dk_sender kB oB))) ((dk_dec (K (dk_fki (dk_sender kB oB))) (dk_code kB oB)).toInt32 &&& 65535) sp).2).2.2.2.2.1, ((dk_roll (K (dk_fki (dk_sender kB oB))) ((dk_dec (K (dk_fki (dk_sender kB oB))) (dk_code kB oB)).toInt32 &&& 65535) sp).2).2.2.2.2.2.1, (dk_flags kB oB &&& 1)))) := hD
              refine lv_iload hx hb dX3_judge_102 (lv_at hl 0 rfl) ?_
              have e_ : dk_judge n sp cr kB oB tt ss st K = ((dk_roll (K (dk_fki (dk_sender kB oB))) ((dk_dec (K (dk_fki (dk_sender kB oB))) (dk_code kB oB)).toInt32 &&& 65535) sp).1, (va_up K (dk_fki (dk_sender kB oB)) (((dk_roll (K (dk_fki (dk_sender kB oB))) ((dk_dec (K (dk_fki (dk_sender kB oB))) (dk_code kB oB)).toInt32 &&& 65535) sp).2).1, ((dk_roll (K (dk_fki (dk_sender kB oB))) ((dk_dec (K (dk_fki (dk_sender kB oB))) (dk_code kB oB)).toInt32 &&& 65535) sp).2).2.1, ((dk_roll (K (dk_fki (dk_sender kB oB))) ((dk_dec (K (dk_fki (dk_sender kB oB))) (dk_code kB oB)).toInt32 &&& 65535) sp).2).2.2.1, ((dk_roll (K (dk_fki (dk_sender kB oB))) ((dk_dec (K (dk_fki (dk_sender kB oB))) (dk_code kB oB)).toInt32 &&& 65535) sp).2).2.2.2.1, ((dk_roll (K (dk_fki (dk_sender kB oB))) ((dk_dec (K (dk_fki (dk_sender kB oB))) (dk_code kB oB)).toInt32 &&& 65535) sp).2).2.2.2.2.1, ((dk_roll (K (dk_fki (dk_sender kB oB))) ((dk_dec (K (dk_fki (dk_sender kB oB))) (dk_code kB oB)).toInt32 &&& 65535) sp).2).2.2.2.2.2.1, (dk_flags kB oB &&& 1))), (dk_obey cr st tt ss (dk_command kB oB)).1, (dk_obey cr st tt ss (dk_command kB oB)).2) := by unfold dk_judge; exact (if_neg c_4).trans ((if_pos c_12).trans ((if_pos hk_22).trans ((if_neg c_34).trans ((if_pos c_58).trans ((if_pos c_81).trans rfl)))))
              rw [e_]
              exact W.iret (v := (dk_roll (K (dk_fki (dk_sender kB oB))) ((dk_dec (K (dk_fki (dk_sender kB oB))) (dk_code kB oB)).toInt32 &&& 65535) sp).1) hx hb hr (fun t ht hW => ⟨rfl, by rw [ht]; exact hP, hS.F ht⟩) hS.2.2 dX3_judge_104
          · refine lv_iconst (v := 0) hx hb dX3_judge_61 (by decide) ?_
            have e_ : dk_judge n sp cr kB oB tt ss st K = ((0 : Int32), K, st, ss) := by unfold dk_judge; exact (if_neg c_4).trans ((if_pos c_12).trans ((if_pos hk_22).trans ((if_neg c_34).trans ((if_neg c_58).trans rfl))))
            rw [e_]
            exact W.iret (v := 0) hx hb hr (fun t ht hW => ⟨rfl, by rw [ht]; exact hP, hS.F ht⟩) hS.2.2 dX3_judge_62
        · refine lv_iconst (v := 0) hx hb dX3_judge_37 (by decide) ?_
          have e_ : dk_judge n sp cr kB oB tt ss st K = ((0 : Int32), K, st, ss) := by unfold dk_judge; exact (if_neg c_4).trans ((if_pos c_12).trans ((if_pos hk_22).trans ((if_pos c_34).trans rfl)))
          rw [e_]
          exact W.iret (v := 0) hx hb hr (fun t ht hW => ⟨rfl, by rw [ht]; exact hP, hS.F ht⟩) hS.2.2 dX3_judge_38
      · refine up_read (W.runV (As := [.int (dk_sender kB oB)]) (rest := []) ⟨hx, hb, hml, hown, hts⟩ (c_X3_findN l dC dI cK cB cI o ks fa oa fb ob dr ds L n sp co en cr rl qs kA oA kB oB tt ss st K (dk_sender kB oB) hn hk_22) (cwV 1 hts gX3_judge_X3_find rfl rfl rfl (by decide +kernel) ⟨Nat.le_of_ble_eq_true rfl, Nat.le_of_ble_eq_true rfl⟩) (up_preV (q0 := 0) (ci := 4) hP hK hD rfl rfl) rfl rfl hl.1 rfl (lv_room (Nat.le_of_ble_eq_true rfl)) dX3_judge_22 ⟨Nat.le_of_ble_eq_true rfl, Nat.le_of_ble_eq_true rfl⟩) ?_
        refine lv_astore_nN (lv' := [(2, .null), (0, .ref o), (1, .ref fb)]) hx hb dX3_judge_25 rfl hl (by decide) rfl (fun ls hl => ?_)
        refine lv_aload_nN hx hb dX3_judge_26 rfl (lv_at hl 0 rfl) ?_
        refine lv_ifnullN (tgt := 37) hx hb dX3_judge_27 (by decide) ?_
        refine lv_iconst (v := 0) hx hb dX3_judge_37 (by decide) ?_
        have e_ : dk_judge n sp cr kB oB tt ss st K = ((0 : Int32), K, st, ss) := by unfold dk_judge; exact (if_neg c_4).trans ((if_pos c_12).trans ((if_neg hk_22).trans rfl))
        rw [e_]
        exact W.iret (v := 0) hx hb hr (fun t ht hW => ⟨rfl, by rw [ht]; exact hP, hS.F ht⟩) hS.2.2 dX3_judge_38
    · refine lv_iconst (v := 0) hx hb dX3_judge_15 (by decide) ?_
      have e_ : dk_judge n sp cr kB oB tt ss st K = ((0 : Int32), K, st, ss) := by unfold dk_judge; exact (if_neg c_4).trans ((if_neg c_12).trans rfl)
      rw [e_]
      exact W.iret (v := 0) hx hb hr (fun t ht hW => ⟨rfl, by rw [ht]; exact hP, hS.F ht⟩) hS.2.2 dX3_judge_16
def dk_counter (n : Nat) (K : Nat → KR) (x : Int32) : Int64 :=
  if dk_fkP n x then
    ((K (dk_fki x)).2.1).toInt64
  else
    ((-1) : Int64)
def rm_X3_counter : Room := { frames := 1, cells := 0, slots := 0, locals := 21 }
set_option maxHeartbeats 4000000 in
set_option maxRecDepth 100000 in
theorem c_X3_counter (l : Launch) (dC : Nat → ClassId) (dI : Nat → Nat → Nat) (cK : ClassId) (cB : ClassId) (cI : ClassId) (o : Nat) (ks : Nat) (fa : Nat) (oa : Nat) (fb : Nat) (ob : Nat) (dr : Nat) (ds : Nat) (L : Nat → Nat) (n : Nat) (sp : Int32) (co : Nat) (en : Nat) (cr : Int32) (rl : Int32) (qs : Int32) (kA : Int32) (oA : Nat → Int8) (kB : Int32) (oB : Nat → Int8) (tt : Int64) (ss : Int64) (st : Nat → Int32) (K : Nat → KR) (x : Int32) (hn : n ≤ 8) : Met l yX3_counter wsX3_counter rm_X3_counter (up_P (dC, dI) vwCl (dkT cK cB cI) (dkW cK cB cI o ks fa oa fb ob dr ds L n sp co en cr rl qs kA oA kB oB tt ss st K) [.ref o, .int x]) (k2_QcV (.long (dk_counter n K x))) 0 0 (fun _ => False) := by
  refine Met.ofW (cc := cX3_counter) (maxL := 3) (ret := (some .long)) (by decide) rfl ?_
  intro p e s m args below meth c s₁ B hml hv
  obtain ⟨rfl, hP, hK, hD0⟩ := hv
  have hx := B.exec
  have hb := B.bytes
  have hr := B.returns
  have hts := atoms_spec (ws := wsX3_counter) B.pre
  have hown : s.vm.findClass RX3 = some m.cls := findClass_of_methodNamed B.named
  have hlocks := B.notSynchronized
  have hD := up_self hD0
  have hS : va_S (up_c (dkW cK cB cI o ks fa oa fb ob dr ds L n sp co en cr rl qs kA oA kB oB tt ss st K)) s.heap s.heap [] := va_S.rf
  have hl := lv_entry ([.ref o, .int x]) (n := 3) (Nat.le_of_ble_eq_true rfl)
  rw [lg_entry_eq]
  generalize (lg_sl ([.ref o, .int x]) ++ List.replicate (3 - (lg_sl ([.ref o, .int x])).length) Slot.unset).toArray = ls at hl ⊢
  have hl : lv_has ls 3 [(0, .ref o), (1, .int x)] := hl
  refine lv_aload_n hx hb dX3_counter_0 rfl (lv_at hl 0 rfl) ?_
  refine lv_iload_n hx hb dX3_counter_1 rfl (lv_at hl 1 rfl) ?_
  by_cases hk_2 : dk_fkP n x
  · have hi_2 : dk_fki x < n := dk_fk_lt hn hk_2
    refine up_read (W.runV (As := [.int x]) (rest := []) ⟨hx, hb, hml, hown, hts⟩ (c_X3_findS l dC dI cK cB cI o ks fa oa fb ob dr ds L n sp co en cr rl qs kA oA kB oB tt ss st K x hn hk_2) (cwV 1 hts gX3_counter_X3_find rfl rfl rfl (by decide +kernel) ⟨Nat.le_of_ble_eq_true rfl, Nat.le_of_ble_eq_true rfl⟩) (up_preV (q0 := 0) (ci := 4) hP hK hD rfl rfl) rfl rfl hl.1 rfl (lv_room (Nat.le_of_ble_eq_true rfl)) dX3_counter_2 ⟨Nat.le_of_ble_eq_true rfl, Nat.le_of_ble_eq_true rfl⟩) ?_
    refine lv_astore_n (lv' := [(2, .ref (L (dk_fki x))), (0, .ref o), (1, .int x)]) hx hb dX3_counter_5 rfl hl (by decide) rfl (fun ls hl => ?_)
    refine lv_aload_n hx hb dX3_counter_6 rfl (lv_at hl 0 rfl) ?_
    refine lv_ifnonnull (tgt := 16) hx hb dX3_counter_7 (by decide) ?_
    refine lv_aload_n hx hb dX3_counter_16 rfl (lv_at hl 0 rfl) ?_
    refine va_get (D := (dC, dI)) (ci := 3) (v := .int ((K (dk_fki x)).2.1)) (C := RX2) (T := TX2) (N := 7) hx hb hts inn_X3_counter_X2 hown hK hP ((dk_fki x) + 8) (dk_keyk hi_2 rfl) rfl 1 (by decide) (hts (.fieldLink RX3 65 "DoorKeys$Key" "counter" "I") (by decide +kernel)) (fun _ h9 => h9) rfl dX3_counter_17 ?_
    refine lv_i2l (v := ((K (dk_fki x)).2.1).toInt64) hx hb dX3_counter_20 rfl ?_
    have e_ : dk_counter n K x = ((K (dk_fki x)).2.1).toInt64 := by unfold dk_counter; exact (if_pos hk_2).trans rfl
    rw [e_]
    exact W.lret (v := ((K (dk_fki x)).2.1).toInt64) hx hb hr (fun t ht hW => ⟨rfl, ht⟩) (fun q h => absurd h List.not_mem_nil) dX3_counter_21
  · refine up_read (W.runV (As := [.int x]) (rest := []) ⟨hx, hb, hml, hown, hts⟩ (c_X3_findN l dC dI cK cB cI o ks fa oa fb ob dr ds L n sp co en cr rl qs kA oA kB oB tt ss st K x hn hk_2) (cwV 1 hts gX3_counter_X3_find rfl rfl rfl (by decide +kernel) ⟨Nat.le_of_ble_eq_true rfl, Nat.le_of_ble_eq_true rfl⟩) (up_preV (q0 := 0) (ci := 4) hP hK hD rfl rfl) rfl rfl hl.1 rfl (lv_room (Nat.le_of_ble_eq_true rfl)) dX3_counter_2 ⟨Nat.le_of_ble_eq_true rfl, Nat.le_of_ble_eq_true rfl⟩) ?_
    refine lv_astore_nN (lv' := [(2, .null), (0, .ref o), (1, .int x)]) hx hb dX3_counter_5 rfl hl (by decide) rfl (fun ls hl => ?_)
    refine lv_aload_nN hx hb dX3_counter_6 rfl (lv_at hl 0 rfl) ?_
    refine lv_ifnonnullN hx hb dX3_counter_7 ?_
    refine lv_ldc2 (v := (-1)) hx hb hown (hts (.constantLong RX3 63 (-1)) (by decide +kernel)) dX3_counter_10 ?_
    refine lv_goto (tgt := 21) hx hb dX3_counter_13 (by decide) ?_
    have e_ : dk_counter n K x = ((-1) : Int64) := by unfold dk_counter; exact (if_neg hk_2).trans rfl
    rw [e_]
    exact W.lret (v := (-1)) hx hb hr (fun t ht hW => ⟨rfl, ht⟩) (fun q h => absurd h List.not_mem_nil) dX3_counter_21
def dk_battery (n : Nat) (K : Nat → KR) (x : Int32) : Int32 :=
  if dk_fkP n x then
    (K (dk_fki x)).2.2.2.2.2.2
  else
    ((-1) : Int32)
def rm_X3_battery : Room := { frames := 1, cells := 0, slots := 0, locals := 21 }
set_option maxHeartbeats 4000000 in
set_option maxRecDepth 100000 in
theorem c_X3_battery (l : Launch) (dC : Nat → ClassId) (dI : Nat → Nat → Nat) (cK : ClassId) (cB : ClassId) (cI : ClassId) (o : Nat) (ks : Nat) (fa : Nat) (oa : Nat) (fb : Nat) (ob : Nat) (dr : Nat) (ds : Nat) (L : Nat → Nat) (n : Nat) (sp : Int32) (co : Nat) (en : Nat) (cr : Int32) (rl : Int32) (qs : Int32) (kA : Int32) (oA : Nat → Int8) (kB : Int32) (oB : Nat → Int8) (tt : Int64) (ss : Int64) (st : Nat → Int32) (K : Nat → KR) (x : Int32) (hn : n ≤ 8) : Met l yX3_battery wsX3_battery rm_X3_battery (up_P (dC, dI) vwCl (dkT cK cB cI) (dkW cK cB cI o ks fa oa fb ob dr ds L n sp co en cr rl qs kA oA kB oB tt ss st K) [.ref o, .int x]) (k2_QcV (.int (dk_battery n K x))) 0 0 (fun _ => False) := by
  refine Met.ofW (cc := cX3_battery) (maxL := 3) (ret := (some .int)) (by decide) rfl ?_
  intro p e s m args below meth c s₁ B hml hv
  obtain ⟨rfl, hP, hK, hD0⟩ := hv
  have hx := B.exec
  have hb := B.bytes
  have hr := B.returns
  have hts := atoms_spec (ws := wsX3_battery) B.pre
  have hown : s.vm.findClass RX3 = some m.cls := findClass_of_methodNamed B.named
  have hlocks := B.notSynchronized
  have hD := up_self hD0
  have hS : va_S (up_c (dkW cK cB cI o ks fa oa fb ob dr ds L n sp co en cr rl qs kA oA kB oB tt ss st K)) s.heap s.heap [] := va_S.rf
  have hl := lv_entry ([.ref o, .int x]) (n := 3) (Nat.le_of_ble_eq_true rfl)
  rw [lg_entry_eq]
  generalize (lg_sl ([.ref o, .int x]) ++ List.replicate (3 - (lg_sl ([.ref o, .int x])).length) Slot.unset).toArray = ls at hl ⊢
  have hl : lv_has ls 3 [(0, .ref o), (1, .int x)] := hl
  refine lv_aload_n hx hb dX3_battery_0 rfl (lv_at hl 0 rfl) ?_
  refine lv_iload_n hx hb dX3_battery_1 rfl (lv_at hl 1 rfl) ?_
  by_cases hk_2 : dk_fkP n x
  · have hi_2 : dk_fki x < n := dk_fk_lt hn hk_2
    refine up_read (W.runV (As := [.int x]) (rest := []) ⟨hx, hb, hml, hown, hts⟩ (c_X3_findS l dC dI cK cB cI o ks fa oa fb ob dr ds L n sp co en cr rl qs kA oA kB oB tt ss st K x hn hk_2) (cwV 1 hts gX3_battery_X3_find rfl rfl rfl (by decide +kernel) ⟨Nat.le_of_ble_eq_true rfl, Nat.le_of_ble_eq_true rfl⟩) (up_preV (q0 := 0) (ci := 4) hP hK hD rfl rfl) rfl rfl hl.1 rfl (lv_room (Nat.le_of_ble_eq_true rfl)) dX3_battery_2 ⟨Nat.le_of_ble_eq_true rfl, Nat.le_of_ble_eq_true rfl⟩) ?_
    refine lv_astore_n (lv' := [(2, .ref (L (dk_fki x))), (0, .ref o), (1, .int x)]) hx hb dX3_battery_5 rfl hl (by decide) rfl (fun ls hl => ?_)
    refine lv_aload_n hx hb dX3_battery_6 rfl (lv_at hl 0 rfl) ?_
    refine lv_ifnonnull (tgt := 14) hx hb dX3_battery_7 (by decide) ?_
    refine lv_aload_n hx hb dX3_battery_14 rfl (lv_at hl 0 rfl) ?_
    refine va_get (D := (dC, dI)) (ci := 3) (v := .int ((K (dk_fki x)).2.2.2.2.2.2)) (C := RX2) (T := TX2) (N := 7) hx hb hts inn_X3_battery_X2 hown hK hP ((dk_fki x) + 8) (dk_keyk hi_2 rfl) rfl 6 (by decide) (hts (.fieldLink RX3 147 "DoorKeys$Key" "lowBattery" "I") (by decide +kernel)) (fun _ h9 => h9) rfl dX3_battery_15 ?_
    have e_ : dk_battery n K x = (K (dk_fki x)).2.2.2.2.2.2 := by unfold dk_battery; exact (if_pos hk_2).trans rfl
    rw [e_]
    exact W.iret (v := (K (dk_fki x)).2.2.2.2.2.2) hx hb hr (fun t ht hW => ⟨rfl, ht⟩) (fun q h => absurd h List.not_mem_nil) dX3_battery_18
  · refine up_read (W.runV (As := [.int x]) (rest := []) ⟨hx, hb, hml, hown, hts⟩ (c_X3_findN l dC dI cK cB cI o ks fa oa fb ob dr ds L n sp co en cr rl qs kA oA kB oB tt ss st K x hn hk_2) (cwV 1 hts gX3_battery_X3_find rfl rfl rfl (by decide +kernel) ⟨Nat.le_of_ble_eq_true rfl, Nat.le_of_ble_eq_true rfl⟩) (up_preV (q0 := 0) (ci := 4) hP hK hD rfl rfl) rfl rfl hl.1 rfl (lv_room (Nat.le_of_ble_eq_true rfl)) dX3_battery_2 ⟨Nat.le_of_ble_eq_true rfl, Nat.le_of_ble_eq_true rfl⟩) ?_
    refine lv_astore_nN (lv' := [(2, .null), (0, .ref o), (1, .int x)]) hx hb dX3_battery_5 rfl hl (by decide) rfl (fun ls hl => ?_)
    refine lv_aload_nN hx hb dX3_battery_6 rfl (lv_at hl 0 rfl) ?_
    refine lv_ifnonnullN hx hb dX3_battery_7 ?_
    refine lv_iconst (v := (-1)) hx hb dX3_battery_10 (by decide) ?_
    refine lv_goto (tgt := 18) hx hb dX3_battery_11 (by decide) ?_
    have e_ : dk_battery n K x = ((-1) : Int32) := by unfold dk_battery; exact (if_neg hk_2).trans rfl
    rw [e_]
    exact W.iret (v := (-1)) hx hb hr (fun t ht hW => ⟨rfl, ht⟩) (fun q h => absurd h List.not_mem_nil) dX3_battery_18
def dk_state (rl : Int32) (qs : Int32) (st : Nat → Int32) (x : Int32) : Int32 :=
  if x = 5 then
    rl
  else
    if x = 6 then
      qs
    else
      if dk_dhas x = 0 then
        ((-1) : Int32)
      else
        (st x.toNatClampNeg)
def rm_X3_state : Room := { frames := 1, cells := 0, slots := 0, locals := 21 }
set_option maxHeartbeats 4000000 in
set_option maxRecDepth 100000 in
theorem c_X3_state (l : Launch) (dC : Nat → ClassId) (dI : Nat → Nat → Nat) (cK : ClassId) (cB : ClassId) (cI : ClassId) (o : Nat) (ks : Nat) (fa : Nat) (oa : Nat) (fb : Nat) (ob : Nat) (dr : Nat) (ds : Nat) (L : Nat → Nat) (n : Nat) (sp : Int32) (co : Nat) (en : Nat) (cr : Int32) (rl : Int32) (qs : Int32) (kA : Int32) (oA : Nat → Int8) (kB : Int32) (oB : Nat → Int8) (tt : Int64) (ss : Int64) (st : Nat → Int32) (K : Nat → KR) (x : Int32) : Met l yX3_state wsX3_state rm_X3_state (up_P (dC, dI) vwCl (dkT cK cB cI) (dkW cK cB cI o ks fa oa fb ob dr ds L n sp co en cr rl qs kA oA kB oB tt ss st K) [.ref o, .int x]) (k2_QcV (.int (dk_state rl qs st x))) 0 0 (fun _ => False) := by
  refine Met.ofW (cc := cX3_state) (maxL := 2) (ret := (some .int)) (by decide) rfl ?_
  intro p e s m args below meth c s₁ B hml hv
  obtain ⟨rfl, hP, hK, hD0⟩ := hv
  have hx := B.exec
  have hb := B.bytes
  have hr := B.returns
  have hts := atoms_spec (ws := wsX3_state) B.pre
  have hown : s.vm.findClass RX3 = some m.cls := findClass_of_methodNamed B.named
  have hlocks := B.notSynchronized
  have hD := up_self hD0
  have hS : va_S (up_c (dkW cK cB cI o ks fa oa fb ob dr ds L n sp co en cr rl qs kA oA kB oB tt ss st K)) s.heap s.heap [] := va_S.rf
  have hl := lv_entry ([.ref o, .int x]) (n := 2) (Nat.le_of_ble_eq_true rfl)
  rw [lg_entry_eq]
  generalize (lg_sl ([.ref o, .int x]) ++ List.replicate (2 - (lg_sl ([.ref o, .int x])).length) Slot.unset).toArray = ls at hl ⊢
  have hl : lv_has ls 2 [(0, .ref o), (1, .int x)] := hl
  refine lv_iload_n hx hb dX3_state_0 rfl (lv_at hl 1 rfl) ?_
  refine lv_iconst (v := 5) hx hb dX3_state_1 (by decide) ?_
  refine lv_icmp_ne (tgt := 10) hx hb dX3_state_2 (by decide) (fun c_2 => ?_) (fun c_2 => ?_)
  · refine lv_iload_n hx hb dX3_state_10 rfl (lv_at hl 1 rfl) ?_
    refine lv_bipush (v := 6) hx hb dX3_state_11 (by decide) ?_
    refine lv_icmp_ne (tgt := 21) hx hb dX3_state_13 (by decide) (fun c_13 => ?_) (fun c_13 => ?_)
    · refine lv_aload_n hx hb dX3_state_21 rfl (lv_at hl 0 rfl) ?_
      refine va_get (D := (dC, dI)) (ci := 4) (v := .ref dr) (C := RX3) (T := TX3) (N := 9) hx hb hts inn_X3_state_X3 hown hK hP 0 rfl rfl 5 (by decide) (hts (.fieldLink RX3 32 "DoorKeys" "doors" "LDoorKeys$Doors;") (by decide +kernel)) (fun _ h9 => h9) rfl dX3_state_22 ?_
      refine lv_iload_n hx hb dX3_state_25 rfl (lv_at hl 1 rfl) ?_
      refine up_read (W.runV (As := [.int x]) (rest := []) ⟨hx, hb, hml, hown, hts⟩ (c_X0_has l dC dI cK cB cI o ks fa oa fb ob dr ds L n sp co en cr rl qs kA oA kB oB tt ss st K x) (cwV 1 hts gX3_state_X0_has rfl rfl rfl (by decide +kernel) ⟨Nat.le_of_ble_eq_true rfl, Nat.le_of_ble_eq_true rfl⟩) (up_preV (q0 := 6) (ci := 1) hP hK hD rfl rfl) rfl rfl hl.1 rfl (lv_room (Nat.le_of_ble_eq_true rfl)) dX3_state_26 ⟨Nat.le_of_ble_eq_true rfl, Nat.le_of_ble_eq_true rfl⟩) ?_
      refine lv_if_eq (tgt := 44) hx hb dX3_state_29 (by decide) (fun c_29 => ?_) (fun c_29 => ?_)
      · refine lv_iconst (v := (-1)) hx hb dX3_state_44 (by decide) ?_
        have e_ : dk_state rl qs st x = ((-1) : Int32) := by unfold dk_state; exact (if_neg c_2).trans ((if_neg c_13).trans ((if_pos c_29).trans rfl))
        rw [e_]
        exact W.iret (v := (-1)) hx hb hr (fun t ht hW => ⟨rfl, ht⟩) (fun q h => absurd h List.not_mem_nil) dX3_state_45
      · refine lv_aload_n hx hb dX3_state_32 rfl (lv_at hl 0 rfl) ?_
        refine va_get (D := (dC, dI)) (ci := 4) (v := .ref dr) (C := RX3) (T := TX3) (N := 9) hx hb hts inn_X3_state_X3 hown hK hP 0 rfl rfl 5 (by decide) (hts (.fieldLink RX3 32 "DoorKeys" "doors" "LDoorKeys$Doors;") (by decide +kernel)) (fun _ h9 => h9) rfl dX3_state_33 ?_
        refine va_get (D := (dC, dI)) (ci := 1) (v := .ref ds) (C := RX0) (T := TX0) (N := 3) hx hb hts inn_X3_state_X0 hown hK hP 6 rfl rfl 0 (by decide) (hts (.fieldLink RX3 161 "DoorKeys$Doors" "states" "[I") (by decide +kernel)) (fun _ h9 => h9) rfl dX3_state_36 ?_
        refine lv_iload_n hx hb dX3_state_39 rfl (lv_at hl 1 rfl) ?_
        refine va_iald hx hb hK hP 7 2 rfl rfl (dk_dhas_in c_29) dX3_state_40 ?_
        refine lv_goto (tgt := 45) hx hb dX3_state_41 (by decide) ?_
        have e_ : dk_state rl qs st x = (st x.toNatClampNeg) := by unfold dk_state; exact (if_neg c_2).trans ((if_neg c_13).trans ((if_neg c_29).trans rfl))
        rw [e_]
        exact W.iret (v := (st x.toNatClampNeg)) hx hb hr (fun t ht hW => ⟨rfl, ht⟩) (fun q h => absurd h List.not_mem_nil) dX3_state_45
    · refine lv_aload_n hx hb dX3_state_16 rfl (lv_at hl 0 rfl) ?_
      refine va_get (D := (dC, dI)) (ci := 4) (v := .int qs) (C := RX3) (T := TX3) (N := 9) hx hb hts inn_X3_state_X3 hown hK hP 0 rfl rfl 8 (by decide) (hts (.fieldLink RX3 129 "DoorKeys" "questions" "I") (by decide +kernel)) (fun _ h9 => h9) rfl dX3_state_17 ?_
      have e_ : dk_state rl qs st x = qs := by unfold dk_state; exact (if_neg c_2).trans ((if_pos c_13).trans rfl)
      rw [e_]
      exact W.iret (v := qs) hx hb hr (fun t ht hW => ⟨rfl, ht⟩) (fun q h => absurd h List.not_mem_nil) dX3_state_20
  · refine lv_aload_n hx hb dX3_state_5 rfl (lv_at hl 0 rfl) ?_
    refine va_get (D := (dC, dI)) (ci := 4) (v := .int rl) (C := RX3) (T := TX3) (N := 9) hx hb hts inn_X3_state_X3 hown hK hP 0 rfl rfl 7 (by decide) (hts (.fieldLink RX3 113 "DoorKeys" "relays" "I") (by decide +kernel)) (fun _ h9 => h9) rfl dX3_state_6 ?_
    have e_ : dk_state rl qs st x = rl := by unfold dk_state; exact (if_pos c_2).trans rfl
    rw [e_]
    exact W.iret (v := rl) hx hb hr (fun t ht hW => ⟨rfl, ht⟩) (fun q h => absurd h List.not_mem_nil) dX3_state_9
def dk_lock (cr : Int32) (st : Nat → Int32) (tt : Int64) (ss : Int64) (x : Int32) : Int32 × (Nat → Int32) × Int64 :=
  if x < 0 then
    (((-2) : Int32), st, ss)
  else
    if x ≤ 3 then
      if x = 3 then
        if dk_any st 2 = 0 then
          ((dk_openAll st).1, (dk_openAll st).2, ss)
        else
          ((0 : Int32), st, ss)
      else
        if cr = 0 then
          if x = 1 then
            ((dk_deaden st).1, (dk_deaden st).2, ss)
          else
            if x = 2 then
              ((dk_shutBoot st tt ss).1, (dk_shutBoot st tt ss).2.1, (dk_shutBoot st tt ss).2.2)
            else
              ((dk_shutAll st tt ss).1, (dk_shutAll st tt ss).2.1, (dk_shutAll st tt ss).2.2)
        else
          (((-3) : Int32), st, ss)
    else
      (((-2) : Int32), st, ss)
def rm_X3_lock : Room := { frames := 3, cells := 0, slots := 0, locals := 64 }
set_option maxHeartbeats 4000000 in
set_option maxRecDepth 100000 in
theorem c_X3_lock (l : Launch) (dC : Nat → ClassId) (dI : Nat → Nat → Nat) (cK : ClassId) (cB : ClassId) (cI : ClassId) (o : Nat) (ks : Nat) (fa : Nat) (oa : Nat) (fb : Nat) (ob : Nat) (dr : Nat) (ds : Nat) (L : Nat → Nat) (n : Nat) (sp : Int32) (co : Nat) (en : Nat) (cr : Int32) (rl : Int32) (qs : Int32) (kA : Int32) (oA : Nat → Int8) (kB : Int32) (oB : Nat → Int8) (tt : Int64) (ss : Int64) (st : Nat → Int32) (K : Nat → KR) (x : Int32) : Met l yX3_lock wsX3_lock rm_X3_lock (up_P (dC, dI) vwCl (dkT cK cB cI) (dkW cK cB cI o ks fa oa fb ob dr ds L n sp co en cr rl qs kA oA kB oB tt ss st K) [.ref o, .int x]) (up_Q (dC, dI) vwCl (some (.int ((dk_lock cr st tt ss x).1))) (dkW cK cB cI o ks fa oa fb ob dr ds L n sp co en cr rl qs kA oA kB oB tt ss st K) (dkW cK cB cI o ks fa oa fb ob dr ds L n sp co en cr rl qs kA oA kB oB tt ((dk_lock cr st tt ss x).2.2) ((dk_lock cr st tt ss x).2.1) K)) 0 0 (up_c (dkW cK cB cI o ks fa oa fb ob dr ds L n sp co en cr rl qs kA oA kB oB tt ss st K)) := by
  refine Met.ofW (cc := cX3_lock) (maxL := 2) (ret := (some .int)) (by decide) rfl ?_
  intro p e s m args below meth c s₁ B hml hv
  obtain ⟨rfl, hP, hK, hD0⟩ := hv
  have hx := B.exec
  have hb := B.bytes
  have hr := B.returns
  have hts := atoms_spec (ws := wsX3_lock) B.pre
  have hown : s.vm.findClass RX3 = some m.cls := findClass_of_methodNamed B.named
  have hlocks := B.notSynchronized
  have hD := up_self hD0
  have hS : va_S (up_c (dkW cK cB cI o ks fa oa fb ob dr ds L n sp co en cr rl qs kA oA kB oB tt ss st K)) s.heap s.heap [] := va_S.rf
  have hl := lv_entry ([.ref o, .int x]) (n := 2) (Nat.le_of_ble_eq_true rfl)
  rw [lg_entry_eq]
  generalize (lg_sl ([.ref o, .int x]) ++ List.replicate (2 - (lg_sl ([.ref o, .int x])).length) Slot.unset).toArray = ls at hl ⊢
  have hl : lv_has ls 2 [(0, .ref o), (1, .int x)] := hl
  refine lv_iload_n hx hb dX3_lock_0 rfl (lv_at hl 1 rfl) ?_
  refine lv_if_lt (tgt := 9) hx hb dX3_lock_1 (by decide) (fun c_1 => ?_) (fun c_1 => ?_)
  · refine lv_bipush (v := (-2)) hx hb dX3_lock_9 (by decide) ?_
    have e_ : dk_lock cr st tt ss x = (((-2) : Int32), st, ss) := by unfold dk_lock; exact (if_pos c_1).trans rfl
    rw [e_]
    exact W.iret (v := (-2)) hx hb hr (fun t ht hW => ⟨rfl, by rw [ht]; exact hP, hS.F ht⟩) hS.2.2 dX3_lock_11
  · refine lv_iload_n hx hb dX3_lock_4 rfl (lv_at hl 1 rfl) ?_
    refine lv_iconst (v := 3) hx hb dX3_lock_5 (by decide) ?_
    refine lv_icmp_le (tgt := 12) hx hb dX3_lock_6 (by decide) (fun c_6 => ?_) (fun c_6 => ?_)
    · refine lv_iload_n hx hb dX3_lock_12 rfl (lv_at hl 1 rfl) ?_
      refine lv_iconst (v := 3) hx hb dX3_lock_13 (by decide) ?_
      refine lv_icmp_ne (tgt := 40) hx hb dX3_lock_14 (by decide) (fun c_14 => ?_) (fun c_14 => ?_)
      · refine lv_aload_n hx hb dX3_lock_40 rfl (lv_at hl 0 rfl) ?_
        refine va_get (D := (dC, dI)) (ci := 4) (v := .int cr) (C := RX3) (T := TX3) (N := 9) hx hb hts inn_X3_lock_X3 hown hK hP 0 rfl rfl 6 (by decide) (hts (.fieldLink RX3 76 "DoorKeys" "crashed" "Z") (by decide +kernel)) (fun _ h9 => h9) rfl dX3_lock_41 ?_
        refine lv_if_eq (tgt := 50) hx hb dX3_lock_44 (by decide) (fun c_44 => ?_) (fun c_44 => ?_)
        · refine lv_iload_n hx hb dX3_lock_50 rfl (lv_at hl 1 rfl) ?_
          refine lv_iconst (v := 1) hx hb dX3_lock_51 (by decide) ?_
          refine lv_icmp_ne (tgt := 63) hx hb dX3_lock_52 (by decide) (fun c_52 => ?_) (fun c_52 => ?_)
          · refine lv_iload_n hx hb dX3_lock_63 rfl (lv_at hl 1 rfl) ?_
            refine lv_iconst (v := 2) hx hb dX3_lock_64 (by decide) ?_
            refine lv_icmp_ne (tgt := 78) hx hb dX3_lock_65 (by decide) (fun c_65 => ?_) (fun c_65 => ?_)
            · refine lv_aload_n hx hb dX3_lock_78 rfl (lv_at hl 0 rfl) ?_
              refine va_get (D := (dC, dI)) (ci := 4) (v := .ref dr) (C := RX3) (T := TX3) (N := 9) hx hb hts inn_X3_lock_X3 hown hK hP 0 rfl rfl 5 (by decide) (hts (.fieldLink RX3 32 "DoorKeys" "doors" "LDoorKeys$Doors;") (by decide +kernel)) (fun _ h9 => h9) rfl dX3_lock_79 ?_
              refine up_call (W.runV (As := []) (rest := []) ⟨hx, hb, hml, hown, hts⟩ (c_X0_shutAll l dC dI cK cB cI o ks fa oa fb ob dr ds L n sp co en cr rl qs kA oA kB oB tt ss st K) (cwV 0 hts gX3_lock_X0_shutAll rfl rfl rfl (by decide +kernel) ⟨Nat.le_of_ble_eq_true rfl, Nat.le_of_ble_eq_true rfl⟩) (up_preV (q0 := 6) (ci := 1) hP hK hD rfl rfl) rfl rfl hl.1 rfl (lv_room (Nat.le_of_ble_eq_true rfl)) dX3_lock_82 ⟨Nat.le_of_ble_eq_true rfl, Nat.le_of_ble_eq_true rfl⟩) hD hS ((dk_fst ..).trans (dk_fst ..).symm) (fun H locs hP hD hS _ _ => ?_)
              have hP : va_P (dC, dI) vwCl (dkW cK cB cI o ks fa oa fb ob dr ds L n sp co en cr rl qs kA oA kB oB tt ((dk_shutAll st tt ss).2.2) ((dk_shutAll st tt ss).2.1) K) H := hP
              have hD : va_D (up_c (dkW cK cB cI o ks fa oa fb ob dr ds L n sp co en cr rl qs kA oA kB oB tt ss st K)) (dkW cK cB cI o ks fa oa fb ob dr ds L n sp co en cr rl qs kA oA kB oB tt ((dk_shutAll st tt ss).2.2) ((dk_shutAll st tt ss).2.1) K) := hD
              have e_ : dk_lock cr st tt ss x = ((dk_shutAll st tt ss).1, (dk_shutAll st tt ss).2.1, (dk_shutAll st tt ss).2.2) := by unfold dk_lock; exact (if_neg c_1).trans ((if_pos c_6).trans ((if_neg c_14).trans ((if_pos c_44).trans ((if_neg c_52).trans ((if_neg c_65).trans rfl)))))
              rw [e_]
              exact W.iret (v := (dk_shutAll st tt ss).1) hx hb hr (fun t ht hW => ⟨rfl, by rw [ht]; exact hP, hS.F ht⟩) hS.2.2 dX3_lock_85
            · refine lv_aload_n hx hb dX3_lock_68 rfl (lv_at hl 0 rfl) ?_
              refine va_get (D := (dC, dI)) (ci := 4) (v := .ref dr) (C := RX3) (T := TX3) (N := 9) hx hb hts inn_X3_lock_X3 hown hK hP 0 rfl rfl 5 (by decide) (hts (.fieldLink RX3 32 "DoorKeys" "doors" "LDoorKeys$Doors;") (by decide +kernel)) (fun _ h9 => h9) rfl dX3_lock_69 ?_
              refine up_call (W.runV (As := []) (rest := []) ⟨hx, hb, hml, hown, hts⟩ (c_X0_shutBoot l dC dI cK cB cI o ks fa oa fb ob dr ds L n sp co en cr rl qs kA oA kB oB tt ss st K) (cwV 0 hts gX3_lock_X0_shutBoot rfl rfl rfl (by decide +kernel) ⟨Nat.le_of_ble_eq_true rfl, Nat.le_of_ble_eq_true rfl⟩) (up_preV (q0 := 6) (ci := 1) hP hK hD rfl rfl) rfl rfl hl.1 rfl (lv_room (Nat.le_of_ble_eq_true rfl)) dX3_lock_72 ⟨Nat.le_of_ble_eq_true rfl, Nat.le_of_ble_eq_true rfl⟩) hD hS ((dk_fst ..).trans (dk_fst ..).symm) (fun H locs hP hD hS _ _ => ?_)
              have hP : va_P (dC, dI) vwCl (dkW cK cB cI o ks fa oa fb ob dr ds L n sp co en cr rl qs kA oA kB oB tt ((dk_shutBoot st tt ss).2.2) ((dk_shutBoot st tt ss).2.1) K) H := hP
              have hD : va_D (up_c (dkW cK cB cI o ks fa oa fb ob dr ds L n sp co en cr rl qs kA oA kB oB tt ss st K)) (dkW cK cB cI o ks fa oa fb ob dr ds L n sp co en cr rl qs kA oA kB oB tt ((dk_shutBoot st tt ss).2.2) ((dk_shutBoot st tt ss).2.1) K) := hD
              refine lv_goto (tgt := 85) hx hb dX3_lock_75 (by decide) ?_
              have e_ : dk_lock cr st tt ss x = ((dk_shutBoot st tt ss).1, (dk_shutBoot st tt ss).2.1, (dk_shutBoot st tt ss).2.2) := by unfold dk_lock; exact (if_neg c_1).trans ((if_pos c_6).trans ((if_neg c_14).trans ((if_pos c_44).trans ((if_neg c_52).trans ((if_pos c_65).trans rfl)))))
              rw [e_]
              exact W.iret (v := (dk_shutBoot st tt ss).1) hx hb hr (fun t ht hW => ⟨rfl, by rw [ht]; exact hP, hS.F ht⟩) hS.2.2 dX3_lock_85
          · refine lv_aload_n hx hb dX3_lock_55 rfl (lv_at hl 0 rfl) ?_
            refine va_get (D := (dC, dI)) (ci := 4) (v := .ref dr) (C := RX3) (T := TX3) (N := 9) hx hb hts inn_X3_lock_X3 hown hK hP 0 rfl rfl 5 (by decide) (hts (.fieldLink RX3 32 "DoorKeys" "doors" "LDoorKeys$Doors;") (by decide +kernel)) (fun _ h9 => h9) rfl dX3_lock_56 ?_
            refine up_call (W.runV (As := []) (rest := []) ⟨hx, hb, hml, hown, hts⟩ (c_X0_deadenUnlessOpen l dC dI cK cB cI o ks fa oa fb ob dr ds L n sp co en cr rl qs kA oA kB oB tt ss st K) (cwV 0 hts gX3_lock_X0_deadenUnlessOpen rfl rfl rfl (by decide +kernel) ⟨Nat.le_of_ble_eq_true rfl, Nat.le_of_ble_eq_true rfl⟩) (up_preV (q0 := 6) (ci := 1) hP hK hD rfl rfl) rfl rfl hl.1 rfl (lv_room (Nat.le_of_ble_eq_true rfl)) dX3_lock_59 ⟨Nat.le_of_ble_eq_true rfl, Nat.le_of_ble_eq_true rfl⟩) hD hS ((dk_fst ..).trans (dk_fst ..).symm) (fun H locs hP hD hS _ _ => ?_)
            have hP : va_P (dC, dI) vwCl (dkW cK cB cI o ks fa oa fb ob dr ds L n sp co en cr rl qs kA oA kB oB tt ss ((dk_deaden st).2) K) H := hP
            have hD : va_D (up_c (dkW cK cB cI o ks fa oa fb ob dr ds L n sp co en cr rl qs kA oA kB oB tt ss st K)) (dkW cK cB cI o ks fa oa fb ob dr ds L n sp co en cr rl qs kA oA kB oB tt ss ((dk_deaden st).2) K) := hD
            have e_ : dk_lock cr st tt ss x = ((dk_deaden st).1, (dk_deaden st).2, ss) := by unfold dk_lock; exact (if_neg c_1).trans ((if_pos c_6).trans ((if_neg c_14).trans ((if_pos c_44).trans ((if_pos c_52).trans rfl))))
            rw [e_]
            exact W.iret (v := (dk_deaden st).1) hx hb hr (fun t ht hW => ⟨rfl, by rw [ht]; exact hP, hS.F ht⟩) hS.2.2 dX3_lock_62
        · refine lv_bipush (v := (-3)) hx hb dX3_lock_47 (by decide) ?_
          have e_ : dk_lock cr st tt ss x = (((-3) : Int32), st, ss) := by unfold dk_lock; exact (if_neg c_1).trans ((if_pos c_6).trans ((if_neg c_14).trans ((if_neg c_44).trans rfl)))
          rw [e_]
          exact W.iret (v := (-3)) hx hb hr (fun t ht hW => ⟨rfl, by rw [ht]; exact hP, hS.F ht⟩) hS.2.2 dX3_lock_49
      · refine lv_aload_n hx hb dX3_lock_17 rfl (lv_at hl 0 rfl) ?_
        refine va_get (D := (dC, dI)) (ci := 4) (v := .ref dr) (C := RX3) (T := TX3) (N := 9) hx hb hts inn_X3_lock_X3 hown hK hP 0 rfl rfl 5 (by decide) (hts (.fieldLink RX3 32 "DoorKeys" "doors" "LDoorKeys$Doors;") (by decide +kernel)) (fun _ h9 => h9) rfl dX3_lock_18 ?_
        refine lv_iconst (v := 2) hx hb dX3_lock_21 (by decide) ?_
        refine up_read (W.runV (As := [.int 2]) (rest := []) ⟨hx, hb, hml, hown, hts⟩ (c_X0_hasAny l dC dI cK cB cI o ks fa oa fb ob dr ds L n sp co en cr rl qs kA oA kB oB tt ss st K 2) (cwV 1 hts gX3_lock_X0_hasAny rfl rfl rfl (by decide +kernel) ⟨Nat.le_of_ble_eq_true rfl, Nat.le_of_ble_eq_true rfl⟩) (up_preV (q0 := 6) (ci := 1) hP hK hD rfl rfl) rfl rfl hl.1 rfl (lv_room (Nat.le_of_ble_eq_true rfl)) dX3_lock_22 ⟨Nat.le_of_ble_eq_true rfl, Nat.le_of_ble_eq_true rfl⟩) ?_
        refine lv_if_eq (tgt := 32) hx hb dX3_lock_25 (by decide) (fun c_25 => ?_) (fun c_25 => ?_)
        · refine lv_aload_n hx hb dX3_lock_32 rfl (lv_at hl 0 rfl) ?_
          refine va_get (D := (dC, dI)) (ci := 4) (v := .ref dr) (C := RX3) (T := TX3) (N := 9) hx hb hts inn_X3_lock_X3 hown hK hP 0 rfl rfl 5 (by decide) (hts (.fieldLink RX3 32 "DoorKeys" "doors" "LDoorKeys$Doors;") (by decide +kernel)) (fun _ h9 => h9) rfl dX3_lock_33 ?_
          refine up_call (W.runV (As := []) (rest := []) ⟨hx, hb, hml, hown, hts⟩ (c_X0_openAll l dC dI cK cB cI o ks fa oa fb ob dr ds L n sp co en cr rl qs kA oA kB oB tt ss st K) (cwV 0 hts gX3_lock_X0_openAll rfl rfl rfl (by decide +kernel) ⟨Nat.le_of_ble_eq_true rfl, Nat.le_of_ble_eq_true rfl⟩) (up_preV (q0 := 6) (ci := 1) hP hK hD rfl rfl) rfl rfl hl.1 rfl (lv_room (Nat.le_of_ble_eq_true rfl)) dX3_lock_36 ⟨Nat.le_of_ble_eq_true rfl, Nat.le_of_ble_eq_true rfl⟩) hD hS ((dk_fst ..).trans (dk_fst ..).symm) (fun H locs hP hD hS _ _ => ?_)
          have hP : va_P (dC, dI) vwCl (dkW cK cB cI o ks fa oa fb ob dr ds L n sp co en cr rl qs kA oA kB oB tt ss ((dk_openAll st).2) K) H := hP
          have hD : va_D (up_c (dkW cK cB cI o ks fa oa fb ob dr ds L n sp co en cr rl qs kA oA kB oB tt ss st K)) (dkW cK cB cI o ks fa oa fb ob dr ds L n sp co en cr rl qs kA oA kB oB tt ss ((dk_openAll st).2) K) := hD
          have e_ : dk_lock cr st tt ss x = ((dk_openAll st).1, (dk_openAll st).2, ss) := by unfold dk_lock; exact (if_neg c_1).trans ((if_pos c_6).trans ((if_pos c_14).trans ((if_pos c_25).trans rfl)))
          rw [e_]
          exact W.iret (v := (dk_openAll st).1) hx hb hr (fun t ht hW => ⟨rfl, by rw [ht]; exact hP, hS.F ht⟩) hS.2.2 dX3_lock_39
        · refine lv_iconst (v := 0) hx hb dX3_lock_28 (by decide) ?_
          refine lv_goto (tgt := 39) hx hb dX3_lock_29 (by decide) ?_
          have e_ : dk_lock cr st tt ss x = ((0 : Int32), st, ss) := by unfold dk_lock; exact (if_neg c_1).trans ((if_pos c_6).trans ((if_pos c_14).trans ((if_neg c_25).trans rfl)))
          rw [e_]
          exact W.iret (v := 0) hx hb hr (fun t ht hW => ⟨rfl, by rw [ht]; exact hP, hS.F ht⟩) hS.2.2 dX3_lock_39
    · refine lv_bipush (v := (-2)) hx hb dX3_lock_9 (by decide) ?_
      have e_ : dk_lock cr st tt ss x = (((-2) : Int32), st, ss) := by unfold dk_lock; exact (if_neg c_1).trans ((if_neg c_6).trans rfl)
      rw [e_]
      exact W.iret (v := (-2)) hx hb hr (fun t ht hW => ⟨rfl, by rw [ht]; exact hP, hS.F ht⟩) hS.2.2 dX3_lock_11
def dk_learn (n : Nat) (K : Nat → KR) (x : Int32) (y : Int32) (z : Int32) : Int32 × (Nat → KR) :=
  if dk_fkP n x then
    if dk_fkP n y then
      if dk_fkP n z then
        if (K (dk_fki x)).2.2.2.1 = 0 then
          if y = z then
            ((0 : Int32), K)
          else
            if dk_teach (K (dk_fki y)) = 0 then
              ((0 : Int32), K)
            else
              if dk_teach (K (dk_fki z)) = 0 then
                ((0 : Int32), K)
              else
                ((1 : Int32), (va_up K (dk_fki x) ((K (dk_fki x)).1, (K (dk_fki x)).2.1, (K (dk_fki x)).2.2.1, 1, (K (dk_fki x)).2.2.2.2.1, (K (dk_fki x)).2.2.2.2.2.1, (K (dk_fki x)).2.2.2.2.2.2)))
        else
          ((0 : Int32), K)
      else
        (((-1) : Int32), K)
    else
      if dk_fkP n z then
        (((-1) : Int32), K)
      else
        (((-1) : Int32), K)
  else
    if dk_fkP n y then
      if dk_fkP n z then
        (((-1) : Int32), K)
      else
        (((-1) : Int32), K)
    else
      if dk_fkP n z then
        (((-1) : Int32), K)
      else
        (((-1) : Int32), K)
def rm_X3_learn : Room := { frames := 2, cells := 0, slots := 0, locals := 40 }
set_option maxHeartbeats 4000000 in
set_option maxRecDepth 100000 in
theorem c_X3_learn (l : Launch) (dC : Nat → ClassId) (dI : Nat → Nat → Nat) (cK : ClassId) (cB : ClassId) (cI : ClassId) (o : Nat) (ks : Nat) (fa : Nat) (oa : Nat) (fb : Nat) (ob : Nat) (dr : Nat) (ds : Nat) (L : Nat → Nat) (n : Nat) (sp : Int32) (co : Nat) (en : Nat) (cr : Int32) (rl : Int32) (qs : Int32) (kA : Int32) (oA : Nat → Int8) (kB : Int32) (oB : Nat → Int8) (tt : Int64) (ss : Int64) (st : Nat → Int32) (K : Nat → KR) (x : Int32) (y : Int32) (z : Int32) (hn : n ≤ 8) : Met l yX3_learn wsX3_learn rm_X3_learn (up_P (dC, dI) vwCl (dkT cK cB cI) (dkW cK cB cI o ks fa oa fb ob dr ds L n sp co en cr rl qs kA oA kB oB tt ss st K) [.ref o, .int x, .int y, .int z]) (up_Q (dC, dI) vwCl (some (.int ((dk_learn n K x y z).1))) (dkW cK cB cI o ks fa oa fb ob dr ds L n sp co en cr rl qs kA oA kB oB tt ss st K) (dkW cK cB cI o ks fa oa fb ob dr ds L n sp co en cr rl qs kA oA kB oB tt ss st ((dk_learn n K x y z).2))) 0 0 (up_c (dkW cK cB cI o ks fa oa fb ob dr ds L n sp co en cr rl qs kA oA kB oB tt ss st K)) := by
  refine Met.ofW (cc := cX3_learn) (maxL := 7) (ret := (some .int)) (by decide) rfl ?_
  intro p e s m args below meth c s₁ B hml hv
  obtain ⟨rfl, hP, hK, hD0⟩ := hv
  have hx := B.exec
  have hb := B.bytes
  have hr := B.returns
  have hts := atoms_spec (ws := wsX3_learn) B.pre
  have hown : s.vm.findClass RX3 = some m.cls := findClass_of_methodNamed B.named
  have hlocks := B.notSynchronized
  have hD := up_self hD0
  have hS : va_S (up_c (dkW cK cB cI o ks fa oa fb ob dr ds L n sp co en cr rl qs kA oA kB oB tt ss st K)) s.heap s.heap [] := va_S.rf
  have hl := lv_entry ([.ref o, .int x, .int y, .int z]) (n := 7) (Nat.le_of_ble_eq_true rfl)
  rw [lg_entry_eq]
  generalize (lg_sl ([.ref o, .int x, .int y, .int z]) ++ List.replicate (7 - (lg_sl ([.ref o, .int x, .int y, .int z])).length) Slot.unset).toArray = ls at hl ⊢
  have hl : lv_has ls 7 [(0, .ref o), (1, .int x), (2, .int y), (3, .int z)] := hl
  refine lv_aload_n hx hb dX3_learn_0 rfl (lv_at hl 0 rfl) ?_
  refine lv_iload_n hx hb dX3_learn_1 rfl (lv_at hl 1 rfl) ?_
  by_cases hk_2 : dk_fkP n x
  · have hi_2 : dk_fki x < n := dk_fk_lt hn hk_2
    refine up_read (W.runV (As := [.int x]) (rest := []) ⟨hx, hb, hml, hown, hts⟩ (c_X3_findS l dC dI cK cB cI o ks fa oa fb ob dr ds L n sp co en cr rl qs kA oA kB oB tt ss st K x hn hk_2) (cwV 1 hts gX3_learn_X3_find rfl rfl rfl (by decide +kernel) ⟨Nat.le_of_ble_eq_true rfl, Nat.le_of_ble_eq_true rfl⟩) (up_preV (q0 := 0) (ci := 4) hP hK hD rfl rfl) rfl rfl hl.1 rfl (lv_room (Nat.le_of_ble_eq_true rfl)) dX3_learn_2 ⟨Nat.le_of_ble_eq_true rfl, Nat.le_of_ble_eq_true rfl⟩) ?_
    refine lv_astore (lv' := [(4, .ref (L (dk_fki x))), (0, .ref o), (1, .int x), (2, .int y), (3, .int z)]) hx hb dX3_learn_5 hl (by decide) rfl (fun ls hl => ?_)
    refine lv_aload_n hx hb dX3_learn_7 rfl (lv_at hl 1 rfl) ?_
    refine lv_iload_n hx hb dX3_learn_8 rfl (lv_at hl 3 rfl) ?_
    by_cases hk_9 : dk_fkP n y
    · have hi_9 : dk_fki y < n := dk_fk_lt hn hk_9
      refine up_read (W.runV (As := [.int y]) (rest := []) ⟨hx, hb, hml, hown, hts⟩ (c_X3_findS l dC dI cK cB cI o ks fa oa fb ob dr ds L n sp co en cr rl qs kA oA kB oB tt ss st K y hn hk_9) (cwV 1 hts gX3_learn_X3_find rfl rfl rfl (by decide +kernel) ⟨Nat.le_of_ble_eq_true rfl, Nat.le_of_ble_eq_true rfl⟩) (up_preV (q0 := 0) (ci := 4) hP hK hD rfl rfl) rfl rfl hl.1 rfl (lv_room (Nat.le_of_ble_eq_true rfl)) dX3_learn_9 ⟨Nat.le_of_ble_eq_true rfl, Nat.le_of_ble_eq_true rfl⟩) ?_
      refine lv_astore (lv' := [(5, .ref (L (dk_fki y))), (4, .ref (L (dk_fki x))), (0, .ref o), (1, .int x), (2, .int y), (3, .int z)]) hx hb dX3_learn_12 hl (by decide) rfl (fun ls hl => ?_)
      refine lv_aload_n hx hb dX3_learn_14 rfl (lv_at hl 2 rfl) ?_
      refine lv_iload_n hx hb dX3_learn_15 rfl (lv_at hl 5 rfl) ?_
      by_cases hk_16 : dk_fkP n z
      · have hi_16 : dk_fki z < n := dk_fk_lt hn hk_16
        refine up_read (W.runV (As := [.int z]) (rest := []) ⟨hx, hb, hml, hown, hts⟩ (c_X3_findS l dC dI cK cB cI o ks fa oa fb ob dr ds L n sp co en cr rl qs kA oA kB oB tt ss st K z hn hk_16) (cwV 1 hts gX3_learn_X3_find rfl rfl rfl (by decide +kernel) ⟨Nat.le_of_ble_eq_true rfl, Nat.le_of_ble_eq_true rfl⟩) (up_preV (q0 := 0) (ci := 4) hP hK hD rfl rfl) rfl rfl hl.1 rfl (lv_room (Nat.le_of_ble_eq_true rfl)) dX3_learn_16 ⟨Nat.le_of_ble_eq_true rfl, Nat.le_of_ble_eq_true rfl⟩) ?_
        refine lv_astore (lv' := [(6, .ref (L (dk_fki z))), (5, .ref (L (dk_fki y))), (4, .ref (L (dk_fki x))), (0, .ref o), (1, .int x), (2, .int y), (3, .int z)]) hx hb dX3_learn_19 hl (by decide) rfl (fun ls hl => ?_)
        refine lv_aload hx hb dX3_learn_21 (lv_at hl 2 rfl) ?_
        refine lv_ifnull hx hb dX3_learn_23 ?_
        refine lv_aload hx hb dX3_learn_26 (lv_at hl 1 rfl) ?_
        refine lv_ifnull hx hb dX3_learn_28 ?_
        refine lv_aload hx hb dX3_learn_31 (lv_at hl 0 rfl) ?_
        refine lv_ifnonnull (tgt := 38) hx hb dX3_learn_33 (by decide) ?_
        refine lv_aload hx hb dX3_learn_38 (lv_at hl 2 rfl) ?_
        refine va_get (D := (dC, dI)) (ci := 3) (v := .int ((K (dk_fki x)).2.2.2.1)) (C := RX2) (T := TX2) (N := 7) hx hb hts inn_X3_learn_X2 hown hK hP ((dk_fki x) + 8) (dk_keyk hi_2 rfl) rfl 3 (by decide) (hts (.fieldLink RX3 89 "DoorKeys$Key" "learned" "Z") (by decide +kernel)) (fun _ h9 => h9) rfl dX3_learn_40 ?_
        refine lv_if_ne (tgt := 67) hx hb dX3_learn_43 (by decide) (fun c_43 => ?_) (fun c_43 => ?_)
        · refine lv_iconst (v := 0) hx hb dX3_learn_67 (by decide) ?_
          have e_ : dk_learn n K x y z = ((0 : Int32), K) := by unfold dk_learn; exact (if_pos hk_2).trans ((if_pos hk_9).trans ((if_pos hk_16).trans ((if_neg c_43).trans rfl)))
          rw [e_]
          exact W.iret (v := 0) hx hb hr (fun t ht hW => ⟨rfl, by rw [ht]; exact hP, hS.F ht⟩) hS.2.2 dX3_learn_68
        · refine lv_iload_n hx hb dX3_learn_46 rfl (lv_at hl 5 rfl) ?_
          refine lv_iload_n hx hb dX3_learn_47 rfl (lv_at hl 6 rfl) ?_
          refine lv_icmp_eq (tgt := 67) hx hb dX3_learn_48 (by decide) (fun c_48 => ?_) (fun c_48 => ?_)
          · refine lv_iconst (v := 0) hx hb dX3_learn_67 (by decide) ?_
            have e_ : dk_learn n K x y z = ((0 : Int32), K) := by unfold dk_learn; exact (if_pos hk_2).trans ((if_pos hk_9).trans ((if_pos hk_16).trans ((if_pos c_43).trans ((if_pos c_48).trans rfl))))
            rw [e_]
            exact W.iret (v := 0) hx hb hr (fun t ht hW => ⟨rfl, by rw [ht]; exact hP, hS.F ht⟩) hS.2.2 dX3_learn_68
          · refine lv_aload hx hb dX3_learn_51 (lv_at hl 1 rfl) ?_
            refine up_read (W.runV (As := []) (rest := []) ⟨hx, hb, hml, hown, hts⟩ (c_X2_mayTeach l dC dI cK cB cI o ks fa oa fb ob dr ds L n sp co en cr rl qs kA oA kB oB tt ss st K (dk_fki y) (K (dk_fki y)) hi_9 rfl) (cwV 0 hts gX3_learn_X2_mayTeach rfl rfl rfl (by decide +kernel) ⟨Nat.le_of_ble_eq_true rfl, Nat.le_of_ble_eq_true rfl⟩) (up_preV (q0 := ((dk_fki y) + 8)) (ci := 3) hP hK hD rfl (dk_keyk hi_9 rfl)) rfl rfl hl.1 rfl (lv_room (Nat.le_of_ble_eq_true rfl)) dX3_learn_53 ⟨Nat.le_of_ble_eq_true rfl, Nat.le_of_ble_eq_true rfl⟩) ?_
            refine lv_if_eq (tgt := 67) hx hb dX3_learn_56 (by decide) (fun c_56 => ?_) (fun c_56 => ?_)
            · refine lv_iconst (v := 0) hx hb dX3_learn_67 (by decide) ?_
              have e_ : dk_learn n K x y z = ((0 : Int32), K) := by unfold dk_learn; exact (if_pos hk_2).trans ((if_pos hk_9).trans ((if_pos hk_16).trans ((if_pos c_43).trans ((if_neg c_48).trans ((if_pos c_56).trans rfl)))))
              rw [e_]
              exact W.iret (v := 0) hx hb hr (fun t ht hW => ⟨rfl, by rw [ht]; exact hP, hS.F ht⟩) hS.2.2 dX3_learn_68
            · refine lv_aload hx hb dX3_learn_59 (lv_at hl 0 rfl) ?_
              refine up_read (W.runV (As := []) (rest := []) ⟨hx, hb, hml, hown, hts⟩ (c_X2_mayTeach l dC dI cK cB cI o ks fa oa fb ob dr ds L n sp co en cr rl qs kA oA kB oB tt ss st K (dk_fki z) (K (dk_fki z)) hi_16 rfl) (cwV 0 hts gX3_learn_X2_mayTeach rfl rfl rfl (by decide +kernel) ⟨Nat.le_of_ble_eq_true rfl, Nat.le_of_ble_eq_true rfl⟩) (up_preV (q0 := ((dk_fki z) + 8)) (ci := 3) hP hK hD rfl (dk_keyk hi_16 rfl)) rfl rfl hl.1 rfl (lv_room (Nat.le_of_ble_eq_true rfl)) dX3_learn_61 ⟨Nat.le_of_ble_eq_true rfl, Nat.le_of_ble_eq_true rfl⟩) ?_
              refine lv_if_ne (tgt := 69) hx hb dX3_learn_64 (by decide) (fun c_64 => ?_) (fun c_64 => ?_)
              · refine lv_aload hx hb dX3_learn_69 (lv_at hl 2 rfl) ?_
                refine lv_iconst (v := 1) hx hb dX3_learn_71 (by decide) ?_
                refine va_put (D := (dC, dI)) (ci := 3) (v := .int 1) (ty := .boolean) (C := RX2) (T := TX2) (N := 7) hx hb hts inn_X3_learn_X2 tyX2 tyX2_ok nmX2 hown hK hP hD hS ((dk_fki x) + 8) (dk_keyk hi_2 rfl) rfl 3 (by decide) (hts (.fieldLink RX3 89 "DoorKeys$Key" "learned" "Z") (by decide +kernel)) (fun _ h9 => h9) rfl (by decide +kernel) rfl rfl (Nat.le_of_ble_eq_true rfl) dX3_learn_72 (fun H locs hP hD hS => ?_)
                have hP : va_P (dC, dI) vwCl (dkW cK cB cI o ks fa oa fb ob dr ds L n sp co en cr rl qs kA oA kB oB tt ss st (va_up K (dk_fki x) ((K (dk_fki x)).1, (K (dk_fki x)).2.1, (K (dk_fki x)).2.2.1, 1, (K (dk_fki x)).2.2.2.2.1, (K (dk_fki x)).2.2.2.2.2.1, (K (dk_fki x)).2.2.2.2.2.2))) H := up_cast (dk_put hi_2) hP
                have hD : va_D (up_c (dkW cK cB cI o ks fa oa fb ob dr ds L n sp co en cr rl qs kA oA kB oB tt ss st K)) (dkW cK cB cI o ks fa oa fb ob dr ds L n sp co en cr rl qs kA oA kB oB tt ss st (va_up K (dk_fki x) ((K (dk_fki x)).1, (K (dk_fki x)).2.1, (K (dk_fki x)).2.2.1, 1, (K (dk_fki x)).2.2.2.2.1, (K (dk_fki x)).2.2.2.2.2.1, (K (dk_fki x)).2.2.2.2.2.2))) := up_castD (dk_put hi_2) hD
                have hP : va_P (dC, dI) vwCl (dkW cK cB cI o ks fa oa fb ob dr ds L n sp co en cr rl qs kA oA kB oB tt ss st (va_up K (dk_fki x) ((K (dk_fki x)).1, (K (dk_fki x)).2.1, (K (dk_fki x)).2.2.1, 1, (K (dk_fki x)).2.2.2.2.1, (K (dk_fki x)).2.2.2.2.2.1, (K (dk_fki x)).2.2.2.2.2.2))) H := hP
                have hD : va_D (up_c (dkW cK cB cI o ks fa oa fb ob dr ds L n sp co en cr rl qs kA oA kB oB tt ss st K)) (dkW cK cB cI o ks fa oa fb ob dr ds L n sp co en cr rl qs kA oA kB oB tt ss st (va_up K (dk_fki x) ((K (dk_fki x)).1, (K (dk_fki x)).2.1, (K (dk_fki x)).2.2.1, 1, (K (dk_fki x)).2.2.2.2.1, (K (dk_fki x)).2.2.2.2.2.1, (K (dk_fki x)).2.2.2.2.2.2))) := hD
                refine lv_iconst (v := 1) hx hb dX3_learn_75 (by decide) ?_
                have e_ : dk_learn n K x y z = ((1 : Int32), (va_up K (dk_fki x) ((K (dk_fki x)).1, (K (dk_fki x)).2.1, (K (dk_fki x)).2.2.1, 1, (K (dk_fki x)).2.2.2.2.1, (K (dk_fki x)).2.2.2.2.2.1, (K (dk_fki x)).2.2.2.2.2.2))) := by unfold dk_learn; exact (if_pos hk_2).trans ((if_pos hk_9).trans ((if_pos hk_16).trans ((if_pos c_43).trans ((if_neg c_48).trans ((if_neg c_56).trans ((if_neg c_64).trans rfl))))))
                rw [e_]
                exact W.iret (v := 1) hx hb hr (fun t ht hW => ⟨rfl, by rw [ht]; exact hP, hS.F ht⟩) hS.2.2 dX3_learn_76
              · refine lv_iconst (v := 0) hx hb dX3_learn_67 (by decide) ?_
                have e_ : dk_learn n K x y z = ((0 : Int32), K) := by unfold dk_learn; exact (if_pos hk_2).trans ((if_pos hk_9).trans ((if_pos hk_16).trans ((if_pos c_43).trans ((if_neg c_48).trans ((if_neg c_56).trans ((if_pos c_64).trans rfl))))))
                rw [e_]
                exact W.iret (v := 0) hx hb hr (fun t ht hW => ⟨rfl, by rw [ht]; exact hP, hS.F ht⟩) hS.2.2 dX3_learn_68
      · refine up_read (W.runV (As := [.int z]) (rest := []) ⟨hx, hb, hml, hown, hts⟩ (c_X3_findN l dC dI cK cB cI o ks fa oa fb ob dr ds L n sp co en cr rl qs kA oA kB oB tt ss st K z hn hk_16) (cwV 1 hts gX3_learn_X3_find rfl rfl rfl (by decide +kernel) ⟨Nat.le_of_ble_eq_true rfl, Nat.le_of_ble_eq_true rfl⟩) (up_preV (q0 := 0) (ci := 4) hP hK hD rfl rfl) rfl rfl hl.1 rfl (lv_room (Nat.le_of_ble_eq_true rfl)) dX3_learn_16 ⟨Nat.le_of_ble_eq_true rfl, Nat.le_of_ble_eq_true rfl⟩) ?_
        refine lv_astoreN (lv' := [(6, .null), (5, .ref (L (dk_fki y))), (4, .ref (L (dk_fki x))), (0, .ref o), (1, .int x), (2, .int y), (3, .int z)]) hx hb dX3_learn_19 hl (by decide) rfl (fun ls hl => ?_)
        refine lv_aload hx hb dX3_learn_21 (lv_at hl 2 rfl) ?_
        refine lv_ifnull hx hb dX3_learn_23 ?_
        refine lv_aload hx hb dX3_learn_26 (lv_at hl 1 rfl) ?_
        refine lv_ifnull hx hb dX3_learn_28 ?_
        refine lv_aloadN hx hb dX3_learn_31 (lv_at hl 0 rfl) ?_
        refine lv_ifnonnullN hx hb dX3_learn_33 ?_
        refine lv_iconst (v := (-1)) hx hb dX3_learn_36 (by decide) ?_
        have e_ : dk_learn n K x y z = (((-1) : Int32), K) := by unfold dk_learn; exact (if_pos hk_2).trans ((if_pos hk_9).trans ((if_neg hk_16).trans rfl))
        rw [e_]
        exact W.iret (v := (-1)) hx hb hr (fun t ht hW => ⟨rfl, by rw [ht]; exact hP, hS.F ht⟩) hS.2.2 dX3_learn_37
    · refine up_read (W.runV (As := [.int y]) (rest := []) ⟨hx, hb, hml, hown, hts⟩ (c_X3_findN l dC dI cK cB cI o ks fa oa fb ob dr ds L n sp co en cr rl qs kA oA kB oB tt ss st K y hn hk_9) (cwV 1 hts gX3_learn_X3_find rfl rfl rfl (by decide +kernel) ⟨Nat.le_of_ble_eq_true rfl, Nat.le_of_ble_eq_true rfl⟩) (up_preV (q0 := 0) (ci := 4) hP hK hD rfl rfl) rfl rfl hl.1 rfl (lv_room (Nat.le_of_ble_eq_true rfl)) dX3_learn_9 ⟨Nat.le_of_ble_eq_true rfl, Nat.le_of_ble_eq_true rfl⟩) ?_
      refine lv_astoreN (lv' := [(5, .null), (4, .ref (L (dk_fki x))), (0, .ref o), (1, .int x), (2, .int y), (3, .int z)]) hx hb dX3_learn_12 hl (by decide) rfl (fun ls hl => ?_)
      refine lv_aload_n hx hb dX3_learn_14 rfl (lv_at hl 2 rfl) ?_
      refine lv_iload_n hx hb dX3_learn_15 rfl (lv_at hl 5 rfl) ?_
      by_cases hk_16 : dk_fkP n z
      · have hi_16 : dk_fki z < n := dk_fk_lt hn hk_16
        refine up_read (W.runV (As := [.int z]) (rest := []) ⟨hx, hb, hml, hown, hts⟩ (c_X3_findS l dC dI cK cB cI o ks fa oa fb ob dr ds L n sp co en cr rl qs kA oA kB oB tt ss st K z hn hk_16) (cwV 1 hts gX3_learn_X3_find rfl rfl rfl (by decide +kernel) ⟨Nat.le_of_ble_eq_true rfl, Nat.le_of_ble_eq_true rfl⟩) (up_preV (q0 := 0) (ci := 4) hP hK hD rfl rfl) rfl rfl hl.1 rfl (lv_room (Nat.le_of_ble_eq_true rfl)) dX3_learn_16 ⟨Nat.le_of_ble_eq_true rfl, Nat.le_of_ble_eq_true rfl⟩) ?_
        refine lv_astore (lv' := [(6, .ref (L (dk_fki z))), (5, .null), (4, .ref (L (dk_fki x))), (0, .ref o), (1, .int x), (2, .int y), (3, .int z)]) hx hb dX3_learn_19 hl (by decide) rfl (fun ls hl => ?_)
        refine lv_aload hx hb dX3_learn_21 (lv_at hl 2 rfl) ?_
        refine lv_ifnull hx hb dX3_learn_23 ?_
        refine lv_aloadN hx hb dX3_learn_26 (lv_at hl 1 rfl) ?_
        refine lv_ifnullN (tgt := 36) hx hb dX3_learn_28 (by decide) ?_
        refine lv_iconst (v := (-1)) hx hb dX3_learn_36 (by decide) ?_
        have e_ : dk_learn n K x y z = (((-1) : Int32), K) := by unfold dk_learn; exact (if_pos hk_2).trans ((if_neg hk_9).trans ((if_pos hk_16).trans rfl))
        rw [e_]
        exact W.iret (v := (-1)) hx hb hr (fun t ht hW => ⟨rfl, by rw [ht]; exact hP, hS.F ht⟩) hS.2.2 dX3_learn_37
      · refine up_read (W.runV (As := [.int z]) (rest := []) ⟨hx, hb, hml, hown, hts⟩ (c_X3_findN l dC dI cK cB cI o ks fa oa fb ob dr ds L n sp co en cr rl qs kA oA kB oB tt ss st K z hn hk_16) (cwV 1 hts gX3_learn_X3_find rfl rfl rfl (by decide +kernel) ⟨Nat.le_of_ble_eq_true rfl, Nat.le_of_ble_eq_true rfl⟩) (up_preV (q0 := 0) (ci := 4) hP hK hD rfl rfl) rfl rfl hl.1 rfl (lv_room (Nat.le_of_ble_eq_true rfl)) dX3_learn_16 ⟨Nat.le_of_ble_eq_true rfl, Nat.le_of_ble_eq_true rfl⟩) ?_
        refine lv_astoreN (lv' := [(6, .null), (5, .null), (4, .ref (L (dk_fki x))), (0, .ref o), (1, .int x), (2, .int y), (3, .int z)]) hx hb dX3_learn_19 hl (by decide) rfl (fun ls hl => ?_)
        refine lv_aload hx hb dX3_learn_21 (lv_at hl 2 rfl) ?_
        refine lv_ifnull hx hb dX3_learn_23 ?_
        refine lv_aloadN hx hb dX3_learn_26 (lv_at hl 1 rfl) ?_
        refine lv_ifnullN (tgt := 36) hx hb dX3_learn_28 (by decide) ?_
        refine lv_iconst (v := (-1)) hx hb dX3_learn_36 (by decide) ?_
        have e_ : dk_learn n K x y z = (((-1) : Int32), K) := by unfold dk_learn; exact (if_pos hk_2).trans ((if_neg hk_9).trans ((if_neg hk_16).trans rfl))
        rw [e_]
        exact W.iret (v := (-1)) hx hb hr (fun t ht hW => ⟨rfl, by rw [ht]; exact hP, hS.F ht⟩) hS.2.2 dX3_learn_37
  · refine up_read (W.runV (As := [.int x]) (rest := []) ⟨hx, hb, hml, hown, hts⟩ (c_X3_findN l dC dI cK cB cI o ks fa oa fb ob dr ds L n sp co en cr rl qs kA oA kB oB tt ss st K x hn hk_2) (cwV 1 hts gX3_learn_X3_find rfl rfl rfl (by decide +kernel) ⟨Nat.le_of_ble_eq_true rfl, Nat.le_of_ble_eq_true rfl⟩) (up_preV (q0 := 0) (ci := 4) hP hK hD rfl rfl) rfl rfl hl.1 rfl (lv_room (Nat.le_of_ble_eq_true rfl)) dX3_learn_2 ⟨Nat.le_of_ble_eq_true rfl, Nat.le_of_ble_eq_true rfl⟩) ?_
    refine lv_astoreN (lv' := [(4, .null), (0, .ref o), (1, .int x), (2, .int y), (3, .int z)]) hx hb dX3_learn_5 hl (by decide) rfl (fun ls hl => ?_)
    refine lv_aload_n hx hb dX3_learn_7 rfl (lv_at hl 1 rfl) ?_
    refine lv_iload_n hx hb dX3_learn_8 rfl (lv_at hl 3 rfl) ?_
    by_cases hk_9 : dk_fkP n y
    · have hi_9 : dk_fki y < n := dk_fk_lt hn hk_9
      refine up_read (W.runV (As := [.int y]) (rest := []) ⟨hx, hb, hml, hown, hts⟩ (c_X3_findS l dC dI cK cB cI o ks fa oa fb ob dr ds L n sp co en cr rl qs kA oA kB oB tt ss st K y hn hk_9) (cwV 1 hts gX3_learn_X3_find rfl rfl rfl (by decide +kernel) ⟨Nat.le_of_ble_eq_true rfl, Nat.le_of_ble_eq_true rfl⟩) (up_preV (q0 := 0) (ci := 4) hP hK hD rfl rfl) rfl rfl hl.1 rfl (lv_room (Nat.le_of_ble_eq_true rfl)) dX3_learn_9 ⟨Nat.le_of_ble_eq_true rfl, Nat.le_of_ble_eq_true rfl⟩) ?_
      refine lv_astore (lv' := [(5, .ref (L (dk_fki y))), (4, .null), (0, .ref o), (1, .int x), (2, .int y), (3, .int z)]) hx hb dX3_learn_12 hl (by decide) rfl (fun ls hl => ?_)
      refine lv_aload_n hx hb dX3_learn_14 rfl (lv_at hl 2 rfl) ?_
      refine lv_iload_n hx hb dX3_learn_15 rfl (lv_at hl 5 rfl) ?_
      by_cases hk_16 : dk_fkP n z
      · have hi_16 : dk_fki z < n := dk_fk_lt hn hk_16
        refine up_read (W.runV (As := [.int z]) (rest := []) ⟨hx, hb, hml, hown, hts⟩ (c_X3_findS l dC dI cK cB cI o ks fa oa fb ob dr ds L n sp co en cr rl qs kA oA kB oB tt ss st K z hn hk_16) (cwV 1 hts gX3_learn_X3_find rfl rfl rfl (by decide +kernel) ⟨Nat.le_of_ble_eq_true rfl, Nat.le_of_ble_eq_true rfl⟩) (up_preV (q0 := 0) (ci := 4) hP hK hD rfl rfl) rfl rfl hl.1 rfl (lv_room (Nat.le_of_ble_eq_true rfl)) dX3_learn_16 ⟨Nat.le_of_ble_eq_true rfl, Nat.le_of_ble_eq_true rfl⟩) ?_
        refine lv_astore (lv' := [(6, .ref (L (dk_fki z))), (5, .ref (L (dk_fki y))), (4, .null), (0, .ref o), (1, .int x), (2, .int y), (3, .int z)]) hx hb dX3_learn_19 hl (by decide) rfl (fun ls hl => ?_)
        refine lv_aloadN hx hb dX3_learn_21 (lv_at hl 2 rfl) ?_
        refine lv_ifnullN (tgt := 36) hx hb dX3_learn_23 (by decide) ?_
        refine lv_iconst (v := (-1)) hx hb dX3_learn_36 (by decide) ?_
        have e_ : dk_learn n K x y z = (((-1) : Int32), K) := by unfold dk_learn; exact (if_neg hk_2).trans ((if_pos hk_9).trans ((if_pos hk_16).trans rfl))
        rw [e_]
        exact W.iret (v := (-1)) hx hb hr (fun t ht hW => ⟨rfl, by rw [ht]; exact hP, hS.F ht⟩) hS.2.2 dX3_learn_37
      · refine up_read (W.runV (As := [.int z]) (rest := []) ⟨hx, hb, hml, hown, hts⟩ (c_X3_findN l dC dI cK cB cI o ks fa oa fb ob dr ds L n sp co en cr rl qs kA oA kB oB tt ss st K z hn hk_16) (cwV 1 hts gX3_learn_X3_find rfl rfl rfl (by decide +kernel) ⟨Nat.le_of_ble_eq_true rfl, Nat.le_of_ble_eq_true rfl⟩) (up_preV (q0 := 0) (ci := 4) hP hK hD rfl rfl) rfl rfl hl.1 rfl (lv_room (Nat.le_of_ble_eq_true rfl)) dX3_learn_16 ⟨Nat.le_of_ble_eq_true rfl, Nat.le_of_ble_eq_true rfl⟩) ?_
        refine lv_astoreN (lv' := [(6, .null), (5, .ref (L (dk_fki y))), (4, .null), (0, .ref o), (1, .int x), (2, .int y), (3, .int z)]) hx hb dX3_learn_19 hl (by decide) rfl (fun ls hl => ?_)
        refine lv_aloadN hx hb dX3_learn_21 (lv_at hl 2 rfl) ?_
        refine lv_ifnullN (tgt := 36) hx hb dX3_learn_23 (by decide) ?_
        refine lv_iconst (v := (-1)) hx hb dX3_learn_36 (by decide) ?_
        have e_ : dk_learn n K x y z = (((-1) : Int32), K) := by unfold dk_learn; exact (if_neg hk_2).trans ((if_pos hk_9).trans ((if_neg hk_16).trans rfl))
        rw [e_]
        exact W.iret (v := (-1)) hx hb hr (fun t ht hW => ⟨rfl, by rw [ht]; exact hP, hS.F ht⟩) hS.2.2 dX3_learn_37
    · refine up_read (W.runV (As := [.int y]) (rest := []) ⟨hx, hb, hml, hown, hts⟩ (c_X3_findN l dC dI cK cB cI o ks fa oa fb ob dr ds L n sp co en cr rl qs kA oA kB oB tt ss st K y hn hk_9) (cwV 1 hts gX3_learn_X3_find rfl rfl rfl (by decide +kernel) ⟨Nat.le_of_ble_eq_true rfl, Nat.le_of_ble_eq_true rfl⟩) (up_preV (q0 := 0) (ci := 4) hP hK hD rfl rfl) rfl rfl hl.1 rfl (lv_room (Nat.le_of_ble_eq_true rfl)) dX3_learn_9 ⟨Nat.le_of_ble_eq_true rfl, Nat.le_of_ble_eq_true rfl⟩) ?_
      refine lv_astoreN (lv' := [(5, .null), (4, .null), (0, .ref o), (1, .int x), (2, .int y), (3, .int z)]) hx hb dX3_learn_12 hl (by decide) rfl (fun ls hl => ?_)
      refine lv_aload_n hx hb dX3_learn_14 rfl (lv_at hl 2 rfl) ?_
      refine lv_iload_n hx hb dX3_learn_15 rfl (lv_at hl 5 rfl) ?_
      by_cases hk_16 : dk_fkP n z
      · have hi_16 : dk_fki z < n := dk_fk_lt hn hk_16
        refine up_read (W.runV (As := [.int z]) (rest := []) ⟨hx, hb, hml, hown, hts⟩ (c_X3_findS l dC dI cK cB cI o ks fa oa fb ob dr ds L n sp co en cr rl qs kA oA kB oB tt ss st K z hn hk_16) (cwV 1 hts gX3_learn_X3_find rfl rfl rfl (by decide +kernel) ⟨Nat.le_of_ble_eq_true rfl, Nat.le_of_ble_eq_true rfl⟩) (up_preV (q0 := 0) (ci := 4) hP hK hD rfl rfl) rfl rfl hl.1 rfl (lv_room (Nat.le_of_ble_eq_true rfl)) dX3_learn_16 ⟨Nat.le_of_ble_eq_true rfl, Nat.le_of_ble_eq_true rfl⟩) ?_
        refine lv_astore (lv' := [(6, .ref (L (dk_fki z))), (5, .null), (4, .null), (0, .ref o), (1, .int x), (2, .int y), (3, .int z)]) hx hb dX3_learn_19 hl (by decide) rfl (fun ls hl => ?_)
        refine lv_aloadN hx hb dX3_learn_21 (lv_at hl 2 rfl) ?_
        refine lv_ifnullN (tgt := 36) hx hb dX3_learn_23 (by decide) ?_
        refine lv_iconst (v := (-1)) hx hb dX3_learn_36 (by decide) ?_
        have e_ : dk_learn n K x y z = (((-1) : Int32), K) := by unfold dk_learn; exact (if_neg hk_2).trans ((if_neg hk_9).trans ((if_pos hk_16).trans rfl))
        rw [e_]
        exact W.iret (v := (-1)) hx hb hr (fun t ht hW => ⟨rfl, by rw [ht]; exact hP, hS.F ht⟩) hS.2.2 dX3_learn_37
      · refine up_read (W.runV (As := [.int z]) (rest := []) ⟨hx, hb, hml, hown, hts⟩ (c_X3_findN l dC dI cK cB cI o ks fa oa fb ob dr ds L n sp co en cr rl qs kA oA kB oB tt ss st K z hn hk_16) (cwV 1 hts gX3_learn_X3_find rfl rfl rfl (by decide +kernel) ⟨Nat.le_of_ble_eq_true rfl, Nat.le_of_ble_eq_true rfl⟩) (up_preV (q0 := 0) (ci := 4) hP hK hD rfl rfl) rfl rfl hl.1 rfl (lv_room (Nat.le_of_ble_eq_true rfl)) dX3_learn_16 ⟨Nat.le_of_ble_eq_true rfl, Nat.le_of_ble_eq_true rfl⟩) ?_
        refine lv_astoreN (lv' := [(6, .null), (5, .null), (4, .null), (0, .ref o), (1, .int x), (2, .int y), (3, .int z)]) hx hb dX3_learn_19 hl (by decide) rfl (fun ls hl => ?_)
        refine lv_aloadN hx hb dX3_learn_21 (lv_at hl 2 rfl) ?_
        refine lv_ifnullN (tgt := 36) hx hb dX3_learn_23 (by decide) ?_
        refine lv_iconst (v := (-1)) hx hb dX3_learn_36 (by decide) ?_
        have e_ : dk_learn n K x y z = (((-1) : Int32), K) := by unfold dk_learn; exact (if_neg hk_2).trans ((if_neg hk_9).trans ((if_neg hk_16).trans rfl))
        rw [e_]
        exact W.iret (v := (-1)) hx hb hr (fun t ht hW => ⟨rfl, by rw [ht]; exact hP, hS.F ht⟩) hS.2.2 dX3_learn_37
def dk_erase (n : Nat) (K : Nat → KR) (x : Int32) : Int32 × (Nat → KR) :=
  if dk_fkP n x then
    if (K (dk_fki x)).2.2.2.1 = 0 then
      ((0 : Int32), K)
    else
      if dk_lk n K = 1 then
        ((0 : Int32), K)
      else
        ((1 : Int32), (va_up K (dk_fki x) ((K (dk_fki x)).1, (K (dk_fki x)).2.1, (K (dk_fki x)).2.2.1, 0, 0, 0, (K (dk_fki x)).2.2.2.2.2.2)))
  else
    (((-1) : Int32), K)
def rm_X3_erase : Room := { frames := 2, cells := 0, slots := 0, locals := 44 }
set_option maxHeartbeats 4000000 in
set_option maxRecDepth 100000 in
theorem c_X3_erase (l : Launch) (dC : Nat → ClassId) (dI : Nat → Nat → Nat) (cK : ClassId) (cB : ClassId) (cI : ClassId) (o : Nat) (ks : Nat) (fa : Nat) (oa : Nat) (fb : Nat) (ob : Nat) (dr : Nat) (ds : Nat) (L : Nat → Nat) (n : Nat) (sp : Int32) (co : Nat) (en : Nat) (cr : Int32) (rl : Int32) (qs : Int32) (kA : Int32) (oA : Nat → Int8) (kB : Int32) (oB : Nat → Int8) (tt : Int64) (ss : Int64) (st : Nat → Int32) (K : Nat → KR) (x : Int32) (hn : n ≤ 8) : Met l yX3_erase wsX3_erase rm_X3_erase (up_P (dC, dI) vwCl (dkT cK cB cI) (dkW cK cB cI o ks fa oa fb ob dr ds L n sp co en cr rl qs kA oA kB oB tt ss st K) [.ref o, .int x]) (up_Q (dC, dI) vwCl (some (.int ((dk_erase n K x).1))) (dkW cK cB cI o ks fa oa fb ob dr ds L n sp co en cr rl qs kA oA kB oB tt ss st K) (dkW cK cB cI o ks fa oa fb ob dr ds L n sp co en cr rl qs kA oA kB oB tt ss st ((dk_erase n K x).2))) 0 0 (up_c (dkW cK cB cI o ks fa oa fb ob dr ds L n sp co en cr rl qs kA oA kB oB tt ss st K)) := by
  refine Met.ofW (cc := cX3_erase) (maxL := 3) (ret := (some .int)) (by decide) rfl ?_
  intro p e s m args below meth c s₁ B hml hv
  obtain ⟨rfl, hP, hK, hD0⟩ := hv
  have hx := B.exec
  have hb := B.bytes
  have hr := B.returns
  have hts := atoms_spec (ws := wsX3_erase) B.pre
  have hown : s.vm.findClass RX3 = some m.cls := findClass_of_methodNamed B.named
  have hlocks := B.notSynchronized
  have hD := up_self hD0
  have hS : va_S (up_c (dkW cK cB cI o ks fa oa fb ob dr ds L n sp co en cr rl qs kA oA kB oB tt ss st K)) s.heap s.heap [] := va_S.rf
  have hl := lv_entry ([.ref o, .int x]) (n := 3) (Nat.le_of_ble_eq_true rfl)
  rw [lg_entry_eq]
  generalize (lg_sl ([.ref o, .int x]) ++ List.replicate (3 - (lg_sl ([.ref o, .int x])).length) Slot.unset).toArray = ls at hl ⊢
  have hl : lv_has ls 3 [(0, .ref o), (1, .int x)] := hl
  refine lv_aload_n hx hb dX3_erase_0 rfl (lv_at hl 0 rfl) ?_
  refine lv_iload_n hx hb dX3_erase_1 rfl (lv_at hl 1 rfl) ?_
  by_cases hk_2 : dk_fkP n x
  · have hi_2 : dk_fki x < n := dk_fk_lt hn hk_2
    refine up_read (W.runV (As := [.int x]) (rest := []) ⟨hx, hb, hml, hown, hts⟩ (c_X3_findS l dC dI cK cB cI o ks fa oa fb ob dr ds L n sp co en cr rl qs kA oA kB oB tt ss st K x hn hk_2) (cwV 1 hts gX3_erase_X3_find rfl rfl rfl (by decide +kernel) ⟨Nat.le_of_ble_eq_true rfl, Nat.le_of_ble_eq_true rfl⟩) (up_preV (q0 := 0) (ci := 4) hP hK hD rfl rfl) rfl rfl hl.1 rfl (lv_room (Nat.le_of_ble_eq_true rfl)) dX3_erase_2 ⟨Nat.le_of_ble_eq_true rfl, Nat.le_of_ble_eq_true rfl⟩) ?_
    refine lv_astore_n (lv' := [(2, .ref (L (dk_fki x))), (0, .ref o), (1, .int x)]) hx hb dX3_erase_5 rfl hl (by decide) rfl (fun ls hl => ?_)
    refine lv_aload_n hx hb dX3_erase_6 rfl (lv_at hl 0 rfl) ?_
    refine lv_ifnonnull (tgt := 12) hx hb dX3_erase_7 (by decide) ?_
    refine lv_aload_n hx hb dX3_erase_12 rfl (lv_at hl 0 rfl) ?_
    refine va_get (D := (dC, dI)) (ci := 3) (v := .int ((K (dk_fki x)).2.2.2.1)) (C := RX2) (T := TX2) (N := 7) hx hb hts inn_X3_erase_X2 hown hK hP ((dk_fki x) + 8) (dk_keyk hi_2 rfl) rfl 3 (by decide) (hts (.fieldLink RX3 89 "DoorKeys$Key" "learned" "Z") (by decide +kernel)) (fun _ h9 => h9) rfl dX3_erase_13 ?_
    refine lv_if_eq (tgt := 27) hx hb dX3_erase_16 (by decide) (fun c_16 => ?_) (fun c_16 => ?_)
    · refine lv_iconst (v := 0) hx hb dX3_erase_27 (by decide) ?_
      have e_ : dk_erase n K x = ((0 : Int32), K) := by unfold dk_erase; exact (if_pos hk_2).trans ((if_pos c_16).trans rfl)
      rw [e_]
      exact W.iret (v := 0) hx hb hr (fun t ht hW => ⟨rfl, by rw [ht]; exact hP, hS.F ht⟩) hS.2.2 dX3_erase_28
    · refine lv_aload_n hx hb dX3_erase_19 rfl (lv_at hl 1 rfl) ?_
      refine up_read (W.runV (As := []) (rest := []) ⟨hx, hb, hml, hown, hts⟩ (c_X3_learnedKeys l dC dI cK cB cI o ks fa oa fb ob dr ds L n sp co en cr rl qs kA oA kB oB tt ss st K hn) (cwV 0 hts gX3_erase_X3_learnedKeys rfl rfl rfl (by decide +kernel) ⟨Nat.le_of_ble_eq_true rfl, Nat.le_of_ble_eq_true rfl⟩) (up_preV (q0 := 0) (ci := 4) hP hK hD rfl rfl) rfl rfl hl.1 rfl (lv_room (Nat.le_of_ble_eq_true rfl)) dX3_erase_20 ⟨Nat.le_of_ble_eq_true rfl, Nat.le_of_ble_eq_true rfl⟩) ?_
      refine lv_iconst (v := 1) hx hb dX3_erase_23 (by decide) ?_
      refine lv_icmp_ne (tgt := 29) hx hb dX3_erase_24 (by decide) (fun c_24 => ?_) (fun c_24 => ?_)
      · refine lv_aload_n hx hb dX3_erase_29 rfl (lv_at hl 0 rfl) ?_
        refine lv_iconst (v := 0) hx hb dX3_erase_30 (by decide) ?_
        refine va_put (D := (dC, dI)) (ci := 3) (v := .int 0) (ty := .boolean) (C := RX2) (T := TX2) (N := 7) hx hb hts inn_X3_erase_X2 tyX2 tyX2_ok nmX2 hown hK hP hD hS ((dk_fki x) + 8) (dk_keyk hi_2 rfl) rfl 3 (by decide) (hts (.fieldLink RX3 89 "DoorKeys$Key" "learned" "Z") (by decide +kernel)) (fun _ h9 => h9) rfl (by decide +kernel) rfl rfl (Nat.le_of_ble_eq_true rfl) dX3_erase_31 (fun H locs hP hD hS => ?_)
        have hP : va_P (dC, dI) vwCl (dkW cK cB cI o ks fa oa fb ob dr ds L n sp co en cr rl qs kA oA kB oB tt ss st (va_up K (dk_fki x) ((K (dk_fki x)).1, (K (dk_fki x)).2.1, (K (dk_fki x)).2.2.1, 0, (K (dk_fki x)).2.2.2.2.1, (K (dk_fki x)).2.2.2.2.2.1, (K (dk_fki x)).2.2.2.2.2.2))) H := up_cast (dk_put hi_2) hP
        have hD : va_D (up_c (dkW cK cB cI o ks fa oa fb ob dr ds L n sp co en cr rl qs kA oA kB oB tt ss st K)) (dkW cK cB cI o ks fa oa fb ob dr ds L n sp co en cr rl qs kA oA kB oB tt ss st (va_up K (dk_fki x) ((K (dk_fki x)).1, (K (dk_fki x)).2.1, (K (dk_fki x)).2.2.1, 0, (K (dk_fki x)).2.2.2.2.1, (K (dk_fki x)).2.2.2.2.2.1, (K (dk_fki x)).2.2.2.2.2.2))) := up_castD (dk_put hi_2) hD
        have hP : va_P (dC, dI) vwCl (dkW cK cB cI o ks fa oa fb ob dr ds L n sp co en cr rl qs kA oA kB oB tt ss st (va_up K (dk_fki x) ((K (dk_fki x)).1, (K (dk_fki x)).2.1, (K (dk_fki x)).2.2.1, 0, (K (dk_fki x)).2.2.2.2.1, (K (dk_fki x)).2.2.2.2.2.1, (K (dk_fki x)).2.2.2.2.2.2))) H := hP
        have hD : va_D (up_c (dkW cK cB cI o ks fa oa fb ob dr ds L n sp co en cr rl qs kA oA kB oB tt ss st K)) (dkW cK cB cI o ks fa oa fb ob dr ds L n sp co en cr rl qs kA oA kB oB tt ss st (va_up K (dk_fki x) ((K (dk_fki x)).1, (K (dk_fki x)).2.1, (K (dk_fki x)).2.2.1, 0, (K (dk_fki x)).2.2.2.2.1, (K (dk_fki x)).2.2.2.2.2.1, (K (dk_fki x)).2.2.2.2.2.2))) := hD
        refine lv_aload_n hx hb dX3_erase_34 rfl (lv_at hl 0 rfl) ?_
        refine lv_iconst (v := 0) hx hb dX3_erase_35 (by decide) ?_
        refine va_put (D := (dC, dI)) (ci := 3) (v := .int 0) (ty := .boolean) (C := RX2) (T := TX2) (N := 7) hx hb hts inn_X3_erase_X2 tyX2 tyX2_ok nmX2 hown hK hP hD hS ((dk_fki x) + 8) (dk_keyk hi_2 (va_up_self _ _ _)) rfl 4 (by decide) (hts (.fieldLink RX3 99 "DoorKeys$Key" "near" "Z") (by decide +kernel)) (fun _ h9 => h9) rfl (by decide +kernel) rfl rfl (Nat.le_of_ble_eq_true rfl) dX3_erase_36 (fun H locs hP hD hS => ?_)
        have hP : va_P (dC, dI) vwCl (dkW cK cB cI o ks fa oa fb ob dr ds L n sp co en cr rl qs kA oA kB oB tt ss st (va_up K (dk_fki x) ((K (dk_fki x)).1, (K (dk_fki x)).2.1, (K (dk_fki x)).2.2.1, 0, 0, (K (dk_fki x)).2.2.2.2.2.1, (K (dk_fki x)).2.2.2.2.2.2))) H := up_cast (dk_putU hi_2) hP
        have hD : va_D (up_c (dkW cK cB cI o ks fa oa fb ob dr ds L n sp co en cr rl qs kA oA kB oB tt ss st K)) (dkW cK cB cI o ks fa oa fb ob dr ds L n sp co en cr rl qs kA oA kB oB tt ss st (va_up K (dk_fki x) ((K (dk_fki x)).1, (K (dk_fki x)).2.1, (K (dk_fki x)).2.2.1, 0, 0, (K (dk_fki x)).2.2.2.2.2.1, (K (dk_fki x)).2.2.2.2.2.2))) := up_castD (dk_putU hi_2) hD
        have hP : va_P (dC, dI) vwCl (dkW cK cB cI o ks fa oa fb ob dr ds L n sp co en cr rl qs kA oA kB oB tt ss st (va_up K (dk_fki x) ((K (dk_fki x)).1, (K (dk_fki x)).2.1, (K (dk_fki x)).2.2.1, 0, 0, (K (dk_fki x)).2.2.2.2.2.1, (K (dk_fki x)).2.2.2.2.2.2))) H := hP
        have hD : va_D (up_c (dkW cK cB cI o ks fa oa fb ob dr ds L n sp co en cr rl qs kA oA kB oB tt ss st K)) (dkW cK cB cI o ks fa oa fb ob dr ds L n sp co en cr rl qs kA oA kB oB tt ss st (va_up K (dk_fki x) ((K (dk_fki x)).1, (K (dk_fki x)).2.1, (K (dk_fki x)).2.2.1, 0, 0, (K (dk_fki x)).2.2.2.2.2.1, (K (dk_fki x)).2.2.2.2.2.2))) := hD
        refine lv_aload_n hx hb dX3_erase_39 rfl (lv_at hl 0 rfl) ?_
        refine lv_iconst (v := 0) hx hb dX3_erase_40 (by decide) ?_
        refine va_put (D := (dC, dI)) (ci := 3) (v := .int 0) (ty := .boolean) (C := RX2) (T := TX2) (N := 7) hx hb hts inn_X3_erase_X2 tyX2 tyX2_ok nmX2 hown hK hP hD hS ((dk_fki x) + 8) (dk_keyk hi_2 (va_up_self _ _ _)) rfl 5 (by decide) (hts (.fieldLink RX3 102 "DoorKeys$Key" "inside" "Z") (by decide +kernel)) (fun _ h9 => h9) rfl (by decide +kernel) rfl rfl (Nat.le_of_ble_eq_true rfl) dX3_erase_41 (fun H locs hP hD hS => ?_)
        have hP : va_P (dC, dI) vwCl (dkW cK cB cI o ks fa oa fb ob dr ds L n sp co en cr rl qs kA oA kB oB tt ss st (va_up K (dk_fki x) ((K (dk_fki x)).1, (K (dk_fki x)).2.1, (K (dk_fki x)).2.2.1, 0, 0, 0, (K (dk_fki x)).2.2.2.2.2.2))) H := up_cast (dk_putU hi_2) hP
        have hD : va_D (up_c (dkW cK cB cI o ks fa oa fb ob dr ds L n sp co en cr rl qs kA oA kB oB tt ss st K)) (dkW cK cB cI o ks fa oa fb ob dr ds L n sp co en cr rl qs kA oA kB oB tt ss st (va_up K (dk_fki x) ((K (dk_fki x)).1, (K (dk_fki x)).2.1, (K (dk_fki x)).2.2.1, 0, 0, 0, (K (dk_fki x)).2.2.2.2.2.2))) := up_castD (dk_putU hi_2) hD
        have hP : va_P (dC, dI) vwCl (dkW cK cB cI o ks fa oa fb ob dr ds L n sp co en cr rl qs kA oA kB oB tt ss st (va_up K (dk_fki x) ((K (dk_fki x)).1, (K (dk_fki x)).2.1, (K (dk_fki x)).2.2.1, 0, 0, 0, (K (dk_fki x)).2.2.2.2.2.2))) H := hP
        have hD : va_D (up_c (dkW cK cB cI o ks fa oa fb ob dr ds L n sp co en cr rl qs kA oA kB oB tt ss st K)) (dkW cK cB cI o ks fa oa fb ob dr ds L n sp co en cr rl qs kA oA kB oB tt ss st (va_up K (dk_fki x) ((K (dk_fki x)).1, (K (dk_fki x)).2.1, (K (dk_fki x)).2.2.1, 0, 0, 0, (K (dk_fki x)).2.2.2.2.2.2))) := hD
        refine lv_iconst (v := 1) hx hb dX3_erase_44 (by decide) ?_
        have e_ : dk_erase n K x = ((1 : Int32), (va_up K (dk_fki x) ((K (dk_fki x)).1, (K (dk_fki x)).2.1, (K (dk_fki x)).2.2.1, 0, 0, 0, (K (dk_fki x)).2.2.2.2.2.2))) := by unfold dk_erase; exact (if_pos hk_2).trans ((if_neg c_16).trans ((if_neg c_24).trans rfl))
        rw [e_]
        exact W.iret (v := 1) hx hb hr (fun t ht hW => ⟨rfl, by rw [ht]; exact hP, hS.F ht⟩) hS.2.2 dX3_erase_45
      · refine lv_iconst (v := 0) hx hb dX3_erase_27 (by decide) ?_
        have e_ : dk_erase n K x = ((0 : Int32), K) := by unfold dk_erase; exact (if_pos hk_2).trans ((if_neg c_16).trans ((if_pos c_24).trans rfl))
        rw [e_]
        exact W.iret (v := 0) hx hb hr (fun t ht hW => ⟨rfl, by rw [ht]; exact hP, hS.F ht⟩) hS.2.2 dX3_erase_28
  · refine up_read (W.runV (As := [.int x]) (rest := []) ⟨hx, hb, hml, hown, hts⟩ (c_X3_findN l dC dI cK cB cI o ks fa oa fb ob dr ds L n sp co en cr rl qs kA oA kB oB tt ss st K x hn hk_2) (cwV 1 hts gX3_erase_X3_find rfl rfl rfl (by decide +kernel) ⟨Nat.le_of_ble_eq_true rfl, Nat.le_of_ble_eq_true rfl⟩) (up_preV (q0 := 0) (ci := 4) hP hK hD rfl rfl) rfl rfl hl.1 rfl (lv_room (Nat.le_of_ble_eq_true rfl)) dX3_erase_2 ⟨Nat.le_of_ble_eq_true rfl, Nat.le_of_ble_eq_true rfl⟩) ?_
    refine lv_astore_nN (lv' := [(2, .null), (0, .ref o), (1, .int x)]) hx hb dX3_erase_5 rfl hl (by decide) rfl (fun ls hl => ?_)
    refine lv_aload_nN hx hb dX3_erase_6 rfl (lv_at hl 0 rfl) ?_
    refine lv_ifnonnullN hx hb dX3_erase_7 ?_
    refine lv_iconst (v := (-1)) hx hb dX3_erase_10 (by decide) ?_
    have e_ : dk_erase n K x = (((-1) : Int32), K) := by unfold dk_erase; exact (if_neg hk_2).trans rfl
    rw [e_]
    exact W.iret (v := (-1)) hx hb hr (fun t ht hW => ⟨rfl, by rw [ht]; exact hP, hS.F ht⟩) hS.2.2 dX3_erase_11
def dk_start (n : Nat) (K : Nat → KR) (qs : Int32) (cr : Int32) (x : Int32) (y : Int64) : Int32 × Int32 × Int32 :=
  if dk_fkP n x then
    if (K (dk_fki x)).2.2.2.1 = 0 then
      ((0 : Int32), (qs + 1), cr)
    else
      if (K (dk_fki x)).2.2.2.2.2.1 = 0 then
        ((0 : Int32), (qs + 1), cr)
      else
        if (lg_cmp y (dk_enc (K (dk_fki x)) ((2654435761 * (qs + 1).toInt64) &&& 4294967295))) = 0 then
          ((1 : Int32), (qs + 1), 0)
        else
          ((0 : Int32), (qs + 1), cr)
  else
    (((-1) : Int32), qs, cr)
def rm_X3_start : Room := { frames := 3, cells := 0, slots := 0, locals := 71 }
set_option maxHeartbeats 4000000 in
set_option maxRecDepth 100000 in
theorem c_X3_start (l : Launch) (dC : Nat → ClassId) (dI : Nat → Nat → Nat) (cK : ClassId) (cB : ClassId) (cI : ClassId) (o : Nat) (ks : Nat) (fa : Nat) (oa : Nat) (fb : Nat) (ob : Nat) (dr : Nat) (ds : Nat) (L : Nat → Nat) (n : Nat) (sp : Int32) (co : Nat) (en : Nat) (cr : Int32) (rl : Int32) (qs : Int32) (kA : Int32) (oA : Nat → Int8) (kB : Int32) (oB : Nat → Int8) (tt : Int64) (ss : Int64) (st : Nat → Int32) (K : Nat → KR) (x : Int32) (y : Int64) (hn : n ≤ 8) : Met l yX3_start wsX3_start rm_X3_start (up_P (dC, dI) vwCl (dkT cK cB cI) (dkW cK cB cI o ks fa oa fb ob dr ds L n sp co en cr rl qs kA oA kB oB tt ss st K) [.ref o, .int x, .long y]) (up_Q (dC, dI) vwCl (some (.int ((dk_start n K qs cr x y).1))) (dkW cK cB cI o ks fa oa fb ob dr ds L n sp co en cr rl qs kA oA kB oB tt ss st K) (dkW cK cB cI o ks fa oa fb ob dr ds L n sp co en ((dk_start n K qs cr x y).2.2) rl ((dk_start n K qs cr x y).2.1) kA oA kB oB tt ss st K)) 0 0 (up_c (dkW cK cB cI o ks fa oa fb ob dr ds L n sp co en cr rl qs kA oA kB oB tt ss st K)) := by
  refine Met.ofW (cc := cX3_start) (maxL := 7) (ret := (some .int)) (by decide) rfl ?_
  intro p e s m args below meth c s₁ B hml hv
  obtain ⟨rfl, hP, hK, hD0⟩ := hv
  have hx := B.exec
  have hb := B.bytes
  have hr := B.returns
  have hts := atoms_spec (ws := wsX3_start) B.pre
  have hown : s.vm.findClass RX3 = some m.cls := findClass_of_methodNamed B.named
  have hlocks := B.notSynchronized
  have hD := up_self hD0
  have hS : va_S (up_c (dkW cK cB cI o ks fa oa fb ob dr ds L n sp co en cr rl qs kA oA kB oB tt ss st K)) s.heap s.heap [] := va_S.rf
  have hl := lv_entry ([.ref o, .int x, .long y]) (n := 7) (Nat.le_of_ble_eq_true rfl)
  rw [lg_entry_eq]
  generalize (lg_sl ([.ref o, .int x, .long y]) ++ List.replicate (7 - (lg_sl ([.ref o, .int x, .long y])).length) Slot.unset).toArray = ls at hl ⊢
  have hl : lv_has ls 7 [(0, .ref o), (1, .int x), (2, .long y)] := hl
  refine lv_aload_n hx hb dX3_start_0 rfl (lv_at hl 0 rfl) ?_
  refine lv_iload_n hx hb dX3_start_1 rfl (lv_at hl 1 rfl) ?_
  by_cases hk_2 : dk_fkP n x
  · have hi_2 : dk_fki x < n := dk_fk_lt hn hk_2
    refine up_read (W.runV (As := [.int x]) (rest := []) ⟨hx, hb, hml, hown, hts⟩ (c_X3_findS l dC dI cK cB cI o ks fa oa fb ob dr ds L n sp co en cr rl qs kA oA kB oB tt ss st K x hn hk_2) (cwV 1 hts gX3_start_X3_find rfl rfl rfl (by decide +kernel) ⟨Nat.le_of_ble_eq_true rfl, Nat.le_of_ble_eq_true rfl⟩) (up_preV (q0 := 0) (ci := 4) hP hK hD rfl rfl) rfl rfl hl.1 rfl (lv_room (Nat.le_of_ble_eq_true rfl)) dX3_start_2 ⟨Nat.le_of_ble_eq_true rfl, Nat.le_of_ble_eq_true rfl⟩) ?_
    refine lv_astore (lv' := [(4, .ref (L (dk_fki x))), (0, .ref o), (1, .int x), (2, .long y)]) hx hb dX3_start_5 hl (by decide) rfl (fun ls hl => ?_)
    refine lv_aload hx hb dX3_start_7 (lv_at hl 0 rfl) ?_
    refine lv_ifnonnull (tgt := 14) hx hb dX3_start_9 (by decide) ?_
    refine lv_aload_n hx hb dX3_start_14 rfl (lv_at hl 1 rfl) ?_
    refine lv_dup hx hb dX3_start_15 rfl ?_
    refine va_get (D := (dC, dI)) (ci := 4) (v := .int qs) (C := RX3) (T := TX3) (N := 9) hx hb hts inn_X3_start_X3 hown hK hP 0 rfl rfl 8 (by decide) (hts (.fieldLink RX3 129 "DoorKeys" "questions" "I") (by decide +kernel)) (fun _ h9 => h9) rfl dX3_start_16 ?_
    refine lv_iconst (v := 1) hx hb dX3_start_19 (by decide) ?_
    refine lv_iadd hx hb dX3_start_20 ?_
    refine va_put (D := (dC, dI)) (ci := 4) (v := .int (qs + 1)) (ty := .int) (C := RX3) (T := TX3) (N := 9) hx hb hts inn_X3_start_X3 tyX3 tyX3_ok nmX3 hown hK hP hD hS 0 rfl rfl 8 (by decide) (hts (.fieldLink RX3 129 "DoorKeys" "questions" "I") (by decide +kernel)) (fun _ h9 => h9) rfl (by decide +kernel) rfl rfl (Nat.le_of_ble_eq_true rfl) dX3_start_21 (fun H locs hP hD hS => ?_)
    have hP : va_P (dC, dI) vwCl (dkW cK cB cI o ks fa oa fb ob dr ds L n sp co en cr rl (qs + 1) kA oA kB oB tt ss st K) H := hP
    have hD : va_D (up_c (dkW cK cB cI o ks fa oa fb ob dr ds L n sp co en cr rl qs kA oA kB oB tt ss st K)) (dkW cK cB cI o ks fa oa fb ob dr ds L n sp co en cr rl (qs + 1) kA oA kB oB tt ss st K) := hD
    refine lv_ldc2 (v := 2654435761) hx hb hown (hts (.constantLong RX3 132 2654435761) (by decide +kernel)) dX3_start_24 ?_
    refine lv_aload_n hx hb dX3_start_27 rfl (lv_at hl 1 rfl) ?_
    refine va_get (D := (dC, dI)) (ci := 4) (v := .int (qs + 1)) (C := RX3) (T := TX3) (N := 9) hx hb hts inn_X3_start_X3 hown hK hP 0 rfl rfl 8 (by decide) (hts (.fieldLink RX3 129 "DoorKeys" "questions" "I") (by decide +kernel)) (fun _ h9 => h9) rfl dX3_start_28 ?_
    refine lv_i2l (v := (qs + 1).toInt64) hx hb dX3_start_31 rfl ?_
    refine lv_lmul hx hb dX3_start_32 ?_
    refine lv_ldc2 (v := 4294967295) hx hb hown (hts (.constantLong RX3 134 4294967295) (by decide +kernel)) dX3_start_33 ?_
    refine lv_land hx hb dX3_start_36 ?_
    refine lv_lstore (lv' := [(5, .long ((2654435761 * (qs + 1).toInt64) &&& 4294967295)), (4, .ref (L (dk_fki x))), (0, .ref o), (1, .int x), (2, .long y)]) hx hb dX3_start_37 hl (by decide) rfl (fun ls hl => ?_)
    refine lv_aload hx hb dX3_start_39 (lv_at hl 1 rfl) ?_
    refine va_get (D := (dC, dI)) (ci := 3) (v := .int ((K (dk_fki x)).2.2.2.1)) (C := RX2) (T := TX2) (N := 7) hx hb hts inn_X3_start_X2 hown hK hP ((dk_fki x) + 8) (dk_keyk hi_2 rfl) rfl 3 (by decide) (hts (.fieldLink RX3 89 "DoorKeys$Key" "learned" "Z") (by decide +kernel)) (fun _ h9 => h9) rfl dX3_start_41 ?_
    refine lv_if_eq (tgt := 67) hx hb dX3_start_44 (by decide) (fun c_44 => ?_) (fun c_44 => ?_)
    · refine lv_iconst (v := 0) hx hb dX3_start_67 (by decide) ?_
      have e_ : dk_start n K qs cr x y = ((0 : Int32), (qs + 1), cr) := by unfold dk_start; exact (if_pos hk_2).trans ((if_pos c_44).trans rfl)
      rw [e_]
      exact W.iret (v := 0) hx hb hr (fun t ht hW => ⟨rfl, by rw [ht]; exact hP, hS.F ht⟩) hS.2.2 dX3_start_68
    · refine lv_aload hx hb dX3_start_47 (lv_at hl 1 rfl) ?_
      refine va_get (D := (dC, dI)) (ci := 3) (v := .int ((K (dk_fki x)).2.2.2.2.2.1)) (C := RX2) (T := TX2) (N := 7) hx hb hts inn_X3_start_X2 hown hK hP ((dk_fki x) + 8) (dk_keyk hi_2 rfl) rfl 5 (by decide) (hts (.fieldLink RX3 102 "DoorKeys$Key" "inside" "Z") (by decide +kernel)) (fun _ h9 => h9) rfl dX3_start_49 ?_
      refine lv_if_eq (tgt := 67) hx hb dX3_start_52 (by decide) (fun c_52 => ?_) (fun c_52 => ?_)
      · refine lv_iconst (v := 0) hx hb dX3_start_67 (by decide) ?_
        have e_ : dk_start n K qs cr x y = ((0 : Int32), (qs + 1), cr) := by unfold dk_start; exact (if_pos hk_2).trans ((if_neg c_44).trans ((if_pos c_52).trans rfl))
        rw [e_]
        exact W.iret (v := 0) hx hb hr (fun t ht hW => ⟨rfl, by rw [ht]; exact hP, hS.F ht⟩) hS.2.2 dX3_start_68
      · refine lv_lload_n hx hb dX3_start_55 rfl (lv_at hl 4 rfl) ?_
        refine lv_aload hx hb dX3_start_56 (lv_at hl 1 rfl) ?_
        refine lv_lload hx hb dX3_start_58 (lv_at hl 0 rfl) ?_
        refine up_read (W.runV (As := [.long ((2654435761 * (qs + 1).toInt64) &&& 4294967295)]) (rest := [.long y]) ⟨hx, hb, hml, hown, hts⟩ (c_X2_encipher l dC dI cK cB cI o ks fa oa fb ob dr ds L n sp co en cr rl (qs + 1) kA oA kB oB tt ss st K (dk_fki x) (K (dk_fki x)) ((2654435761 * (qs + 1).toInt64) &&& 4294967295) hi_2 rfl) (cwV 1 hts gX3_start_X2_encipher rfl rfl rfl (by decide +kernel) ⟨Nat.le_of_ble_eq_true rfl, Nat.le_of_ble_eq_true rfl⟩) (up_preV (q0 := ((dk_fki x) + 8)) (ci := 3) hP hK hD rfl (dk_keyk hi_2 rfl)) rfl rfl hl.1 rfl (lv_room (Nat.le_of_ble_eq_true rfl)) dX3_start_60 ⟨Nat.le_of_ble_eq_true rfl, Nat.le_of_ble_eq_true rfl⟩) ?_
        refine W.lcmp hx hb dX3_start_63 ?_
        refine lv_if_eq (tgt := 69) hx hb dX3_start_64 (by decide) (fun c_64 => ?_) (fun c_64 => ?_)
        · refine lv_aload_n hx hb dX3_start_69 rfl (lv_at hl 2 rfl) ?_
          refine lv_iconst (v := 0) hx hb dX3_start_70 (by decide) ?_
          refine va_put (D := (dC, dI)) (ci := 4) (v := .int 0) (ty := .boolean) (C := RX3) (T := TX3) (N := 9) hx hb hts inn_X3_start_X3 tyX3 tyX3_ok nmX3 hown hK hP hD hS 0 rfl rfl 6 (by decide) (hts (.fieldLink RX3 76 "DoorKeys" "crashed" "Z") (by decide +kernel)) (fun _ h9 => h9) rfl (by decide +kernel) rfl rfl (Nat.le_of_ble_eq_true rfl) dX3_start_71 (fun H locs hP hD hS => ?_)
          have hP : va_P (dC, dI) vwCl (dkW cK cB cI o ks fa oa fb ob dr ds L n sp co en 0 rl (qs + 1) kA oA kB oB tt ss st K) H := hP
          have hD : va_D (up_c (dkW cK cB cI o ks fa oa fb ob dr ds L n sp co en cr rl qs kA oA kB oB tt ss st K)) (dkW cK cB cI o ks fa oa fb ob dr ds L n sp co en 0 rl (qs + 1) kA oA kB oB tt ss st K) := hD
          refine lv_iconst (v := 1) hx hb dX3_start_74 (by decide) ?_
          have e_ : dk_start n K qs cr x y = ((1 : Int32), (qs + 1), 0) := by unfold dk_start; exact (if_pos hk_2).trans ((if_neg c_44).trans ((if_neg c_52).trans ((if_pos c_64).trans rfl)))
          rw [e_]
          exact W.iret (v := 1) hx hb hr (fun t ht hW => ⟨rfl, by rw [ht]; exact hP, hS.F ht⟩) hS.2.2 dX3_start_75
        · refine lv_iconst (v := 0) hx hb dX3_start_67 (by decide) ?_
          have e_ : dk_start n K qs cr x y = ((0 : Int32), (qs + 1), cr) := by unfold dk_start; exact (if_pos hk_2).trans ((if_neg c_44).trans ((if_neg c_52).trans ((if_neg c_64).trans rfl)))
          rw [e_]
          exact W.iret (v := 0) hx hb hr (fun t ht hW => ⟨rfl, by rw [ht]; exact hP, hS.F ht⟩) hS.2.2 dX3_start_68
  · refine up_read (W.runV (As := [.int x]) (rest := []) ⟨hx, hb, hml, hown, hts⟩ (c_X3_findN l dC dI cK cB cI o ks fa oa fb ob dr ds L n sp co en cr rl qs kA oA kB oB tt ss st K x hn hk_2) (cwV 1 hts gX3_start_X3_find rfl rfl rfl (by decide +kernel) ⟨Nat.le_of_ble_eq_true rfl, Nat.le_of_ble_eq_true rfl⟩) (up_preV (q0 := 0) (ci := 4) hP hK hD rfl rfl) rfl rfl hl.1 rfl (lv_room (Nat.le_of_ble_eq_true rfl)) dX3_start_2 ⟨Nat.le_of_ble_eq_true rfl, Nat.le_of_ble_eq_true rfl⟩) ?_
    refine lv_astoreN (lv' := [(4, .null), (0, .ref o), (1, .int x), (2, .long y)]) hx hb dX3_start_5 hl (by decide) rfl (fun ls hl => ?_)
    refine lv_aloadN hx hb dX3_start_7 (lv_at hl 0 rfl) ?_
    refine lv_ifnonnullN hx hb dX3_start_9 ?_
    refine lv_iconst (v := (-1)) hx hb dX3_start_12 (by decide) ?_
    have e_ : dk_start n K qs cr x y = (((-1) : Int32), qs, cr) := by unfold dk_start; exact (if_neg hk_2).trans rfl
    rw [e_]
    exact W.iret (v := (-1)) hx hb hr (fun t ht hW => ⟨rfl, by rw [ht]; exact hP, hS.F ht⟩) hS.2.2 dX3_start_13
def dk_crash (st : Nat → Int32) : Int32 × Int32 × (Nat → Int32) :=
  ((dk_openAll st).1, 1, (dk_openAll st).2)
def rm_X3_crash : Room := { frames := 2, cells := 0, slots := 0, locals := 44 }
set_option maxHeartbeats 4000000 in
set_option maxRecDepth 100000 in
theorem c_X3_crash (l : Launch) (dC : Nat → ClassId) (dI : Nat → Nat → Nat) (cK : ClassId) (cB : ClassId) (cI : ClassId) (o : Nat) (ks : Nat) (fa : Nat) (oa : Nat) (fb : Nat) (ob : Nat) (dr : Nat) (ds : Nat) (L : Nat → Nat) (n : Nat) (sp : Int32) (co : Nat) (en : Nat) (cr : Int32) (rl : Int32) (qs : Int32) (kA : Int32) (oA : Nat → Int8) (kB : Int32) (oB : Nat → Int8) (tt : Int64) (ss : Int64) (st : Nat → Int32) (K : Nat → KR) : Met l yX3_crash wsX3_crash rm_X3_crash (up_P (dC, dI) vwCl (dkT cK cB cI) (dkW cK cB cI o ks fa oa fb ob dr ds L n sp co en cr rl qs kA oA kB oB tt ss st K) [.ref o]) (up_Q (dC, dI) vwCl (some (.int ((dk_crash st).1))) (dkW cK cB cI o ks fa oa fb ob dr ds L n sp co en cr rl qs kA oA kB oB tt ss st K) (dkW cK cB cI o ks fa oa fb ob dr ds L n sp co en ((dk_crash st).2.1) rl qs kA oA kB oB tt ss ((dk_crash st).2.2) K)) 0 0 (up_c (dkW cK cB cI o ks fa oa fb ob dr ds L n sp co en cr rl qs kA oA kB oB tt ss st K)) := by
  refine Met.ofW (cc := cX3_crash) (maxL := 1) (ret := (some .int)) (by decide) rfl ?_
  intro p e s m args below meth c s₁ B hml hv
  obtain ⟨rfl, hP, hK, hD0⟩ := hv
  have hx := B.exec
  have hb := B.bytes
  have hr := B.returns
  have hts := atoms_spec (ws := wsX3_crash) B.pre
  have hown : s.vm.findClass RX3 = some m.cls := findClass_of_methodNamed B.named
  have hlocks := B.notSynchronized
  have hD := up_self hD0
  have hS : va_S (up_c (dkW cK cB cI o ks fa oa fb ob dr ds L n sp co en cr rl qs kA oA kB oB tt ss st K)) s.heap s.heap [] := va_S.rf
  have hl := lv_entry ([.ref o]) (n := 1) (Nat.le_of_ble_eq_true rfl)
  rw [lg_entry_eq]
  generalize (lg_sl ([.ref o]) ++ List.replicate (1 - (lg_sl ([.ref o])).length) Slot.unset).toArray = ls at hl ⊢
  have hl : lv_has ls 1 [(0, .ref o)] := hl
  refine lv_aload_n hx hb dX3_crash_0 rfl (lv_at hl 0 rfl) ?_
  refine lv_iconst (v := 1) hx hb dX3_crash_1 (by decide) ?_
  refine va_put (D := (dC, dI)) (ci := 4) (v := .int 1) (ty := .boolean) (C := RX3) (T := TX3) (N := 9) hx hb hts inn_X3_crash_X3 tyX3 tyX3_ok nmX3 hown hK hP hD hS 0 rfl rfl 6 (by decide) (hts (.fieldLink RX3 76 "DoorKeys" "crashed" "Z") (by decide +kernel)) (fun _ h9 => h9) rfl (by decide +kernel) rfl rfl (Nat.le_of_ble_eq_true rfl) dX3_crash_2 (fun H locs hP hD hS => ?_)
  have hP : va_P (dC, dI) vwCl (dkW cK cB cI o ks fa oa fb ob dr ds L n sp co en 1 rl qs kA oA kB oB tt ss st K) H := hP
  have hD : va_D (up_c (dkW cK cB cI o ks fa oa fb ob dr ds L n sp co en cr rl qs kA oA kB oB tt ss st K)) (dkW cK cB cI o ks fa oa fb ob dr ds L n sp co en 1 rl qs kA oA kB oB tt ss st K) := hD
  refine lv_aload_n hx hb dX3_crash_5 rfl (lv_at hl 0 rfl) ?_
  refine va_get (D := (dC, dI)) (ci := 4) (v := .ref dr) (C := RX3) (T := TX3) (N := 9) hx hb hts inn_X3_crash_X3 hown hK hP 0 rfl rfl 5 (by decide) (hts (.fieldLink RX3 32 "DoorKeys" "doors" "LDoorKeys$Doors;") (by decide +kernel)) (fun _ h9 => h9) rfl dX3_crash_6 ?_
  refine up_call (W.runV (As := []) (rest := []) ⟨hx, hb, hml, hown, hts⟩ (c_X0_openAll l dC dI cK cB cI o ks fa oa fb ob dr ds L n sp co en 1 rl qs kA oA kB oB tt ss st K) (cwV 0 hts gX3_crash_X0_openAll rfl rfl rfl (by decide +kernel) ⟨Nat.le_of_ble_eq_true rfl, Nat.le_of_ble_eq_true rfl⟩) (up_preV (q0 := 6) (ci := 1) hP hK hD rfl rfl) rfl rfl hl.1 rfl (lv_room (Nat.le_of_ble_eq_true rfl)) dX3_crash_9 ⟨Nat.le_of_ble_eq_true rfl, Nat.le_of_ble_eq_true rfl⟩) hD hS ((dk_fst ..).trans (dk_fst ..).symm) (fun H locs hP hD hS _ _ => ?_)
  have hP : va_P (dC, dI) vwCl (dkW cK cB cI o ks fa oa fb ob dr ds L n sp co en 1 rl qs kA oA kB oB tt ss ((dk_openAll st).2) K) H := hP
  have hD : va_D (up_c (dkW cK cB cI o ks fa oa fb ob dr ds L n sp co en cr rl qs kA oA kB oB tt ss st K)) (dkW cK cB cI o ks fa oa fb ob dr ds L n sp co en 1 rl qs kA oA kB oB tt ss ((dk_openAll st).2) K) := hD
  have e_ : dk_crash st = ((dk_openAll st).1, 1, (dk_openAll st).2) := by unfold dk_crash; exact rfl
  rw [e_]
  exact W.iret (v := (dk_openAll st).1) hx hb hr (fun t ht hW => ⟨rfl, by rw [ht]; exact hP, hS.F ht⟩) hS.2.2 dX3_crash_12
def dk_alarm (st : Nat → Int32) (tt : Int64) (ss : Int64) (x : Int32) (y : Int64) : Int32 × Int64 :=
  if x < 0 then
    (((-1) : Int32), tt)
  else
    if x ≤ 7 then
      if 0 ≤ (lg_cmp y tt) then
        if dk_guard st y ss = 0 then
          ((0 : Int32), y)
        else
          ((1 : Int32), y)
      else
        (((-2) : Int32), tt)
    else
      (((-1) : Int32), tt)
def rm_X3_alarm : Room := { frames := 2, cells := 0, slots := 0, locals := 42 }
set_option maxHeartbeats 4000000 in
set_option maxRecDepth 100000 in
theorem c_X3_alarm (l : Launch) (dC : Nat → ClassId) (dI : Nat → Nat → Nat) (cK : ClassId) (cB : ClassId) (cI : ClassId) (o : Nat) (ks : Nat) (fa : Nat) (oa : Nat) (fb : Nat) (ob : Nat) (dr : Nat) (ds : Nat) (L : Nat → Nat) (n : Nat) (sp : Int32) (co : Nat) (en : Nat) (cr : Int32) (rl : Int32) (qs : Int32) (kA : Int32) (oA : Nat → Int8) (kB : Int32) (oB : Nat → Int8) (tt : Int64) (ss : Int64) (st : Nat → Int32) (K : Nat → KR) (x : Int32) (y : Int64) : Met l yX3_alarm wsX3_alarm rm_X3_alarm (up_P (dC, dI) vwCl (dkT cK cB cI) (dkW cK cB cI o ks fa oa fb ob dr ds L n sp co en cr rl qs kA oA kB oB tt ss st K) [.ref o, .int x, .long y]) (up_Q (dC, dI) vwCl (some (.int ((dk_alarm st tt ss x y).1))) (dkW cK cB cI o ks fa oa fb ob dr ds L n sp co en cr rl qs kA oA kB oB tt ss st K) (dkW cK cB cI o ks fa oa fb ob dr ds L n sp co en cr rl qs kA oA kB oB ((dk_alarm st tt ss x y).2) ss st K)) 0 0 (up_c (dkW cK cB cI o ks fa oa fb ob dr ds L n sp co en cr rl qs kA oA kB oB tt ss st K)) := by
  refine Met.ofW (cc := cX3_alarm) (maxL := 4) (ret := (some .int)) (by decide) rfl ?_
  intro p e s m args below meth c s₁ B hml hv
  obtain ⟨rfl, hP, hK, hD0⟩ := hv
  have hx := B.exec
  have hb := B.bytes
  have hr := B.returns
  have hts := atoms_spec (ws := wsX3_alarm) B.pre
  have hown : s.vm.findClass RX3 = some m.cls := findClass_of_methodNamed B.named
  have hlocks := B.notSynchronized
  have hD := up_self hD0
  have hS : va_S (up_c (dkW cK cB cI o ks fa oa fb ob dr ds L n sp co en cr rl qs kA oA kB oB tt ss st K)) s.heap s.heap [] := va_S.rf
  have hl := lv_entry ([.ref o, .int x, .long y]) (n := 4) (Nat.le_of_ble_eq_true rfl)
  rw [lg_entry_eq]
  generalize (lg_sl ([.ref o, .int x, .long y]) ++ List.replicate (4 - (lg_sl ([.ref o, .int x, .long y])).length) Slot.unset).toArray = ls at hl ⊢
  have hl : lv_has ls 4 [(0, .ref o), (1, .int x), (2, .long y)] := hl
  refine lv_iload_n hx hb dX3_alarm_0 rfl (lv_at hl 1 rfl) ?_
  refine lv_if_lt (tgt := 10) hx hb dX3_alarm_1 (by decide) (fun c_1 => ?_) (fun c_1 => ?_)
  · refine lv_iconst (v := (-1)) hx hb dX3_alarm_10 (by decide) ?_
    have e_ : dk_alarm st tt ss x y = (((-1) : Int32), tt) := by unfold dk_alarm; exact (if_pos c_1).trans rfl
    rw [e_]
    exact W.iret (v := (-1)) hx hb hr (fun t ht hW => ⟨rfl, by rw [ht]; exact hP, hS.F ht⟩) hS.2.2 dX3_alarm_11
  · refine lv_iload_n hx hb dX3_alarm_4 rfl (lv_at hl 1 rfl) ?_
    refine lv_bipush (v := 7) hx hb dX3_alarm_5 (by decide) ?_
    refine lv_icmp_le (tgt := 12) hx hb dX3_alarm_7 (by decide) (fun c_7 => ?_) (fun c_7 => ?_)
    · refine lv_lload_n hx hb dX3_alarm_12 rfl (lv_at hl 2 rfl) ?_
      refine lv_aload_n hx hb dX3_alarm_13 rfl (lv_at hl 0 rfl) ?_
      refine va_get (D := (dC, dI)) (ci := 4) (v := .ref dr) (C := RX3) (T := TX3) (N := 9) hx hb hts inn_X3_alarm_X3 hown hK hP 0 rfl rfl 5 (by decide) (hts (.fieldLink RX3 32 "DoorKeys" "doors" "LDoorKeys$Doors;") (by decide +kernel)) (fun _ h9 => h9) rfl dX3_alarm_14 ?_
      refine va_get (D := (dC, dI)) (ci := 1) (v := .long tt) (C := RX0) (T := TX0) (N := 3) hx hb hts inn_X3_alarm_X0 hown hK hP 6 rfl rfl 1 (by decide) (hts (.fieldLink RX3 140 "DoorKeys$Doors" "timeTold" "J") (by decide +kernel)) (fun _ h9 => h9) rfl dX3_alarm_17 ?_
      refine W.lcmp hx hb dX3_alarm_20 ?_
      refine lv_if_ge (tgt := 27) hx hb dX3_alarm_21 (by decide) (fun c_21 => ?_) (fun c_21 => ?_)
      · refine lv_aload_n hx hb dX3_alarm_27 rfl (lv_at hl 0 rfl) ?_
        refine va_get (D := (dC, dI)) (ci := 4) (v := .ref dr) (C := RX3) (T := TX3) (N := 9) hx hb hts inn_X3_alarm_X3 hown hK hP 0 rfl rfl 5 (by decide) (hts (.fieldLink RX3 32 "DoorKeys" "doors" "LDoorKeys$Doors;") (by decide +kernel)) (fun _ h9 => h9) rfl dX3_alarm_28 ?_
        refine lv_lload_n hx hb dX3_alarm_31 rfl (lv_at hl 2 rfl) ?_
        refine va_put (D := (dC, dI)) (ci := 1) (v := .long y) (ty := .long) (C := RX0) (T := TX0) (N := 3) hx hb hts inn_X3_alarm_X0 tyX0 tyX0_ok nmX0 hown hK hP hD hS 6 rfl rfl 1 (by decide) (hts (.fieldLink RX3 140 "DoorKeys$Doors" "timeTold" "J") (by decide +kernel)) (fun _ h9 => h9) rfl (by decide +kernel) rfl rfl (Nat.le_of_ble_eq_true rfl) dX3_alarm_32 (fun H locs hP hD hS => ?_)
        have hP : va_P (dC, dI) vwCl (dkW cK cB cI o ks fa oa fb ob dr ds L n sp co en cr rl qs kA oA kB oB y ss st K) H := hP
        have hD : va_D (up_c (dkW cK cB cI o ks fa oa fb ob dr ds L n sp co en cr rl qs kA oA kB oB tt ss st K)) (dkW cK cB cI o ks fa oa fb ob dr ds L n sp co en cr rl qs kA oA kB oB y ss st K) := hD
        refine lv_aload_n hx hb dX3_alarm_35 rfl (lv_at hl 0 rfl) ?_
        refine va_get (D := (dC, dI)) (ci := 4) (v := .ref dr) (C := RX3) (T := TX3) (N := 9) hx hb hts inn_X3_alarm_X3 hown hK hP 0 rfl rfl 5 (by decide) (hts (.fieldLink RX3 32 "DoorKeys" "doors" "LDoorKeys$Doors;") (by decide +kernel)) (fun _ h9 => h9) rfl dX3_alarm_36 ?_
        refine up_read (W.runV (As := []) (rest := []) ⟨hx, hb, hml, hown, hts⟩ (c_X0_isGuarded l dC dI cK cB cI o ks fa oa fb ob dr ds L n sp co en cr rl qs kA oA kB oB y ss st K) (cwV 0 hts gX3_alarm_X0_isGuarded rfl rfl rfl (by decide +kernel) ⟨Nat.le_of_ble_eq_true rfl, Nat.le_of_ble_eq_true rfl⟩) (up_preV (q0 := 6) (ci := 1) hP hK hD rfl rfl) rfl rfl hl.1 rfl (lv_room (Nat.le_of_ble_eq_true rfl)) dX3_alarm_39 ⟨Nat.le_of_ble_eq_true rfl, Nat.le_of_ble_eq_true rfl⟩) ?_
        refine lv_if_eq (tgt := 49) hx hb dX3_alarm_42 (by decide) (fun c_42 => ?_) (fun c_42 => ?_)
        · refine lv_iconst (v := 0) hx hb dX3_alarm_49 (by decide) ?_
          have e_ : dk_alarm st tt ss x y = ((0 : Int32), y) := by unfold dk_alarm; exact (if_neg c_1).trans ((if_pos c_7).trans ((if_pos c_21).trans ((if_pos c_42).trans rfl)))
          rw [e_]
          exact W.iret (v := 0) hx hb hr (fun t ht hW => ⟨rfl, by rw [ht]; exact hP, hS.F ht⟩) hS.2.2 dX3_alarm_50
        · refine lv_iconst (v := 1) hx hb dX3_alarm_45 (by decide) ?_
          refine lv_goto (tgt := 50) hx hb dX3_alarm_46 (by decide) ?_
          have e_ : dk_alarm st tt ss x y = ((1 : Int32), y) := by unfold dk_alarm; exact (if_neg c_1).trans ((if_pos c_7).trans ((if_pos c_21).trans ((if_neg c_42).trans rfl)))
          rw [e_]
          exact W.iret (v := 1) hx hb hr (fun t ht hW => ⟨rfl, by rw [ht]; exact hP, hS.F ht⟩) hS.2.2 dX3_alarm_50
      · refine lv_bipush (v := (-2)) hx hb dX3_alarm_24 (by decide) ?_
        have e_ : dk_alarm st tt ss x y = (((-2) : Int32), tt) := by unfold dk_alarm; exact (if_neg c_1).trans ((if_pos c_7).trans ((if_neg c_21).trans rfl))
        rw [e_]
        exact W.iret (v := (-2)) hx hb hr (fun t ht hW => ⟨rfl, by rw [ht]; exact hP, hS.F ht⟩) hS.2.2 dX3_alarm_26
    · refine lv_iconst (v := (-1)) hx hb dX3_alarm_10 (by decide) ?_
      have e_ : dk_alarm st tt ss x y = (((-1) : Int32), tt) := by unfold dk_alarm; exact (if_neg c_1).trans ((if_neg c_7).trans rfl)
      rw [e_]
      exact W.iret (v := (-1)) hx hb hr (fun t ht hW => ⟨rfl, by rw [ht]; exact hP, hS.F ht⟩) hS.2.2 dX3_alarm_11
end
section
/-! The two static rows of the doors' places: given at the start, never written. -/
def dk_px (j : Nat) : Int32 := if j < 2 then 1000 else if j < 4 then -500 else -2200
def dk_py (j : Nat) : Int32 := if j = 0 then 900 else if j = 1 then -900 else if j = 2 then 900 else if j = 3 then -900 else 0
def dk_S (tX tY : Nat) (A : Nat → Prop) (U : State) (H : Heap) : Prop := va_Z "DoorKeys$Doors" "PLACE_X" "[I" (.ref tX) A U H ∧ va_Z "DoorKeys$Doors" "PLACE_Y" "[I" (.ref tY) A U H ∧ va_T .int tX 5 (fun j => .int (dk_px j)) A U H ∧ va_T .int tY 5 (fun j => .int (dk_py j)) A U H
theorem dk_S.moved {tX tY : Nat} {A : Nat → Prop} {u U : State} {H : Heap} (hvm : u.vm.Alike U.vm) (h : dk_S tX tY A u H) : dk_S tX tY A U H := ⟨h.1.moved hvm, h.2.1.moved hvm, h.2.2.1.moved hvm, h.2.2.2.moved hvm⟩
theorem dk_S.kept {tX tY : Nat} {A : Nat → Prop} {U : State} {H H1 : Heap} (h : dk_S tX tY A U H) (hq : ∀ a : Nat, a < H.size → ¬ A a → H1[a]? = H[a]?) : dk_S tX tY A U H1 := ⟨h.1.kept hq, h.2.1.kept hq, h.2.2.1.kept hq, h.2.2.2.kept hq⟩
theorem dk_S.narrow {tX tY : Nat} {A B : Nat → Prop} {U : State} {H : Heap} (h : dk_S tX tY A U H) (hAB : ∀ q, B q → A q) : dk_S tX tY B U H := ⟨h.1.narrow hAB, h.2.1.narrow hAB, h.2.2.1.narrow hAB, h.2.2.2.narrow hAB⟩
theorem dk_S_at {tX tY : Nat} {A : Nat → Prop} {s : State} {H : Heap} {locs : List Loc} (h : dk_S tX tY A s s.heap) (hS : va_S A s.heap H locs) : dk_S tX tY (fun _ => False) s H := (h.kept hS.2.1).narrow (fun _ z => z.elim)
/-- a start that knows the static rows too -/
def up_PS (tX tY : Nat) (A : Nat → Prop) (D : va_G) (cl : List vw_C) (tys : List (ClassId × FieldType)) (ws : va_W) (av : List Value) : Array Value → State → Prop := va_Pc av (fun U => va_P D cl ws U.heap ∧ va_K D cl tys U ∧ va_D (fun _ => True) ws ∧ dk_S tX tY A U U.heap)
theorem up_blindS {tX tY : Nat} {A : Nat → Prop} {D : va_G} {cl : List vw_C} {tys : List (ClassId × FieldType)} {ws : va_W} {av : List Value} : FrameBlind (up_PS tX tY A D cl tys ws av) := fun a U g mk q => by
  obtain ⟨q0, qP, qK, qD, qS⟩ := q
  exact ⟨q0, qP, va_K.moved (u := U) (U := U.calling g mk a) (Vm.Alike.refl U.vm) qK, qD, dk_S.moved (u := U) (U := U.calling g mk a) (Vm.Alike.refl U.vm) qS⟩
theorem up_preVS {tX tY : Nat} {B : Nat → Prop} {D : va_G} {cl : List vw_C} {tys : List (ClassId × FieldType)} {ws : va_W} {As : List Value} {s : State} {H : Heap} {A : Nat → Prop} {C : String} {T : u_T} {N ci q0 b : Nat} {fs : List Value} (hP : va_P D cl ws H) (hK : va_K D cl tys s) (hD : va_D A ws) (hZ : dk_S tX tY B s H) (hc : cl[ci]? = some (C, T, N)) (he : ws[q0]? = some (b, .inr (ci, fs))) : PreV s H C b (up_PS tX tY B D cl tys ws (.ref b :: As)) As :=
  ⟨up_blindS, va_recv hK hP hc he, fun U hU hW => ⟨rfl, by rw [hU]; exact hP, va_K.moved hW.alike hK, hD.weaken (fun _ _ _ _ => trivial), by rw [hU]; exact hZ.moved hW.alike⟩⟩
end
section
/-! nearestTo and field (laid by wip/gen.py) -/
set_option maxRecDepth 20000 in
theorem inn_X3_field_X3 : ∀ w ∈ wsX30, w ∈ wsX3_field := by decide +kernel
set_option maxRecDepth 20000 in
theorem inn_X3_field_X2 : ∀ w ∈ wsX20, w ∈ wsX3_field := by decide +kernel
def dk_near_l (x : Int64) (y : Int64) : Nat → Nat → Int32 → Int64 → Int32
  | 0, _, a, b =>
    a
  | r + 1, j, a, b =>
    if 0 ≤ (lg_cmp (((x - (dk_px (nI j).toNatClampNeg).toInt64) * (x - (dk_px (nI j).toNatClampNeg).toInt64)) + ((y - (dk_py (nI j).toNatClampNeg).toInt64) * (y - (dk_py (nI j).toNatClampNeg).toInt64))) b) then
      dk_near_l x y r (j + 1) a b
    else
      dk_near_l x y r (j + 1) (nI j) (((x - (dk_px (nI j).toNatClampNeg).toInt64) * (x - (dk_px (nI j).toNatClampNeg).toInt64)) + ((y - (dk_py (nI j).toNatClampNeg).toInt64) * (y - (dk_py (nI j).toNatClampNeg).toInt64)))
def dk_near (x : Int64) (y : Int64) : Int32 :=
  dk_near_l x y 5 0 (-1) 2250001
def rm_X0_nearestTo : Room := { frames := 0, cells := 0, slots := 0, locals := 0 }
set_option maxHeartbeats 4000000 in
set_option maxRecDepth 100000 in
theorem c_X0_nearestTo (l : Launch) (dC : Nat → ClassId) (dI : Nat → Nat → Nat) (cK : ClassId) (cB : ClassId) (cI : ClassId) (o : Nat) (ks : Nat) (fa : Nat) (oa : Nat) (fb : Nat) (ob : Nat) (dr : Nat) (ds : Nat) (L : Nat → Nat) (n : Nat) (sp : Int32) (co : Nat) (en : Nat) (cr : Int32) (rl : Int32) (qs : Int32) (kA : Int32) (oA : Nat → Int8) (kB : Int32) (oB : Nat → Int8) (tt : Int64) (ss : Int64) (st : Nat → Int32) (K : Nat → KR) (tX : Nat) (tY : Nat) (x : Int64) (y : Int64) : Met l yX0_nearestTo wsX0_nearestTo rm_X0_nearestTo (up_PS tX tY (fun _ => False) (dC, dI) vwCl (dkT cK cB cI) (dkW cK cB cI o ks fa oa fb ob dr ds L n sp co en cr rl qs kA oA kB oB tt ss st K) [.ref dr, .long x, .long y]) (k2_QcV (.int (dk_near x y))) 0 0 (fun _ => False) := by
  refine Met.ofW (cc := cX0_nearestTo) (maxL := 15) (ret := (some .int)) (by decide) rfl ?_
  intro p e s m args below meth c s₁ B hml hv
  obtain ⟨rfl, hP, hK, hD0, hZ⟩ := hv
  obtain ⟨hZ1, hZ2, hT1, hT2⟩ := hZ
  have hS0 : va_S (fun _ => False) s.heap s.heap [] := va_S.rf
  have hx := B.exec
  have hb := B.bytes
  have hr := B.returns
  have hts := atoms_spec (ws := wsX0_nearestTo) B.pre
  have hown : s.vm.findClass RX0 = some m.cls := findClass_of_methodNamed B.named
  have hlocks := B.notSynchronized
  have hD := up_self hD0
  have hS : va_S (up_c (dkW cK cB cI o ks fa oa fb ob dr ds L n sp co en cr rl qs kA oA kB oB tt ss st K)) s.heap s.heap [] := va_S.rf
  have hl := lv_entry ([.ref dr, .long x, .long y]) (n := 15) (Nat.le_of_ble_eq_true rfl)
  rw [lg_entry_eq]
  generalize (lg_sl ([.ref dr, .long x, .long y]) ++ List.replicate (15 - (lg_sl ([.ref dr, .long x, .long y])).length) Slot.unset).toArray = ls at hl ⊢
  have hl : lv_has ls 15 [(0, .ref dr), (1, .long x), (3, .long y)] := hl
  refine lv_iconst (v := (-1)) hx hb dX0_nearestTo_0 (by decide) ?_
  refine lv_istore (lv' := [(5, .int (-1)), (0, .ref dr), (1, .long x), (3, .long y)]) hx hb dX0_nearestTo_1 hl (by decide) rfl (fun ls hl => ?_)
  refine lv_ldc2 (v := 2250001) hx hb hown (hts (.constantLong RX0 39 2250001) (by decide +kernel)) dX0_nearestTo_3 ?_
  refine lv_lstore (lv' := [(6, .long 2250001), (5, .int (-1)), (0, .ref dr), (1, .long x), (3, .long y)]) hx hb dX0_nearestTo_6 hl (by decide) rfl (fun ls hl => ?_)
  refine lv_iconst (v := 0) hx hb dX0_nearestTo_8 (by decide) ?_
  refine lv_istore (lv' := [(8, .int 0), (6, .long 2250001), (5, .int (-1)), (0, .ref dr), (1, .long x), (3, .long y)]) hx hb dX0_nearestTo_9 hl (by decide) rfl (fun ls hl => ?_)
  have lp : ∀ (r j : Nat) (a : Int32) (b : Int64) , j + r = 5 → ∀ ls : Array Slot, lv_has ls 15 [(1, .long x), (3, .long y), (8, .int (nI j)), (5, .int a), (6, .long b)] → W p l e (headSpec wsX0_nearestTo rm_X0_nearestTo).room s m ([.ref dr, .long x, .long y] : List Value).toArray below meth c s.heap [] 0 0 (MQ below (k2_QcV (.int (dk_near_l x y r j a b))) ([.ref dr, .long x, .long y] : List Value).toArray s 0 0 (fun _ => False)) (F0 m 11 ls []) := by
    intro r
    induction r with
    | zero =>
      intro j a b hj ls hl
      refine lv_iload hx hb dX0_nearestTo_11 (lv_at hl 2 rfl) ?_
      refine lv_iconst (v := 5) hx hb dX0_nearestTo_13 (by decide) ?_
      refine lv_icmp_ge (tgt := 74) hx hb dX0_nearestTo_14 (by decide) (fun c_14 => ?_) (fun c_14 => (c_14 (nI_le (a := 5) (b := j) (by omega) (by omega))).elim)
      refine lv_iload hx hb dX0_nearestTo_74 (lv_at hl 3 rfl) ?_
      have e_ : dk_near_l x y 0 j a b = a := (dk_near_l.eq_1 ..).trans rfl
      rw [e_]
      exact W.iret (v := a) hx hb hr (fun t ht hW => ⟨rfl, ht⟩) (fun q h => absurd h List.not_mem_nil) dX0_nearestTo_76
    | succ r ih =>
      intro j a b hj ls hl
      refine lv_iload hx hb dX0_nearestTo_11 (lv_at hl 2 rfl) ?_
      refine lv_iconst (v := 5) hx hb dX0_nearestTo_13 (by decide) ?_
      refine lv_icmp_ge (tgt := 74) hx hb dX0_nearestTo_14 (by decide) (fun c_14 => (nI_ge (a := j) (b := 5) (by omega) (by omega) c_14).elim) (fun c_14 => ?_)
      refine lv_lload_n hx hb dX0_nearestTo_17 rfl (lv_at hl 0 rfl) ?_
      refine va_gets (v := .ref tX) hx hb hZ1 hS0 hown (hts (.fieldLink RX0 41 "DoorKeys$Doors" "PLACE_X" "[I") (by decide +kernel)) (fun _ h9 => h9) dX0_nearestTo_18 ?_
      refine lv_iload hx hb dX0_nearestTo_21 (lv_at hl 2 rfl) ?_
      refine va_ti (v := .int (dk_px (nI j).toNatClampNeg)) hx hb hT1 hS0 (vp_in_nI (n := j) (N := 5) (by omega) (by decide)) rfl dX0_nearestTo_23 ?_
      refine lv_i2l (v := (dk_px (nI j).toNatClampNeg).toInt64) hx hb dX0_nearestTo_24 rfl ?_
      refine lv_lsub hx hb dX0_nearestTo_25 ?_
      refine lv_lstore (lv' := [(9, .long (x - (dk_px (nI j).toNatClampNeg).toInt64)), (1, .long x), (3, .long y), (8, .int (nI j)), (5, .int a), (6, .long b)]) hx hb dX0_nearestTo_26 hl (by decide) rfl (fun ls hl => ?_)
      refine lv_lload_n hx hb dX0_nearestTo_28 rfl (lv_at hl 2 rfl) ?_
      refine va_gets (v := .ref tY) hx hb hZ2 hS0 hown (hts (.fieldLink RX0 44 "DoorKeys$Doors" "PLACE_Y" "[I") (by decide +kernel)) (fun _ h9 => h9) dX0_nearestTo_29 ?_
      refine lv_iload hx hb dX0_nearestTo_32 (lv_at hl 3 rfl) ?_
      refine va_ti (v := .int (dk_py (nI j).toNatClampNeg)) hx hb hT2 hS0 (vp_in_nI (n := j) (N := 5) (by omega) (by decide)) rfl dX0_nearestTo_34 ?_
      refine lv_i2l (v := (dk_py (nI j).toNatClampNeg).toInt64) hx hb dX0_nearestTo_35 rfl ?_
      refine lv_lsub hx hb dX0_nearestTo_36 ?_
      refine lv_lstore (lv' := [(11, .long (y - (dk_py (nI j).toNatClampNeg).toInt64)), (9, .long (x - (dk_px (nI j).toNatClampNeg).toInt64)), (1, .long x), (3, .long y), (8, .int (nI j)), (5, .int a), (6, .long b)]) hx hb dX0_nearestTo_37 hl (by decide) rfl (fun ls hl => ?_)
      refine lv_lload hx hb dX0_nearestTo_39 (lv_at hl 1 rfl) ?_
      refine lv_lload hx hb dX0_nearestTo_41 (lv_at hl 1 rfl) ?_
      refine lv_lmul hx hb dX0_nearestTo_43 ?_
      refine lv_lload hx hb dX0_nearestTo_44 (lv_at hl 0 rfl) ?_
      refine lv_lload hx hb dX0_nearestTo_46 (lv_at hl 0 rfl) ?_
      refine lv_lmul hx hb dX0_nearestTo_48 ?_
      refine lv_ladd hx hb dX0_nearestTo_49 ?_
      refine lv_lstore (lv' := [(13, .long (((x - (dk_px (nI j).toNatClampNeg).toInt64) * (x - (dk_px (nI j).toNatClampNeg).toInt64)) + ((y - (dk_py (nI j).toNatClampNeg).toInt64) * (y - (dk_py (nI j).toNatClampNeg).toInt64)))), (11, .long (y - (dk_py (nI j).toNatClampNeg).toInt64)), (9, .long (x - (dk_px (nI j).toNatClampNeg).toInt64)), (1, .long x), (3, .long y), (8, .int (nI j)), (5, .int a), (6, .long b)]) hx hb dX0_nearestTo_50 hl (by decide) rfl (fun ls hl => ?_)
      refine lv_lload hx hb dX0_nearestTo_52 (lv_at hl 0 rfl) ?_
      refine lv_lload hx hb dX0_nearestTo_54 (lv_at hl 7 rfl) ?_
      refine W.lcmp hx hb dX0_nearestTo_56 ?_
      refine lv_if_ge (tgt := 68) hx hb dX0_nearestTo_57 (by decide) (fun c_57 => ?_) (fun c_57 => ?_)
      · refine lv_iinc (v := (nI (j + 1))) (lv' := [(8, .int (nI (j + 1))), (13, .long (((x - (dk_px (nI j).toNatClampNeg).toInt64) * (x - (dk_px (nI j).toNatClampNeg).toInt64)) + ((y - (dk_py (nI j).toNatClampNeg).toInt64) * (y - (dk_py (nI j).toNatClampNeg).toInt64)))), (11, .long (y - (dk_py (nI j).toNatClampNeg).toInt64)), (9, .long (x - (dk_px (nI j).toNatClampNeg).toInt64)), (1, .long x), (3, .long y), (5, .int a), (6, .long b)]) hx hb dX0_nearestTo_68 hl (k := 5) rfl (nI_1 _) (by decide) rfl (fun ls hl => ?_)
        refine lv_goto (tgt := 11) hx hb dX0_nearestTo_71 (by decide) ?_
        have e_ : dk_near_l x y (r + 1) j a b = dk_near_l x y r (j + 1) a b := (dk_near_l.eq_2 ..).trans ((if_pos c_57).trans rfl)
        rw [e_]
        exact ih (j + 1) a b (by omega) ls (lv_sub hl [4, 5, 0, 6, 7] rfl)
      · refine lv_lload hx hb dX0_nearestTo_60 (lv_at hl 0 rfl) ?_
        refine lv_lstore (lv' := [(6, .long (((x - (dk_px (nI j).toNatClampNeg).toInt64) * (x - (dk_px (nI j).toNatClampNeg).toInt64)) + ((y - (dk_py (nI j).toNatClampNeg).toInt64) * (y - (dk_py (nI j).toNatClampNeg).toInt64)))), (13, .long (((x - (dk_px (nI j).toNatClampNeg).toInt64) * (x - (dk_px (nI j).toNatClampNeg).toInt64)) + ((y - (dk_py (nI j).toNatClampNeg).toInt64) * (y - (dk_py (nI j).toNatClampNeg).toInt64)))), (11, .long (y - (dk_py (nI j).toNatClampNeg).toInt64)), (9, .long (x - (dk_px (nI j).toNatClampNeg).toInt64)), (1, .long x), (3, .long y), (8, .int (nI j)), (5, .int a)]) hx hb dX0_nearestTo_62 hl (by decide) rfl (fun ls hl => ?_)
        refine lv_iload hx hb dX0_nearestTo_64 (lv_at hl 6 rfl) ?_
        refine lv_istore (lv' := [(5, .int (nI j)), (6, .long (((x - (dk_px (nI j).toNatClampNeg).toInt64) * (x - (dk_px (nI j).toNatClampNeg).toInt64)) + ((y - (dk_py (nI j).toNatClampNeg).toInt64) * (y - (dk_py (nI j).toNatClampNeg).toInt64)))), (13, .long (((x - (dk_px (nI j).toNatClampNeg).toInt64) * (x - (dk_px (nI j).toNatClampNeg).toInt64)) + ((y - (dk_py (nI j).toNatClampNeg).toInt64) * (y - (dk_py (nI j).toNatClampNeg).toInt64)))), (11, .long (y - (dk_py (nI j).toNatClampNeg).toInt64)), (9, .long (x - (dk_px (nI j).toNatClampNeg).toInt64)), (1, .long x), (3, .long y), (8, .int (nI j))]) hx hb dX0_nearestTo_66 hl (by decide) rfl (fun ls hl => ?_)
        refine lv_iinc (v := (nI (j + 1))) (lv' := [(8, .int (nI (j + 1))), (5, .int (nI j)), (6, .long (((x - (dk_px (nI j).toNatClampNeg).toInt64) * (x - (dk_px (nI j).toNatClampNeg).toInt64)) + ((y - (dk_py (nI j).toNatClampNeg).toInt64) * (y - (dk_py (nI j).toNatClampNeg).toInt64)))), (13, .long (((x - (dk_px (nI j).toNatClampNeg).toInt64) * (x - (dk_px (nI j).toNatClampNeg).toInt64)) + ((y - (dk_py (nI j).toNatClampNeg).toInt64) * (y - (dk_py (nI j).toNatClampNeg).toInt64)))), (11, .long (y - (dk_py (nI j).toNatClampNeg).toInt64)), (9, .long (x - (dk_px (nI j).toNatClampNeg).toInt64)), (1, .long x), (3, .long y)]) hx hb dX0_nearestTo_68 hl (k := 7) rfl (nI_1 _) (by decide) rfl (fun ls hl => ?_)
        refine lv_goto (tgt := 11) hx hb dX0_nearestTo_71 (by decide) ?_
        have e_ : dk_near_l x y (r + 1) j a b = dk_near_l x y r (j + 1) (nI j) (((x - (dk_px (nI j).toNatClampNeg).toInt64) * (x - (dk_px (nI j).toNatClampNeg).toInt64)) + ((y - (dk_py (nI j).toNatClampNeg).toInt64) * (y - (dk_py (nI j).toNatClampNeg).toInt64))) := (dk_near_l.eq_2 ..).trans ((if_neg c_57).trans rfl)
        rw [e_]
        exact ih (j + 1) (nI j) (((x - (dk_px (nI j).toNatClampNeg).toInt64) * (x - (dk_px (nI j).toNatClampNeg).toInt64)) + ((y - (dk_py (nI j).toNatClampNeg).toInt64) * (y - (dk_py (nI j).toNatClampNeg).toInt64))) (by omega) ls (lv_sub hl [6, 7, 0, 1, 2] rfl)
  have e_ : dk_near x y = dk_near_l x y 5 0 (-1) 2250001 := by unfold dk_near; exact rfl
  rw [e_]
  exact lp 5 0 (-1) 2250001 (by omega) ls (lv_sub hl [4, 5, 0, 2, 1] rfl)
def dk_field (n : Nat) (rl : Int32) (st : Nat → Int32) (K : Nat → KR) (x : Int32) (y : Int64) (u : Int64) (w : Int64) : Int32 × (Nat → KR) × Int32 × (Nat → Int32) :=
  if dk_fkP n x then
    if dk_within y 1000000 = 0 then
      (((-2) : Int32), K, rl, st)
    else
      if dk_within u 1000000 = 0 then
        (((-2) : Int32), K, rl, st)
      else
        if 0 ≤ (lg_cmp w 1) then
          if 0 < (lg_cmp w 2000) then
            if dk_hand ((K (dk_fki x)).1, (K (dk_fki x)).2.1, (K (dk_fki x)).2.2.1, (K (dk_fki x)).2.2.2.1, 0, 0, (K (dk_fki x)).2.2.2.2.2.2) = 0 then
              ((0 : Int32), (va_up K (dk_fki x) ((K (dk_fki x)).1, (K (dk_fki x)).2.1, (K (dk_fki x)).2.2.1, (K (dk_fki x)).2.2.2.1, 0, 0, (K (dk_fki x)).2.2.2.2.2.2)), (rl + 1), st)
            else
              ((1 : Int32), (va_up K (dk_fki x) ((K (dk_fki x)).1, (K (dk_fki x)).2.1, (K (dk_fki x)).2.2.1, (K (dk_fki x)).2.2.2.1, 0, 0, (K (dk_fki x)).2.2.2.2.2.2)), (rl + 1), st)
          else
            if (K (dk_fki x)).2.2.2.1 = 0 then
              if dk_hand ((K (dk_fki x)).1, (K (dk_fki x)).2.1, (K (dk_fki x)).2.2.1, (K (dk_fki x)).2.2.2.1, 0, 0, (K (dk_fki x)).2.2.2.2.2.2) = 0 then
                ((0 : Int32), (va_up K (dk_fki x) ((K (dk_fki x)).1, (K (dk_fki x)).2.1, (K (dk_fki x)).2.2.1, (K (dk_fki x)).2.2.2.1, 0, 0, (K (dk_fki x)).2.2.2.2.2.2)), rl, st)
              else
                ((1 : Int32), (va_up K (dk_fki x) ((K (dk_fki x)).1, (K (dk_fki x)).2.1, (K (dk_fki x)).2.2.1, (K (dk_fki x)).2.2.2.1, 0, 0, (K (dk_fki x)).2.2.2.2.2.2)), rl, st)
            else
              if dk_near y u = (-1) then
                if dk_within y 2000 = 0 then
                  if dk_hand ((K (dk_fki x)).1, (K (dk_fki x)).2.1, (K (dk_fki x)).2.2.1, (K (dk_fki x)).2.2.2.1, 0, 0, (K (dk_fki x)).2.2.2.2.2.2) = 0 then
                    ((0 : Int32), (va_up K (dk_fki x) ((K (dk_fki x)).1, (K (dk_fki x)).2.1, (K (dk_fki x)).2.2.1, (K (dk_fki x)).2.2.2.1, 0, 0, (K (dk_fki x)).2.2.2.2.2.2)), rl, st)
                  else
                    ((1 : Int32), (va_up K (dk_fki x) ((K (dk_fki x)).1, (K (dk_fki x)).2.1, (K (dk_fki x)).2.2.1, (K (dk_fki x)).2.2.2.1, 0, 0, (K (dk_fki x)).2.2.2.2.2.2)), rl, st)
                else
                  if dk_within u 800 = 0 then
                    if dk_hand ((K (dk_fki x)).1, (K (dk_fki x)).2.1, (K (dk_fki x)).2.2.1, (K (dk_fki x)).2.2.2.1, 0, 0, (K (dk_fki x)).2.2.2.2.2.2) = 0 then
                      ((0 : Int32), (va_up K (dk_fki x) ((K (dk_fki x)).1, (K (dk_fki x)).2.1, (K (dk_fki x)).2.2.1, (K (dk_fki x)).2.2.2.1, 0, 0, (K (dk_fki x)).2.2.2.2.2.2)), rl, st)
                    else
                      ((1 : Int32), (va_up K (dk_fki x) ((K (dk_fki x)).1, (K (dk_fki x)).2.1, (K (dk_fki x)).2.2.1, (K (dk_fki x)).2.2.2.1, 0, 0, (K (dk_fki x)).2.2.2.2.2.2)), rl, st)
                  else
                    if dk_hand ((K (dk_fki x)).1, (K (dk_fki x)).2.1, (K (dk_fki x)).2.2.1, (K (dk_fki x)).2.2.2.1, 0, 1, (K (dk_fki x)).2.2.2.2.2.2) = 0 then
                      ((0 : Int32), (va_up K (dk_fki x) ((K (dk_fki x)).1, (K (dk_fki x)).2.1, (K (dk_fki x)).2.2.1, (K (dk_fki x)).2.2.2.1, 0, 1, (K (dk_fki x)).2.2.2.2.2.2)), rl, st)
                    else
                      ((1 : Int32), (va_up K (dk_fki x) ((K (dk_fki x)).1, (K (dk_fki x)).2.1, (K (dk_fki x)).2.2.1, (K (dk_fki x)).2.2.2.1, 0, 1, (K (dk_fki x)).2.2.2.2.2.2)), rl, st)
              else
                if dk_within y 2000 = 0 then
                  if dk_hand ((K (dk_fki x)).1, (K (dk_fki x)).2.1, (K (dk_fki x)).2.2.1, (K (dk_fki x)).2.2.2.1, 1, 0, (K (dk_fki x)).2.2.2.2.2.2) = 0 then
                    ((0 : Int32), (va_up K (dk_fki x) ((K (dk_fki x)).1, (K (dk_fki x)).2.1, (K (dk_fki x)).2.2.1, (K (dk_fki x)).2.2.2.1, 1, 0, (K (dk_fki x)).2.2.2.2.2.2)), rl, (dk_openOne st (dk_near y u)))
                  else
                    ((1 : Int32), (va_up K (dk_fki x) ((K (dk_fki x)).1, (K (dk_fki x)).2.1, (K (dk_fki x)).2.2.1, (K (dk_fki x)).2.2.2.1, 1, 0, (K (dk_fki x)).2.2.2.2.2.2)), rl, (dk_openOne st (dk_near y u)))
                else
                  if dk_within u 800 = 0 then
                    if dk_hand ((K (dk_fki x)).1, (K (dk_fki x)).2.1, (K (dk_fki x)).2.2.1, (K (dk_fki x)).2.2.2.1, 1, 0, (K (dk_fki x)).2.2.2.2.2.2) = 0 then
                      ((0 : Int32), (va_up K (dk_fki x) ((K (dk_fki x)).1, (K (dk_fki x)).2.1, (K (dk_fki x)).2.2.1, (K (dk_fki x)).2.2.2.1, 1, 0, (K (dk_fki x)).2.2.2.2.2.2)), rl, (dk_openOne st (dk_near y u)))
                    else
                      ((1 : Int32), (va_up K (dk_fki x) ((K (dk_fki x)).1, (K (dk_fki x)).2.1, (K (dk_fki x)).2.2.1, (K (dk_fki x)).2.2.2.1, 1, 0, (K (dk_fki x)).2.2.2.2.2.2)), rl, (dk_openOne st (dk_near y u)))
                  else
                    if dk_hand ((K (dk_fki x)).1, (K (dk_fki x)).2.1, (K (dk_fki x)).2.2.1, (K (dk_fki x)).2.2.2.1, 1, 1, (K (dk_fki x)).2.2.2.2.2.2) = 0 then
                      ((0 : Int32), (va_up K (dk_fki x) ((K (dk_fki x)).1, (K (dk_fki x)).2.1, (K (dk_fki x)).2.2.1, (K (dk_fki x)).2.2.2.1, 1, 1, (K (dk_fki x)).2.2.2.2.2.2)), rl, st)
                    else
                      ((1 : Int32), (va_up K (dk_fki x) ((K (dk_fki x)).1, (K (dk_fki x)).2.1, (K (dk_fki x)).2.2.1, (K (dk_fki x)).2.2.2.1, 1, 1, (K (dk_fki x)).2.2.2.2.2.2)), rl, st)
        else
          (((-2) : Int32), K, rl, st)
  else
    (((-1) : Int32), K, rl, st)
def rm_X3_field : Room := { frames := 2, cells := 0, slots := 0, locals := 42 }
set_option maxHeartbeats 4000000 in
set_option maxRecDepth 100000 in
theorem c_X3_field (l : Launch) (dC : Nat → ClassId) (dI : Nat → Nat → Nat) (cK : ClassId) (cB : ClassId) (cI : ClassId) (o : Nat) (ks : Nat) (fa : Nat) (oa : Nat) (fb : Nat) (ob : Nat) (dr : Nat) (ds : Nat) (L : Nat → Nat) (n : Nat) (sp : Int32) (co : Nat) (en : Nat) (cr : Int32) (rl : Int32) (qs : Int32) (kA : Int32) (oA : Nat → Int8) (kB : Int32) (oB : Nat → Int8) (tt : Int64) (ss : Int64) (st : Nat → Int32) (K : Nat → KR) (tX : Nat) (tY : Nat) (x : Int32) (y : Int64) (u : Int64) (w : Int64) (hn : n ≤ 8) : Met l yX3_field wsX3_field rm_X3_field (up_PS tX tY (up_c (dkW cK cB cI o ks fa oa fb ob dr ds L n sp co en cr rl qs kA oA kB oB tt ss st K)) (dC, dI) vwCl (dkT cK cB cI) (dkW cK cB cI o ks fa oa fb ob dr ds L n sp co en cr rl qs kA oA kB oB tt ss st K) [.ref o, .int x, .long y, .long u, .long w]) (up_Q (dC, dI) vwCl (some (.int ((dk_field n rl st K x y u w).1))) (dkW cK cB cI o ks fa oa fb ob dr ds L n sp co en cr rl qs kA oA kB oB tt ss st K) (dkW cK cB cI o ks fa oa fb ob dr ds L n sp co en cr ((dk_field n rl st K x y u w).2.2.1) qs kA oA kB oB tt ss ((dk_field n rl st K x y u w).2.2.2) ((dk_field n rl st K x y u w).2.1))) 0 0 (up_c (dkW cK cB cI o ks fa oa fb ob dr ds L n sp co en cr rl qs kA oA kB oB tt ss st K)) := by
  refine Met.ofW (cc := cX3_field) (maxL := 12) (ret := (some .int)) (by decide) rfl ?_
  intro p e s m args below meth c s₁ B hml hv
  obtain ⟨rfl, hP, hK, hD0, hZ⟩ := hv
  have hx := B.exec
  have hb := B.bytes
  have hr := B.returns
  have hts := atoms_spec (ws := wsX3_field) B.pre
  have hown : s.vm.findClass RX3 = some m.cls := findClass_of_methodNamed B.named
  have hlocks := B.notSynchronized
  have hD := up_self hD0
  have hS : va_S (up_c (dkW cK cB cI o ks fa oa fb ob dr ds L n sp co en cr rl qs kA oA kB oB tt ss st K)) s.heap s.heap [] := va_S.rf
  have hl := lv_entry ([.ref o, .int x, .long y, .long u, .long w]) (n := 12) (Nat.le_of_ble_eq_true rfl)
  rw [lg_entry_eq]
  generalize (lg_sl ([.ref o, .int x, .long y, .long u, .long w]) ++ List.replicate (12 - (lg_sl ([.ref o, .int x, .long y, .long u, .long w])).length) Slot.unset).toArray = ls at hl ⊢
  have hl : lv_has ls 12 [(0, .ref o), (1, .int x), (2, .long y), (4, .long u), (6, .long w)] := hl
  refine lv_aload_n hx hb dX3_field_0 rfl (lv_at hl 0 rfl) ?_
  refine lv_iload_n hx hb dX3_field_1 rfl (lv_at hl 1 rfl) ?_
  by_cases hk_2 : dk_fkP n x
  · have hi_2 : dk_fki x < n := dk_fk_lt hn hk_2
    refine up_read (W.runV (As := [.int x]) (rest := []) ⟨hx, hb, hml, hown, hts⟩ (c_X3_findS l dC dI cK cB cI o ks fa oa fb ob dr ds L n sp co en cr rl qs kA oA kB oB tt ss st K x hn hk_2) (cwV 1 hts gX3_field_X3_find rfl rfl rfl (by decide +kernel) ⟨Nat.le_of_ble_eq_true rfl, Nat.le_of_ble_eq_true rfl⟩) (up_preV (q0 := 0) (ci := 4) hP hK hD rfl rfl) rfl rfl hl.1 rfl (lv_room (Nat.le_of_ble_eq_true rfl)) dX3_field_2 ⟨Nat.le_of_ble_eq_true rfl, Nat.le_of_ble_eq_true rfl⟩) ?_
    refine lv_astore (lv' := [(8, .ref (L (dk_fki x))), (0, .ref o), (1, .int x), (2, .long y), (4, .long u), (6, .long w)]) hx hb dX3_field_5 hl (by decide) rfl (fun ls hl => ?_)
    refine lv_aload hx hb dX3_field_7 (lv_at hl 0 rfl) ?_
    refine lv_ifnonnull (tgt := 14) hx hb dX3_field_9 (by decide) ?_
    refine lv_lload_n hx hb dX3_field_14 rfl (lv_at hl 3 rfl) ?_
    refine lv_ldc2 (v := 1000000) hx hb hown (hts (.constantLong RX3 105 1000000) (by decide +kernel)) dX3_field_15 ?_
    refine up_read (W.runS (As := [.long y, .long 1000000]) (rest := []) ⟨hx, hb, hml, hown, hts⟩ (c_X3_isWithin l dC dI cK cB cI o ks fa oa fb ob dr ds L n sp co en cr rl qs kA oA kB oB tt ss st K y 1000000) (va_cwS 2 hts gX3_field_X3_isWithin rfl rfl rfl (by decide +kernel) ⟨Nat.le_of_ble_eq_true rfl, Nat.le_of_ble_eq_true rfl⟩) (up_preS hP hK hD) rfl rfl hl.1 rfl (lv_room (Nat.le_of_ble_eq_true rfl)) dX3_field_18 ⟨Nat.le_of_ble_eq_true rfl, Nat.le_of_ble_eq_true rfl⟩) ?_
    refine lv_if_eq (tgt := 42) hx hb dX3_field_21 (by decide) (fun c_21 => ?_) (fun c_21 => ?_)
    · refine lv_bipush (v := (-2)) hx hb dX3_field_42 (by decide) ?_
      have e_ : dk_field n rl st K x y u w = (((-2) : Int32), K, rl, st) := by unfold dk_field; exact (if_pos hk_2).trans ((if_pos c_21).trans rfl)
      rw [e_]
      exact W.iret (v := (-2)) hx hb hr (fun t ht hW => ⟨rfl, by rw [ht]; exact hP, hS.F ht⟩) hS.2.2 dX3_field_44
    · refine lv_lload hx hb dX3_field_24 (lv_at hl 4 rfl) ?_
      refine lv_ldc2 (v := 1000000) hx hb hown (hts (.constantLong RX3 105 1000000) (by decide +kernel)) dX3_field_26 ?_
      refine up_read (W.runS (As := [.long u, .long 1000000]) (rest := []) ⟨hx, hb, hml, hown, hts⟩ (c_X3_isWithin l dC dI cK cB cI o ks fa oa fb ob dr ds L n sp co en cr rl qs kA oA kB oB tt ss st K u 1000000) (va_cwS 2 hts gX3_field_X3_isWithin rfl rfl rfl (by decide +kernel) ⟨Nat.le_of_ble_eq_true rfl, Nat.le_of_ble_eq_true rfl⟩) (up_preS hP hK hD) rfl rfl hl.1 rfl (lv_room (Nat.le_of_ble_eq_true rfl)) dX3_field_29 ⟨Nat.le_of_ble_eq_true rfl, Nat.le_of_ble_eq_true rfl⟩) ?_
      refine lv_if_eq (tgt := 42) hx hb dX3_field_32 (by decide) (fun c_32 => ?_) (fun c_32 => ?_)
      · refine lv_bipush (v := (-2)) hx hb dX3_field_42 (by decide) ?_
        have e_ : dk_field n rl st K x y u w = (((-2) : Int32), K, rl, st) := by unfold dk_field; exact (if_pos hk_2).trans ((if_neg c_21).trans ((if_pos c_32).trans rfl))
        rw [e_]
        exact W.iret (v := (-2)) hx hb hr (fun t ht hW => ⟨rfl, by rw [ht]; exact hP, hS.F ht⟩) hS.2.2 dX3_field_44
      · refine lv_lload hx hb dX3_field_35 (lv_at hl 5 rfl) ?_
        refine lv_lconst (v := 1) hx hb dX3_field_37 (by decide) ?_
        refine W.lcmp hx hb dX3_field_38 ?_
        refine lv_if_ge (tgt := 45) hx hb dX3_field_39 (by decide) (fun c_39 => ?_) (fun c_39 => ?_)
        · refine lv_lload hx hb dX3_field_45 (lv_at hl 5 rfl) ?_
          refine lv_ldc2 (v := 2000) hx hb hown (hts (.constantLong RX3 111 2000) (by decide +kernel)) dX3_field_47 ?_
          refine W.lcmp hx hb dX3_field_50 ?_
          refine lv_if_gt (tgt := 58) hx hb dX3_field_51 (by decide) (fun c_51 => ?_) (fun c_51 => ?_)
          · refine lv_iconst (v := 0) hx hb dX3_field_58 (by decide) ?_
            refine lv_istore (lv' := [(9, .int 0), (8, .ref (L (dk_fki x))), (0, .ref o), (1, .int x), (2, .long y), (4, .long u), (6, .long w)]) hx hb dX3_field_59 hl (by decide) rfl (fun ls hl => ?_)
            refine lv_iload hx hb dX3_field_61 (lv_at hl 0 rfl) ?_
            refine lv_if_ne (tgt := 76) hx hb dX3_field_63 (by decide) (fun c_63 => absurd c_63 (by decide)) (fun c_63 => ?_)
            refine lv_aload_n hx hb dX3_field_66 rfl (lv_at hl 2 rfl) ?_
            refine lv_dup hx hb dX3_field_67 rfl ?_
            refine va_get (D := (dC, dI)) (ci := 4) (v := .int rl) (C := RX3) (T := TX3) (N := 9) hx hb hts inn_X3_field_X3 hown hK hP 0 rfl rfl 7 (by decide) (hts (.fieldLink RX3 113 "DoorKeys" "relays" "I") (by decide +kernel)) (fun _ h9 => h9) rfl dX3_field_68 ?_
            refine lv_iconst (v := 1) hx hb dX3_field_71 (by decide) ?_
            refine lv_iadd hx hb dX3_field_72 ?_
            refine va_put (D := (dC, dI)) (ci := 4) (v := .int (rl + 1)) (ty := .int) (C := RX3) (T := TX3) (N := 9) hx hb hts inn_X3_field_X3 tyX3 tyX3_ok nmX3 hown hK hP hD hS 0 rfl rfl 7 (by decide) (hts (.fieldLink RX3 113 "DoorKeys" "relays" "I") (by decide +kernel)) (fun _ h9 => h9) rfl (by decide +kernel) rfl rfl (Nat.le_of_ble_eq_true rfl) dX3_field_73 (fun H locs hP hD hS => ?_)
            have hP : va_P (dC, dI) vwCl (dkW cK cB cI o ks fa oa fb ob dr ds L n sp co en cr (rl + 1) qs kA oA kB oB tt ss st K) H := hP
            have hD : va_D (up_c (dkW cK cB cI o ks fa oa fb ob dr ds L n sp co en cr rl qs kA oA kB oB tt ss st K)) (dkW cK cB cI o ks fa oa fb ob dr ds L n sp co en cr (rl + 1) qs kA oA kB oB tt ss st K) := hD
            refine lv_iload hx hb dX3_field_76 (lv_at hl 0 rfl) ?_
            refine lv_if_eq (tgt := 93) hx hb dX3_field_78 (by decide) (fun c_78 => ?_) (fun c_78 => absurd c_78 (by decide))
            refine lv_iconst (v := 0) hx hb dX3_field_93 (by decide) ?_
            refine lv_istore (lv' := [(10, .int 0), (9, .int 0), (8, .ref (L (dk_fki x))), (0, .ref o), (1, .int x), (2, .long y), (4, .long u), (6, .long w)]) hx hb dX3_field_94 hl (by decide) rfl (fun ls hl => ?_)
            refine lv_aload_n hx hb dX3_field_96 rfl (lv_at hl 3 rfl) ?_
            refine va_get (D := (dC, dI)) (ci := 4) (v := .ref dr) (C := RX3) (T := TX3) (N := 9) hx hb hts inn_X3_field_X3 hown hK hP 0 rfl rfl 5 (by decide) (hts (.fieldLink RX3 32 "DoorKeys" "doors" "LDoorKeys$Doors;") (by decide +kernel)) (fun _ h9 => h9) rfl dX3_field_97 ?_
            refine lv_lload_n hx hb dX3_field_100 rfl (lv_at hl 5 rfl) ?_
            refine lv_lload hx hb dX3_field_101 (lv_at hl 6 rfl) ?_
            refine up_read (W.runV (As := [.long y, .long u]) (rest := []) ⟨hx, hb, hml, hown, hts⟩ (c_X0_nearestTo l dC dI cK cB cI o ks fa oa fb ob dr ds L n sp co en cr (rl + 1) qs kA oA kB oB tt ss st K tX tY y u) (cwV 2 hts gX3_field_X0_nearestTo rfl rfl rfl (by decide +kernel) ⟨Nat.le_of_ble_eq_true rfl, Nat.le_of_ble_eq_true rfl⟩) (up_preVS (q0 := 6) (ci := 1) hP hK hD (dk_S_at hZ hS) rfl rfl) rfl rfl hl.1 rfl (lv_room (Nat.le_of_ble_eq_true rfl)) dX3_field_103 ⟨Nat.le_of_ble_eq_true rfl, Nat.le_of_ble_eq_true rfl⟩) ?_
            refine lv_istore (lv' := [(11, .int (dk_near y u)), (10, .int 0), (9, .int 0), (8, .ref (L (dk_fki x))), (0, .ref o), (1, .int x), (2, .long y), (4, .long u), (6, .long w)]) hx hb dX3_field_106 hl (by decide) rfl (fun ls hl => ?_)
            refine lv_aload hx hb dX3_field_108 (lv_at hl 3 rfl) ?_
            refine lv_iload hx hb dX3_field_110 (lv_at hl 1 rfl) ?_
            refine lv_if_eq (tgt := 125) hx hb dX3_field_112 (by decide) (fun c_112 => ?_) (fun c_112 => absurd c_112 (by decide))
            refine lv_iconst (v := 0) hx hb dX3_field_125 (by decide) ?_
            refine va_put (D := (dC, dI)) (ci := 3) (v := .int 0) (ty := .boolean) (C := RX2) (T := TX2) (N := 7) hx hb hts inn_X3_field_X2 tyX2 tyX2_ok nmX2 hown hK hP hD hS ((dk_fki x) + 8) (dk_keyk hi_2 rfl) rfl 4 (by decide) (hts (.fieldLink RX3 99 "DoorKeys$Key" "near" "Z") (by decide +kernel)) (fun _ h9 => h9) rfl (by decide +kernel) rfl rfl (Nat.le_of_ble_eq_true rfl) dX3_field_126 (fun H locs hP hD hS => ?_)
            have hP : va_P (dC, dI) vwCl (dkW cK cB cI o ks fa oa fb ob dr ds L n sp co en cr (rl + 1) qs kA oA kB oB tt ss st (va_up K (dk_fki x) ((K (dk_fki x)).1, (K (dk_fki x)).2.1, (K (dk_fki x)).2.2.1, (K (dk_fki x)).2.2.2.1, 0, (K (dk_fki x)).2.2.2.2.2.1, (K (dk_fki x)).2.2.2.2.2.2))) H := up_cast (dk_put hi_2) hP
            have hD : va_D (up_c (dkW cK cB cI o ks fa oa fb ob dr ds L n sp co en cr rl qs kA oA kB oB tt ss st K)) (dkW cK cB cI o ks fa oa fb ob dr ds L n sp co en cr (rl + 1) qs kA oA kB oB tt ss st (va_up K (dk_fki x) ((K (dk_fki x)).1, (K (dk_fki x)).2.1, (K (dk_fki x)).2.2.1, (K (dk_fki x)).2.2.2.1, 0, (K (dk_fki x)).2.2.2.2.2.1, (K (dk_fki x)).2.2.2.2.2.2))) := up_castD (dk_put hi_2) hD
            have hP : va_P (dC, dI) vwCl (dkW cK cB cI o ks fa oa fb ob dr ds L n sp co en cr (rl + 1) qs kA oA kB oB tt ss st (va_up K (dk_fki x) ((K (dk_fki x)).1, (K (dk_fki x)).2.1, (K (dk_fki x)).2.2.1, (K (dk_fki x)).2.2.2.1, 0, (K (dk_fki x)).2.2.2.2.2.1, (K (dk_fki x)).2.2.2.2.2.2))) H := hP
            have hD : va_D (up_c (dkW cK cB cI o ks fa oa fb ob dr ds L n sp co en cr rl qs kA oA kB oB tt ss st K)) (dkW cK cB cI o ks fa oa fb ob dr ds L n sp co en cr (rl + 1) qs kA oA kB oB tt ss st (va_up K (dk_fki x) ((K (dk_fki x)).1, (K (dk_fki x)).2.1, (K (dk_fki x)).2.2.1, (K (dk_fki x)).2.2.2.1, 0, (K (dk_fki x)).2.2.2.2.2.1, (K (dk_fki x)).2.2.2.2.2.2))) := hD
            refine lv_aload hx hb dX3_field_129 (lv_at hl 3 rfl) ?_
            refine lv_iload hx hb dX3_field_131 (lv_at hl 1 rfl) ?_
            refine lv_if_eq (tgt := 161) hx hb dX3_field_133 (by decide) (fun c_133 => ?_) (fun c_133 => absurd c_133 (by decide))
            refine lv_iconst (v := 0) hx hb dX3_field_161 (by decide) ?_
            refine va_put (D := (dC, dI)) (ci := 3) (v := .int 0) (ty := .boolean) (C := RX2) (T := TX2) (N := 7) hx hb hts inn_X3_field_X2 tyX2 tyX2_ok nmX2 hown hK hP hD hS ((dk_fki x) + 8) (dk_keyk hi_2 (va_up_self _ _ _)) rfl 5 (by decide) (hts (.fieldLink RX3 102 "DoorKeys$Key" "inside" "Z") (by decide +kernel)) (fun _ h9 => h9) rfl (by decide +kernel) rfl rfl (Nat.le_of_ble_eq_true rfl) dX3_field_162 (fun H locs hP hD hS => ?_)
            have hP : va_P (dC, dI) vwCl (dkW cK cB cI o ks fa oa fb ob dr ds L n sp co en cr (rl + 1) qs kA oA kB oB tt ss st (va_up K (dk_fki x) ((K (dk_fki x)).1, (K (dk_fki x)).2.1, (K (dk_fki x)).2.2.1, (K (dk_fki x)).2.2.2.1, 0, 0, (K (dk_fki x)).2.2.2.2.2.2))) H := up_cast (dk_putU hi_2) hP
            have hD : va_D (up_c (dkW cK cB cI o ks fa oa fb ob dr ds L n sp co en cr rl qs kA oA kB oB tt ss st K)) (dkW cK cB cI o ks fa oa fb ob dr ds L n sp co en cr (rl + 1) qs kA oA kB oB tt ss st (va_up K (dk_fki x) ((K (dk_fki x)).1, (K (dk_fki x)).2.1, (K (dk_fki x)).2.2.1, (K (dk_fki x)).2.2.2.1, 0, 0, (K (dk_fki x)).2.2.2.2.2.2))) := up_castD (dk_putU hi_2) hD
            have hP : va_P (dC, dI) vwCl (dkW cK cB cI o ks fa oa fb ob dr ds L n sp co en cr (rl + 1) qs kA oA kB oB tt ss st (va_up K (dk_fki x) ((K (dk_fki x)).1, (K (dk_fki x)).2.1, (K (dk_fki x)).2.2.1, (K (dk_fki x)).2.2.2.1, 0, 0, (K (dk_fki x)).2.2.2.2.2.2))) H := hP
            have hD : va_D (up_c (dkW cK cB cI o ks fa oa fb ob dr ds L n sp co en cr rl qs kA oA kB oB tt ss st K)) (dkW cK cB cI o ks fa oa fb ob dr ds L n sp co en cr (rl + 1) qs kA oA kB oB tt ss st (va_up K (dk_fki x) ((K (dk_fki x)).1, (K (dk_fki x)).2.1, (K (dk_fki x)).2.2.1, (K (dk_fki x)).2.2.2.1, 0, 0, (K (dk_fki x)).2.2.2.2.2.2))) := hD
            refine lv_aload hx hb dX3_field_165 (lv_at hl 3 rfl) ?_
            refine va_get (D := (dC, dI)) (ci := 3) (v := .int 0) (C := RX2) (T := TX2) (N := 7) hx hb hts inn_X3_field_X2 hown hK hP ((dk_fki x) + 8) (dk_keyk hi_2 (va_up_self _ _ _)) rfl 4 (by decide) (hts (.fieldLink RX3 99 "DoorKeys$Key" "near" "Z") (by decide +kernel)) (fun _ h9 => h9) rfl dX3_field_167 ?_
            refine lv_if_eq (tgt := 190) hx hb dX3_field_170 (by decide) (fun c_170 => ?_) (fun c_170 => absurd c_170 (by decide))
            refine lv_aload hx hb dX3_field_190 (lv_at hl 3 rfl) ?_
            refine up_read (W.runV (As := []) (rest := []) ⟨hx, hb, hml, hown, hts⟩ (c_X2_isAtHand l dC dI cK cB cI o ks fa oa fb ob dr ds L n sp co en cr (rl + 1) qs kA oA kB oB tt ss st (va_up K (dk_fki x) ((K (dk_fki x)).1, (K (dk_fki x)).2.1, (K (dk_fki x)).2.2.1, (K (dk_fki x)).2.2.2.1, 0, 0, (K (dk_fki x)).2.2.2.2.2.2)) (dk_fki x) ((K (dk_fki x)).1, (K (dk_fki x)).2.1, (K (dk_fki x)).2.2.1, (K (dk_fki x)).2.2.2.1, 0, 0, (K (dk_fki x)).2.2.2.2.2.2) hi_2 (va_up_self _ _ _)) (cwV 0 hts gX3_field_X2_isAtHand rfl rfl rfl (by decide +kernel) ⟨Nat.le_of_ble_eq_true rfl, Nat.le_of_ble_eq_true rfl⟩) (up_preV (q0 := ((dk_fki x) + 8)) (ci := 3) hP hK hD rfl (dk_keyk hi_2 (va_up_self _ _ _))) rfl rfl hl.1 rfl (lv_room (Nat.le_of_ble_eq_true rfl)) dX3_field_192 ⟨Nat.le_of_ble_eq_true rfl, Nat.le_of_ble_eq_true rfl⟩) ?_
            refine lv_if_eq (tgt := 202) hx hb dX3_field_195 (by decide) (fun c_195 => ?_) (fun c_195 => ?_)
            · refine lv_iconst (v := 0) hx hb dX3_field_202 (by decide) ?_
              have e_ : dk_field n rl st K x y u w = ((0 : Int32), (va_up K (dk_fki x) ((K (dk_fki x)).1, (K (dk_fki x)).2.1, (K (dk_fki x)).2.2.1, (K (dk_fki x)).2.2.2.1, 0, 0, (K (dk_fki x)).2.2.2.2.2.2)), (rl + 1), st) := by unfold dk_field; exact (if_pos hk_2).trans ((if_neg c_21).trans ((if_neg c_32).trans ((if_pos c_39).trans ((if_pos c_51).trans ((if_pos c_195).trans rfl)))))
              rw [e_]
              exact W.iret (v := 0) hx hb hr (fun t ht hW => ⟨rfl, by rw [ht]; exact hP, hS.F ht⟩) hS.2.2 dX3_field_203
            · refine lv_iconst (v := 1) hx hb dX3_field_198 (by decide) ?_
              refine lv_goto (tgt := 203) hx hb dX3_field_199 (by decide) ?_
              have e_ : dk_field n rl st K x y u w = ((1 : Int32), (va_up K (dk_fki x) ((K (dk_fki x)).1, (K (dk_fki x)).2.1, (K (dk_fki x)).2.2.1, (K (dk_fki x)).2.2.2.1, 0, 0, (K (dk_fki x)).2.2.2.2.2.2)), (rl + 1), st) := by unfold dk_field; exact (if_pos hk_2).trans ((if_neg c_21).trans ((if_neg c_32).trans ((if_pos c_39).trans ((if_pos c_51).trans ((if_neg c_195).trans rfl)))))
              rw [e_]
              exact W.iret (v := 1) hx hb hr (fun t ht hW => ⟨rfl, by rw [ht]; exact hP, hS.F ht⟩) hS.2.2 dX3_field_203
          · refine lv_iconst (v := 1) hx hb dX3_field_54 (by decide) ?_
            refine lv_goto (tgt := 59) hx hb dX3_field_55 (by decide) ?_
            refine lv_istore (lv' := [(9, .int 1), (8, .ref (L (dk_fki x))), (0, .ref o), (1, .int x), (2, .long y), (4, .long u), (6, .long w)]) hx hb dX3_field_59 hl (by decide) rfl (fun ls hl => ?_)
            refine lv_iload hx hb dX3_field_61 (lv_at hl 0 rfl) ?_
            refine lv_if_ne (tgt := 76) hx hb dX3_field_63 (by decide) (fun c_63 => ?_) (fun c_63 => absurd c_63 (by decide))
            refine lv_iload hx hb dX3_field_76 (lv_at hl 0 rfl) ?_
            refine lv_if_eq (tgt := 93) hx hb dX3_field_78 (by decide) (fun c_78 => absurd c_78 (by decide)) (fun c_78 => ?_)
            refine lv_aload hx hb dX3_field_81 (lv_at hl 1 rfl) ?_
            refine va_get (D := (dC, dI)) (ci := 3) (v := .int ((K (dk_fki x)).2.2.2.1)) (C := RX2) (T := TX2) (N := 7) hx hb hts inn_X3_field_X2 hown hK hP ((dk_fki x) + 8) (dk_keyk hi_2 rfl) rfl 3 (by decide) (hts (.fieldLink RX3 89 "DoorKeys$Key" "learned" "Z") (by decide +kernel)) (fun _ h9 => h9) rfl dX3_field_83 ?_
            refine lv_if_eq (tgt := 93) hx hb dX3_field_86 (by decide) (fun c_86 => ?_) (fun c_86 => ?_)
            · refine lv_iconst (v := 0) hx hb dX3_field_93 (by decide) ?_
              refine lv_istore (lv' := [(10, .int 0), (9, .int 1), (8, .ref (L (dk_fki x))), (0, .ref o), (1, .int x), (2, .long y), (4, .long u), (6, .long w)]) hx hb dX3_field_94 hl (by decide) rfl (fun ls hl => ?_)
              refine lv_aload_n hx hb dX3_field_96 rfl (lv_at hl 3 rfl) ?_
              refine va_get (D := (dC, dI)) (ci := 4) (v := .ref dr) (C := RX3) (T := TX3) (N := 9) hx hb hts inn_X3_field_X3 hown hK hP 0 rfl rfl 5 (by decide) (hts (.fieldLink RX3 32 "DoorKeys" "doors" "LDoorKeys$Doors;") (by decide +kernel)) (fun _ h9 => h9) rfl dX3_field_97 ?_
              refine lv_lload_n hx hb dX3_field_100 rfl (lv_at hl 5 rfl) ?_
              refine lv_lload hx hb dX3_field_101 (lv_at hl 6 rfl) ?_
              refine up_read (W.runV (As := [.long y, .long u]) (rest := []) ⟨hx, hb, hml, hown, hts⟩ (c_X0_nearestTo l dC dI cK cB cI o ks fa oa fb ob dr ds L n sp co en cr rl qs kA oA kB oB tt ss st K tX tY y u) (cwV 2 hts gX3_field_X0_nearestTo rfl rfl rfl (by decide +kernel) ⟨Nat.le_of_ble_eq_true rfl, Nat.le_of_ble_eq_true rfl⟩) (up_preVS (q0 := 6) (ci := 1) hP hK hD (dk_S_at hZ hS) rfl rfl) rfl rfl hl.1 rfl (lv_room (Nat.le_of_ble_eq_true rfl)) dX3_field_103 ⟨Nat.le_of_ble_eq_true rfl, Nat.le_of_ble_eq_true rfl⟩) ?_
              refine lv_istore (lv' := [(11, .int (dk_near y u)), (10, .int 0), (9, .int 1), (8, .ref (L (dk_fki x))), (0, .ref o), (1, .int x), (2, .long y), (4, .long u), (6, .long w)]) hx hb dX3_field_106 hl (by decide) rfl (fun ls hl => ?_)
              refine lv_aload hx hb dX3_field_108 (lv_at hl 3 rfl) ?_
              refine lv_iload hx hb dX3_field_110 (lv_at hl 1 rfl) ?_
              refine lv_if_eq (tgt := 125) hx hb dX3_field_112 (by decide) (fun c_112 => ?_) (fun c_112 => absurd c_112 (by decide))
              refine lv_iconst (v := 0) hx hb dX3_field_125 (by decide) ?_
              refine va_put (D := (dC, dI)) (ci := 3) (v := .int 0) (ty := .boolean) (C := RX2) (T := TX2) (N := 7) hx hb hts inn_X3_field_X2 tyX2 tyX2_ok nmX2 hown hK hP hD hS ((dk_fki x) + 8) (dk_keyk hi_2 rfl) rfl 4 (by decide) (hts (.fieldLink RX3 99 "DoorKeys$Key" "near" "Z") (by decide +kernel)) (fun _ h9 => h9) rfl (by decide +kernel) rfl rfl (Nat.le_of_ble_eq_true rfl) dX3_field_126 (fun H locs hP hD hS => ?_)
              have hP : va_P (dC, dI) vwCl (dkW cK cB cI o ks fa oa fb ob dr ds L n sp co en cr rl qs kA oA kB oB tt ss st (va_up K (dk_fki x) ((K (dk_fki x)).1, (K (dk_fki x)).2.1, (K (dk_fki x)).2.2.1, (K (dk_fki x)).2.2.2.1, 0, (K (dk_fki x)).2.2.2.2.2.1, (K (dk_fki x)).2.2.2.2.2.2))) H := up_cast (dk_put hi_2) hP
              have hD : va_D (up_c (dkW cK cB cI o ks fa oa fb ob dr ds L n sp co en cr rl qs kA oA kB oB tt ss st K)) (dkW cK cB cI o ks fa oa fb ob dr ds L n sp co en cr rl qs kA oA kB oB tt ss st (va_up K (dk_fki x) ((K (dk_fki x)).1, (K (dk_fki x)).2.1, (K (dk_fki x)).2.2.1, (K (dk_fki x)).2.2.2.1, 0, (K (dk_fki x)).2.2.2.2.2.1, (K (dk_fki x)).2.2.2.2.2.2))) := up_castD (dk_put hi_2) hD
              have hP : va_P (dC, dI) vwCl (dkW cK cB cI o ks fa oa fb ob dr ds L n sp co en cr rl qs kA oA kB oB tt ss st (va_up K (dk_fki x) ((K (dk_fki x)).1, (K (dk_fki x)).2.1, (K (dk_fki x)).2.2.1, (K (dk_fki x)).2.2.2.1, 0, (K (dk_fki x)).2.2.2.2.2.1, (K (dk_fki x)).2.2.2.2.2.2))) H := hP
              have hD : va_D (up_c (dkW cK cB cI o ks fa oa fb ob dr ds L n sp co en cr rl qs kA oA kB oB tt ss st K)) (dkW cK cB cI o ks fa oa fb ob dr ds L n sp co en cr rl qs kA oA kB oB tt ss st (va_up K (dk_fki x) ((K (dk_fki x)).1, (K (dk_fki x)).2.1, (K (dk_fki x)).2.2.1, (K (dk_fki x)).2.2.2.1, 0, (K (dk_fki x)).2.2.2.2.2.1, (K (dk_fki x)).2.2.2.2.2.2))) := hD
              refine lv_aload hx hb dX3_field_129 (lv_at hl 3 rfl) ?_
              refine lv_iload hx hb dX3_field_131 (lv_at hl 1 rfl) ?_
              refine lv_if_eq (tgt := 161) hx hb dX3_field_133 (by decide) (fun c_133 => ?_) (fun c_133 => absurd c_133 (by decide))
              refine lv_iconst (v := 0) hx hb dX3_field_161 (by decide) ?_
              refine va_put (D := (dC, dI)) (ci := 3) (v := .int 0) (ty := .boolean) (C := RX2) (T := TX2) (N := 7) hx hb hts inn_X3_field_X2 tyX2 tyX2_ok nmX2 hown hK hP hD hS ((dk_fki x) + 8) (dk_keyk hi_2 (va_up_self _ _ _)) rfl 5 (by decide) (hts (.fieldLink RX3 102 "DoorKeys$Key" "inside" "Z") (by decide +kernel)) (fun _ h9 => h9) rfl (by decide +kernel) rfl rfl (Nat.le_of_ble_eq_true rfl) dX3_field_162 (fun H locs hP hD hS => ?_)
              have hP : va_P (dC, dI) vwCl (dkW cK cB cI o ks fa oa fb ob dr ds L n sp co en cr rl qs kA oA kB oB tt ss st (va_up K (dk_fki x) ((K (dk_fki x)).1, (K (dk_fki x)).2.1, (K (dk_fki x)).2.2.1, (K (dk_fki x)).2.2.2.1, 0, 0, (K (dk_fki x)).2.2.2.2.2.2))) H := up_cast (dk_putU hi_2) hP
              have hD : va_D (up_c (dkW cK cB cI o ks fa oa fb ob dr ds L n sp co en cr rl qs kA oA kB oB tt ss st K)) (dkW cK cB cI o ks fa oa fb ob dr ds L n sp co en cr rl qs kA oA kB oB tt ss st (va_up K (dk_fki x) ((K (dk_fki x)).1, (K (dk_fki x)).2.1, (K (dk_fki x)).2.2.1, (K (dk_fki x)).2.2.2.1, 0, 0, (K (dk_fki x)).2.2.2.2.2.2))) := up_castD (dk_putU hi_2) hD
              have hP : va_P (dC, dI) vwCl (dkW cK cB cI o ks fa oa fb ob dr ds L n sp co en cr rl qs kA oA kB oB tt ss st (va_up K (dk_fki x) ((K (dk_fki x)).1, (K (dk_fki x)).2.1, (K (dk_fki x)).2.2.1, (K (dk_fki x)).2.2.2.1, 0, 0, (K (dk_fki x)).2.2.2.2.2.2))) H := hP
              have hD : va_D (up_c (dkW cK cB cI o ks fa oa fb ob dr ds L n sp co en cr rl qs kA oA kB oB tt ss st K)) (dkW cK cB cI o ks fa oa fb ob dr ds L n sp co en cr rl qs kA oA kB oB tt ss st (va_up K (dk_fki x) ((K (dk_fki x)).1, (K (dk_fki x)).2.1, (K (dk_fki x)).2.2.1, (K (dk_fki x)).2.2.2.1, 0, 0, (K (dk_fki x)).2.2.2.2.2.2))) := hD
              refine lv_aload hx hb dX3_field_165 (lv_at hl 3 rfl) ?_
              refine va_get (D := (dC, dI)) (ci := 3) (v := .int 0) (C := RX2) (T := TX2) (N := 7) hx hb hts inn_X3_field_X2 hown hK hP ((dk_fki x) + 8) (dk_keyk hi_2 (va_up_self _ _ _)) rfl 4 (by decide) (hts (.fieldLink RX3 99 "DoorKeys$Key" "near" "Z") (by decide +kernel)) (fun _ h9 => h9) rfl dX3_field_167 ?_
              refine lv_if_eq (tgt := 190) hx hb dX3_field_170 (by decide) (fun c_170 => ?_) (fun c_170 => absurd c_170 (by decide))
              refine lv_aload hx hb dX3_field_190 (lv_at hl 3 rfl) ?_
              refine up_read (W.runV (As := []) (rest := []) ⟨hx, hb, hml, hown, hts⟩ (c_X2_isAtHand l dC dI cK cB cI o ks fa oa fb ob dr ds L n sp co en cr rl qs kA oA kB oB tt ss st (va_up K (dk_fki x) ((K (dk_fki x)).1, (K (dk_fki x)).2.1, (K (dk_fki x)).2.2.1, (K (dk_fki x)).2.2.2.1, 0, 0, (K (dk_fki x)).2.2.2.2.2.2)) (dk_fki x) ((K (dk_fki x)).1, (K (dk_fki x)).2.1, (K (dk_fki x)).2.2.1, (K (dk_fki x)).2.2.2.1, 0, 0, (K (dk_fki x)).2.2.2.2.2.2) hi_2 (va_up_self _ _ _)) (cwV 0 hts gX3_field_X2_isAtHand rfl rfl rfl (by decide +kernel) ⟨Nat.le_of_ble_eq_true rfl, Nat.le_of_ble_eq_true rfl⟩) (up_preV (q0 := ((dk_fki x) + 8)) (ci := 3) hP hK hD rfl (dk_keyk hi_2 (va_up_self _ _ _))) rfl rfl hl.1 rfl (lv_room (Nat.le_of_ble_eq_true rfl)) dX3_field_192 ⟨Nat.le_of_ble_eq_true rfl, Nat.le_of_ble_eq_true rfl⟩) ?_
              refine lv_if_eq (tgt := 202) hx hb dX3_field_195 (by decide) (fun c_195 => ?_) (fun c_195 => ?_)
              · refine lv_iconst (v := 0) hx hb dX3_field_202 (by decide) ?_
                have e_ : dk_field n rl st K x y u w = ((0 : Int32), (va_up K (dk_fki x) ((K (dk_fki x)).1, (K (dk_fki x)).2.1, (K (dk_fki x)).2.2.1, (K (dk_fki x)).2.2.2.1, 0, 0, (K (dk_fki x)).2.2.2.2.2.2)), rl, st) := by unfold dk_field; exact (if_pos hk_2).trans ((if_neg c_21).trans ((if_neg c_32).trans ((if_pos c_39).trans ((if_neg c_51).trans ((if_pos c_86).trans ((if_pos c_195).trans rfl))))))
                rw [e_]
                exact W.iret (v := 0) hx hb hr (fun t ht hW => ⟨rfl, by rw [ht]; exact hP, hS.F ht⟩) hS.2.2 dX3_field_203
              · refine lv_iconst (v := 1) hx hb dX3_field_198 (by decide) ?_
                refine lv_goto (tgt := 203) hx hb dX3_field_199 (by decide) ?_
                have e_ : dk_field n rl st K x y u w = ((1 : Int32), (va_up K (dk_fki x) ((K (dk_fki x)).1, (K (dk_fki x)).2.1, (K (dk_fki x)).2.2.1, (K (dk_fki x)).2.2.2.1, 0, 0, (K (dk_fki x)).2.2.2.2.2.2)), rl, st) := by unfold dk_field; exact (if_pos hk_2).trans ((if_neg c_21).trans ((if_neg c_32).trans ((if_pos c_39).trans ((if_neg c_51).trans ((if_pos c_86).trans ((if_neg c_195).trans rfl))))))
                rw [e_]
                exact W.iret (v := 1) hx hb hr (fun t ht hW => ⟨rfl, by rw [ht]; exact hP, hS.F ht⟩) hS.2.2 dX3_field_203
            · refine lv_iconst (v := 1) hx hb dX3_field_89 (by decide) ?_
              refine lv_goto (tgt := 94) hx hb dX3_field_90 (by decide) ?_
              refine lv_istore (lv' := [(10, .int 1), (9, .int 1), (8, .ref (L (dk_fki x))), (0, .ref o), (1, .int x), (2, .long y), (4, .long u), (6, .long w)]) hx hb dX3_field_94 hl (by decide) rfl (fun ls hl => ?_)
              refine lv_aload_n hx hb dX3_field_96 rfl (lv_at hl 3 rfl) ?_
              refine va_get (D := (dC, dI)) (ci := 4) (v := .ref dr) (C := RX3) (T := TX3) (N := 9) hx hb hts inn_X3_field_X3 hown hK hP 0 rfl rfl 5 (by decide) (hts (.fieldLink RX3 32 "DoorKeys" "doors" "LDoorKeys$Doors;") (by decide +kernel)) (fun _ h9 => h9) rfl dX3_field_97 ?_
              refine lv_lload_n hx hb dX3_field_100 rfl (lv_at hl 5 rfl) ?_
              refine lv_lload hx hb dX3_field_101 (lv_at hl 6 rfl) ?_
              refine up_read (W.runV (As := [.long y, .long u]) (rest := []) ⟨hx, hb, hml, hown, hts⟩ (c_X0_nearestTo l dC dI cK cB cI o ks fa oa fb ob dr ds L n sp co en cr rl qs kA oA kB oB tt ss st K tX tY y u) (cwV 2 hts gX3_field_X0_nearestTo rfl rfl rfl (by decide +kernel) ⟨Nat.le_of_ble_eq_true rfl, Nat.le_of_ble_eq_true rfl⟩) (up_preVS (q0 := 6) (ci := 1) hP hK hD (dk_S_at hZ hS) rfl rfl) rfl rfl hl.1 rfl (lv_room (Nat.le_of_ble_eq_true rfl)) dX3_field_103 ⟨Nat.le_of_ble_eq_true rfl, Nat.le_of_ble_eq_true rfl⟩) ?_
              refine lv_istore (lv' := [(11, .int (dk_near y u)), (10, .int 1), (9, .int 1), (8, .ref (L (dk_fki x))), (0, .ref o), (1, .int x), (2, .long y), (4, .long u), (6, .long w)]) hx hb dX3_field_106 hl (by decide) rfl (fun ls hl => ?_)
              refine lv_aload hx hb dX3_field_108 (lv_at hl 3 rfl) ?_
              refine lv_iload hx hb dX3_field_110 (lv_at hl 1 rfl) ?_
              refine lv_if_eq (tgt := 125) hx hb dX3_field_112 (by decide) (fun c_112 => absurd c_112 (by decide)) (fun c_112 => ?_)
              refine lv_iload hx hb dX3_field_115 (lv_at hl 0 rfl) ?_
              refine lv_iconst (v := (-1)) hx hb dX3_field_117 (by decide) ?_
              refine lv_icmp_eq (tgt := 125) hx hb dX3_field_118 (by decide) (fun c_118 => ?_) (fun c_118 => ?_)
              · refine lv_iconst (v := 0) hx hb dX3_field_125 (by decide) ?_
                refine va_put (D := (dC, dI)) (ci := 3) (v := .int 0) (ty := .boolean) (C := RX2) (T := TX2) (N := 7) hx hb hts inn_X3_field_X2 tyX2 tyX2_ok nmX2 hown hK hP hD hS ((dk_fki x) + 8) (dk_keyk hi_2 rfl) rfl 4 (by decide) (hts (.fieldLink RX3 99 "DoorKeys$Key" "near" "Z") (by decide +kernel)) (fun _ h9 => h9) rfl (by decide +kernel) rfl rfl (Nat.le_of_ble_eq_true rfl) dX3_field_126 (fun H locs hP hD hS => ?_)
                have hP : va_P (dC, dI) vwCl (dkW cK cB cI o ks fa oa fb ob dr ds L n sp co en cr rl qs kA oA kB oB tt ss st (va_up K (dk_fki x) ((K (dk_fki x)).1, (K (dk_fki x)).2.1, (K (dk_fki x)).2.2.1, (K (dk_fki x)).2.2.2.1, 0, (K (dk_fki x)).2.2.2.2.2.1, (K (dk_fki x)).2.2.2.2.2.2))) H := up_cast (dk_put hi_2) hP
                have hD : va_D (up_c (dkW cK cB cI o ks fa oa fb ob dr ds L n sp co en cr rl qs kA oA kB oB tt ss st K)) (dkW cK cB cI o ks fa oa fb ob dr ds L n sp co en cr rl qs kA oA kB oB tt ss st (va_up K (dk_fki x) ((K (dk_fki x)).1, (K (dk_fki x)).2.1, (K (dk_fki x)).2.2.1, (K (dk_fki x)).2.2.2.1, 0, (K (dk_fki x)).2.2.2.2.2.1, (K (dk_fki x)).2.2.2.2.2.2))) := up_castD (dk_put hi_2) hD
                have hP : va_P (dC, dI) vwCl (dkW cK cB cI o ks fa oa fb ob dr ds L n sp co en cr rl qs kA oA kB oB tt ss st (va_up K (dk_fki x) ((K (dk_fki x)).1, (K (dk_fki x)).2.1, (K (dk_fki x)).2.2.1, (K (dk_fki x)).2.2.2.1, 0, (K (dk_fki x)).2.2.2.2.2.1, (K (dk_fki x)).2.2.2.2.2.2))) H := hP
                have hD : va_D (up_c (dkW cK cB cI o ks fa oa fb ob dr ds L n sp co en cr rl qs kA oA kB oB tt ss st K)) (dkW cK cB cI o ks fa oa fb ob dr ds L n sp co en cr rl qs kA oA kB oB tt ss st (va_up K (dk_fki x) ((K (dk_fki x)).1, (K (dk_fki x)).2.1, (K (dk_fki x)).2.2.1, (K (dk_fki x)).2.2.2.1, 0, (K (dk_fki x)).2.2.2.2.2.1, (K (dk_fki x)).2.2.2.2.2.2))) := hD
                refine lv_aload hx hb dX3_field_129 (lv_at hl 3 rfl) ?_
                refine lv_iload hx hb dX3_field_131 (lv_at hl 1 rfl) ?_
                refine lv_if_eq (tgt := 161) hx hb dX3_field_133 (by decide) (fun c_133 => absurd c_133 (by decide)) (fun c_133 => ?_)
                refine lv_lload_n hx hb dX3_field_136 rfl (lv_at hl 6 rfl) ?_
                refine lv_ldc2 (v := 2000) hx hb hown (hts (.constantLong RX3 111 2000) (by decide +kernel)) dX3_field_137 ?_
                refine up_read (W.runS (As := [.long y, .long 2000]) (rest := [.ref (L (dk_fki x))]) ⟨hx, hb, hml, hown, hts⟩ (c_X3_isWithin l dC dI cK cB cI o ks fa oa fb ob dr ds L n sp co en cr rl qs kA oA kB oB tt ss st (va_up K (dk_fki x) ((K (dk_fki x)).1, (K (dk_fki x)).2.1, (K (dk_fki x)).2.2.1, (K (dk_fki x)).2.2.2.1, 0, (K (dk_fki x)).2.2.2.2.2.1, (K (dk_fki x)).2.2.2.2.2.2)) y 2000) (va_cwS 2 hts gX3_field_X3_isWithin rfl rfl rfl (by decide +kernel) ⟨Nat.le_of_ble_eq_true rfl, Nat.le_of_ble_eq_true rfl⟩) (up_preS hP hK hD) rfl rfl hl.1 rfl (lv_room (Nat.le_of_ble_eq_true rfl)) dX3_field_140 ⟨Nat.le_of_ble_eq_true rfl, Nat.le_of_ble_eq_true rfl⟩) ?_
                refine lv_if_eq (tgt := 161) hx hb dX3_field_143 (by decide) (fun c_143 => ?_) (fun c_143 => ?_)
                · refine lv_iconst (v := 0) hx hb dX3_field_161 (by decide) ?_
                  refine va_put (D := (dC, dI)) (ci := 3) (v := .int 0) (ty := .boolean) (C := RX2) (T := TX2) (N := 7) hx hb hts inn_X3_field_X2 tyX2 tyX2_ok nmX2 hown hK hP hD hS ((dk_fki x) + 8) (dk_keyk hi_2 (va_up_self _ _ _)) rfl 5 (by decide) (hts (.fieldLink RX3 102 "DoorKeys$Key" "inside" "Z") (by decide +kernel)) (fun _ h9 => h9) rfl (by decide +kernel) rfl rfl (Nat.le_of_ble_eq_true rfl) dX3_field_162 (fun H locs hP hD hS => ?_)
                  have hP : va_P (dC, dI) vwCl (dkW cK cB cI o ks fa oa fb ob dr ds L n sp co en cr rl qs kA oA kB oB tt ss st (va_up K (dk_fki x) ((K (dk_fki x)).1, (K (dk_fki x)).2.1, (K (dk_fki x)).2.2.1, (K (dk_fki x)).2.2.2.1, 0, 0, (K (dk_fki x)).2.2.2.2.2.2))) H := up_cast (dk_putU hi_2) hP
                  have hD : va_D (up_c (dkW cK cB cI o ks fa oa fb ob dr ds L n sp co en cr rl qs kA oA kB oB tt ss st K)) (dkW cK cB cI o ks fa oa fb ob dr ds L n sp co en cr rl qs kA oA kB oB tt ss st (va_up K (dk_fki x) ((K (dk_fki x)).1, (K (dk_fki x)).2.1, (K (dk_fki x)).2.2.1, (K (dk_fki x)).2.2.2.1, 0, 0, (K (dk_fki x)).2.2.2.2.2.2))) := up_castD (dk_putU hi_2) hD
                  have hP : va_P (dC, dI) vwCl (dkW cK cB cI o ks fa oa fb ob dr ds L n sp co en cr rl qs kA oA kB oB tt ss st (va_up K (dk_fki x) ((K (dk_fki x)).1, (K (dk_fki x)).2.1, (K (dk_fki x)).2.2.1, (K (dk_fki x)).2.2.2.1, 0, 0, (K (dk_fki x)).2.2.2.2.2.2))) H := hP
                  have hD : va_D (up_c (dkW cK cB cI o ks fa oa fb ob dr ds L n sp co en cr rl qs kA oA kB oB tt ss st K)) (dkW cK cB cI o ks fa oa fb ob dr ds L n sp co en cr rl qs kA oA kB oB tt ss st (va_up K (dk_fki x) ((K (dk_fki x)).1, (K (dk_fki x)).2.1, (K (dk_fki x)).2.2.1, (K (dk_fki x)).2.2.2.1, 0, 0, (K (dk_fki x)).2.2.2.2.2.2))) := hD
                  refine lv_aload hx hb dX3_field_165 (lv_at hl 3 rfl) ?_
                  refine va_get (D := (dC, dI)) (ci := 3) (v := .int 0) (C := RX2) (T := TX2) (N := 7) hx hb hts inn_X3_field_X2 hown hK hP ((dk_fki x) + 8) (dk_keyk hi_2 (va_up_self _ _ _)) rfl 4 (by decide) (hts (.fieldLink RX3 99 "DoorKeys$Key" "near" "Z") (by decide +kernel)) (fun _ h9 => h9) rfl dX3_field_167 ?_
                  refine lv_if_eq (tgt := 190) hx hb dX3_field_170 (by decide) (fun c_170 => ?_) (fun c_170 => absurd c_170 (by decide))
                  refine lv_aload hx hb dX3_field_190 (lv_at hl 3 rfl) ?_
                  refine up_read (W.runV (As := []) (rest := []) ⟨hx, hb, hml, hown, hts⟩ (c_X2_isAtHand l dC dI cK cB cI o ks fa oa fb ob dr ds L n sp co en cr rl qs kA oA kB oB tt ss st (va_up K (dk_fki x) ((K (dk_fki x)).1, (K (dk_fki x)).2.1, (K (dk_fki x)).2.2.1, (K (dk_fki x)).2.2.2.1, 0, 0, (K (dk_fki x)).2.2.2.2.2.2)) (dk_fki x) ((K (dk_fki x)).1, (K (dk_fki x)).2.1, (K (dk_fki x)).2.2.1, (K (dk_fki x)).2.2.2.1, 0, 0, (K (dk_fki x)).2.2.2.2.2.2) hi_2 (va_up_self _ _ _)) (cwV 0 hts gX3_field_X2_isAtHand rfl rfl rfl (by decide +kernel) ⟨Nat.le_of_ble_eq_true rfl, Nat.le_of_ble_eq_true rfl⟩) (up_preV (q0 := ((dk_fki x) + 8)) (ci := 3) hP hK hD rfl (dk_keyk hi_2 (va_up_self _ _ _))) rfl rfl hl.1 rfl (lv_room (Nat.le_of_ble_eq_true rfl)) dX3_field_192 ⟨Nat.le_of_ble_eq_true rfl, Nat.le_of_ble_eq_true rfl⟩) ?_
                  refine lv_if_eq (tgt := 202) hx hb dX3_field_195 (by decide) (fun c_195 => ?_) (fun c_195 => ?_)
                  · refine lv_iconst (v := 0) hx hb dX3_field_202 (by decide) ?_
                    have e_ : dk_field n rl st K x y u w = ((0 : Int32), (va_up K (dk_fki x) ((K (dk_fki x)).1, (K (dk_fki x)).2.1, (K (dk_fki x)).2.2.1, (K (dk_fki x)).2.2.2.1, 0, 0, (K (dk_fki x)).2.2.2.2.2.2)), rl, st) := by unfold dk_field; exact (if_pos hk_2).trans ((if_neg c_21).trans ((if_neg c_32).trans ((if_pos c_39).trans ((if_neg c_51).trans ((if_neg c_86).trans ((if_pos c_118).trans ((if_pos c_143).trans ((if_pos c_195).trans rfl))))))))
                    rw [e_]
                    exact W.iret (v := 0) hx hb hr (fun t ht hW => ⟨rfl, by rw [ht]; exact hP, hS.F ht⟩) hS.2.2 dX3_field_203
                  · refine lv_iconst (v := 1) hx hb dX3_field_198 (by decide) ?_
                    refine lv_goto (tgt := 203) hx hb dX3_field_199 (by decide) ?_
                    have e_ : dk_field n rl st K x y u w = ((1 : Int32), (va_up K (dk_fki x) ((K (dk_fki x)).1, (K (dk_fki x)).2.1, (K (dk_fki x)).2.2.1, (K (dk_fki x)).2.2.2.1, 0, 0, (K (dk_fki x)).2.2.2.2.2.2)), rl, st) := by unfold dk_field; exact (if_pos hk_2).trans ((if_neg c_21).trans ((if_neg c_32).trans ((if_pos c_39).trans ((if_neg c_51).trans ((if_neg c_86).trans ((if_pos c_118).trans ((if_pos c_143).trans ((if_neg c_195).trans rfl))))))))
                    rw [e_]
                    exact W.iret (v := 1) hx hb hr (fun t ht hW => ⟨rfl, by rw [ht]; exact hP, hS.F ht⟩) hS.2.2 dX3_field_203
                · refine lv_lload hx hb dX3_field_146 (lv_at hl 7 rfl) ?_
                  refine lv_ldc2 (v := 800) hx hb hown (hts (.constantLong RX3 120 800) (by decide +kernel)) dX3_field_148 ?_
                  refine up_read (W.runS (As := [.long u, .long 800]) (rest := [.ref (L (dk_fki x))]) ⟨hx, hb, hml, hown, hts⟩ (c_X3_isWithin l dC dI cK cB cI o ks fa oa fb ob dr ds L n sp co en cr rl qs kA oA kB oB tt ss st (va_up K (dk_fki x) ((K (dk_fki x)).1, (K (dk_fki x)).2.1, (K (dk_fki x)).2.2.1, (K (dk_fki x)).2.2.2.1, 0, (K (dk_fki x)).2.2.2.2.2.1, (K (dk_fki x)).2.2.2.2.2.2)) u 800) (va_cwS 2 hts gX3_field_X3_isWithin rfl rfl rfl (by decide +kernel) ⟨Nat.le_of_ble_eq_true rfl, Nat.le_of_ble_eq_true rfl⟩) (up_preS hP hK hD) rfl rfl hl.1 rfl (lv_room (Nat.le_of_ble_eq_true rfl)) dX3_field_151 ⟨Nat.le_of_ble_eq_true rfl, Nat.le_of_ble_eq_true rfl⟩) ?_
                  refine lv_if_eq (tgt := 161) hx hb dX3_field_154 (by decide) (fun c_154 => ?_) (fun c_154 => ?_)
                  · refine lv_iconst (v := 0) hx hb dX3_field_161 (by decide) ?_
                    refine va_put (D := (dC, dI)) (ci := 3) (v := .int 0) (ty := .boolean) (C := RX2) (T := TX2) (N := 7) hx hb hts inn_X3_field_X2 tyX2 tyX2_ok nmX2 hown hK hP hD hS ((dk_fki x) + 8) (dk_keyk hi_2 (va_up_self _ _ _)) rfl 5 (by decide) (hts (.fieldLink RX3 102 "DoorKeys$Key" "inside" "Z") (by decide +kernel)) (fun _ h9 => h9) rfl (by decide +kernel) rfl rfl (Nat.le_of_ble_eq_true rfl) dX3_field_162 (fun H locs hP hD hS => ?_)
                    have hP : va_P (dC, dI) vwCl (dkW cK cB cI o ks fa oa fb ob dr ds L n sp co en cr rl qs kA oA kB oB tt ss st (va_up K (dk_fki x) ((K (dk_fki x)).1, (K (dk_fki x)).2.1, (K (dk_fki x)).2.2.1, (K (dk_fki x)).2.2.2.1, 0, 0, (K (dk_fki x)).2.2.2.2.2.2))) H := up_cast (dk_putU hi_2) hP
                    have hD : va_D (up_c (dkW cK cB cI o ks fa oa fb ob dr ds L n sp co en cr rl qs kA oA kB oB tt ss st K)) (dkW cK cB cI o ks fa oa fb ob dr ds L n sp co en cr rl qs kA oA kB oB tt ss st (va_up K (dk_fki x) ((K (dk_fki x)).1, (K (dk_fki x)).2.1, (K (dk_fki x)).2.2.1, (K (dk_fki x)).2.2.2.1, 0, 0, (K (dk_fki x)).2.2.2.2.2.2))) := up_castD (dk_putU hi_2) hD
                    have hP : va_P (dC, dI) vwCl (dkW cK cB cI o ks fa oa fb ob dr ds L n sp co en cr rl qs kA oA kB oB tt ss st (va_up K (dk_fki x) ((K (dk_fki x)).1, (K (dk_fki x)).2.1, (K (dk_fki x)).2.2.1, (K (dk_fki x)).2.2.2.1, 0, 0, (K (dk_fki x)).2.2.2.2.2.2))) H := hP
                    have hD : va_D (up_c (dkW cK cB cI o ks fa oa fb ob dr ds L n sp co en cr rl qs kA oA kB oB tt ss st K)) (dkW cK cB cI o ks fa oa fb ob dr ds L n sp co en cr rl qs kA oA kB oB tt ss st (va_up K (dk_fki x) ((K (dk_fki x)).1, (K (dk_fki x)).2.1, (K (dk_fki x)).2.2.1, (K (dk_fki x)).2.2.2.1, 0, 0, (K (dk_fki x)).2.2.2.2.2.2))) := hD
                    refine lv_aload hx hb dX3_field_165 (lv_at hl 3 rfl) ?_
                    refine va_get (D := (dC, dI)) (ci := 3) (v := .int 0) (C := RX2) (T := TX2) (N := 7) hx hb hts inn_X3_field_X2 hown hK hP ((dk_fki x) + 8) (dk_keyk hi_2 (va_up_self _ _ _)) rfl 4 (by decide) (hts (.fieldLink RX3 99 "DoorKeys$Key" "near" "Z") (by decide +kernel)) (fun _ h9 => h9) rfl dX3_field_167 ?_
                    refine lv_if_eq (tgt := 190) hx hb dX3_field_170 (by decide) (fun c_170 => ?_) (fun c_170 => absurd c_170 (by decide))
                    refine lv_aload hx hb dX3_field_190 (lv_at hl 3 rfl) ?_
                    refine up_read (W.runV (As := []) (rest := []) ⟨hx, hb, hml, hown, hts⟩ (c_X2_isAtHand l dC dI cK cB cI o ks fa oa fb ob dr ds L n sp co en cr rl qs kA oA kB oB tt ss st (va_up K (dk_fki x) ((K (dk_fki x)).1, (K (dk_fki x)).2.1, (K (dk_fki x)).2.2.1, (K (dk_fki x)).2.2.2.1, 0, 0, (K (dk_fki x)).2.2.2.2.2.2)) (dk_fki x) ((K (dk_fki x)).1, (K (dk_fki x)).2.1, (K (dk_fki x)).2.2.1, (K (dk_fki x)).2.2.2.1, 0, 0, (K (dk_fki x)).2.2.2.2.2.2) hi_2 (va_up_self _ _ _)) (cwV 0 hts gX3_field_X2_isAtHand rfl rfl rfl (by decide +kernel) ⟨Nat.le_of_ble_eq_true rfl, Nat.le_of_ble_eq_true rfl⟩) (up_preV (q0 := ((dk_fki x) + 8)) (ci := 3) hP hK hD rfl (dk_keyk hi_2 (va_up_self _ _ _))) rfl rfl hl.1 rfl (lv_room (Nat.le_of_ble_eq_true rfl)) dX3_field_192 ⟨Nat.le_of_ble_eq_true rfl, Nat.le_of_ble_eq_true rfl⟩) ?_
                    refine lv_if_eq (tgt := 202) hx hb dX3_field_195 (by decide) (fun c_195 => ?_) (fun c_195 => ?_)
                    · refine lv_iconst (v := 0) hx hb dX3_field_202 (by decide) ?_
                      have e_ : dk_field n rl st K x y u w = ((0 : Int32), (va_up K (dk_fki x) ((K (dk_fki x)).1, (K (dk_fki x)).2.1, (K (dk_fki x)).2.2.1, (K (dk_fki x)).2.2.2.1, 0, 0, (K (dk_fki x)).2.2.2.2.2.2)), rl, st) := by unfold dk_field; exact (if_pos hk_2).trans ((if_neg c_21).trans ((if_neg c_32).trans ((if_pos c_39).trans ((if_neg c_51).trans ((if_neg c_86).trans ((if_pos c_118).trans ((if_neg c_143).trans ((if_pos c_154).trans ((if_pos c_195).trans rfl)))))))))
                      rw [e_]
                      exact W.iret (v := 0) hx hb hr (fun t ht hW => ⟨rfl, by rw [ht]; exact hP, hS.F ht⟩) hS.2.2 dX3_field_203
                    · refine lv_iconst (v := 1) hx hb dX3_field_198 (by decide) ?_
                      refine lv_goto (tgt := 203) hx hb dX3_field_199 (by decide) ?_
                      have e_ : dk_field n rl st K x y u w = ((1 : Int32), (va_up K (dk_fki x) ((K (dk_fki x)).1, (K (dk_fki x)).2.1, (K (dk_fki x)).2.2.1, (K (dk_fki x)).2.2.2.1, 0, 0, (K (dk_fki x)).2.2.2.2.2.2)), rl, st) := by unfold dk_field; exact (if_pos hk_2).trans ((if_neg c_21).trans ((if_neg c_32).trans ((if_pos c_39).trans ((if_neg c_51).trans ((if_neg c_86).trans ((if_pos c_118).trans ((if_neg c_143).trans ((if_pos c_154).trans ((if_neg c_195).trans rfl)))))))))
                      rw [e_]
                      exact W.iret (v := 1) hx hb hr (fun t ht hW => ⟨rfl, by rw [ht]; exact hP, hS.F ht⟩) hS.2.2 dX3_field_203
                  · refine lv_iconst (v := 1) hx hb dX3_field_157 (by decide) ?_
                    refine lv_goto (tgt := 162) hx hb dX3_field_158 (by decide) ?_
                    refine va_put (D := (dC, dI)) (ci := 3) (v := .int 1) (ty := .boolean) (C := RX2) (T := TX2) (N := 7) hx hb hts inn_X3_field_X2 tyX2 tyX2_ok nmX2 hown hK hP hD hS ((dk_fki x) + 8) (dk_keyk hi_2 (va_up_self _ _ _)) rfl 5 (by decide) (hts (.fieldLink RX3 102 "DoorKeys$Key" "inside" "Z") (by decide +kernel)) (fun _ h9 => h9) rfl (by decide +kernel) rfl rfl (Nat.le_of_ble_eq_true rfl) dX3_field_162 (fun H locs hP hD hS => ?_)
                    have hP : va_P (dC, dI) vwCl (dkW cK cB cI o ks fa oa fb ob dr ds L n sp co en cr rl qs kA oA kB oB tt ss st (va_up K (dk_fki x) ((K (dk_fki x)).1, (K (dk_fki x)).2.1, (K (dk_fki x)).2.2.1, (K (dk_fki x)).2.2.2.1, 0, 1, (K (dk_fki x)).2.2.2.2.2.2))) H := up_cast (dk_putU hi_2) hP
                    have hD : va_D (up_c (dkW cK cB cI o ks fa oa fb ob dr ds L n sp co en cr rl qs kA oA kB oB tt ss st K)) (dkW cK cB cI o ks fa oa fb ob dr ds L n sp co en cr rl qs kA oA kB oB tt ss st (va_up K (dk_fki x) ((K (dk_fki x)).1, (K (dk_fki x)).2.1, (K (dk_fki x)).2.2.1, (K (dk_fki x)).2.2.2.1, 0, 1, (K (dk_fki x)).2.2.2.2.2.2))) := up_castD (dk_putU hi_2) hD
                    have hP : va_P (dC, dI) vwCl (dkW cK cB cI o ks fa oa fb ob dr ds L n sp co en cr rl qs kA oA kB oB tt ss st (va_up K (dk_fki x) ((K (dk_fki x)).1, (K (dk_fki x)).2.1, (K (dk_fki x)).2.2.1, (K (dk_fki x)).2.2.2.1, 0, 1, (K (dk_fki x)).2.2.2.2.2.2))) H := hP
                    have hD : va_D (up_c (dkW cK cB cI o ks fa oa fb ob dr ds L n sp co en cr rl qs kA oA kB oB tt ss st K)) (dkW cK cB cI o ks fa oa fb ob dr ds L n sp co en cr rl qs kA oA kB oB tt ss st (va_up K (dk_fki x) ((K (dk_fki x)).1, (K (dk_fki x)).2.1, (K (dk_fki x)).2.2.1, (K (dk_fki x)).2.2.2.1, 0, 1, (K (dk_fki x)).2.2.2.2.2.2))) := hD
                    refine lv_aload hx hb dX3_field_165 (lv_at hl 3 rfl) ?_
                    refine va_get (D := (dC, dI)) (ci := 3) (v := .int 0) (C := RX2) (T := TX2) (N := 7) hx hb hts inn_X3_field_X2 hown hK hP ((dk_fki x) + 8) (dk_keyk hi_2 (va_up_self _ _ _)) rfl 4 (by decide) (hts (.fieldLink RX3 99 "DoorKeys$Key" "near" "Z") (by decide +kernel)) (fun _ h9 => h9) rfl dX3_field_167 ?_
                    refine lv_if_eq (tgt := 190) hx hb dX3_field_170 (by decide) (fun c_170 => ?_) (fun c_170 => absurd c_170 (by decide))
                    refine lv_aload hx hb dX3_field_190 (lv_at hl 3 rfl) ?_
                    refine up_read (W.runV (As := []) (rest := []) ⟨hx, hb, hml, hown, hts⟩ (c_X2_isAtHand l dC dI cK cB cI o ks fa oa fb ob dr ds L n sp co en cr rl qs kA oA kB oB tt ss st (va_up K (dk_fki x) ((K (dk_fki x)).1, (K (dk_fki x)).2.1, (K (dk_fki x)).2.2.1, (K (dk_fki x)).2.2.2.1, 0, 1, (K (dk_fki x)).2.2.2.2.2.2)) (dk_fki x) ((K (dk_fki x)).1, (K (dk_fki x)).2.1, (K (dk_fki x)).2.2.1, (K (dk_fki x)).2.2.2.1, 0, 1, (K (dk_fki x)).2.2.2.2.2.2) hi_2 (va_up_self _ _ _)) (cwV 0 hts gX3_field_X2_isAtHand rfl rfl rfl (by decide +kernel) ⟨Nat.le_of_ble_eq_true rfl, Nat.le_of_ble_eq_true rfl⟩) (up_preV (q0 := ((dk_fki x) + 8)) (ci := 3) hP hK hD rfl (dk_keyk hi_2 (va_up_self _ _ _))) rfl rfl hl.1 rfl (lv_room (Nat.le_of_ble_eq_true rfl)) dX3_field_192 ⟨Nat.le_of_ble_eq_true rfl, Nat.le_of_ble_eq_true rfl⟩) ?_
                    refine lv_if_eq (tgt := 202) hx hb dX3_field_195 (by decide) (fun c_195 => ?_) (fun c_195 => ?_)
                    · refine lv_iconst (v := 0) hx hb dX3_field_202 (by decide) ?_
                      have e_ : dk_field n rl st K x y u w = ((0 : Int32), (va_up K (dk_fki x) ((K (dk_fki x)).1, (K (dk_fki x)).2.1, (K (dk_fki x)).2.2.1, (K (dk_fki x)).2.2.2.1, 0, 1, (K (dk_fki x)).2.2.2.2.2.2)), rl, st) := by unfold dk_field; exact (if_pos hk_2).trans ((if_neg c_21).trans ((if_neg c_32).trans ((if_pos c_39).trans ((if_neg c_51).trans ((if_neg c_86).trans ((if_pos c_118).trans ((if_neg c_143).trans ((if_neg c_154).trans ((if_pos c_195).trans rfl)))))))))
                      rw [e_]
                      exact W.iret (v := 0) hx hb hr (fun t ht hW => ⟨rfl, by rw [ht]; exact hP, hS.F ht⟩) hS.2.2 dX3_field_203
                    · refine lv_iconst (v := 1) hx hb dX3_field_198 (by decide) ?_
                      refine lv_goto (tgt := 203) hx hb dX3_field_199 (by decide) ?_
                      have e_ : dk_field n rl st K x y u w = ((1 : Int32), (va_up K (dk_fki x) ((K (dk_fki x)).1, (K (dk_fki x)).2.1, (K (dk_fki x)).2.2.1, (K (dk_fki x)).2.2.2.1, 0, 1, (K (dk_fki x)).2.2.2.2.2.2)), rl, st) := by unfold dk_field; exact (if_pos hk_2).trans ((if_neg c_21).trans ((if_neg c_32).trans ((if_pos c_39).trans ((if_neg c_51).trans ((if_neg c_86).trans ((if_pos c_118).trans ((if_neg c_143).trans ((if_neg c_154).trans ((if_neg c_195).trans rfl)))))))))
                      rw [e_]
                      exact W.iret (v := 1) hx hb hr (fun t ht hW => ⟨rfl, by rw [ht]; exact hP, hS.F ht⟩) hS.2.2 dX3_field_203
              · refine lv_iconst (v := 1) hx hb dX3_field_121 (by decide) ?_
                refine lv_goto (tgt := 126) hx hb dX3_field_122 (by decide) ?_
                refine va_put (D := (dC, dI)) (ci := 3) (v := .int 1) (ty := .boolean) (C := RX2) (T := TX2) (N := 7) hx hb hts inn_X3_field_X2 tyX2 tyX2_ok nmX2 hown hK hP hD hS ((dk_fki x) + 8) (dk_keyk hi_2 rfl) rfl 4 (by decide) (hts (.fieldLink RX3 99 "DoorKeys$Key" "near" "Z") (by decide +kernel)) (fun _ h9 => h9) rfl (by decide +kernel) rfl rfl (Nat.le_of_ble_eq_true rfl) dX3_field_126 (fun H locs hP hD hS => ?_)
                have hP : va_P (dC, dI) vwCl (dkW cK cB cI o ks fa oa fb ob dr ds L n sp co en cr rl qs kA oA kB oB tt ss st (va_up K (dk_fki x) ((K (dk_fki x)).1, (K (dk_fki x)).2.1, (K (dk_fki x)).2.2.1, (K (dk_fki x)).2.2.2.1, 1, (K (dk_fki x)).2.2.2.2.2.1, (K (dk_fki x)).2.2.2.2.2.2))) H := up_cast (dk_put hi_2) hP
                have hD : va_D (up_c (dkW cK cB cI o ks fa oa fb ob dr ds L n sp co en cr rl qs kA oA kB oB tt ss st K)) (dkW cK cB cI o ks fa oa fb ob dr ds L n sp co en cr rl qs kA oA kB oB tt ss st (va_up K (dk_fki x) ((K (dk_fki x)).1, (K (dk_fki x)).2.1, (K (dk_fki x)).2.2.1, (K (dk_fki x)).2.2.2.1, 1, (K (dk_fki x)).2.2.2.2.2.1, (K (dk_fki x)).2.2.2.2.2.2))) := up_castD (dk_put hi_2) hD
                have hP : va_P (dC, dI) vwCl (dkW cK cB cI o ks fa oa fb ob dr ds L n sp co en cr rl qs kA oA kB oB tt ss st (va_up K (dk_fki x) ((K (dk_fki x)).1, (K (dk_fki x)).2.1, (K (dk_fki x)).2.2.1, (K (dk_fki x)).2.2.2.1, 1, (K (dk_fki x)).2.2.2.2.2.1, (K (dk_fki x)).2.2.2.2.2.2))) H := hP
                have hD : va_D (up_c (dkW cK cB cI o ks fa oa fb ob dr ds L n sp co en cr rl qs kA oA kB oB tt ss st K)) (dkW cK cB cI o ks fa oa fb ob dr ds L n sp co en cr rl qs kA oA kB oB tt ss st (va_up K (dk_fki x) ((K (dk_fki x)).1, (K (dk_fki x)).2.1, (K (dk_fki x)).2.2.1, (K (dk_fki x)).2.2.2.1, 1, (K (dk_fki x)).2.2.2.2.2.1, (K (dk_fki x)).2.2.2.2.2.2))) := hD
                refine lv_aload hx hb dX3_field_129 (lv_at hl 3 rfl) ?_
                refine lv_iload hx hb dX3_field_131 (lv_at hl 1 rfl) ?_
                refine lv_if_eq (tgt := 161) hx hb dX3_field_133 (by decide) (fun c_133 => absurd c_133 (by decide)) (fun c_133 => ?_)
                refine lv_lload_n hx hb dX3_field_136 rfl (lv_at hl 6 rfl) ?_
                refine lv_ldc2 (v := 2000) hx hb hown (hts (.constantLong RX3 111 2000) (by decide +kernel)) dX3_field_137 ?_
                refine up_read (W.runS (As := [.long y, .long 2000]) (rest := [.ref (L (dk_fki x))]) ⟨hx, hb, hml, hown, hts⟩ (c_X3_isWithin l dC dI cK cB cI o ks fa oa fb ob dr ds L n sp co en cr rl qs kA oA kB oB tt ss st (va_up K (dk_fki x) ((K (dk_fki x)).1, (K (dk_fki x)).2.1, (K (dk_fki x)).2.2.1, (K (dk_fki x)).2.2.2.1, 1, (K (dk_fki x)).2.2.2.2.2.1, (K (dk_fki x)).2.2.2.2.2.2)) y 2000) (va_cwS 2 hts gX3_field_X3_isWithin rfl rfl rfl (by decide +kernel) ⟨Nat.le_of_ble_eq_true rfl, Nat.le_of_ble_eq_true rfl⟩) (up_preS hP hK hD) rfl rfl hl.1 rfl (lv_room (Nat.le_of_ble_eq_true rfl)) dX3_field_140 ⟨Nat.le_of_ble_eq_true rfl, Nat.le_of_ble_eq_true rfl⟩) ?_
                refine lv_if_eq (tgt := 161) hx hb dX3_field_143 (by decide) (fun c_143 => ?_) (fun c_143 => ?_)
                · refine lv_iconst (v := 0) hx hb dX3_field_161 (by decide) ?_
                  refine va_put (D := (dC, dI)) (ci := 3) (v := .int 0) (ty := .boolean) (C := RX2) (T := TX2) (N := 7) hx hb hts inn_X3_field_X2 tyX2 tyX2_ok nmX2 hown hK hP hD hS ((dk_fki x) + 8) (dk_keyk hi_2 (va_up_self _ _ _)) rfl 5 (by decide) (hts (.fieldLink RX3 102 "DoorKeys$Key" "inside" "Z") (by decide +kernel)) (fun _ h9 => h9) rfl (by decide +kernel) rfl rfl (Nat.le_of_ble_eq_true rfl) dX3_field_162 (fun H locs hP hD hS => ?_)
                  have hP : va_P (dC, dI) vwCl (dkW cK cB cI o ks fa oa fb ob dr ds L n sp co en cr rl qs kA oA kB oB tt ss st (va_up K (dk_fki x) ((K (dk_fki x)).1, (K (dk_fki x)).2.1, (K (dk_fki x)).2.2.1, (K (dk_fki x)).2.2.2.1, 1, 0, (K (dk_fki x)).2.2.2.2.2.2))) H := up_cast (dk_putU hi_2) hP
                  have hD : va_D (up_c (dkW cK cB cI o ks fa oa fb ob dr ds L n sp co en cr rl qs kA oA kB oB tt ss st K)) (dkW cK cB cI o ks fa oa fb ob dr ds L n sp co en cr rl qs kA oA kB oB tt ss st (va_up K (dk_fki x) ((K (dk_fki x)).1, (K (dk_fki x)).2.1, (K (dk_fki x)).2.2.1, (K (dk_fki x)).2.2.2.1, 1, 0, (K (dk_fki x)).2.2.2.2.2.2))) := up_castD (dk_putU hi_2) hD
                  have hP : va_P (dC, dI) vwCl (dkW cK cB cI o ks fa oa fb ob dr ds L n sp co en cr rl qs kA oA kB oB tt ss st (va_up K (dk_fki x) ((K (dk_fki x)).1, (K (dk_fki x)).2.1, (K (dk_fki x)).2.2.1, (K (dk_fki x)).2.2.2.1, 1, 0, (K (dk_fki x)).2.2.2.2.2.2))) H := hP
                  have hD : va_D (up_c (dkW cK cB cI o ks fa oa fb ob dr ds L n sp co en cr rl qs kA oA kB oB tt ss st K)) (dkW cK cB cI o ks fa oa fb ob dr ds L n sp co en cr rl qs kA oA kB oB tt ss st (va_up K (dk_fki x) ((K (dk_fki x)).1, (K (dk_fki x)).2.1, (K (dk_fki x)).2.2.1, (K (dk_fki x)).2.2.2.1, 1, 0, (K (dk_fki x)).2.2.2.2.2.2))) := hD
                  refine lv_aload hx hb dX3_field_165 (lv_at hl 3 rfl) ?_
                  refine va_get (D := (dC, dI)) (ci := 3) (v := .int 1) (C := RX2) (T := TX2) (N := 7) hx hb hts inn_X3_field_X2 hown hK hP ((dk_fki x) + 8) (dk_keyk hi_2 (va_up_self _ _ _)) rfl 4 (by decide) (hts (.fieldLink RX3 99 "DoorKeys$Key" "near" "Z") (by decide +kernel)) (fun _ h9 => h9) rfl dX3_field_167 ?_
                  refine lv_if_eq (tgt := 190) hx hb dX3_field_170 (by decide) (fun c_170 => absurd c_170 (by decide)) (fun c_170 => ?_)
                  refine lv_aload hx hb dX3_field_173 (lv_at hl 3 rfl) ?_
                  refine va_get (D := (dC, dI)) (ci := 3) (v := .int 0) (C := RX2) (T := TX2) (N := 7) hx hb hts inn_X3_field_X2 hown hK hP ((dk_fki x) + 8) (dk_keyk hi_2 (va_up_self _ _ _)) rfl 5 (by decide) (hts (.fieldLink RX3 102 "DoorKeys$Key" "inside" "Z") (by decide +kernel)) (fun _ h9 => h9) rfl dX3_field_175 ?_
                  refine lv_if_ne (tgt := 190) hx hb dX3_field_178 (by decide) (fun c_178 => absurd c_178 (by decide)) (fun c_178 => ?_)
                  refine lv_aload_n hx hb dX3_field_181 rfl (lv_at hl 4 rfl) ?_
                  refine va_get (D := (dC, dI)) (ci := 4) (v := .ref dr) (C := RX3) (T := TX3) (N := 9) hx hb hts inn_X3_field_X3 hown hK hP 0 rfl rfl 5 (by decide) (hts (.fieldLink RX3 32 "DoorKeys" "doors" "LDoorKeys$Doors;") (by decide +kernel)) (fun _ h9 => h9) rfl dX3_field_182 ?_
                  refine lv_iload hx hb dX3_field_185 (lv_at hl 0 rfl) ?_
                  refine up_call (W.runV (As := [.int (dk_near y u)]) (rest := []) ⟨hx, hb, hml, hown, hts⟩ (c_X0_openOne l dC dI cK cB cI o ks fa oa fb ob dr ds L n sp co en cr rl qs kA oA kB oB tt ss st (va_up K (dk_fki x) ((K (dk_fki x)).1, (K (dk_fki x)).2.1, (K (dk_fki x)).2.2.1, (K (dk_fki x)).2.2.2.1, 1, 0, (K (dk_fki x)).2.2.2.2.2.2)) (dk_near y u)) (cwV 1 hts gX3_field_X0_openOne rfl rfl rfl (by decide +kernel) ⟨Nat.le_of_ble_eq_true rfl, Nat.le_of_ble_eq_true rfl⟩) (up_preV (q0 := 6) (ci := 1) hP hK hD rfl rfl) rfl rfl hl.1 rfl (lv_room (Nat.le_of_ble_eq_true rfl)) dX3_field_187 ⟨Nat.le_of_ble_eq_true rfl, Nat.le_of_ble_eq_true rfl⟩) hD hS ((dk_fst ..).trans (dk_fst ..).symm) (fun H locs hP hD hS _ _ => ?_)
                  have hP : va_P (dC, dI) vwCl (dkW cK cB cI o ks fa oa fb ob dr ds L n sp co en cr rl qs kA oA kB oB tt ss (dk_openOne st (dk_near y u)) (va_up K (dk_fki x) ((K (dk_fki x)).1, (K (dk_fki x)).2.1, (K (dk_fki x)).2.2.1, (K (dk_fki x)).2.2.2.1, 1, 0, (K (dk_fki x)).2.2.2.2.2.2))) H := hP
                  have hD : va_D (up_c (dkW cK cB cI o ks fa oa fb ob dr ds L n sp co en cr rl qs kA oA kB oB tt ss st K)) (dkW cK cB cI o ks fa oa fb ob dr ds L n sp co en cr rl qs kA oA kB oB tt ss (dk_openOne st (dk_near y u)) (va_up K (dk_fki x) ((K (dk_fki x)).1, (K (dk_fki x)).2.1, (K (dk_fki x)).2.2.1, (K (dk_fki x)).2.2.2.1, 1, 0, (K (dk_fki x)).2.2.2.2.2.2))) := hD
                  refine lv_aload hx hb dX3_field_190 (lv_at hl 3 rfl) ?_
                  refine up_read (W.runV (As := []) (rest := []) ⟨hx, hb, hml, hown, hts⟩ (c_X2_isAtHand l dC dI cK cB cI o ks fa oa fb ob dr ds L n sp co en cr rl qs kA oA kB oB tt ss (dk_openOne st (dk_near y u)) (va_up K (dk_fki x) ((K (dk_fki x)).1, (K (dk_fki x)).2.1, (K (dk_fki x)).2.2.1, (K (dk_fki x)).2.2.2.1, 1, 0, (K (dk_fki x)).2.2.2.2.2.2)) (dk_fki x) ((K (dk_fki x)).1, (K (dk_fki x)).2.1, (K (dk_fki x)).2.2.1, (K (dk_fki x)).2.2.2.1, 1, 0, (K (dk_fki x)).2.2.2.2.2.2) hi_2 (va_up_self _ _ _)) (cwV 0 hts gX3_field_X2_isAtHand rfl rfl rfl (by decide +kernel) ⟨Nat.le_of_ble_eq_true rfl, Nat.le_of_ble_eq_true rfl⟩) (up_preV (q0 := ((dk_fki x) + 8)) (ci := 3) hP hK hD rfl (dk_keyk hi_2 (va_up_self _ _ _))) rfl rfl hl.1 rfl (lv_room (Nat.le_of_ble_eq_true rfl)) dX3_field_192 ⟨Nat.le_of_ble_eq_true rfl, Nat.le_of_ble_eq_true rfl⟩) ?_
                  refine lv_if_eq (tgt := 202) hx hb dX3_field_195 (by decide) (fun c_195 => ?_) (fun c_195 => ?_)
                  · refine lv_iconst (v := 0) hx hb dX3_field_202 (by decide) ?_
                    have e_ : dk_field n rl st K x y u w = ((0 : Int32), (va_up K (dk_fki x) ((K (dk_fki x)).1, (K (dk_fki x)).2.1, (K (dk_fki x)).2.2.1, (K (dk_fki x)).2.2.2.1, 1, 0, (K (dk_fki x)).2.2.2.2.2.2)), rl, (dk_openOne st (dk_near y u))) := by unfold dk_field; exact (if_pos hk_2).trans ((if_neg c_21).trans ((if_neg c_32).trans ((if_pos c_39).trans ((if_neg c_51).trans ((if_neg c_86).trans ((if_neg c_118).trans ((if_pos c_143).trans ((if_pos c_195).trans rfl))))))))
                    rw [e_]
                    exact W.iret (v := 0) hx hb hr (fun t ht hW => ⟨rfl, by rw [ht]; exact hP, hS.F ht⟩) hS.2.2 dX3_field_203
                  · refine lv_iconst (v := 1) hx hb dX3_field_198 (by decide) ?_
                    refine lv_goto (tgt := 203) hx hb dX3_field_199 (by decide) ?_
                    have e_ : dk_field n rl st K x y u w = ((1 : Int32), (va_up K (dk_fki x) ((K (dk_fki x)).1, (K (dk_fki x)).2.1, (K (dk_fki x)).2.2.1, (K (dk_fki x)).2.2.2.1, 1, 0, (K (dk_fki x)).2.2.2.2.2.2)), rl, (dk_openOne st (dk_near y u))) := by unfold dk_field; exact (if_pos hk_2).trans ((if_neg c_21).trans ((if_neg c_32).trans ((if_pos c_39).trans ((if_neg c_51).trans ((if_neg c_86).trans ((if_neg c_118).trans ((if_pos c_143).trans ((if_neg c_195).trans rfl))))))))
                    rw [e_]
                    exact W.iret (v := 1) hx hb hr (fun t ht hW => ⟨rfl, by rw [ht]; exact hP, hS.F ht⟩) hS.2.2 dX3_field_203
                · refine lv_lload hx hb dX3_field_146 (lv_at hl 7 rfl) ?_
                  refine lv_ldc2 (v := 800) hx hb hown (hts (.constantLong RX3 120 800) (by decide +kernel)) dX3_field_148 ?_
                  refine up_read (W.runS (As := [.long u, .long 800]) (rest := [.ref (L (dk_fki x))]) ⟨hx, hb, hml, hown, hts⟩ (c_X3_isWithin l dC dI cK cB cI o ks fa oa fb ob dr ds L n sp co en cr rl qs kA oA kB oB tt ss st (va_up K (dk_fki x) ((K (dk_fki x)).1, (K (dk_fki x)).2.1, (K (dk_fki x)).2.2.1, (K (dk_fki x)).2.2.2.1, 1, (K (dk_fki x)).2.2.2.2.2.1, (K (dk_fki x)).2.2.2.2.2.2)) u 800) (va_cwS 2 hts gX3_field_X3_isWithin rfl rfl rfl (by decide +kernel) ⟨Nat.le_of_ble_eq_true rfl, Nat.le_of_ble_eq_true rfl⟩) (up_preS hP hK hD) rfl rfl hl.1 rfl (lv_room (Nat.le_of_ble_eq_true rfl)) dX3_field_151 ⟨Nat.le_of_ble_eq_true rfl, Nat.le_of_ble_eq_true rfl⟩) ?_
                  refine lv_if_eq (tgt := 161) hx hb dX3_field_154 (by decide) (fun c_154 => ?_) (fun c_154 => ?_)
                  · refine lv_iconst (v := 0) hx hb dX3_field_161 (by decide) ?_
                    refine va_put (D := (dC, dI)) (ci := 3) (v := .int 0) (ty := .boolean) (C := RX2) (T := TX2) (N := 7) hx hb hts inn_X3_field_X2 tyX2 tyX2_ok nmX2 hown hK hP hD hS ((dk_fki x) + 8) (dk_keyk hi_2 (va_up_self _ _ _)) rfl 5 (by decide) (hts (.fieldLink RX3 102 "DoorKeys$Key" "inside" "Z") (by decide +kernel)) (fun _ h9 => h9) rfl (by decide +kernel) rfl rfl (Nat.le_of_ble_eq_true rfl) dX3_field_162 (fun H locs hP hD hS => ?_)
                    have hP : va_P (dC, dI) vwCl (dkW cK cB cI o ks fa oa fb ob dr ds L n sp co en cr rl qs kA oA kB oB tt ss st (va_up K (dk_fki x) ((K (dk_fki x)).1, (K (dk_fki x)).2.1, (K (dk_fki x)).2.2.1, (K (dk_fki x)).2.2.2.1, 1, 0, (K (dk_fki x)).2.2.2.2.2.2))) H := up_cast (dk_putU hi_2) hP
                    have hD : va_D (up_c (dkW cK cB cI o ks fa oa fb ob dr ds L n sp co en cr rl qs kA oA kB oB tt ss st K)) (dkW cK cB cI o ks fa oa fb ob dr ds L n sp co en cr rl qs kA oA kB oB tt ss st (va_up K (dk_fki x) ((K (dk_fki x)).1, (K (dk_fki x)).2.1, (K (dk_fki x)).2.2.1, (K (dk_fki x)).2.2.2.1, 1, 0, (K (dk_fki x)).2.2.2.2.2.2))) := up_castD (dk_putU hi_2) hD
                    have hP : va_P (dC, dI) vwCl (dkW cK cB cI o ks fa oa fb ob dr ds L n sp co en cr rl qs kA oA kB oB tt ss st (va_up K (dk_fki x) ((K (dk_fki x)).1, (K (dk_fki x)).2.1, (K (dk_fki x)).2.2.1, (K (dk_fki x)).2.2.2.1, 1, 0, (K (dk_fki x)).2.2.2.2.2.2))) H := hP
                    have hD : va_D (up_c (dkW cK cB cI o ks fa oa fb ob dr ds L n sp co en cr rl qs kA oA kB oB tt ss st K)) (dkW cK cB cI o ks fa oa fb ob dr ds L n sp co en cr rl qs kA oA kB oB tt ss st (va_up K (dk_fki x) ((K (dk_fki x)).1, (K (dk_fki x)).2.1, (K (dk_fki x)).2.2.1, (K (dk_fki x)).2.2.2.1, 1, 0, (K (dk_fki x)).2.2.2.2.2.2))) := hD
                    refine lv_aload hx hb dX3_field_165 (lv_at hl 3 rfl) ?_
                    refine va_get (D := (dC, dI)) (ci := 3) (v := .int 1) (C := RX2) (T := TX2) (N := 7) hx hb hts inn_X3_field_X2 hown hK hP ((dk_fki x) + 8) (dk_keyk hi_2 (va_up_self _ _ _)) rfl 4 (by decide) (hts (.fieldLink RX3 99 "DoorKeys$Key" "near" "Z") (by decide +kernel)) (fun _ h9 => h9) rfl dX3_field_167 ?_
                    refine lv_if_eq (tgt := 190) hx hb dX3_field_170 (by decide) (fun c_170 => absurd c_170 (by decide)) (fun c_170 => ?_)
                    refine lv_aload hx hb dX3_field_173 (lv_at hl 3 rfl) ?_
                    refine va_get (D := (dC, dI)) (ci := 3) (v := .int 0) (C := RX2) (T := TX2) (N := 7) hx hb hts inn_X3_field_X2 hown hK hP ((dk_fki x) + 8) (dk_keyk hi_2 (va_up_self _ _ _)) rfl 5 (by decide) (hts (.fieldLink RX3 102 "DoorKeys$Key" "inside" "Z") (by decide +kernel)) (fun _ h9 => h9) rfl dX3_field_175 ?_
                    refine lv_if_ne (tgt := 190) hx hb dX3_field_178 (by decide) (fun c_178 => absurd c_178 (by decide)) (fun c_178 => ?_)
                    refine lv_aload_n hx hb dX3_field_181 rfl (lv_at hl 4 rfl) ?_
                    refine va_get (D := (dC, dI)) (ci := 4) (v := .ref dr) (C := RX3) (T := TX3) (N := 9) hx hb hts inn_X3_field_X3 hown hK hP 0 rfl rfl 5 (by decide) (hts (.fieldLink RX3 32 "DoorKeys" "doors" "LDoorKeys$Doors;") (by decide +kernel)) (fun _ h9 => h9) rfl dX3_field_182 ?_
                    refine lv_iload hx hb dX3_field_185 (lv_at hl 0 rfl) ?_
                    refine up_call (W.runV (As := [.int (dk_near y u)]) (rest := []) ⟨hx, hb, hml, hown, hts⟩ (c_X0_openOne l dC dI cK cB cI o ks fa oa fb ob dr ds L n sp co en cr rl qs kA oA kB oB tt ss st (va_up K (dk_fki x) ((K (dk_fki x)).1, (K (dk_fki x)).2.1, (K (dk_fki x)).2.2.1, (K (dk_fki x)).2.2.2.1, 1, 0, (K (dk_fki x)).2.2.2.2.2.2)) (dk_near y u)) (cwV 1 hts gX3_field_X0_openOne rfl rfl rfl (by decide +kernel) ⟨Nat.le_of_ble_eq_true rfl, Nat.le_of_ble_eq_true rfl⟩) (up_preV (q0 := 6) (ci := 1) hP hK hD rfl rfl) rfl rfl hl.1 rfl (lv_room (Nat.le_of_ble_eq_true rfl)) dX3_field_187 ⟨Nat.le_of_ble_eq_true rfl, Nat.le_of_ble_eq_true rfl⟩) hD hS ((dk_fst ..).trans (dk_fst ..).symm) (fun H locs hP hD hS _ _ => ?_)
                    have hP : va_P (dC, dI) vwCl (dkW cK cB cI o ks fa oa fb ob dr ds L n sp co en cr rl qs kA oA kB oB tt ss (dk_openOne st (dk_near y u)) (va_up K (dk_fki x) ((K (dk_fki x)).1, (K (dk_fki x)).2.1, (K (dk_fki x)).2.2.1, (K (dk_fki x)).2.2.2.1, 1, 0, (K (dk_fki x)).2.2.2.2.2.2))) H := hP
                    have hD : va_D (up_c (dkW cK cB cI o ks fa oa fb ob dr ds L n sp co en cr rl qs kA oA kB oB tt ss st K)) (dkW cK cB cI o ks fa oa fb ob dr ds L n sp co en cr rl qs kA oA kB oB tt ss (dk_openOne st (dk_near y u)) (va_up K (dk_fki x) ((K (dk_fki x)).1, (K (dk_fki x)).2.1, (K (dk_fki x)).2.2.1, (K (dk_fki x)).2.2.2.1, 1, 0, (K (dk_fki x)).2.2.2.2.2.2))) := hD
                    refine lv_aload hx hb dX3_field_190 (lv_at hl 3 rfl) ?_
                    refine up_read (W.runV (As := []) (rest := []) ⟨hx, hb, hml, hown, hts⟩ (c_X2_isAtHand l dC dI cK cB cI o ks fa oa fb ob dr ds L n sp co en cr rl qs kA oA kB oB tt ss (dk_openOne st (dk_near y u)) (va_up K (dk_fki x) ((K (dk_fki x)).1, (K (dk_fki x)).2.1, (K (dk_fki x)).2.2.1, (K (dk_fki x)).2.2.2.1, 1, 0, (K (dk_fki x)).2.2.2.2.2.2)) (dk_fki x) ((K (dk_fki x)).1, (K (dk_fki x)).2.1, (K (dk_fki x)).2.2.1, (K (dk_fki x)).2.2.2.1, 1, 0, (K (dk_fki x)).2.2.2.2.2.2) hi_2 (va_up_self _ _ _)) (cwV 0 hts gX3_field_X2_isAtHand rfl rfl rfl (by decide +kernel) ⟨Nat.le_of_ble_eq_true rfl, Nat.le_of_ble_eq_true rfl⟩) (up_preV (q0 := ((dk_fki x) + 8)) (ci := 3) hP hK hD rfl (dk_keyk hi_2 (va_up_self _ _ _))) rfl rfl hl.1 rfl (lv_room (Nat.le_of_ble_eq_true rfl)) dX3_field_192 ⟨Nat.le_of_ble_eq_true rfl, Nat.le_of_ble_eq_true rfl⟩) ?_
                    refine lv_if_eq (tgt := 202) hx hb dX3_field_195 (by decide) (fun c_195 => ?_) (fun c_195 => ?_)
                    · refine lv_iconst (v := 0) hx hb dX3_field_202 (by decide) ?_
                      have e_ : dk_field n rl st K x y u w = ((0 : Int32), (va_up K (dk_fki x) ((K (dk_fki x)).1, (K (dk_fki x)).2.1, (K (dk_fki x)).2.2.1, (K (dk_fki x)).2.2.2.1, 1, 0, (K (dk_fki x)).2.2.2.2.2.2)), rl, (dk_openOne st (dk_near y u))) := by unfold dk_field; exact (if_pos hk_2).trans ((if_neg c_21).trans ((if_neg c_32).trans ((if_pos c_39).trans ((if_neg c_51).trans ((if_neg c_86).trans ((if_neg c_118).trans ((if_neg c_143).trans ((if_pos c_154).trans ((if_pos c_195).trans rfl)))))))))
                      rw [e_]
                      exact W.iret (v := 0) hx hb hr (fun t ht hW => ⟨rfl, by rw [ht]; exact hP, hS.F ht⟩) hS.2.2 dX3_field_203
                    · refine lv_iconst (v := 1) hx hb dX3_field_198 (by decide) ?_
                      refine lv_goto (tgt := 203) hx hb dX3_field_199 (by decide) ?_
                      have e_ : dk_field n rl st K x y u w = ((1 : Int32), (va_up K (dk_fki x) ((K (dk_fki x)).1, (K (dk_fki x)).2.1, (K (dk_fki x)).2.2.1, (K (dk_fki x)).2.2.2.1, 1, 0, (K (dk_fki x)).2.2.2.2.2.2)), rl, (dk_openOne st (dk_near y u))) := by unfold dk_field; exact (if_pos hk_2).trans ((if_neg c_21).trans ((if_neg c_32).trans ((if_pos c_39).trans ((if_neg c_51).trans ((if_neg c_86).trans ((if_neg c_118).trans ((if_neg c_143).trans ((if_pos c_154).trans ((if_neg c_195).trans rfl)))))))))
                      rw [e_]
                      exact W.iret (v := 1) hx hb hr (fun t ht hW => ⟨rfl, by rw [ht]; exact hP, hS.F ht⟩) hS.2.2 dX3_field_203
                  · refine lv_iconst (v := 1) hx hb dX3_field_157 (by decide) ?_
                    refine lv_goto (tgt := 162) hx hb dX3_field_158 (by decide) ?_
                    refine va_put (D := (dC, dI)) (ci := 3) (v := .int 1) (ty := .boolean) (C := RX2) (T := TX2) (N := 7) hx hb hts inn_X3_field_X2 tyX2 tyX2_ok nmX2 hown hK hP hD hS ((dk_fki x) + 8) (dk_keyk hi_2 (va_up_self _ _ _)) rfl 5 (by decide) (hts (.fieldLink RX3 102 "DoorKeys$Key" "inside" "Z") (by decide +kernel)) (fun _ h9 => h9) rfl (by decide +kernel) rfl rfl (Nat.le_of_ble_eq_true rfl) dX3_field_162 (fun H locs hP hD hS => ?_)
                    have hP : va_P (dC, dI) vwCl (dkW cK cB cI o ks fa oa fb ob dr ds L n sp co en cr rl qs kA oA kB oB tt ss st (va_up K (dk_fki x) ((K (dk_fki x)).1, (K (dk_fki x)).2.1, (K (dk_fki x)).2.2.1, (K (dk_fki x)).2.2.2.1, 1, 1, (K (dk_fki x)).2.2.2.2.2.2))) H := up_cast (dk_putU hi_2) hP
                    have hD : va_D (up_c (dkW cK cB cI o ks fa oa fb ob dr ds L n sp co en cr rl qs kA oA kB oB tt ss st K)) (dkW cK cB cI o ks fa oa fb ob dr ds L n sp co en cr rl qs kA oA kB oB tt ss st (va_up K (dk_fki x) ((K (dk_fki x)).1, (K (dk_fki x)).2.1, (K (dk_fki x)).2.2.1, (K (dk_fki x)).2.2.2.1, 1, 1, (K (dk_fki x)).2.2.2.2.2.2))) := up_castD (dk_putU hi_2) hD
                    have hP : va_P (dC, dI) vwCl (dkW cK cB cI o ks fa oa fb ob dr ds L n sp co en cr rl qs kA oA kB oB tt ss st (va_up K (dk_fki x) ((K (dk_fki x)).1, (K (dk_fki x)).2.1, (K (dk_fki x)).2.2.1, (K (dk_fki x)).2.2.2.1, 1, 1, (K (dk_fki x)).2.2.2.2.2.2))) H := hP
                    have hD : va_D (up_c (dkW cK cB cI o ks fa oa fb ob dr ds L n sp co en cr rl qs kA oA kB oB tt ss st K)) (dkW cK cB cI o ks fa oa fb ob dr ds L n sp co en cr rl qs kA oA kB oB tt ss st (va_up K (dk_fki x) ((K (dk_fki x)).1, (K (dk_fki x)).2.1, (K (dk_fki x)).2.2.1, (K (dk_fki x)).2.2.2.1, 1, 1, (K (dk_fki x)).2.2.2.2.2.2))) := hD
                    refine lv_aload hx hb dX3_field_165 (lv_at hl 3 rfl) ?_
                    refine va_get (D := (dC, dI)) (ci := 3) (v := .int 1) (C := RX2) (T := TX2) (N := 7) hx hb hts inn_X3_field_X2 hown hK hP ((dk_fki x) + 8) (dk_keyk hi_2 (va_up_self _ _ _)) rfl 4 (by decide) (hts (.fieldLink RX3 99 "DoorKeys$Key" "near" "Z") (by decide +kernel)) (fun _ h9 => h9) rfl dX3_field_167 ?_
                    refine lv_if_eq (tgt := 190) hx hb dX3_field_170 (by decide) (fun c_170 => absurd c_170 (by decide)) (fun c_170 => ?_)
                    refine lv_aload hx hb dX3_field_173 (lv_at hl 3 rfl) ?_
                    refine va_get (D := (dC, dI)) (ci := 3) (v := .int 1) (C := RX2) (T := TX2) (N := 7) hx hb hts inn_X3_field_X2 hown hK hP ((dk_fki x) + 8) (dk_keyk hi_2 (va_up_self _ _ _)) rfl 5 (by decide) (hts (.fieldLink RX3 102 "DoorKeys$Key" "inside" "Z") (by decide +kernel)) (fun _ h9 => h9) rfl dX3_field_175 ?_
                    refine lv_if_ne (tgt := 190) hx hb dX3_field_178 (by decide) (fun c_178 => ?_) (fun c_178 => absurd c_178 (by decide))
                    refine lv_aload hx hb dX3_field_190 (lv_at hl 3 rfl) ?_
                    refine up_read (W.runV (As := []) (rest := []) ⟨hx, hb, hml, hown, hts⟩ (c_X2_isAtHand l dC dI cK cB cI o ks fa oa fb ob dr ds L n sp co en cr rl qs kA oA kB oB tt ss st (va_up K (dk_fki x) ((K (dk_fki x)).1, (K (dk_fki x)).2.1, (K (dk_fki x)).2.2.1, (K (dk_fki x)).2.2.2.1, 1, 1, (K (dk_fki x)).2.2.2.2.2.2)) (dk_fki x) ((K (dk_fki x)).1, (K (dk_fki x)).2.1, (K (dk_fki x)).2.2.1, (K (dk_fki x)).2.2.2.1, 1, 1, (K (dk_fki x)).2.2.2.2.2.2) hi_2 (va_up_self _ _ _)) (cwV 0 hts gX3_field_X2_isAtHand rfl rfl rfl (by decide +kernel) ⟨Nat.le_of_ble_eq_true rfl, Nat.le_of_ble_eq_true rfl⟩) (up_preV (q0 := ((dk_fki x) + 8)) (ci := 3) hP hK hD rfl (dk_keyk hi_2 (va_up_self _ _ _))) rfl rfl hl.1 rfl (lv_room (Nat.le_of_ble_eq_true rfl)) dX3_field_192 ⟨Nat.le_of_ble_eq_true rfl, Nat.le_of_ble_eq_true rfl⟩) ?_
                    refine lv_if_eq (tgt := 202) hx hb dX3_field_195 (by decide) (fun c_195 => ?_) (fun c_195 => ?_)
                    · refine lv_iconst (v := 0) hx hb dX3_field_202 (by decide) ?_
                      have e_ : dk_field n rl st K x y u w = ((0 : Int32), (va_up K (dk_fki x) ((K (dk_fki x)).1, (K (dk_fki x)).2.1, (K (dk_fki x)).2.2.1, (K (dk_fki x)).2.2.2.1, 1, 1, (K (dk_fki x)).2.2.2.2.2.2)), rl, st) := by unfold dk_field; exact (if_pos hk_2).trans ((if_neg c_21).trans ((if_neg c_32).trans ((if_pos c_39).trans ((if_neg c_51).trans ((if_neg c_86).trans ((if_neg c_118).trans ((if_neg c_143).trans ((if_neg c_154).trans ((if_pos c_195).trans rfl)))))))))
                      rw [e_]
                      exact W.iret (v := 0) hx hb hr (fun t ht hW => ⟨rfl, by rw [ht]; exact hP, hS.F ht⟩) hS.2.2 dX3_field_203
                    · refine lv_iconst (v := 1) hx hb dX3_field_198 (by decide) ?_
                      refine lv_goto (tgt := 203) hx hb dX3_field_199 (by decide) ?_
                      have e_ : dk_field n rl st K x y u w = ((1 : Int32), (va_up K (dk_fki x) ((K (dk_fki x)).1, (K (dk_fki x)).2.1, (K (dk_fki x)).2.2.1, (K (dk_fki x)).2.2.2.1, 1, 1, (K (dk_fki x)).2.2.2.2.2.2)), rl, st) := by unfold dk_field; exact (if_pos hk_2).trans ((if_neg c_21).trans ((if_neg c_32).trans ((if_pos c_39).trans ((if_neg c_51).trans ((if_neg c_86).trans ((if_neg c_118).trans ((if_neg c_143).trans ((if_neg c_154).trans ((if_neg c_195).trans rfl)))))))))
                      rw [e_]
                      exact W.iret (v := 1) hx hb hr (fun t ht hW => ⟨rfl, by rw [ht]; exact hP, hS.F ht⟩) hS.2.2 dX3_field_203
        · refine lv_bipush (v := (-2)) hx hb dX3_field_42 (by decide) ?_
          have e_ : dk_field n rl st K x y u w = (((-2) : Int32), K, rl, st) := by unfold dk_field; exact (if_pos hk_2).trans ((if_neg c_21).trans ((if_neg c_32).trans ((if_neg c_39).trans rfl)))
          rw [e_]
          exact W.iret (v := (-2)) hx hb hr (fun t ht hW => ⟨rfl, by rw [ht]; exact hP, hS.F ht⟩) hS.2.2 dX3_field_44
  · refine up_read (W.runV (As := [.int x]) (rest := []) ⟨hx, hb, hml, hown, hts⟩ (c_X3_findN l dC dI cK cB cI o ks fa oa fb ob dr ds L n sp co en cr rl qs kA oA kB oB tt ss st K x hn hk_2) (cwV 1 hts gX3_field_X3_find rfl rfl rfl (by decide +kernel) ⟨Nat.le_of_ble_eq_true rfl, Nat.le_of_ble_eq_true rfl⟩) (up_preV (q0 := 0) (ci := 4) hP hK hD rfl rfl) rfl rfl hl.1 rfl (lv_room (Nat.le_of_ble_eq_true rfl)) dX3_field_2 ⟨Nat.le_of_ble_eq_true rfl, Nat.le_of_ble_eq_true rfl⟩) ?_
    refine lv_astoreN (lv' := [(8, .null), (0, .ref o), (1, .int x), (2, .long y), (4, .long u), (6, .long w)]) hx hb dX3_field_5 hl (by decide) rfl (fun ls hl => ?_)
    refine lv_aloadN hx hb dX3_field_7 (lv_at hl 0 rfl) ?_
    refine lv_ifnonnullN hx hb dX3_field_9 ?_
    refine lv_iconst (v := (-1)) hx hb dX3_field_12 (by decide) ?_
    have e_ : dk_field n rl st K x y u w = (((-1) : Int32), K, rl, st) := by unfold dk_field; exact (if_neg hk_2).trans rfl
    rw [e_]
    exact W.iret (v := (-1)) hx hb hr (fun t ht hW => ⟨rfl, by rw [ht]; exact hP, hS.F ht⟩) hS.2.2 dX3_field_13
end
section
/-! remote (laid by wip/gen.py) -/
set_option maxRecDepth 20000 in
theorem inn_X3_remote_X3 : ∀ w ∈ wsX30, w ∈ wsX3_remote := by decide +kernel
def dk_rem0 (kA : Int32) (oA : Nat → Int8) (b : Int8) : Int32 × Int32 × (Nat → Int8) :=
  ((0 : Int32), (dk_keep kA oA b).1, (dk_keep kA oA b).2)
def rm_X3_remote0 : Room := { frames := 5, cells := 0, slots := 0, locals := 110 }
set_option maxHeartbeats 4000000 in
set_option maxRecDepth 100000 in
theorem c_X3_remote0 (l : Launch) (dC : Nat → ClassId) (dI : Nat → Nat → Nat) (cK : ClassId) (cB : ClassId) (cI : ClassId) (o : Nat) (ks : Nat) (fa : Nat) (oa : Nat) (fb : Nat) (ob : Nat) (dr : Nat) (ds : Nat) (L : Nat → Nat) (n : Nat) (sp : Int32) (cr : Int32) (rl : Int32) (qs : Int32) (kA : Int32) (oA : Nat → Int8) (kB : Int32) (oB : Nat → Int8) (tt : Int64) (ss : Int64) (st : Nat → Int32) (K : Nat → KR) (b : Int8) (hn : n ≤ 8) : Met l yX3_remote wsX3_remote rm_X3_remote0 (up_P (dC, dI) vwCl (dkT cK cB cI) (dkW cK cB cI o ks fa oa fb ob dr ds L n sp fa fb cr rl qs kA oA kB oB tt ss st K) [.ref o, .int b.toInt32, .int 0]) (up_Q (dC, dI) vwCl (some (.int ((dk_rem0 kA oA b).1))) (dkW cK cB cI o ks fa oa fb ob dr ds L n sp fa fb cr rl qs kA oA kB oB tt ss st K) (dkW cK cB cI o ks fa oa fb ob dr ds L n sp fa fb cr rl qs ((dk_rem0 kA oA b).2.1) ((dk_rem0 kA oA b).2.2) kB oB tt ss st K)) 0 0 (up_c (dkW cK cB cI o ks fa oa fb ob dr ds L n sp fa fb cr rl qs kA oA kB oB tt ss st K)) := by
  refine Met.ofW (cc := cX3_remote) (maxL := 4) (ret := (some .int)) (by decide) rfl ?_
  intro p e s m args below meth c s₁ B hml hv
  obtain ⟨rfl, hP, hK, hD0⟩ := hv
  have hx := B.exec
  have hb := B.bytes
  have hr := B.returns
  have hts := atoms_spec (ws := wsX3_remote) B.pre
  have hown : s.vm.findClass RX3 = some m.cls := findClass_of_methodNamed B.named
  have hlocks := B.notSynchronized
  have hD := up_self hD0
  have hS : va_S (up_c (dkW cK cB cI o ks fa oa fb ob dr ds L n sp fa fb cr rl qs kA oA kB oB tt ss st K)) s.heap s.heap [] := va_S.rf
  have hl := lv_entry ([.ref o, .int b.toInt32, .int 0]) (n := 4) (Nat.le_of_ble_eq_true rfl)
  rw [lg_entry_eq]
  generalize (lg_sl ([.ref o, .int b.toInt32, .int 0]) ++ List.replicate (4 - (lg_sl ([.ref o, .int b.toInt32, .int 0])).length) Slot.unset).toArray = ls at hl ⊢
  have hl : lv_has ls 4 [(0, .ref o), (1, .int b.toInt32), (2, .int 0)] := hl
  refine lv_aload_n hx hb dX3_remote_0 rfl (lv_at hl 0 rfl) ?_
  refine va_get (D := (dC, dI)) (ci := 4) (v := .ref fa) (C := RX3) (T := TX3) (N := 9) hx hb hts inn_X3_remote_X3 hown hK hP 0 rfl rfl 3 (by decide) (hts (.fieldLink RX3 22 "DoorKeys" "coming" "LDoorKeys$Frame;") (by decide +kernel)) (fun _ h9 => h9) rfl dX3_remote_1 ?_
  refine lv_iload_n hx hb dX3_remote_4 rfl (lv_at hl 1 rfl) ?_
  refine up_call (W.runV (As := [.int b.toInt32]) (rest := []) ⟨hx, hb, hml, hown, hts⟩ (c_X1_keep l dC dI cK cB cI o ks fa oa fb ob dr ds L n sp fa fb cr rl qs kA oA kB oB tt ss st K b) (cwV 1 hts gX3_remote_X1_keep rfl rfl rfl (by decide +kernel) ⟨Nat.le_of_ble_eq_true rfl, Nat.le_of_ble_eq_true rfl⟩) (up_preV (q0 := 2) (ci := 2) hP hK hD rfl rfl) rfl rfl hl.1 rfl (lv_room (Nat.le_of_ble_eq_true rfl)) dX3_remote_5 ⟨Nat.le_of_ble_eq_true rfl, Nat.le_of_ble_eq_true rfl⟩) hD hS ((dk_fst ..).trans (dk_fst ..).symm) (fun H locs hP hD hS _ _ => ?_)
  have hP : va_P (dC, dI) vwCl (dkW cK cB cI o ks fa oa fb ob dr ds L n sp fa fb cr rl qs ((dk_keep kA oA b).1) ((dk_keep kA oA b).2) kB oB tt ss st K) H := hP
  have hD : va_D (up_c (dkW cK cB cI o ks fa oa fb ob dr ds L n sp fa fb cr rl qs kA oA kB oB tt ss st K)) (dkW cK cB cI o ks fa oa fb ob dr ds L n sp fa fb cr rl qs ((dk_keep kA oA b).1) ((dk_keep kA oA b).2) kB oB tt ss st K) := hD
  refine lv_iload_n hx hb dX3_remote_8 rfl (lv_at hl 2 rfl) ?_
  refine lv_if_ne (tgt := 14) hx hb dX3_remote_9 (by decide) (fun c_9 => absurd c_9 (by decide)) (fun c_9 => ?_)
  refine lv_iconst (v := 0) hx hb dX3_remote_12 (by decide) ?_
  have e_ : dk_rem0 kA oA b = ((0 : Int32), (dk_keep kA oA b).1, (dk_keep kA oA b).2) := by unfold dk_rem0; exact rfl
  rw [e_]
  exact W.iret (v := 0) hx hb hr (fun t ht hW => ⟨rfl, by rw [ht]; exact hP, hS.F ht⟩) hS.2.2 dX3_remote_13
def dk_rem1 (n : Nat) (sp : Int32) (cr : Int32) (kA : Int32) (oA : Nat → Int8) (tt : Int64) (ss : Int64) (st : Nat → Int32) (K : Nat → KR) (b : Int8) : Int32 × Int32 × (Nat → Int8) × Int32 × (Nat → KR) × (Nat → Int32) × Int64 :=
  ((dk_judge n sp cr ((dk_keep kA oA b).1) ((dk_keep kA oA b).2) tt ss st K).1, (dk_keep kA oA b).1, (dk_keep kA oA b).2, dk_clear, (dk_judge n sp cr ((dk_keep kA oA b).1) ((dk_keep kA oA b).2) tt ss st K).2.1, (dk_judge n sp cr ((dk_keep kA oA b).1) ((dk_keep kA oA b).2) tt ss st K).2.2.1, (dk_judge n sp cr ((dk_keep kA oA b).1) ((dk_keep kA oA b).2) tt ss st K).2.2.2)
def rm_X3_remote1 : Room := { frames := 5, cells := 0, slots := 0, locals := 110 }
set_option maxHeartbeats 4000000 in
set_option maxRecDepth 100000 in
theorem c_X3_remote1 (l : Launch) (dC : Nat → ClassId) (dI : Nat → Nat → Nat) (cK : ClassId) (cB : ClassId) (cI : ClassId) (o : Nat) (ks : Nat) (fa : Nat) (oa : Nat) (fb : Nat) (ob : Nat) (dr : Nat) (ds : Nat) (L : Nat → Nat) (n : Nat) (sp : Int32) (cr : Int32) (rl : Int32) (qs : Int32) (kA : Int32) (oA : Nat → Int8) (kB : Int32) (oB : Nat → Int8) (tt : Int64) (ss : Int64) (st : Nat → Int32) (K : Nat → KR) (b : Int8) (hn : n ≤ 8) : Met l yX3_remote wsX3_remote rm_X3_remote1 (up_P (dC, dI) vwCl (dkT cK cB cI) (dkW cK cB cI o ks fa oa fb ob dr ds L n sp fa fb cr rl qs kA oA kB oB tt ss st K) [.ref o, .int b.toInt32, .int 1]) (up_Q (dC, dI) vwCl (some (.int ((dk_rem1 n sp cr kA oA tt ss st K b).1))) (dkW cK cB cI o ks fa oa fb ob dr ds L n sp fa fb cr rl qs kA oA kB oB tt ss st K) (dkW cK cB cI o ks fa oa fb ob dr ds L n sp fb fa cr rl qs ((dk_rem1 n sp cr kA oA tt ss st K b).2.1) ((dk_rem1 n sp cr kA oA tt ss st K b).2.2.1) ((dk_rem1 n sp cr kA oA tt ss st K b).2.2.2.1) oB tt ((dk_rem1 n sp cr kA oA tt ss st K b).2.2.2.2.2.2) ((dk_rem1 n sp cr kA oA tt ss st K b).2.2.2.2.2.1) ((dk_rem1 n sp cr kA oA tt ss st K b).2.2.2.2.1))) 0 0 (up_c (dkW cK cB cI o ks fa oa fb ob dr ds L n sp fa fb cr rl qs kA oA kB oB tt ss st K)) := by
  refine Met.ofW (cc := cX3_remote) (maxL := 4) (ret := (some .int)) (by decide) rfl ?_
  intro p e s m args below meth c s₁ B hml hv
  obtain ⟨rfl, hP, hK, hD0⟩ := hv
  have hx := B.exec
  have hb := B.bytes
  have hr := B.returns
  have hts := atoms_spec (ws := wsX3_remote) B.pre
  have hown : s.vm.findClass RX3 = some m.cls := findClass_of_methodNamed B.named
  have hlocks := B.notSynchronized
  have hD := up_self hD0
  have hS : va_S (up_c (dkW cK cB cI o ks fa oa fb ob dr ds L n sp fa fb cr rl qs kA oA kB oB tt ss st K)) s.heap s.heap [] := va_S.rf
  have hl := lv_entry ([.ref o, .int b.toInt32, .int 1]) (n := 4) (Nat.le_of_ble_eq_true rfl)
  rw [lg_entry_eq]
  generalize (lg_sl ([.ref o, .int b.toInt32, .int 1]) ++ List.replicate (4 - (lg_sl ([.ref o, .int b.toInt32, .int 1])).length) Slot.unset).toArray = ls at hl ⊢
  have hl : lv_has ls 4 [(0, .ref o), (1, .int b.toInt32), (2, .int 1)] := hl
  refine lv_aload_n hx hb dX3_remote_0 rfl (lv_at hl 0 rfl) ?_
  refine va_get (D := (dC, dI)) (ci := 4) (v := .ref fa) (C := RX3) (T := TX3) (N := 9) hx hb hts inn_X3_remote_X3 hown hK hP 0 rfl rfl 3 (by decide) (hts (.fieldLink RX3 22 "DoorKeys" "coming" "LDoorKeys$Frame;") (by decide +kernel)) (fun _ h9 => h9) rfl dX3_remote_1 ?_
  refine lv_iload_n hx hb dX3_remote_4 rfl (lv_at hl 1 rfl) ?_
  refine up_call (W.runV (As := [.int b.toInt32]) (rest := []) ⟨hx, hb, hml, hown, hts⟩ (c_X1_keep l dC dI cK cB cI o ks fa oa fb ob dr ds L n sp fa fb cr rl qs kA oA kB oB tt ss st K b) (cwV 1 hts gX3_remote_X1_keep rfl rfl rfl (by decide +kernel) ⟨Nat.le_of_ble_eq_true rfl, Nat.le_of_ble_eq_true rfl⟩) (up_preV (q0 := 2) (ci := 2) hP hK hD rfl rfl) rfl rfl hl.1 rfl (lv_room (Nat.le_of_ble_eq_true rfl)) dX3_remote_5 ⟨Nat.le_of_ble_eq_true rfl, Nat.le_of_ble_eq_true rfl⟩) hD hS ((dk_fst ..).trans (dk_fst ..).symm) (fun H locs hP hD hS _ _ => ?_)
  have hP : va_P (dC, dI) vwCl (dkW cK cB cI o ks fa oa fb ob dr ds L n sp fa fb cr rl qs ((dk_keep kA oA b).1) ((dk_keep kA oA b).2) kB oB tt ss st K) H := hP
  have hD : va_D (up_c (dkW cK cB cI o ks fa oa fb ob dr ds L n sp fa fb cr rl qs kA oA kB oB tt ss st K)) (dkW cK cB cI o ks fa oa fb ob dr ds L n sp fa fb cr rl qs ((dk_keep kA oA b).1) ((dk_keep kA oA b).2) kB oB tt ss st K) := hD
  refine lv_iload_n hx hb dX3_remote_8 rfl (lv_at hl 2 rfl) ?_
  refine lv_if_ne (tgt := 14) hx hb dX3_remote_9 (by decide) (fun c_9 => ?_) (fun c_9 => absurd c_9 (by decide))
  refine lv_aload_n hx hb dX3_remote_14 rfl (lv_at hl 0 rfl) ?_
  refine va_get (D := (dC, dI)) (ci := 4) (v := .ref fa) (C := RX3) (T := TX3) (N := 9) hx hb hts inn_X3_remote_X3 hown hK hP 0 rfl rfl 3 (by decide) (hts (.fieldLink RX3 22 "DoorKeys" "coming" "LDoorKeys$Frame;") (by decide +kernel)) (fun _ h9 => h9) rfl dX3_remote_15 ?_
  refine lv_astore_n (lv' := [(3, .ref fa), (0, .ref o), (1, .int b.toInt32), (2, .int 1)]) hx hb dX3_remote_18 rfl hl (by decide) rfl (fun ls hl => ?_)
  refine lv_aload_n hx hb dX3_remote_19 rfl (lv_at hl 1 rfl) ?_
  refine lv_aload_n hx hb dX3_remote_20 rfl (lv_at hl 1 rfl) ?_
  refine va_get (D := (dC, dI)) (ci := 4) (v := .ref fb) (C := RX3) (T := TX3) (N := 9) hx hb hts inn_X3_remote_X3 hown hK hP 0 rfl rfl 4 (by decide) (hts (.fieldLink RX3 26 "DoorKeys" "ended" "LDoorKeys$Frame;") (by decide +kernel)) (fun _ h9 => h9) rfl dX3_remote_21 ?_
  refine va_put (D := (dC, dI)) (ci := 4) (v := .ref fb) (ty := .object "DoorKeys$Frame") (C := RX3) (T := TX3) (N := 9) hx hb hts inn_X3_remote_X3 tyX3 tyX3_ok nmX3 hown hK hP hD hS 0 rfl rfl 3 (by decide) (hts (.fieldLink RX3 22 "DoorKeys" "coming" "LDoorKeys$Frame;") (by decide +kernel)) (fun _ h9 => h9) rfl (by decide +kernel) rfl rfl (Nat.le_of_ble_eq_true rfl) dX3_remote_24 (fun H locs hP hD hS => ?_)
  have hP : va_P (dC, dI) vwCl (dkW cK cB cI o ks fa oa fb ob dr ds L n sp fb fb cr rl qs ((dk_keep kA oA b).1) ((dk_keep kA oA b).2) kB oB tt ss st K) H := hP
  have hD : va_D (up_c (dkW cK cB cI o ks fa oa fb ob dr ds L n sp fa fb cr rl qs kA oA kB oB tt ss st K)) (dkW cK cB cI o ks fa oa fb ob dr ds L n sp fb fb cr rl qs ((dk_keep kA oA b).1) ((dk_keep kA oA b).2) kB oB tt ss st K) := hD
  have hP := dk_swapP hP
  have hD := dk_swapD hD
  have hP : va_P (dC, dI) vwCl (dkW cK cB cI o ks fb ob fa oa dr ds L n sp fb fb cr rl qs kB oB ((dk_keep kA oA b).1) ((dk_keep kA oA b).2) tt ss st K) H := hP
  have hD : va_D (up_c (dkW cK cB cI o ks fa oa fb ob dr ds L n sp fa fb cr rl qs kA oA kB oB tt ss st K)) (dkW cK cB cI o ks fb ob fa oa dr ds L n sp fb fb cr rl qs kB oB ((dk_keep kA oA b).1) ((dk_keep kA oA b).2) tt ss st K) := hD
  refine lv_aload_n hx hb dX3_remote_27 rfl (lv_at hl 1 rfl) ?_
  refine va_get (D := (dC, dI)) (ci := 4) (v := .ref fb) (C := RX3) (T := TX3) (N := 9) hx hb hts inn_X3_remote_X3 hown hK hP 0 rfl rfl 3 (by decide) (hts (.fieldLink RX3 22 "DoorKeys" "coming" "LDoorKeys$Frame;") (by decide +kernel)) (fun _ h9 => h9) rfl dX3_remote_28 ?_
  refine up_call (W.runV (As := []) (rest := []) ⟨hx, hb, hml, hown, hts⟩ (c_X1_clear l dC dI cK cB cI o ks fb ob fa oa dr ds L n sp fb fb cr rl qs kB oB ((dk_keep kA oA b).1) ((dk_keep kA oA b).2) tt ss st K) (cwV 0 hts gX3_remote_X1_clear rfl rfl rfl (by decide +kernel) ⟨Nat.le_of_ble_eq_true rfl, Nat.le_of_ble_eq_true rfl⟩) (up_preV (q0 := 2) (ci := 2) hP hK hD rfl rfl) rfl rfl hl.1 rfl (lv_room (Nat.le_of_ble_eq_true rfl)) dX3_remote_31 ⟨Nat.le_of_ble_eq_true rfl, Nat.le_of_ble_eq_true rfl⟩) hD hS ((dk_fst ..).trans (dk_fst ..).symm) (fun H locs hP hD hS _ _ => ?_)
  have hP : va_P (dC, dI) vwCl (dkW cK cB cI o ks fb ob fa oa dr ds L n sp fb fb cr rl qs dk_clear oB ((dk_keep kA oA b).1) ((dk_keep kA oA b).2) tt ss st K) H := hP
  have hD : va_D (up_c (dkW cK cB cI o ks fa oa fb ob dr ds L n sp fa fb cr rl qs kA oA kB oB tt ss st K)) (dkW cK cB cI o ks fb ob fa oa dr ds L n sp fb fb cr rl qs dk_clear oB ((dk_keep kA oA b).1) ((dk_keep kA oA b).2) tt ss st K) := hD
  refine lv_aload_n hx hb dX3_remote_34 rfl (lv_at hl 1 rfl) ?_
  refine lv_aload_n hx hb dX3_remote_35 rfl (lv_at hl 0 rfl) ?_
  refine va_put (D := (dC, dI)) (ci := 4) (v := .ref fa) (ty := .object "DoorKeys$Frame") (C := RX3) (T := TX3) (N := 9) hx hb hts inn_X3_remote_X3 tyX3 tyX3_ok nmX3 hown hK hP hD hS 0 rfl rfl 4 (by decide) (hts (.fieldLink RX3 26 "DoorKeys" "ended" "LDoorKeys$Frame;") (by decide +kernel)) (fun _ h9 => h9) rfl (by decide +kernel) rfl rfl (Nat.le_of_ble_eq_true rfl) dX3_remote_36 (fun H locs hP hD hS => ?_)
  have hP : va_P (dC, dI) vwCl (dkW cK cB cI o ks fb ob fa oa dr ds L n sp fb fa cr rl qs dk_clear oB ((dk_keep kA oA b).1) ((dk_keep kA oA b).2) tt ss st K) H := hP
  have hD : va_D (up_c (dkW cK cB cI o ks fa oa fb ob dr ds L n sp fa fb cr rl qs kA oA kB oB tt ss st K)) (dkW cK cB cI o ks fb ob fa oa dr ds L n sp fb fa cr rl qs dk_clear oB ((dk_keep kA oA b).1) ((dk_keep kA oA b).2) tt ss st K) := hD
  refine lv_aload_n hx hb dX3_remote_39 rfl (lv_at hl 1 rfl) ?_
  refine lv_aload_n hx hb dX3_remote_40 rfl (lv_at hl 0 rfl) ?_
  refine up_call (W.runV (As := [.ref fa]) (rest := []) ⟨hx, hb, hml, hown, hts⟩ (c_X3_judge l dC dI cK cB cI o ks fb ob fa oa dr ds L n sp fb fa cr rl qs dk_clear oB ((dk_keep kA oA b).1) ((dk_keep kA oA b).2) tt ss st K hn) (cwV 1 hts gX3_remote_X3_judge rfl rfl rfl (by decide +kernel) ⟨Nat.le_of_ble_eq_true rfl, Nat.le_of_ble_eq_true rfl⟩) (up_preV (q0 := 0) (ci := 4) hP hK hD rfl rfl) rfl rfl hl.1 rfl (lv_room (Nat.le_of_ble_eq_true rfl)) dX3_remote_41 ⟨Nat.le_of_ble_eq_true rfl, Nat.le_of_ble_eq_true rfl⟩) hD hS ((dk_fst ..).trans (dk_fst ..).symm) (fun H locs hP hD hS _ _ => ?_)
  have hP : va_P (dC, dI) vwCl (dkW cK cB cI o ks fb ob fa oa dr ds L n sp fb fa cr rl qs dk_clear oB ((dk_keep kA oA b).1) ((dk_keep kA oA b).2) tt ((dk_judge n sp cr ((dk_keep kA oA b).1) ((dk_keep kA oA b).2) tt ss st K).2.2.2) ((dk_judge n sp cr ((dk_keep kA oA b).1) ((dk_keep kA oA b).2) tt ss st K).2.2.1) ((dk_judge n sp cr ((dk_keep kA oA b).1) ((dk_keep kA oA b).2) tt ss st K).2.1)) H := hP
  have hD : va_D (up_c (dkW cK cB cI o ks fa oa fb ob dr ds L n sp fa fb cr rl qs kA oA kB oB tt ss st K)) (dkW cK cB cI o ks fb ob fa oa dr ds L n sp fb fa cr rl qs dk_clear oB ((dk_keep kA oA b).1) ((dk_keep kA oA b).2) tt ((dk_judge n sp cr ((dk_keep kA oA b).1) ((dk_keep kA oA b).2) tt ss st K).2.2.2) ((dk_judge n sp cr ((dk_keep kA oA b).1) ((dk_keep kA oA b).2) tt ss st K).2.2.1) ((dk_judge n sp cr ((dk_keep kA oA b).1) ((dk_keep kA oA b).2) tt ss st K).2.1)) := hD
  have hP := dk_swapP hP
  have hD := dk_swapD hD
  have hP : va_P (dC, dI) vwCl (dkW cK cB cI o ks fa oa fb ob dr ds L n sp fb fa cr rl qs ((dk_keep kA oA b).1) ((dk_keep kA oA b).2) dk_clear oB tt ((dk_judge n sp cr ((dk_keep kA oA b).1) ((dk_keep kA oA b).2) tt ss st K).2.2.2) ((dk_judge n sp cr ((dk_keep kA oA b).1) ((dk_keep kA oA b).2) tt ss st K).2.2.1) ((dk_judge n sp cr ((dk_keep kA oA b).1) ((dk_keep kA oA b).2) tt ss st K).2.1)) H := hP
  have hD : va_D (up_c (dkW cK cB cI o ks fa oa fb ob dr ds L n sp fa fb cr rl qs kA oA kB oB tt ss st K)) (dkW cK cB cI o ks fa oa fb ob dr ds L n sp fb fa cr rl qs ((dk_keep kA oA b).1) ((dk_keep kA oA b).2) dk_clear oB tt ((dk_judge n sp cr ((dk_keep kA oA b).1) ((dk_keep kA oA b).2) tt ss st K).2.2.2) ((dk_judge n sp cr ((dk_keep kA oA b).1) ((dk_keep kA oA b).2) tt ss st K).2.2.1) ((dk_judge n sp cr ((dk_keep kA oA b).1) ((dk_keep kA oA b).2) tt ss st K).2.1)) := hD
  have e_ : dk_rem1 n sp cr kA oA tt ss st K b = ((dk_judge n sp cr ((dk_keep kA oA b).1) ((dk_keep kA oA b).2) tt ss st K).1, (dk_keep kA oA b).1, (dk_keep kA oA b).2, dk_clear, (dk_judge n sp cr ((dk_keep kA oA b).1) ((dk_keep kA oA b).2) tt ss st K).2.1, (dk_judge n sp cr ((dk_keep kA oA b).1) ((dk_keep kA oA b).2) tt ss st K).2.2.1, (dk_judge n sp cr ((dk_keep kA oA b).1) ((dk_keep kA oA b).2) tt ss st K).2.2.2) := by unfold dk_rem1; exact rfl
  rw [e_]
  exact W.iret (v := (dk_judge n sp cr ((dk_keep kA oA b).1) ((dk_keep kA oA b).2) tt ss st K).1) hx hb hr (fun t ht hW => ⟨rfl, by rw [ht]; exact hP, hS.F ht⟩) hS.2.2 dX3_remote_44
end
section
/-! The constructors of the class (laid by wip/ctor.py) -/
set_option maxRecDepth 20000 in
theorem inn_X1_init_X1 : ∀ w ∈ wsX10, w ∈ wsX1_init := by decide +kernel
set_option maxRecDepth 20000 in
theorem inn_X0_init_X0 : ∀ w ∈ wsX00, w ∈ wsX0_init := by decide +kernel
set_option maxRecDepth 20000 in
theorem inn_X3_init_X3 : ∀ w ∈ wsX30, w ∈ wsX3_init := by decide +kernel
set_option maxRecDepth 20000 in
theorem inn_X3_init_X1 : ∀ w ∈ wsX10, w ∈ wsX3_init := by decide +kernel
set_option maxRecDepth 20000 in
theorem inn_X3_init_X0 : ∀ w ∈ wsX00, w ∈ wsX3_init := by decide +kernel
set_option maxRecDepth 20000 in
theorem inn_X2_init_X2 : ∀ w ∈ wsX20, w ∈ wsX2_init := by decide +kernel
abbrev at_Frame (dC : Nat → ClassId) (dI : Nat → Nat → Nat) (A : Nat → Prop) (h0 : Nat) (u : Nat × ClassId) (t : State) : Prop := va_P (dC, dI) vwCl [(h0, .inr (2, [.ref u.1, .int 0])), (u.1, .inl (u.2, 16, .inl (fun _ => 0)))] t.heap ∧ va_K (dC, dI) vwCl [(u.2, .byte)] t ∧ va_D A [(h0, .inr (2, [.ref u.1, .int 0])), (u.1, .inl (u.2, 16, .inl (fun _ => 0)))]
def rm_X1_init : Room := { frames := 1, cells := 1, slots := 16, locals := 12 }
set_option maxHeartbeats 4000000 in
set_option maxRecDepth 100000 in
theorem c_X1_init (l : Launch) (dC : Nat → ClassId) (dI : Nat → Nat → Nat) (h0 sz : Nat) : Met l yX1_init wsX1_init rm_X1_init (va_Pc [.ref h0] (fun U => U.heap.size = sz ∧ va_P (dC, dI) vwCl [(h0, .inr (2, [.null, .int 0]))] U.heap ∧ va_K (dC, dI) vwCl [] U ∧ va_D (fun _ => True) [(h0, .inr (2, [.null, .int 0]))])) (va_Qv (fun _ : Nat × ClassId => True) (at_Frame dC dI (va_A [(h0, .inr (2, [.null, .int 0]))] sz) h0) (va_A [(h0, .inr (2, [.null, .int 0]))] sz)) 1 16 (va_A [(h0, .inr (2, [.null, .int 0]))] sz) := by
  refine Met.ofW (cc := cX1_init) (maxL := 1) (ret := none) (by decide) rfl ?_
  intro p e s m args below meth c s₁ B hml hv
  have hx := B.exec
  have hb := B.bytes
  have hr := B.returns
  have hin : meth.name = "<init>" := (name_of_methodNamed B.named B.method).1
  obtain ⟨rfl, hsz, hP, hK, hD0⟩ := hv
  subst hsz
  have hD := hD0.self (sz := s.heap.size)
  generalize hAe : va_A [(h0, .inr (2, [.null, .int 0]))] s.heap.size = A at hD ⊢
  have hA : ∀ q : Nat, s.heap.size ≤ q → A q := fun q h => by rw [← hAe]; exact Or.inr h
  have hS : va_S A s.heap s.heap [] := va_S.rf
  have hP : va_P (dC, dI) vwCl [(h0, .inr (2, [.null, .int 0]))] s.heap := hP
  have hts := atoms_spec (ws := wsX1_init) B.pre
  have hown : s.vm.findClass RX1 = some m.cls := findClass_of_methodNamed B.named
  have hlocks := B.notSynchronized
  have hl := lv_entry ([.ref h0]) (n := 1) (Nat.le_of_ble_eq_true rfl)
  rw [lg_entry_eq]
  generalize (lg_sl ([.ref h0]) ++ List.replicate (1 - (lg_sl ([.ref h0])).length) Slot.unset).toArray = ls at hl ⊢
  have hl : lv_has ls 1 [(0, .ref h0)] := hl
  refine lv_aload_n hx hb dX1_init_0 rfl (lv_at hl 0 rfl) ?_
  refine W.objInit hx hb hown (hts (.methodLink RX1 1 objectInit) (by decide +kernel)) (hts (.instanceMethod objectInit) (by decide +kernel)) (hts (.code objectInit ⟨#[0xb1]⟩ 1 none) (List.mem_of_getElem? (i := 3) rfl)) rfl (by rw [hml]; exact hl.1) rfl dX1_init_1 (Nat.le_of_ble_eq_true rfl) (Nat.le_of_ble_eq_true rfl) ?_
  refine W.eq (g2 := F0 m 4 ls []) rfl ?_
  refine lv_aload_n hx hb dX1_init_4 rfl (lv_at hl 0 rfl) ?_
  refine lv_bipush (v := 16) hx hb dX1_init_5 (by decide) ?_
  refine va_newa (atype := .byte) (N' := 16) (a0 := (16, .inl (fun _ => 0))) (ty := .byte) (n := 16) hx hb (hts (.arrayClass .byte) (by decide +kernel)) rfl hK hP hD hS hA (fun _ => rfl) (by decide) (by decide) (by decide) (Nat.le_of_ble_eq_true rfl) (Nat.le_of_ble_eq_true rfl) dX1_init_7 (fun q1 c1 H hK hP hD hS => ?_)
  have hP : va_P (dC, dI) vwCl [(h0, .inr (2, [.null, .int 0])), (q1, .inl (c1, 16, .inl (fun _ => 0)))] H := hP
  have hD : va_D A [(h0, .inr (2, [.null, .int 0])), (q1, .inl (c1, 16, .inl (fun _ => 0)))] := hD
  have hK : va_K (dC, dI) vwCl [(c1, .byte)] s := hK
  refine W.widen (k := 1) (n := 16) (by omega) (by omega) ?_
  refine va_putF (D := (dC, dI)) (ci := 2) (v := .ref q1) (ty := .array .byte) (C := RX1) (T := TX1) (N := 2) hx hb hts inn_X1_init_X1 tyX1 tyX1_ok nmX1 hown hK hP hD hS 0 rfl rfl 0 (by decide) (hts (.fieldLink RX1 9 "DoorKeys$Frame" "octets" "[B") (by decide +kernel)) (fun _ h9 => h9) rfl hin rfl (by decide +kernel) rfl rfl (Nat.le_of_ble_eq_true rfl) dX1_init_9 (fun H locs hP hD hS => ?_)
  have hP : va_P (dC, dI) vwCl [(h0, .inr (2, [.ref q1, .int 0])), (q1, .inl (c1, 16, .inl (fun _ => 0)))] H := hP
  have hD : va_D A [(h0, .inr (2, [.ref q1, .int 0])), (q1, .inl (c1, 16, .inl (fun _ => 0)))] := hD
  exact W.vret hx hb hr (fun t ht hW => ⟨⟨(q1, c1), rfl, trivial, by rw [ht]; exact hP, va_K.moved hW.alike hK, hD⟩, hS.F ht⟩) hS.2.2 dX1_init_12
abbrev at_Doors (dC : Nat → ClassId) (dI : Nat → Nat → Nat) (A : Nat → Prop) (h0 : Nat) (u : Nat × ClassId × (Nat → Int32)) (t : State) : Prop := va_P (dC, dI) vwCl [(h0, .inr (1, [.ref u.1, .long 0, .long 0])), (u.1, .inl (u.2.1, 5, .inl u.2.2))] t.heap ∧ va_K (dC, dI) vwCl [(u.2.1, .int)] t ∧ va_D A [(h0, .inr (1, [.ref u.1, .long 0, .long 0])), (u.1, .inl (u.2.1, 5, .inl u.2.2))]
def rm_X0_init : Room := { frames := 1, cells := 1, slots := 5, locals := 12 }
set_option maxHeartbeats 4000000 in
set_option maxRecDepth 100000 in
theorem c_X0_init (l : Launch) (dC : Nat → ClassId) (dI : Nat → Nat → Nat) (h0 sz : Nat) : Met l yX0_init wsX0_init rm_X0_init (va_Pc [.ref h0] (fun U => U.heap.size = sz ∧ va_P (dC, dI) vwCl [(h0, .inr (1, [.null, .long 0, .long 0]))] U.heap ∧ va_K (dC, dI) vwCl [] U ∧ va_D (fun _ => True) [(h0, .inr (1, [.null, .long 0, .long 0]))])) (va_Qv (fun u : Nat × ClassId × (Nat → Int32) => ∀ j, j < 5 → u.2.2 j = 1) (at_Doors dC dI (va_A [(h0, .inr (1, [.null, .long 0, .long 0]))] sz) h0) (va_A [(h0, .inr (1, [.null, .long 0, .long 0]))] sz)) 1 5 (va_A [(h0, .inr (1, [.null, .long 0, .long 0]))] sz) := by
  refine Met.ofW (cc := cX0_init) (maxL := 2) (ret := none) (by decide) rfl ?_
  intro p e s m args below meth c s₁ B hml hv
  have hx := B.exec
  have hb := B.bytes
  have hr := B.returns
  have hin : meth.name = "<init>" := (name_of_methodNamed B.named B.method).1
  obtain ⟨rfl, hsz, hP, hK, hD0⟩ := hv
  subst hsz
  have hD := hD0.self (sz := s.heap.size)
  generalize hAe : va_A [(h0, .inr (1, [.null, .long 0, .long 0]))] s.heap.size = A at hD ⊢
  have hA : ∀ q : Nat, s.heap.size ≤ q → A q := fun q h => by rw [← hAe]; exact Or.inr h
  have hS : va_S A s.heap s.heap [] := va_S.rf
  have hP : va_P (dC, dI) vwCl [(h0, .inr (1, [.null, .long 0, .long 0]))] s.heap := hP
  have hts := atoms_spec (ws := wsX0_init) B.pre
  have hown : s.vm.findClass RX0 = some m.cls := findClass_of_methodNamed B.named
  have hlocks := B.notSynchronized
  have hl := lv_entry ([.ref h0]) (n := 2) (Nat.le_of_ble_eq_true rfl)
  rw [lg_entry_eq]
  generalize (lg_sl ([.ref h0]) ++ List.replicate (2 - (lg_sl ([.ref h0])).length) Slot.unset).toArray = ls at hl ⊢
  have hl : lv_has ls 2 [(0, .ref h0)] := hl
  refine lv_aload_n hx hb dX0_init_0 rfl (lv_at hl 0 rfl) ?_
  refine W.objInit hx hb hown (hts (.methodLink RX0 3 objectInit) (by decide +kernel)) (hts (.instanceMethod objectInit) (by decide +kernel)) (hts (.code objectInit ⟨#[0xb1]⟩ 1 none) (List.mem_of_getElem? (i := 3) rfl)) rfl (by rw [hml]; exact hl.1) rfl dX0_init_1 (Nat.le_of_ble_eq_true rfl) (Nat.le_of_ble_eq_true rfl) ?_
  refine W.eq (g2 := F0 m 4 ls []) rfl ?_
  refine lv_aload_n hx hb dX0_init_4 rfl (lv_at hl 0 rfl) ?_
  refine lv_iconst (v := 5) hx hb dX0_init_5 (by decide) ?_
  refine va_newa (atype := .int) (N' := 5) (a0 := (5, .inl (fun _ => 0))) (ty := .int) (n := 5) hx hb (hts (.arrayClass .int) (by decide +kernel)) rfl hK hP hD hS hA (fun _ => rfl) (by decide) (by decide) (by decide) (Nat.le_of_ble_eq_true rfl) (Nat.le_of_ble_eq_true rfl) dX0_init_6 (fun q1 c1 H hK hP hD hS => ?_)
  have hP : va_P (dC, dI) vwCl [(h0, .inr (1, [.null, .long 0, .long 0])), (q1, .inl (c1, 5, .inl (fun _ => 0)))] H := hP
  have hD : va_D A [(h0, .inr (1, [.null, .long 0, .long 0])), (q1, .inl (c1, 5, .inl (fun _ => 0)))] := hD
  have hK : va_K (dC, dI) vwCl [(c1, .int)] s := hK
  refine W.widen (k := 1) (n := 5) (by omega) (by omega) ?_
  refine va_putF (D := (dC, dI)) (ci := 1) (v := .ref q1) (ty := .array .int) (C := RX0) (T := TX0) (N := 3) hx hb hts inn_X0_init_X0 tyX0 tyX0_ok nmX0 hown hK hP hD hS 0 rfl rfl 0 (by decide) (hts (.fieldLink RX0 11 "DoorKeys$Doors" "states" "[I") (by decide +kernel)) (fun _ h9 => h9) rfl hin rfl (by decide +kernel) rfl rfl (Nat.le_of_ble_eq_true rfl) dX0_init_8 (fun H locs hP hD hS => ?_)
  have hP : va_P (dC, dI) vwCl [(h0, .inr (1, [.ref q1, .long 0, .long 0])), (q1, .inl (c1, 5, .inl (fun _ => 0)))] H := hP
  have hD : va_D A [(h0, .inr (1, [.ref q1, .long 0, .long 0])), (q1, .inl (c1, 5, .inl (fun _ => 0)))] := hD
  refine lv_iconst (v := 0) hx hb dX0_init_11 (by decide) ?_
  refine lv_istore_n (lv' := [(1, .int 0), (0, .ref h0)]) hx hb dX0_init_12 rfl hl (by decide) rfl (fun ls hl => ?_)
  have lp : ∀ (r j : Nat) (f : Nat → Int32), j + r = 5 → (∀ i, i < j → f i = 1) → ∀ (H : Heap) (locs : List Loc), va_P (dC, dI) vwCl [(h0, .inr (1, [.ref q1, .long 0, .long 0])), (q1, .inl (c1, 5, .inl f))] H → va_D A [(h0, .inr (1, [.ref q1, .long 0, .long 0])), (q1, .inl (c1, 5, .inl f))] → va_S A s.heap H locs → ∀ ls : Array Slot, lv_has ls 2 [(1, .int (nI j)), (0, .ref h0)] → W p l e (headSpec wsX0_init rm_X0_init).room s m ([.ref h0] : List Value).toArray below meth c H locs 1 5 (MQ below (va_Qv (fun u : Nat × ClassId × (Nat → Int32) => ∀ j, j < 5 → u.2.2 j = 1) (at_Doors dC dI A h0) A) ([.ref h0] : List Value).toArray s 1 5 A) (F0 m 13 ls []) := by
    intro r
    induction r with
    | zero =>
      intro j f hj hf H locs hP hD hS ls hl
      refine lv_iload_n hx hb dX0_init_13 rfl (lv_at hl 0 rfl) ?_
      refine lv_iconst (v := 5) hx hb dX0_init_14 (by decide) ?_
      refine lv_icmp_ge (tgt := 31) hx hb dX0_init_15 (by decide) (fun c_15 => ?_) (fun c_15 => (c_15 (nI_le (a := 5) (b := j) (by omega) (by omega))).elim)
      exact W.vret hx hb hr (fun t ht hW => ⟨⟨(q1, c1, f), rfl, fun i hi => hf i (by omega), by rw [ht]; exact hP, va_K.moved hW.alike hK, hD⟩, hS.F ht⟩) hS.2.2 dX0_init_31
    | succ r ih =>
      intro j f hj hf H locs hP hD hS ls hl
      refine lv_iload_n hx hb dX0_init_13 rfl (lv_at hl 0 rfl) ?_
      refine lv_iconst (v := 5) hx hb dX0_init_14 (by decide) ?_
      refine lv_icmp_ge (tgt := 31) hx hb dX0_init_15 (by decide) (fun c_15 => (nI_ge (a := j) (b := 5) (by omega) (by omega) c_15).elim) (fun c_15 => ?_)
      refine lv_aload_n hx hb dX0_init_18 rfl (lv_at hl 1 rfl) ?_
      refine va_get (D := (dC, dI)) (ci := 1) (v := .ref q1) (C := RX0) (T := TX0) (N := 3) hx hb hts inn_X0_init_X0 hown hK hP 0 rfl rfl 0 (by decide) (hts (.fieldLink RX0 11 "DoorKeys$Doors" "states" "[I") (by decide +kernel)) (fun _ h9 => h9) rfl dX0_init_19 ?_
      refine lv_iload_n hx hb dX0_init_22 rfl (lv_at hl 0 rfl) ?_
      refine lv_iconst (v := 1) hx hb dX0_init_23 (by decide) ?_
      refine va_iast hx hb hK hP hD hS 1 0 rfl rfl (vp_in_nI (n := j) (N := 5) (by omega) (by decide)) dX0_init_24 (fun H locs hP hD hS => ?_)
      have hP : va_P (dC, dI) vwCl [(h0, .inr (1, [.ref q1, .long 0, .long 0])), (q1, .inl (c1, 5, .inl (upd f (nI j).toNatClampNeg 1)))] H := hP
      have hD : va_D A [(h0, .inr (1, [.ref q1, .long 0, .long 0])), (q1, .inl (c1, 5, .inl (upd f (nI j).toNatClampNeg 1)))] := hD
      refine lv_iinc (v := (nI (j + 1))) (lv' := [(1, .int (nI (j + 1))), (0, .ref h0)]) hx hb dX0_init_25 hl (k := 0) rfl (nI_1 _) (by decide) rfl (fun ls hl => ?_)
      refine lv_goto (tgt := 13) hx hb dX0_init_28 (by decide) ?_
      refine ih (j + 1) _ (by omega) (fun i hi => ?_) _ _ hP hD hS ls hl
      rw [nI_clamp (show j < 2 ^ 31 by omega)]
      by_cases h : i = j
      · rw [h]; exact pk_us
      · rw [pk_un h]; exact hf i (by omega)
  exact lp 5 0 _ (by omega) (fun i hi => absurd hi (by omega)) _ _ hP hD hS ls hl
def rm_X2_init : Room := { frames := 1, cells := 0, slots := 0, locals := 12 }
set_option maxHeartbeats 4000000 in
set_option maxRecDepth 100000 in
theorem c_X2_init (l : Launch) (dC : Nat → ClassId) (dI : Nat → Nat → Nat) (h0 : Nat) (x : Int64) (y z : Int32) (hz1 : narrow .boolean (.int z) = .int z) (hz2 : fits .boolean (.int z) = true) : Met l yX2_init wsX2_init rm_X2_init (up_P (dC, dI) vwCl [] [(h0, kcell (0, 0, 0, 0, 0, 0, 0))] [.ref h0, .long x, .int y, .int z]) (up_Q (dC, dI) vwCl none [(h0, kcell (0, 0, 0, 0, 0, 0, 0))] [(h0, kcell (x, y, -1, z, 0, 0, 0))]) 0 0 (up_c [(h0, kcell (0, 0, 0, 0, 0, 0, 0))]) := by
  refine Met.ofW (cc := cX2_init) (maxL := 5) (ret := none) (by decide) rfl ?_
  intro p e s m args below meth c s₁ B hml hv
  have hx := B.exec
  have hb := B.bytes
  have hr := B.returns
  have hin : meth.name = "<init>" := (name_of_methodNamed B.named B.method).1
  obtain ⟨rfl, hP, hK, hD0⟩ := hv
  have hD := up_self hD0
  have hS : va_S (up_c [(h0, kcell (0, 0, 0, 0, 0, 0, 0))]) s.heap s.heap [] := va_S.rf
  have hts := atoms_spec (ws := wsX2_init) B.pre
  have hown : s.vm.findClass RX2 = some m.cls := findClass_of_methodNamed B.named
  have hlocks := B.notSynchronized
  have hl := lv_entry ([.ref h0, .long x, .int y, .int z]) (n := 5) (Nat.le_of_ble_eq_true rfl)
  rw [lg_entry_eq]
  generalize (lg_sl ([.ref h0, .long x, .int y, .int z]) ++ List.replicate (5 - (lg_sl ([.ref h0, .long x, .int y, .int z])).length) Slot.unset).toArray = ls at hl ⊢
  have hl : lv_has ls 5 [(0, .ref h0), (1, .long x), (3, .int y), (4, .int z)] := hl
  refine lv_aload_n hx hb dX2_init_0 rfl (lv_at hl 0 rfl) ?_
  refine W.objInit hx hb hown (hts (.methodLink RX2 3 objectInit) (by decide +kernel)) (hts (.instanceMethod objectInit) (by decide +kernel)) (hts (.code objectInit ⟨#[0xb1]⟩ 1 none) (List.mem_of_getElem? (i := 3) rfl)) rfl (by rw [hml]; exact hl.1) rfl dX2_init_1 (Nat.le_of_ble_eq_true rfl) (Nat.le_of_ble_eq_true rfl) ?_
  refine W.eq (g2 := F0 m 4 ls []) rfl ?_
  refine lv_aload_n hx hb dX2_init_4 rfl (lv_at hl 0 rfl) ?_
  refine lv_lload_n hx hb dX2_init_5 rfl (lv_at hl 1 rfl) ?_
  refine va_putF (D := (dC, dI)) (ci := 3) (v := .long x) (ty := .long) (C := RX2) (T := TX2) (N := 7) hx hb hts inn_X2_init_X2 tyX2 tyX2_ok nmX2 hown hK hP hD hS 0 rfl rfl 0 (by decide) (hts (.fieldLink RX2 9 "DoorKeys$Key" "secret" "J") (by decide +kernel)) (fun _ h9 => h9) rfl hin rfl (by decide +kernel) rfl rfl (Nat.le_of_ble_eq_true rfl) dX2_init_6 (fun H locs hP hD hS => ?_)
  have hP : va_P (dC, dI) vwCl [(h0, .inr (3, [.long x, .int 0, .int 0, .int 0, .int 0, .int 0, .int 0]))] H := hP
  have hD : va_D (up_c [(h0, kcell (0, 0, 0, 0, 0, 0, 0))]) [(h0, .inr (3, [.long x, .int 0, .int 0, .int 0, .int 0, .int 0, .int 0]))] := hD
  refine lv_aload_n hx hb dX2_init_9 rfl (lv_at hl 0 rfl) ?_
  refine lv_iload_n hx hb dX2_init_10 rfl (lv_at hl 2 rfl) ?_
  refine va_put (D := (dC, dI)) (ci := 3) (v := .int y) (ty := .int) (C := RX2) (T := TX2) (N := 7) hx hb hts inn_X2_init_X2 tyX2 tyX2_ok nmX2 hown hK hP hD hS 0 rfl rfl 1 (by decide) (hts (.fieldLink RX2 15 "DoorKeys$Key" "counter" "I") (by decide +kernel)) (fun _ h9 => h9) rfl (by decide +kernel) rfl rfl (Nat.le_of_ble_eq_true rfl) dX2_init_11 (fun H locs hP hD hS => ?_)
  have hP : va_P (dC, dI) vwCl [(h0, .inr (3, [.long x, .int y, .int 0, .int 0, .int 0, .int 0, .int 0]))] H := hP
  have hD : va_D (up_c [(h0, kcell (0, 0, 0, 0, 0, 0, 0))]) [(h0, .inr (3, [.long x, .int y, .int 0, .int 0, .int 0, .int 0, .int 0]))] := hD
  refine lv_aload_n hx hb dX2_init_14 rfl (lv_at hl 0 rfl) ?_
  refine lv_iconst (v := (-1)) hx hb dX2_init_15 (by decide) ?_
  refine va_put (D := (dC, dI)) (ci := 3) (v := .int (-1)) (ty := .int) (C := RX2) (T := TX2) (N := 7) hx hb hts inn_X2_init_X2 tyX2 tyX2_ok nmX2 hown hK hP hD hS 0 rfl rfl 2 (by decide) (hts (.fieldLink RX2 19 "DoorKeys$Key" "awaited" "I") (by decide +kernel)) (fun _ h9 => h9) rfl (by decide +kernel) rfl rfl (Nat.le_of_ble_eq_true rfl) dX2_init_16 (fun H locs hP hD hS => ?_)
  have hP : va_P (dC, dI) vwCl [(h0, .inr (3, [.long x, .int y, .int (-1), .int 0, .int 0, .int 0, .int 0]))] H := hP
  have hD : va_D (up_c [(h0, kcell (0, 0, 0, 0, 0, 0, 0))]) [(h0, .inr (3, [.long x, .int y, .int (-1), .int 0, .int 0, .int 0, .int 0]))] := hD
  refine lv_aload_n hx hb dX2_init_19 rfl (lv_at hl 0 rfl) ?_
  refine lv_iload hx hb dX2_init_20 (lv_at hl 3 rfl) ?_
  refine va_put (D := (dC, dI)) (ci := 3) (v := .int z) (ty := .boolean) (C := RX2) (T := TX2) (N := 7) hx hb hts inn_X2_init_X2 tyX2 tyX2_ok nmX2 hown hK hP hD hS 0 rfl rfl 3 (by decide) (hts (.fieldLink RX2 22 "DoorKeys$Key" "learned" "Z") (by decide +kernel)) (fun _ h9 => h9) rfl (by decide +kernel) hz1 hz2 (Nat.le_of_ble_eq_true rfl) dX2_init_22 (fun H locs hP hD hS => ?_)
  have hP : va_P (dC, dI) vwCl [(h0, .inr (3, [.long x, .int y, .int (-1), .int z, .int 0, .int 0, .int 0]))] H := hP
  have hD : va_D (up_c [(h0, kcell (0, 0, 0, 0, 0, 0, 0))]) [(h0, .inr (3, [.long x, .int y, .int (-1), .int z, .int 0, .int 0, .int 0]))] := hD
  exact W.vret hx hb hr (fun t ht hW => ⟨rfl, by rw [ht]; exact hP, hS.F ht⟩) hS.2.2 dX2_init_25
def dk_span (x : Int32) : Int32 := if x < 1 then 16 else if 32767 < x then 16 else x
theorem dk_k0 (L : Nat → Nat) : (fun i => if i < 0 then some (L i) else none) = fun _ => none := by
  funext i
  simp
abbrev dkW0 (cK cB cI : ClassId) (o ks fa oa fb ob dr ds : Nat) (sp : Int32) (st : Nat → Int32) : va_W := dkW cK cB cI o ks fa oa fb ob dr ds (fun _ => 0) 0 sp fa fb 0 0 0 0 (fun _ => 0) 0 (fun _ => 0) 0 0 st (fun _ => (0, 0, 0, 0, 0, 0, 0))
abbrev DKA : Type := ClassId × ClassId × ClassId × Nat × Nat × Nat × Nat × Nat × Nat × Nat × (Nat → Int32)
abbrev at_DK (dC : Nat → ClassId) (dI : Nat → Nat → Nat) (A : Nat → Prop) (h0 : Nat) (x : Int32) (u : DKA) (t : State) : Prop := match u with
  | (cK, cB, cI, ks, fa, oa, fb, ob, dr, ds, st) => va_P (dC, dI) vwCl (dkW0 cK cB cI h0 ks fa oa fb ob dr ds (dk_span x) st) t.heap ∧ va_K (dC, dI) vwCl (dkT cK cB cI) t ∧ va_D A (dkW0 cK cB cI h0 ks fa oa fb ob dr ds (dk_span x) st)
def rm_X3_init : Room := { frames := 2, cells := 7, slots := 52, locals := 33 }
set_option maxHeartbeats 4000000 in
set_option maxRecDepth 100000 in
theorem c_X3_init (l : Launch) (dC : Nat → ClassId) (dI : Nat → Nat → Nat) (h0 sz : Nat) (x : Int32) : Met l yX3_init wsX3_init rm_X3_init (va_Pc [.ref h0, .int x] (fun U => U.heap.size = sz ∧ va_P (dC, dI) vwCl [(h0, .inr (4, [.int 0, .null, .int 0, .null, .null, .null, .int 0, .int 0, .int 0]))] U.heap ∧ va_K (dC, dI) vwCl [] U ∧ va_D (fun _ => True) [(h0, .inr (4, [.int 0, .null, .int 0, .null, .null, .null, .int 0, .int 0, .int 0]))] ∧ va_AO RX2 U)) (va_Qv (fun u : DKA => ∀ j, j < 5 → u.2.2.2.2.2.2.2.2.2.2 j = 1) (at_DK dC dI (va_A [(h0, .inr (4, [.int 0, .null, .int 0, .null, .null, .null, .int 0, .int 0, .int 0]))] sz) h0 x) (va_A [(h0, .inr (4, [.int 0, .null, .int 0, .null, .null, .null, .int 0, .int 0, .int 0]))] sz)) 7 52 (va_A [(h0, .inr (4, [.int 0, .null, .int 0, .null, .null, .null, .int 0, .int 0, .int 0]))] sz) := by
  refine Met.ofW (cc := cX3_init) (maxL := 2) (ret := none) (by decide) rfl ?_
  intro p e s m args below meth c s₁ B hml hv
  have hx := B.exec
  have hb := B.bytes
  have hr := B.returns
  have hin : meth.name = "<init>" := (name_of_methodNamed B.named B.method).1
  obtain ⟨rfl, hsz, hP, hK, hD0, hO⟩ := hv
  subst hsz
  have hD := hD0.self (sz := s.heap.size)
  generalize hAe : va_A [(h0, .inr (4, [.int 0, .null, .int 0, .null, .null, .null, .int 0, .int 0, .int 0]))] s.heap.size = A at hD ⊢
  have hA : ∀ q : Nat, s.heap.size ≤ q → A q := fun q h => by rw [← hAe]; exact Or.inr h
  have hS : va_S A s.heap s.heap [] := va_S.rf
  have hP : va_P (dC, dI) vwCl [(h0, .inr (4, [.int 0, .null, .int 0, .null, .null, .null, .int 0, .int 0, .int 0]))] s.heap := hP
  have hts := atoms_spec (ws := wsX3_init) B.pre
  have hown : s.vm.findClass RX3 = some m.cls := findClass_of_methodNamed B.named
  have hlocks := B.notSynchronized
  have hl := lv_entry ([.ref h0, .int x]) (n := 2) (Nat.le_of_ble_eq_true rfl)
  rw [lg_entry_eq]
  generalize (lg_sl ([.ref h0, .int x]) ++ List.replicate (2 - (lg_sl ([.ref h0, .int x])).length) Slot.unset).toArray = ls at hl ⊢
  have hl : lv_has ls 2 [(0, .ref h0), (1, .int x)] := hl
  refine lv_aload_n hx hb dX3_init_0 rfl (lv_at hl 0 rfl) ?_
  refine W.objInit hx hb hown (hts (.methodLink RX3 1 objectInit) (by decide +kernel)) (hts (.instanceMethod objectInit) (by decide +kernel)) (hts (.code objectInit ⟨#[0xb1]⟩ 1 none) (List.mem_of_getElem? (i := 3) rfl)) rfl (by rw [hml]; exact hl.1) rfl dX3_init_1 (Nat.le_of_ble_eq_true rfl) (Nat.le_of_ble_eq_true rfl) ?_
  refine W.eq (g2 := F0 m 4 ls []) rfl ?_
  refine lv_aload_n hx hb dX3_init_4 rfl (lv_at hl 0 rfl) ?_
  refine lv_iload_n hx hb dX3_init_5 rfl (lv_at hl 1 rfl) ?_
  refine lv_iconst (v := 1) hx hb dX3_init_6 (by decide) ?_
  refine lv_icmp_lt (tgt := 21) hx hb dX3_init_7 (by decide) (fun c_7 => ?_) (fun c_7 => ?_)
  · have e1 : dk_span x = 16 := by unfold dk_span; exact if_pos c_7
    refine lv_bipush (v := 16) hx hb dX3_init_21 (by decide) ?_
    refine va_putF (D := (dC, dI)) (ci := 4) (v := .int 16) (ty := .int) (C := RX3) (T := TX3) (N := 9) hx hb hts inn_X3_init_X3 tyX3 tyX3_ok nmX3 hown hK hP hD hS 0 rfl rfl 0 (by decide) (hts (.fieldLink RX3 9 "DoorKeys" "span" "I") (by decide +kernel)) (fun _ h9 => h9) rfl hin rfl (by decide +kernel) rfl rfl (Nat.le_of_ble_eq_true rfl) dX3_init_23 (fun H locs hP hD hS => ?_)
    have hP : va_P (dC, dI) vwCl [(h0, .inr (4, [.int 16, .null, .int 0, .null, .null, .null, .int 0, .int 0, .int 0]))] H := hP
    have hD : va_D A [(h0, .inr (4, [.int 16, .null, .int 0, .null, .null, .null, .int 0, .int 0, .int 0]))] := hD
    refine lv_aload_n hx hb dX3_init_26 rfl (lv_at hl 0 rfl) ?_
    refine lv_bipush (v := 8) hx hb dX3_init_27 (by decide) ?_
    refine va_newq (C := RX2) (N' := 8) (n := 8) hx hb hown (hts (.classLink RX3 13 RX2) (by decide +kernel)) hO hK hP hD hS hA (by decide) (by decide) (by decide) (Nat.le_of_ble_eq_true rfl) (Nat.le_of_ble_eq_true rfl) dX3_init_29 (fun ks cK H hK hP hD hS => ?_)
    have hP : va_P (dC, dI) vwCl [(h0, .inr (4, [.int 16, .null, .int 0, .null, .null, .null, .int 0, .int 0, .int 0])), (ks, .inl (cK, 8, .inr (.inr (.inr (.inr (fun _ => none))))))] H := hP
    have hD : va_D A [(h0, .inr (4, [.int 16, .null, .int 0, .null, .null, .null, .int 0, .int 0, .int 0])), (ks, .inl (cK, 8, .inr (.inr (.inr (.inr (fun _ => none))))))] := hD
    have hK : va_K (dC, dI) vwCl [(cK, .object RX2)] s := hK
    refine W.widen (k := 1) (n := 8) (by omega) (by omega) ?_
    refine va_putF (D := (dC, dI)) (ci := 4) (v := .ref ks) (ty := .array (.object "DoorKeys$Key")) (C := RX3) (T := TX3) (N := 9) hx hb hts inn_X3_init_X3 tyX3 tyX3_ok nmX3 hown hK hP hD hS 0 rfl rfl 1 (by decide) (hts (.fieldLink RX3 15 "DoorKeys" "keys" "[LDoorKeys$Key;") (by decide +kernel)) (fun _ h9 => h9) rfl hin rfl (by decide +kernel) rfl rfl (Nat.le_of_ble_eq_true rfl) dX3_init_32 (fun H locs hP hD hS => ?_)
    have hP : va_P (dC, dI) vwCl [(h0, .inr (4, [.int 16, .ref ks, .int 0, .null, .null, .null, .int 0, .int 0, .int 0])), (ks, .inl (cK, 8, .inr (.inr (.inr (.inr (fun _ => none))))))] H := hP
    have hD : va_D A [(h0, .inr (4, [.int 16, .ref ks, .int 0, .null, .null, .null, .int 0, .int 0, .int 0])), (ks, .inl (cK, 8, .inr (.inr (.inr (.inr (fun _ => none))))))] := hD
    refine lv_aload_n hx hb dX3_init_35 rfl (lv_at hl 0 rfl) ?_
    refine va_new (ci := 2) (fs := [.null, .int 0]) (C := RX1) (T := TX1) (N := 2) hx hb hts inn_X3_init_X1 tyX1 tyX1_ok hown (hts (.classLink RX3 19 RX1) (by decide +kernel)) (hts (.instantiable RX1 2) (by decide +kernel)) (hts (.initialized RX1) (by decide +kernel)) hK hP hD hS hA rfl (fun j hj => by rcases (show j = 0 ∨ j = 1 by omega) with rfl | rfl <;> rfl) (Nat.le_of_ble_eq_true rfl) (Nat.le_of_ble_eq_true rfl) dX3_init_36 (fun fa H hP hD hS => ?_)
    have hP : va_P (dC, dI) vwCl [(h0, .inr (4, [.int 16, .ref ks, .int 0, .null, .null, .null, .int 0, .int 0, .int 0])), (ks, .inl (cK, 8, .inr (.inr (.inr (.inr (fun _ => none)))))), (fa, .inr (2, [.null, .int 0]))] H := hP
    have hD : va_D A [(h0, .inr (4, [.int 16, .ref ks, .int 0, .null, .null, .null, .int 0, .int 0, .int 0])), (ks, .inl (cK, 8, .inr (.inr (.inr (.inr (fun _ => none)))))), (fa, .inr (2, [.null, .int 0]))] := hD
    refine W.widen (k := 2) (n := 10) (by omega) (by omega) ?_
    refine lv_dup hx hb dX3_init_39 rfl ?_
    have hPc := hP.sub (ws' := [(fa, .inr (2, [.null, .int 0]))]) [2] rfl
    have hDc := hD.sub (ws' := [(fa, .inr (2, [.null, .int 0]))]) [2] (by decide) rfl
    have hKc := hK.sub (tys' := []) [] rfl
    have hFc := va_free (wc := [(fa, .inr (2, [.null, .int 0]))]) hD hS hA [2] rfl
    refine va_callv (va_runI (As := []) (rest := [.ref fa, .ref h0]) ⟨hx, hb, hml, hown, hts⟩ (c_X1_init l dC dI fa H.size) (cwI 0 hts gX3_init_X1_init rfl rfl rfl (hts (.initialized RX1) (by decide +kernel)) (hts (.methodLink RX3 21 yX1_init) (by decide +kernel)) (hts (.instanceMethod yX1_init) (by decide +kernel)) rfl (by decide +kernel) ⟨Nat.le_of_ble_eq_true rfl, Nat.le_of_ble_eq_true rfl⟩) ⟨fun a U g mk q => by obtain ⟨q0, q1, qP, qK, qD⟩ := q; exact ⟨q0, q1, qP, va_K.moved (u := U) (U := U.calling g mk a) (Vm.Alike.refl U.vm) qK, qD⟩, fun U hU hW => ⟨rfl, by rw [hU], by rw [hU]; exact hPc, va_K.moved hW.alike hKc, hDc.weaken (fun _ _ _ _ => trivial)⟩⟩ rfl rfl hl.1 rfl (lv_room (Nat.le_of_ble_eq_true rfl)) dX3_init_40 ⟨Nat.le_of_ble_eq_true rfl, Nat.le_of_ble_eq_true rfl⟩) hS (fun q _ h => hFc q h) hFc (fun u t H1 locs ht hvm hw hB hz1 hk1 hS => ?_)
    obtain ⟨oa, cB⟩ := u
    obtain ⟨hP1, hK1, hD1⟩ := hB
    rw [ht] at hP1
    have hK1 := va_K.moved hvm.symm hK1
    try dsimp only at hw hP1 hK1 hD1
    obtain ⟨hP, hD⟩ := va_join (wr := [(h0, .inr (4, [.int 16, .ref ks, .int 0, .null, .null, .null, .int 0, .int 0, .int 0])), (ks, .inl (cK, 8, .inr (.inr (.inr (.inr (fun _ => none))))))]) (w1 := [(fa, .inr (2, [.ref oa, .int 0])), (oa, .inl (cB, 16, .inl (fun _ => 0)))]) hP hD [2] [0, 1] rfl rfl (by decide) (by decide) hk1 hFc hP1 hD1
    have hK := hK.app hK1
    generalize H1 = H at hP hS ⊢
    have hP : va_P (dC, dI) vwCl [(h0, .inr (4, [.int 16, .ref ks, .int 0, .null, .null, .null, .int 0, .int 0, .int 0])), (ks, .inl (cK, 8, .inr (.inr (.inr (.inr (fun _ => none)))))), (fa, .inr (2, [.ref oa, .int 0])), (oa, .inl (cB, 16, .inl (fun _ => 0)))] H := hP
    have hD : va_D A [(h0, .inr (4, [.int 16, .ref ks, .int 0, .null, .null, .null, .int 0, .int 0, .int 0])), (ks, .inl (cK, 8, .inr (.inr (.inr (.inr (fun _ => none)))))), (fa, .inr (2, [.ref oa, .int 0])), (oa, .inl (cB, 16, .inl (fun _ => 0)))] := hD
    have hK : va_K (dC, dI) vwCl [(cK, .object RX2), (cB, .byte)] s := hK
    refine W.widen (k := 3) (n := 26) (by omega) (by omega) ?_
    refine va_put (D := (dC, dI)) (ci := 4) (v := .ref fa) (ty := .object "DoorKeys$Frame") (C := RX3) (T := TX3) (N := 9) hx hb hts inn_X3_init_X3 tyX3 tyX3_ok nmX3 hown hK hP hD hS 0 rfl rfl 3 (by decide) (hts (.fieldLink RX3 22 "DoorKeys" "coming" "LDoorKeys$Frame;") (by decide +kernel)) (fun _ h9 => h9) rfl (by decide +kernel) rfl rfl (Nat.le_of_ble_eq_true rfl) dX3_init_43 (fun H locs hP hD hS => ?_)
    have hP : va_P (dC, dI) vwCl [(h0, .inr (4, [.int 16, .ref ks, .int 0, .ref fa, .null, .null, .int 0, .int 0, .int 0])), (ks, .inl (cK, 8, .inr (.inr (.inr (.inr (fun _ => none)))))), (fa, .inr (2, [.ref oa, .int 0])), (oa, .inl (cB, 16, .inl (fun _ => 0)))] H := hP
    have hD : va_D A [(h0, .inr (4, [.int 16, .ref ks, .int 0, .ref fa, .null, .null, .int 0, .int 0, .int 0])), (ks, .inl (cK, 8, .inr (.inr (.inr (.inr (fun _ => none)))))), (fa, .inr (2, [.ref oa, .int 0])), (oa, .inl (cB, 16, .inl (fun _ => 0)))] := hD
    refine lv_aload_n hx hb dX3_init_46 rfl (lv_at hl 0 rfl) ?_
    refine va_new (ci := 2) (fs := [.null, .int 0]) (C := RX1) (T := TX1) (N := 2) hx hb hts inn_X3_init_X1 tyX1 tyX1_ok hown (hts (.classLink RX3 19 RX1) (by decide +kernel)) (hts (.instantiable RX1 2) (by decide +kernel)) (hts (.initialized RX1) (by decide +kernel)) hK hP hD hS hA rfl (fun j hj => by rcases (show j = 0 ∨ j = 1 by omega) with rfl | rfl <;> rfl) (Nat.le_of_ble_eq_true rfl) (Nat.le_of_ble_eq_true rfl) dX3_init_47 (fun fb H hP hD hS => ?_)
    have hP : va_P (dC, dI) vwCl [(h0, .inr (4, [.int 16, .ref ks, .int 0, .ref fa, .null, .null, .int 0, .int 0, .int 0])), (ks, .inl (cK, 8, .inr (.inr (.inr (.inr (fun _ => none)))))), (fa, .inr (2, [.ref oa, .int 0])), (oa, .inl (cB, 16, .inl (fun _ => 0))), (fb, .inr (2, [.null, .int 0]))] H := hP
    have hD : va_D A [(h0, .inr (4, [.int 16, .ref ks, .int 0, .ref fa, .null, .null, .int 0, .int 0, .int 0])), (ks, .inl (cK, 8, .inr (.inr (.inr (.inr (fun _ => none)))))), (fa, .inr (2, [.ref oa, .int 0])), (oa, .inl (cB, 16, .inl (fun _ => 0))), (fb, .inr (2, [.null, .int 0]))] := hD
    refine W.widen (k := 4) (n := 28) (by omega) (by omega) ?_
    refine lv_dup hx hb dX3_init_50 rfl ?_
    have hPc := hP.sub (ws' := [(fb, .inr (2, [.null, .int 0]))]) [4] rfl
    have hDc := hD.sub (ws' := [(fb, .inr (2, [.null, .int 0]))]) [4] (by decide) rfl
    have hKc := hK.sub (tys' := []) [] rfl
    have hFc := va_free (wc := [(fb, .inr (2, [.null, .int 0]))]) hD hS hA [4] rfl
    refine va_callv (va_runI (As := []) (rest := [.ref fb, .ref h0]) ⟨hx, hb, hml, hown, hts⟩ (c_X1_init l dC dI fb H.size) (cwI 0 hts gX3_init_X1_init rfl rfl rfl (hts (.initialized RX1) (by decide +kernel)) (hts (.methodLink RX3 21 yX1_init) (by decide +kernel)) (hts (.instanceMethod yX1_init) (by decide +kernel)) rfl (by decide +kernel) ⟨Nat.le_of_ble_eq_true rfl, Nat.le_of_ble_eq_true rfl⟩) ⟨fun a U g mk q => by obtain ⟨q0, q1, qP, qK, qD⟩ := q; exact ⟨q0, q1, qP, va_K.moved (u := U) (U := U.calling g mk a) (Vm.Alike.refl U.vm) qK, qD⟩, fun U hU hW => ⟨rfl, by rw [hU], by rw [hU]; exact hPc, va_K.moved hW.alike hKc, hDc.weaken (fun _ _ _ _ => trivial)⟩⟩ rfl rfl hl.1 rfl (lv_room (Nat.le_of_ble_eq_true rfl)) dX3_init_51 ⟨Nat.le_of_ble_eq_true rfl, Nat.le_of_ble_eq_true rfl⟩) hS (fun q _ h => hFc q h) hFc (fun u t H1 locs ht hvm hw hB hz1 hk1 hS => ?_)
    obtain ⟨ob, cB2⟩ := u
    obtain ⟨hP1, hK1, hD1⟩ := hB
    rw [ht] at hP1
    have hK1 := va_K.moved hvm.symm hK1
    try dsimp only at hw hP1 hK1 hD1
    obtain ⟨hP, hD⟩ := va_join (wr := [(h0, .inr (4, [.int 16, .ref ks, .int 0, .ref fa, .null, .null, .int 0, .int 0, .int 0])), (ks, .inl (cK, 8, .inr (.inr (.inr (.inr (fun _ => none)))))), (fa, .inr (2, [.ref oa, .int 0])), (oa, .inl (cB, 16, .inl (fun _ => 0)))]) (w1 := [(fb, .inr (2, [.ref ob, .int 0])), (ob, .inl (cB2, 16, .inl (fun _ => 0)))]) hP hD [4] [0, 1, 2, 3] rfl rfl (by decide) (by decide) hk1 hFc hP1 hD1
    have hK := hK.app hK1
    generalize H1 = H at hP hS ⊢
    have hP : va_P (dC, dI) vwCl [(h0, .inr (4, [.int 16, .ref ks, .int 0, .ref fa, .null, .null, .int 0, .int 0, .int 0])), (ks, .inl (cK, 8, .inr (.inr (.inr (.inr (fun _ => none)))))), (fa, .inr (2, [.ref oa, .int 0])), (oa, .inl (cB, 16, .inl (fun _ => 0))), (fb, .inr (2, [.ref ob, .int 0])), (ob, .inl (cB2, 16, .inl (fun _ => 0)))] H := hP
    have hD : va_D A [(h0, .inr (4, [.int 16, .ref ks, .int 0, .ref fa, .null, .null, .int 0, .int 0, .int 0])), (ks, .inl (cK, 8, .inr (.inr (.inr (.inr (fun _ => none)))))), (fa, .inr (2, [.ref oa, .int 0])), (oa, .inl (cB, 16, .inl (fun _ => 0))), (fb, .inr (2, [.ref ob, .int 0])), (ob, .inl (cB2, 16, .inl (fun _ => 0)))] := hD
    have hK : va_K (dC, dI) vwCl [(cK, .object RX2), (cB, .byte), (cB2, .byte)] s := hK
    refine W.widen (k := 5) (n := 44) (by omega) (by omega) ?_
    refine va_put (D := (dC, dI)) (ci := 4) (v := .ref fb) (ty := .object "DoorKeys$Frame") (C := RX3) (T := TX3) (N := 9) hx hb hts inn_X3_init_X3 tyX3 tyX3_ok nmX3 hown hK hP hD hS 0 rfl rfl 4 (by decide) (hts (.fieldLink RX3 26 "DoorKeys" "ended" "LDoorKeys$Frame;") (by decide +kernel)) (fun _ h9 => h9) rfl (by decide +kernel) rfl rfl (Nat.le_of_ble_eq_true rfl) dX3_init_54 (fun H locs hP hD hS => ?_)
    have hP : va_P (dC, dI) vwCl [(h0, .inr (4, [.int 16, .ref ks, .int 0, .ref fa, .ref fb, .null, .int 0, .int 0, .int 0])), (ks, .inl (cK, 8, .inr (.inr (.inr (.inr (fun _ => none)))))), (fa, .inr (2, [.ref oa, .int 0])), (oa, .inl (cB, 16, .inl (fun _ => 0))), (fb, .inr (2, [.ref ob, .int 0])), (ob, .inl (cB2, 16, .inl (fun _ => 0)))] H := hP
    have hD : va_D A [(h0, .inr (4, [.int 16, .ref ks, .int 0, .ref fa, .ref fb, .null, .int 0, .int 0, .int 0])), (ks, .inl (cK, 8, .inr (.inr (.inr (.inr (fun _ => none)))))), (fa, .inr (2, [.ref oa, .int 0])), (oa, .inl (cB, 16, .inl (fun _ => 0))), (fb, .inr (2, [.ref ob, .int 0])), (ob, .inl (cB2, 16, .inl (fun _ => 0)))] := hD
    refine lv_aload_n hx hb dX3_init_57 rfl (lv_at hl 0 rfl) ?_
    refine va_new (ci := 1) (fs := [.null, .long 0, .long 0]) (C := RX0) (T := TX0) (N := 3) hx hb hts inn_X3_init_X0 tyX0 tyX0_ok hown (hts (.classLink RX3 29 RX0) (by decide +kernel)) (hts (.instantiable RX0 3) (by decide +kernel)) (hts (.initialized RX0) (by decide +kernel)) hK hP hD hS hA rfl (fun j hj => by rcases (show j = 0 ∨ j = 1 ∨ j = 2 by omega) with rfl | rfl | rfl <;> rfl) (Nat.le_of_ble_eq_true rfl) (Nat.le_of_ble_eq_true rfl) dX3_init_58 (fun dr H hP hD hS => ?_)
    have hP : va_P (dC, dI) vwCl [(h0, .inr (4, [.int 16, .ref ks, .int 0, .ref fa, .ref fb, .null, .int 0, .int 0, .int 0])), (ks, .inl (cK, 8, .inr (.inr (.inr (.inr (fun _ => none)))))), (fa, .inr (2, [.ref oa, .int 0])), (oa, .inl (cB, 16, .inl (fun _ => 0))), (fb, .inr (2, [.ref ob, .int 0])), (ob, .inl (cB2, 16, .inl (fun _ => 0))), (dr, .inr (1, [.null, .long 0, .long 0]))] H := hP
    have hD : va_D A [(h0, .inr (4, [.int 16, .ref ks, .int 0, .ref fa, .ref fb, .null, .int 0, .int 0, .int 0])), (ks, .inl (cK, 8, .inr (.inr (.inr (.inr (fun _ => none)))))), (fa, .inr (2, [.ref oa, .int 0])), (oa, .inl (cB, 16, .inl (fun _ => 0))), (fb, .inr (2, [.ref ob, .int 0])), (ob, .inl (cB2, 16, .inl (fun _ => 0))), (dr, .inr (1, [.null, .long 0, .long 0]))] := hD
    refine W.widen (k := 6) (n := 47) (by omega) (by omega) ?_
    refine lv_dup hx hb dX3_init_61 rfl ?_
    have hPc := hP.sub (ws' := [(dr, .inr (1, [.null, .long 0, .long 0]))]) [6] rfl
    have hDc := hD.sub (ws' := [(dr, .inr (1, [.null, .long 0, .long 0]))]) [6] (by decide) rfl
    have hKc := hK.sub (tys' := []) [] rfl
    have hFc := va_free (wc := [(dr, .inr (1, [.null, .long 0, .long 0]))]) hD hS hA [6] rfl
    refine va_callv (va_runI (As := []) (rest := [.ref dr, .ref h0]) ⟨hx, hb, hml, hown, hts⟩ (c_X0_init l dC dI dr H.size) (cwI 0 hts gX3_init_X0_init rfl rfl rfl (hts (.initialized RX0) (by decide +kernel)) (hts (.methodLink RX3 31 yX0_init) (by decide +kernel)) (hts (.instanceMethod yX0_init) (by decide +kernel)) rfl (by decide +kernel) ⟨Nat.le_of_ble_eq_true rfl, Nat.le_of_ble_eq_true rfl⟩) ⟨fun a U g mk q => by obtain ⟨q0, q1, qP, qK, qD⟩ := q; exact ⟨q0, q1, qP, va_K.moved (u := U) (U := U.calling g mk a) (Vm.Alike.refl U.vm) qK, qD⟩, fun U hU hW => ⟨rfl, by rw [hU], by rw [hU]; exact hPc, va_K.moved hW.alike hKc, hDc.weaken (fun _ _ _ _ => trivial)⟩⟩ rfl rfl hl.1 rfl (lv_room (Nat.le_of_ble_eq_true rfl)) dX3_init_62 ⟨Nat.le_of_ble_eq_true rfl, Nat.le_of_ble_eq_true rfl⟩) hS (fun q _ h => hFc q h) hFc (fun u t H1 locs ht hvm hw hB hz1 hk1 hS => ?_)
    obtain ⟨ds, cI, st⟩ := u
    obtain ⟨hP1, hK1, hD1⟩ := hB
    rw [ht] at hP1
    have hK1 := va_K.moved hvm.symm hK1
    try dsimp only at hw hP1 hK1 hD1
    obtain ⟨hP, hD⟩ := va_join (wr := [(h0, .inr (4, [.int 16, .ref ks, .int 0, .ref fa, .ref fb, .null, .int 0, .int 0, .int 0])), (ks, .inl (cK, 8, .inr (.inr (.inr (.inr (fun _ => none)))))), (fa, .inr (2, [.ref oa, .int 0])), (oa, .inl (cB, 16, .inl (fun _ => 0))), (fb, .inr (2, [.ref ob, .int 0])), (ob, .inl (cB2, 16, .inl (fun _ => 0)))]) (w1 := [(dr, .inr (1, [.ref ds, .long 0, .long 0])), (ds, .inl (cI, 5, .inl st))]) hP hD [6] [0, 1, 2, 3, 4, 5] rfl rfl (by decide) (by decide) hk1 hFc hP1 hD1
    have hK := hK.app hK1
    generalize H1 = H at hP hS ⊢
    have hP : va_P (dC, dI) vwCl [(h0, .inr (4, [.int 16, .ref ks, .int 0, .ref fa, .ref fb, .null, .int 0, .int 0, .int 0])), (ks, .inl (cK, 8, .inr (.inr (.inr (.inr (fun _ => none)))))), (fa, .inr (2, [.ref oa, .int 0])), (oa, .inl (cB, 16, .inl (fun _ => 0))), (fb, .inr (2, [.ref ob, .int 0])), (ob, .inl (cB2, 16, .inl (fun _ => 0))), (dr, .inr (1, [.ref ds, .long 0, .long 0])), (ds, .inl (cI, 5, .inl st))] H := hP
    have hD : va_D A [(h0, .inr (4, [.int 16, .ref ks, .int 0, .ref fa, .ref fb, .null, .int 0, .int 0, .int 0])), (ks, .inl (cK, 8, .inr (.inr (.inr (.inr (fun _ => none)))))), (fa, .inr (2, [.ref oa, .int 0])), (oa, .inl (cB, 16, .inl (fun _ => 0))), (fb, .inr (2, [.ref ob, .int 0])), (ob, .inl (cB2, 16, .inl (fun _ => 0))), (dr, .inr (1, [.ref ds, .long 0, .long 0])), (ds, .inl (cI, 5, .inl st))] := hD
    have hK : va_K (dC, dI) vwCl [(cK, .object RX2), (cB, .byte), (cB2, .byte), (cI, .int)] s := hK
    refine W.widen (k := 7) (n := 52) (by omega) (by omega) ?_
    refine va_putF (D := (dC, dI)) (ci := 4) (v := .ref dr) (ty := .object "DoorKeys$Doors") (C := RX3) (T := TX3) (N := 9) hx hb hts inn_X3_init_X3 tyX3 tyX3_ok nmX3 hown hK hP hD hS 0 rfl rfl 5 (by decide) (hts (.fieldLink RX3 32 "DoorKeys" "doors" "LDoorKeys$Doors;") (by decide +kernel)) (fun _ h9 => h9) rfl hin rfl (by decide +kernel) rfl rfl (Nat.le_of_ble_eq_true rfl) dX3_init_65 (fun H locs hP hD hS => ?_)
    have hP : va_P (dC, dI) vwCl [(h0, .inr (4, [.int 16, .ref ks, .int 0, .ref fa, .ref fb, .ref dr, .int 0, .int 0, .int 0])), (ks, .inl (cK, 8, .inr (.inr (.inr (.inr (fun _ => none)))))), (fa, .inr (2, [.ref oa, .int 0])), (oa, .inl (cB, 16, .inl (fun _ => 0))), (fb, .inr (2, [.ref ob, .int 0])), (ob, .inl (cB2, 16, .inl (fun _ => 0))), (dr, .inr (1, [.ref ds, .long 0, .long 0])), (ds, .inl (cI, 5, .inl st))] H := hP
    have hD : va_D A [(h0, .inr (4, [.int 16, .ref ks, .int 0, .ref fa, .ref fb, .ref dr, .int 0, .int 0, .int 0])), (ks, .inl (cK, 8, .inr (.inr (.inr (.inr (fun _ => none)))))), (fa, .inr (2, [.ref oa, .int 0])), (oa, .inl (cB, 16, .inl (fun _ => 0))), (fb, .inr (2, [.ref ob, .int 0])), (ob, .inl (cB2, 16, .inl (fun _ => 0))), (dr, .inr (1, [.ref ds, .long 0, .long 0])), (ds, .inl (cI, 5, .inl st))] := hD
    have e2 : cB2 = cB := Option.some.inj ((hK.2 2 _ rfl).2.symm.trans (hK.2 1 _ rfl).2)
    subst e2
    have hw9 : dkW0 cK cB2 cI h0 ks fa oa fb ob dr ds (dk_span x) st = [(h0, .inr (4, [.int 16, .ref ks, .int 0, .ref fa, .ref fb, .ref dr, .int 0, .int 0, .int 0])), (ks, .inl (cK, 8, .inr (.inr (.inr (.inr (fun _ => none)))))), (fa, .inr (2, [.ref oa, .int 0])), (oa, .inl (cB2, 16, .inl (fun _ => 0))), (fb, .inr (2, [.ref ob, .int 0])), (ob, .inl (cB2, 16, .inl (fun _ => 0))), (dr, .inr (1, [.ref ds, .long 0, .long 0])), (ds, .inl (cI, 5, .inl st))] := by
      unfold dkW0 dkW
      rw [dk_k0, e1]
      rfl
    have hK9 : va_K (dC, dI) vwCl (dkT cK cB2 cI) s := hK.sub [0, 1, 3] rfl
    exact W.vret hx hb hr (fun t ht hW => ⟨⟨(cK, cB2, cI, ks, fa, oa, fb, ob, dr, ds, st), rfl, hw, by rw [ht, hw9]; exact hP, va_K.moved hW.alike hK9, by rw [hw9]; exact hD⟩, hS.F ht⟩) hS.2.2 dX3_init_68
  · refine lv_iload_n hx hb dX3_init_10 rfl (lv_at hl 1 rfl) ?_
    refine lv_sipush (v := 32767) hx hb dX3_init_11 (by decide) ?_
    refine lv_icmp_gt (tgt := 21) hx hb dX3_init_14 (by decide) (fun c_14 => ?_) (fun c_14 => ?_)
    · have e1 : dk_span x = 16 := by unfold dk_span; exact (if_neg c_7).trans (if_pos c_14)
      refine lv_bipush (v := 16) hx hb dX3_init_21 (by decide) ?_
      refine va_putF (D := (dC, dI)) (ci := 4) (v := .int 16) (ty := .int) (C := RX3) (T := TX3) (N := 9) hx hb hts inn_X3_init_X3 tyX3 tyX3_ok nmX3 hown hK hP hD hS 0 rfl rfl 0 (by decide) (hts (.fieldLink RX3 9 "DoorKeys" "span" "I") (by decide +kernel)) (fun _ h9 => h9) rfl hin rfl (by decide +kernel) rfl rfl (Nat.le_of_ble_eq_true rfl) dX3_init_23 (fun H locs hP hD hS => ?_)
      have hP : va_P (dC, dI) vwCl [(h0, .inr (4, [.int 16, .null, .int 0, .null, .null, .null, .int 0, .int 0, .int 0]))] H := hP
      have hD : va_D A [(h0, .inr (4, [.int 16, .null, .int 0, .null, .null, .null, .int 0, .int 0, .int 0]))] := hD
      refine lv_aload_n hx hb dX3_init_26 rfl (lv_at hl 0 rfl) ?_
      refine lv_bipush (v := 8) hx hb dX3_init_27 (by decide) ?_
      refine va_newq (C := RX2) (N' := 8) (n := 8) hx hb hown (hts (.classLink RX3 13 RX2) (by decide +kernel)) hO hK hP hD hS hA (by decide) (by decide) (by decide) (Nat.le_of_ble_eq_true rfl) (Nat.le_of_ble_eq_true rfl) dX3_init_29 (fun ks cK H hK hP hD hS => ?_)
      have hP : va_P (dC, dI) vwCl [(h0, .inr (4, [.int 16, .null, .int 0, .null, .null, .null, .int 0, .int 0, .int 0])), (ks, .inl (cK, 8, .inr (.inr (.inr (.inr (fun _ => none))))))] H := hP
      have hD : va_D A [(h0, .inr (4, [.int 16, .null, .int 0, .null, .null, .null, .int 0, .int 0, .int 0])), (ks, .inl (cK, 8, .inr (.inr (.inr (.inr (fun _ => none))))))] := hD
      have hK : va_K (dC, dI) vwCl [(cK, .object RX2)] s := hK
      refine W.widen (k := 1) (n := 8) (by omega) (by omega) ?_
      refine va_putF (D := (dC, dI)) (ci := 4) (v := .ref ks) (ty := .array (.object "DoorKeys$Key")) (C := RX3) (T := TX3) (N := 9) hx hb hts inn_X3_init_X3 tyX3 tyX3_ok nmX3 hown hK hP hD hS 0 rfl rfl 1 (by decide) (hts (.fieldLink RX3 15 "DoorKeys" "keys" "[LDoorKeys$Key;") (by decide +kernel)) (fun _ h9 => h9) rfl hin rfl (by decide +kernel) rfl rfl (Nat.le_of_ble_eq_true rfl) dX3_init_32 (fun H locs hP hD hS => ?_)
      have hP : va_P (dC, dI) vwCl [(h0, .inr (4, [.int 16, .ref ks, .int 0, .null, .null, .null, .int 0, .int 0, .int 0])), (ks, .inl (cK, 8, .inr (.inr (.inr (.inr (fun _ => none))))))] H := hP
      have hD : va_D A [(h0, .inr (4, [.int 16, .ref ks, .int 0, .null, .null, .null, .int 0, .int 0, .int 0])), (ks, .inl (cK, 8, .inr (.inr (.inr (.inr (fun _ => none))))))] := hD
      refine lv_aload_n hx hb dX3_init_35 rfl (lv_at hl 0 rfl) ?_
      refine va_new (ci := 2) (fs := [.null, .int 0]) (C := RX1) (T := TX1) (N := 2) hx hb hts inn_X3_init_X1 tyX1 tyX1_ok hown (hts (.classLink RX3 19 RX1) (by decide +kernel)) (hts (.instantiable RX1 2) (by decide +kernel)) (hts (.initialized RX1) (by decide +kernel)) hK hP hD hS hA rfl (fun j hj => by rcases (show j = 0 ∨ j = 1 by omega) with rfl | rfl <;> rfl) (Nat.le_of_ble_eq_true rfl) (Nat.le_of_ble_eq_true rfl) dX3_init_36 (fun fa H hP hD hS => ?_)
      have hP : va_P (dC, dI) vwCl [(h0, .inr (4, [.int 16, .ref ks, .int 0, .null, .null, .null, .int 0, .int 0, .int 0])), (ks, .inl (cK, 8, .inr (.inr (.inr (.inr (fun _ => none)))))), (fa, .inr (2, [.null, .int 0]))] H := hP
      have hD : va_D A [(h0, .inr (4, [.int 16, .ref ks, .int 0, .null, .null, .null, .int 0, .int 0, .int 0])), (ks, .inl (cK, 8, .inr (.inr (.inr (.inr (fun _ => none)))))), (fa, .inr (2, [.null, .int 0]))] := hD
      refine W.widen (k := 2) (n := 10) (by omega) (by omega) ?_
      refine lv_dup hx hb dX3_init_39 rfl ?_
      have hPc := hP.sub (ws' := [(fa, .inr (2, [.null, .int 0]))]) [2] rfl
      have hDc := hD.sub (ws' := [(fa, .inr (2, [.null, .int 0]))]) [2] (by decide) rfl
      have hKc := hK.sub (tys' := []) [] rfl
      have hFc := va_free (wc := [(fa, .inr (2, [.null, .int 0]))]) hD hS hA [2] rfl
      refine va_callv (va_runI (As := []) (rest := [.ref fa, .ref h0]) ⟨hx, hb, hml, hown, hts⟩ (c_X1_init l dC dI fa H.size) (cwI 0 hts gX3_init_X1_init rfl rfl rfl (hts (.initialized RX1) (by decide +kernel)) (hts (.methodLink RX3 21 yX1_init) (by decide +kernel)) (hts (.instanceMethod yX1_init) (by decide +kernel)) rfl (by decide +kernel) ⟨Nat.le_of_ble_eq_true rfl, Nat.le_of_ble_eq_true rfl⟩) ⟨fun a U g mk q => by obtain ⟨q0, q1, qP, qK, qD⟩ := q; exact ⟨q0, q1, qP, va_K.moved (u := U) (U := U.calling g mk a) (Vm.Alike.refl U.vm) qK, qD⟩, fun U hU hW => ⟨rfl, by rw [hU], by rw [hU]; exact hPc, va_K.moved hW.alike hKc, hDc.weaken (fun _ _ _ _ => trivial)⟩⟩ rfl rfl hl.1 rfl (lv_room (Nat.le_of_ble_eq_true rfl)) dX3_init_40 ⟨Nat.le_of_ble_eq_true rfl, Nat.le_of_ble_eq_true rfl⟩) hS (fun q _ h => hFc q h) hFc (fun u t H1 locs ht hvm hw hB hz1 hk1 hS => ?_)
      obtain ⟨oa, cB⟩ := u
      obtain ⟨hP1, hK1, hD1⟩ := hB
      rw [ht] at hP1
      have hK1 := va_K.moved hvm.symm hK1
      try dsimp only at hw hP1 hK1 hD1
      obtain ⟨hP, hD⟩ := va_join (wr := [(h0, .inr (4, [.int 16, .ref ks, .int 0, .null, .null, .null, .int 0, .int 0, .int 0])), (ks, .inl (cK, 8, .inr (.inr (.inr (.inr (fun _ => none))))))]) (w1 := [(fa, .inr (2, [.ref oa, .int 0])), (oa, .inl (cB, 16, .inl (fun _ => 0)))]) hP hD [2] [0, 1] rfl rfl (by decide) (by decide) hk1 hFc hP1 hD1
      have hK := hK.app hK1
      generalize H1 = H at hP hS ⊢
      have hP : va_P (dC, dI) vwCl [(h0, .inr (4, [.int 16, .ref ks, .int 0, .null, .null, .null, .int 0, .int 0, .int 0])), (ks, .inl (cK, 8, .inr (.inr (.inr (.inr (fun _ => none)))))), (fa, .inr (2, [.ref oa, .int 0])), (oa, .inl (cB, 16, .inl (fun _ => 0)))] H := hP
      have hD : va_D A [(h0, .inr (4, [.int 16, .ref ks, .int 0, .null, .null, .null, .int 0, .int 0, .int 0])), (ks, .inl (cK, 8, .inr (.inr (.inr (.inr (fun _ => none)))))), (fa, .inr (2, [.ref oa, .int 0])), (oa, .inl (cB, 16, .inl (fun _ => 0)))] := hD
      have hK : va_K (dC, dI) vwCl [(cK, .object RX2), (cB, .byte)] s := hK
      refine W.widen (k := 3) (n := 26) (by omega) (by omega) ?_
      refine va_put (D := (dC, dI)) (ci := 4) (v := .ref fa) (ty := .object "DoorKeys$Frame") (C := RX3) (T := TX3) (N := 9) hx hb hts inn_X3_init_X3 tyX3 tyX3_ok nmX3 hown hK hP hD hS 0 rfl rfl 3 (by decide) (hts (.fieldLink RX3 22 "DoorKeys" "coming" "LDoorKeys$Frame;") (by decide +kernel)) (fun _ h9 => h9) rfl (by decide +kernel) rfl rfl (Nat.le_of_ble_eq_true rfl) dX3_init_43 (fun H locs hP hD hS => ?_)
      have hP : va_P (dC, dI) vwCl [(h0, .inr (4, [.int 16, .ref ks, .int 0, .ref fa, .null, .null, .int 0, .int 0, .int 0])), (ks, .inl (cK, 8, .inr (.inr (.inr (.inr (fun _ => none)))))), (fa, .inr (2, [.ref oa, .int 0])), (oa, .inl (cB, 16, .inl (fun _ => 0)))] H := hP
      have hD : va_D A [(h0, .inr (4, [.int 16, .ref ks, .int 0, .ref fa, .null, .null, .int 0, .int 0, .int 0])), (ks, .inl (cK, 8, .inr (.inr (.inr (.inr (fun _ => none)))))), (fa, .inr (2, [.ref oa, .int 0])), (oa, .inl (cB, 16, .inl (fun _ => 0)))] := hD
      refine lv_aload_n hx hb dX3_init_46 rfl (lv_at hl 0 rfl) ?_
      refine va_new (ci := 2) (fs := [.null, .int 0]) (C := RX1) (T := TX1) (N := 2) hx hb hts inn_X3_init_X1 tyX1 tyX1_ok hown (hts (.classLink RX3 19 RX1) (by decide +kernel)) (hts (.instantiable RX1 2) (by decide +kernel)) (hts (.initialized RX1) (by decide +kernel)) hK hP hD hS hA rfl (fun j hj => by rcases (show j = 0 ∨ j = 1 by omega) with rfl | rfl <;> rfl) (Nat.le_of_ble_eq_true rfl) (Nat.le_of_ble_eq_true rfl) dX3_init_47 (fun fb H hP hD hS => ?_)
      have hP : va_P (dC, dI) vwCl [(h0, .inr (4, [.int 16, .ref ks, .int 0, .ref fa, .null, .null, .int 0, .int 0, .int 0])), (ks, .inl (cK, 8, .inr (.inr (.inr (.inr (fun _ => none)))))), (fa, .inr (2, [.ref oa, .int 0])), (oa, .inl (cB, 16, .inl (fun _ => 0))), (fb, .inr (2, [.null, .int 0]))] H := hP
      have hD : va_D A [(h0, .inr (4, [.int 16, .ref ks, .int 0, .ref fa, .null, .null, .int 0, .int 0, .int 0])), (ks, .inl (cK, 8, .inr (.inr (.inr (.inr (fun _ => none)))))), (fa, .inr (2, [.ref oa, .int 0])), (oa, .inl (cB, 16, .inl (fun _ => 0))), (fb, .inr (2, [.null, .int 0]))] := hD
      refine W.widen (k := 4) (n := 28) (by omega) (by omega) ?_
      refine lv_dup hx hb dX3_init_50 rfl ?_
      have hPc := hP.sub (ws' := [(fb, .inr (2, [.null, .int 0]))]) [4] rfl
      have hDc := hD.sub (ws' := [(fb, .inr (2, [.null, .int 0]))]) [4] (by decide) rfl
      have hKc := hK.sub (tys' := []) [] rfl
      have hFc := va_free (wc := [(fb, .inr (2, [.null, .int 0]))]) hD hS hA [4] rfl
      refine va_callv (va_runI (As := []) (rest := [.ref fb, .ref h0]) ⟨hx, hb, hml, hown, hts⟩ (c_X1_init l dC dI fb H.size) (cwI 0 hts gX3_init_X1_init rfl rfl rfl (hts (.initialized RX1) (by decide +kernel)) (hts (.methodLink RX3 21 yX1_init) (by decide +kernel)) (hts (.instanceMethod yX1_init) (by decide +kernel)) rfl (by decide +kernel) ⟨Nat.le_of_ble_eq_true rfl, Nat.le_of_ble_eq_true rfl⟩) ⟨fun a U g mk q => by obtain ⟨q0, q1, qP, qK, qD⟩ := q; exact ⟨q0, q1, qP, va_K.moved (u := U) (U := U.calling g mk a) (Vm.Alike.refl U.vm) qK, qD⟩, fun U hU hW => ⟨rfl, by rw [hU], by rw [hU]; exact hPc, va_K.moved hW.alike hKc, hDc.weaken (fun _ _ _ _ => trivial)⟩⟩ rfl rfl hl.1 rfl (lv_room (Nat.le_of_ble_eq_true rfl)) dX3_init_51 ⟨Nat.le_of_ble_eq_true rfl, Nat.le_of_ble_eq_true rfl⟩) hS (fun q _ h => hFc q h) hFc (fun u t H1 locs ht hvm hw hB hz1 hk1 hS => ?_)
      obtain ⟨ob, cB2⟩ := u
      obtain ⟨hP1, hK1, hD1⟩ := hB
      rw [ht] at hP1
      have hK1 := va_K.moved hvm.symm hK1
      try dsimp only at hw hP1 hK1 hD1
      obtain ⟨hP, hD⟩ := va_join (wr := [(h0, .inr (4, [.int 16, .ref ks, .int 0, .ref fa, .null, .null, .int 0, .int 0, .int 0])), (ks, .inl (cK, 8, .inr (.inr (.inr (.inr (fun _ => none)))))), (fa, .inr (2, [.ref oa, .int 0])), (oa, .inl (cB, 16, .inl (fun _ => 0)))]) (w1 := [(fb, .inr (2, [.ref ob, .int 0])), (ob, .inl (cB2, 16, .inl (fun _ => 0)))]) hP hD [4] [0, 1, 2, 3] rfl rfl (by decide) (by decide) hk1 hFc hP1 hD1
      have hK := hK.app hK1
      generalize H1 = H at hP hS ⊢
      have hP : va_P (dC, dI) vwCl [(h0, .inr (4, [.int 16, .ref ks, .int 0, .ref fa, .null, .null, .int 0, .int 0, .int 0])), (ks, .inl (cK, 8, .inr (.inr (.inr (.inr (fun _ => none)))))), (fa, .inr (2, [.ref oa, .int 0])), (oa, .inl (cB, 16, .inl (fun _ => 0))), (fb, .inr (2, [.ref ob, .int 0])), (ob, .inl (cB2, 16, .inl (fun _ => 0)))] H := hP
      have hD : va_D A [(h0, .inr (4, [.int 16, .ref ks, .int 0, .ref fa, .null, .null, .int 0, .int 0, .int 0])), (ks, .inl (cK, 8, .inr (.inr (.inr (.inr (fun _ => none)))))), (fa, .inr (2, [.ref oa, .int 0])), (oa, .inl (cB, 16, .inl (fun _ => 0))), (fb, .inr (2, [.ref ob, .int 0])), (ob, .inl (cB2, 16, .inl (fun _ => 0)))] := hD
      have hK : va_K (dC, dI) vwCl [(cK, .object RX2), (cB, .byte), (cB2, .byte)] s := hK
      refine W.widen (k := 5) (n := 44) (by omega) (by omega) ?_
      refine va_put (D := (dC, dI)) (ci := 4) (v := .ref fb) (ty := .object "DoorKeys$Frame") (C := RX3) (T := TX3) (N := 9) hx hb hts inn_X3_init_X3 tyX3 tyX3_ok nmX3 hown hK hP hD hS 0 rfl rfl 4 (by decide) (hts (.fieldLink RX3 26 "DoorKeys" "ended" "LDoorKeys$Frame;") (by decide +kernel)) (fun _ h9 => h9) rfl (by decide +kernel) rfl rfl (Nat.le_of_ble_eq_true rfl) dX3_init_54 (fun H locs hP hD hS => ?_)
      have hP : va_P (dC, dI) vwCl [(h0, .inr (4, [.int 16, .ref ks, .int 0, .ref fa, .ref fb, .null, .int 0, .int 0, .int 0])), (ks, .inl (cK, 8, .inr (.inr (.inr (.inr (fun _ => none)))))), (fa, .inr (2, [.ref oa, .int 0])), (oa, .inl (cB, 16, .inl (fun _ => 0))), (fb, .inr (2, [.ref ob, .int 0])), (ob, .inl (cB2, 16, .inl (fun _ => 0)))] H := hP
      have hD : va_D A [(h0, .inr (4, [.int 16, .ref ks, .int 0, .ref fa, .ref fb, .null, .int 0, .int 0, .int 0])), (ks, .inl (cK, 8, .inr (.inr (.inr (.inr (fun _ => none)))))), (fa, .inr (2, [.ref oa, .int 0])), (oa, .inl (cB, 16, .inl (fun _ => 0))), (fb, .inr (2, [.ref ob, .int 0])), (ob, .inl (cB2, 16, .inl (fun _ => 0)))] := hD
      refine lv_aload_n hx hb dX3_init_57 rfl (lv_at hl 0 rfl) ?_
      refine va_new (ci := 1) (fs := [.null, .long 0, .long 0]) (C := RX0) (T := TX0) (N := 3) hx hb hts inn_X3_init_X0 tyX0 tyX0_ok hown (hts (.classLink RX3 29 RX0) (by decide +kernel)) (hts (.instantiable RX0 3) (by decide +kernel)) (hts (.initialized RX0) (by decide +kernel)) hK hP hD hS hA rfl (fun j hj => by rcases (show j = 0 ∨ j = 1 ∨ j = 2 by omega) with rfl | rfl | rfl <;> rfl) (Nat.le_of_ble_eq_true rfl) (Nat.le_of_ble_eq_true rfl) dX3_init_58 (fun dr H hP hD hS => ?_)
      have hP : va_P (dC, dI) vwCl [(h0, .inr (4, [.int 16, .ref ks, .int 0, .ref fa, .ref fb, .null, .int 0, .int 0, .int 0])), (ks, .inl (cK, 8, .inr (.inr (.inr (.inr (fun _ => none)))))), (fa, .inr (2, [.ref oa, .int 0])), (oa, .inl (cB, 16, .inl (fun _ => 0))), (fb, .inr (2, [.ref ob, .int 0])), (ob, .inl (cB2, 16, .inl (fun _ => 0))), (dr, .inr (1, [.null, .long 0, .long 0]))] H := hP
      have hD : va_D A [(h0, .inr (4, [.int 16, .ref ks, .int 0, .ref fa, .ref fb, .null, .int 0, .int 0, .int 0])), (ks, .inl (cK, 8, .inr (.inr (.inr (.inr (fun _ => none)))))), (fa, .inr (2, [.ref oa, .int 0])), (oa, .inl (cB, 16, .inl (fun _ => 0))), (fb, .inr (2, [.ref ob, .int 0])), (ob, .inl (cB2, 16, .inl (fun _ => 0))), (dr, .inr (1, [.null, .long 0, .long 0]))] := hD
      refine W.widen (k := 6) (n := 47) (by omega) (by omega) ?_
      refine lv_dup hx hb dX3_init_61 rfl ?_
      have hPc := hP.sub (ws' := [(dr, .inr (1, [.null, .long 0, .long 0]))]) [6] rfl
      have hDc := hD.sub (ws' := [(dr, .inr (1, [.null, .long 0, .long 0]))]) [6] (by decide) rfl
      have hKc := hK.sub (tys' := []) [] rfl
      have hFc := va_free (wc := [(dr, .inr (1, [.null, .long 0, .long 0]))]) hD hS hA [6] rfl
      refine va_callv (va_runI (As := []) (rest := [.ref dr, .ref h0]) ⟨hx, hb, hml, hown, hts⟩ (c_X0_init l dC dI dr H.size) (cwI 0 hts gX3_init_X0_init rfl rfl rfl (hts (.initialized RX0) (by decide +kernel)) (hts (.methodLink RX3 31 yX0_init) (by decide +kernel)) (hts (.instanceMethod yX0_init) (by decide +kernel)) rfl (by decide +kernel) ⟨Nat.le_of_ble_eq_true rfl, Nat.le_of_ble_eq_true rfl⟩) ⟨fun a U g mk q => by obtain ⟨q0, q1, qP, qK, qD⟩ := q; exact ⟨q0, q1, qP, va_K.moved (u := U) (U := U.calling g mk a) (Vm.Alike.refl U.vm) qK, qD⟩, fun U hU hW => ⟨rfl, by rw [hU], by rw [hU]; exact hPc, va_K.moved hW.alike hKc, hDc.weaken (fun _ _ _ _ => trivial)⟩⟩ rfl rfl hl.1 rfl (lv_room (Nat.le_of_ble_eq_true rfl)) dX3_init_62 ⟨Nat.le_of_ble_eq_true rfl, Nat.le_of_ble_eq_true rfl⟩) hS (fun q _ h => hFc q h) hFc (fun u t H1 locs ht hvm hw hB hz1 hk1 hS => ?_)
      obtain ⟨ds, cI, st⟩ := u
      obtain ⟨hP1, hK1, hD1⟩ := hB
      rw [ht] at hP1
      have hK1 := va_K.moved hvm.symm hK1
      try dsimp only at hw hP1 hK1 hD1
      obtain ⟨hP, hD⟩ := va_join (wr := [(h0, .inr (4, [.int 16, .ref ks, .int 0, .ref fa, .ref fb, .null, .int 0, .int 0, .int 0])), (ks, .inl (cK, 8, .inr (.inr (.inr (.inr (fun _ => none)))))), (fa, .inr (2, [.ref oa, .int 0])), (oa, .inl (cB, 16, .inl (fun _ => 0))), (fb, .inr (2, [.ref ob, .int 0])), (ob, .inl (cB2, 16, .inl (fun _ => 0)))]) (w1 := [(dr, .inr (1, [.ref ds, .long 0, .long 0])), (ds, .inl (cI, 5, .inl st))]) hP hD [6] [0, 1, 2, 3, 4, 5] rfl rfl (by decide) (by decide) hk1 hFc hP1 hD1
      have hK := hK.app hK1
      generalize H1 = H at hP hS ⊢
      have hP : va_P (dC, dI) vwCl [(h0, .inr (4, [.int 16, .ref ks, .int 0, .ref fa, .ref fb, .null, .int 0, .int 0, .int 0])), (ks, .inl (cK, 8, .inr (.inr (.inr (.inr (fun _ => none)))))), (fa, .inr (2, [.ref oa, .int 0])), (oa, .inl (cB, 16, .inl (fun _ => 0))), (fb, .inr (2, [.ref ob, .int 0])), (ob, .inl (cB2, 16, .inl (fun _ => 0))), (dr, .inr (1, [.ref ds, .long 0, .long 0])), (ds, .inl (cI, 5, .inl st))] H := hP
      have hD : va_D A [(h0, .inr (4, [.int 16, .ref ks, .int 0, .ref fa, .ref fb, .null, .int 0, .int 0, .int 0])), (ks, .inl (cK, 8, .inr (.inr (.inr (.inr (fun _ => none)))))), (fa, .inr (2, [.ref oa, .int 0])), (oa, .inl (cB, 16, .inl (fun _ => 0))), (fb, .inr (2, [.ref ob, .int 0])), (ob, .inl (cB2, 16, .inl (fun _ => 0))), (dr, .inr (1, [.ref ds, .long 0, .long 0])), (ds, .inl (cI, 5, .inl st))] := hD
      have hK : va_K (dC, dI) vwCl [(cK, .object RX2), (cB, .byte), (cB2, .byte), (cI, .int)] s := hK
      refine W.widen (k := 7) (n := 52) (by omega) (by omega) ?_
      refine va_putF (D := (dC, dI)) (ci := 4) (v := .ref dr) (ty := .object "DoorKeys$Doors") (C := RX3) (T := TX3) (N := 9) hx hb hts inn_X3_init_X3 tyX3 tyX3_ok nmX3 hown hK hP hD hS 0 rfl rfl 5 (by decide) (hts (.fieldLink RX3 32 "DoorKeys" "doors" "LDoorKeys$Doors;") (by decide +kernel)) (fun _ h9 => h9) rfl hin rfl (by decide +kernel) rfl rfl (Nat.le_of_ble_eq_true rfl) dX3_init_65 (fun H locs hP hD hS => ?_)
      have hP : va_P (dC, dI) vwCl [(h0, .inr (4, [.int 16, .ref ks, .int 0, .ref fa, .ref fb, .ref dr, .int 0, .int 0, .int 0])), (ks, .inl (cK, 8, .inr (.inr (.inr (.inr (fun _ => none)))))), (fa, .inr (2, [.ref oa, .int 0])), (oa, .inl (cB, 16, .inl (fun _ => 0))), (fb, .inr (2, [.ref ob, .int 0])), (ob, .inl (cB2, 16, .inl (fun _ => 0))), (dr, .inr (1, [.ref ds, .long 0, .long 0])), (ds, .inl (cI, 5, .inl st))] H := hP
      have hD : va_D A [(h0, .inr (4, [.int 16, .ref ks, .int 0, .ref fa, .ref fb, .ref dr, .int 0, .int 0, .int 0])), (ks, .inl (cK, 8, .inr (.inr (.inr (.inr (fun _ => none)))))), (fa, .inr (2, [.ref oa, .int 0])), (oa, .inl (cB, 16, .inl (fun _ => 0))), (fb, .inr (2, [.ref ob, .int 0])), (ob, .inl (cB2, 16, .inl (fun _ => 0))), (dr, .inr (1, [.ref ds, .long 0, .long 0])), (ds, .inl (cI, 5, .inl st))] := hD
      have e2 : cB2 = cB := Option.some.inj ((hK.2 2 _ rfl).2.symm.trans (hK.2 1 _ rfl).2)
      subst e2
      have hw9 : dkW0 cK cB2 cI h0 ks fa oa fb ob dr ds (dk_span x) st = [(h0, .inr (4, [.int 16, .ref ks, .int 0, .ref fa, .ref fb, .ref dr, .int 0, .int 0, .int 0])), (ks, .inl (cK, 8, .inr (.inr (.inr (.inr (fun _ => none)))))), (fa, .inr (2, [.ref oa, .int 0])), (oa, .inl (cB2, 16, .inl (fun _ => 0))), (fb, .inr (2, [.ref ob, .int 0])), (ob, .inl (cB2, 16, .inl (fun _ => 0))), (dr, .inr (1, [.ref ds, .long 0, .long 0])), (ds, .inl (cI, 5, .inl st))] := by
        unfold dkW0 dkW
        rw [dk_k0, e1]
        rfl
      have hK9 : va_K (dC, dI) vwCl (dkT cK cB2 cI) s := hK.sub [0, 1, 3] rfl
      exact W.vret hx hb hr (fun t ht hW => ⟨⟨(cK, cB2, cI, ks, fa, oa, fb, ob, dr, ds, st), rfl, hw, by rw [ht, hw9]; exact hP, va_K.moved hW.alike hK9, by rw [hw9]; exact hD⟩, hS.F ht⟩) hS.2.2 dX3_init_68
    · have e1 : dk_span x = x := by unfold dk_span; exact (if_neg c_7).trans (if_neg c_14)
      refine lv_iload_n hx hb dX3_init_17 rfl (lv_at hl 1 rfl) ?_
      refine lv_goto (tgt := 23) hx hb dX3_init_18 (by decide) ?_
      refine va_putF (D := (dC, dI)) (ci := 4) (v := .int x) (ty := .int) (C := RX3) (T := TX3) (N := 9) hx hb hts inn_X3_init_X3 tyX3 tyX3_ok nmX3 hown hK hP hD hS 0 rfl rfl 0 (by decide) (hts (.fieldLink RX3 9 "DoorKeys" "span" "I") (by decide +kernel)) (fun _ h9 => h9) rfl hin rfl (by decide +kernel) rfl rfl (Nat.le_of_ble_eq_true rfl) dX3_init_23 (fun H locs hP hD hS => ?_)
      have hP : va_P (dC, dI) vwCl [(h0, .inr (4, [.int x, .null, .int 0, .null, .null, .null, .int 0, .int 0, .int 0]))] H := hP
      have hD : va_D A [(h0, .inr (4, [.int x, .null, .int 0, .null, .null, .null, .int 0, .int 0, .int 0]))] := hD
      refine lv_aload_n hx hb dX3_init_26 rfl (lv_at hl 0 rfl) ?_
      refine lv_bipush (v := 8) hx hb dX3_init_27 (by decide) ?_
      refine va_newq (C := RX2) (N' := 8) (n := 8) hx hb hown (hts (.classLink RX3 13 RX2) (by decide +kernel)) hO hK hP hD hS hA (by decide) (by decide) (by decide) (Nat.le_of_ble_eq_true rfl) (Nat.le_of_ble_eq_true rfl) dX3_init_29 (fun ks cK H hK hP hD hS => ?_)
      have hP : va_P (dC, dI) vwCl [(h0, .inr (4, [.int x, .null, .int 0, .null, .null, .null, .int 0, .int 0, .int 0])), (ks, .inl (cK, 8, .inr (.inr (.inr (.inr (fun _ => none))))))] H := hP
      have hD : va_D A [(h0, .inr (4, [.int x, .null, .int 0, .null, .null, .null, .int 0, .int 0, .int 0])), (ks, .inl (cK, 8, .inr (.inr (.inr (.inr (fun _ => none))))))] := hD
      have hK : va_K (dC, dI) vwCl [(cK, .object RX2)] s := hK
      refine W.widen (k := 1) (n := 8) (by omega) (by omega) ?_
      refine va_putF (D := (dC, dI)) (ci := 4) (v := .ref ks) (ty := .array (.object "DoorKeys$Key")) (C := RX3) (T := TX3) (N := 9) hx hb hts inn_X3_init_X3 tyX3 tyX3_ok nmX3 hown hK hP hD hS 0 rfl rfl 1 (by decide) (hts (.fieldLink RX3 15 "DoorKeys" "keys" "[LDoorKeys$Key;") (by decide +kernel)) (fun _ h9 => h9) rfl hin rfl (by decide +kernel) rfl rfl (Nat.le_of_ble_eq_true rfl) dX3_init_32 (fun H locs hP hD hS => ?_)
      have hP : va_P (dC, dI) vwCl [(h0, .inr (4, [.int x, .ref ks, .int 0, .null, .null, .null, .int 0, .int 0, .int 0])), (ks, .inl (cK, 8, .inr (.inr (.inr (.inr (fun _ => none))))))] H := hP
      have hD : va_D A [(h0, .inr (4, [.int x, .ref ks, .int 0, .null, .null, .null, .int 0, .int 0, .int 0])), (ks, .inl (cK, 8, .inr (.inr (.inr (.inr (fun _ => none))))))] := hD
      refine lv_aload_n hx hb dX3_init_35 rfl (lv_at hl 0 rfl) ?_
      refine va_new (ci := 2) (fs := [.null, .int 0]) (C := RX1) (T := TX1) (N := 2) hx hb hts inn_X3_init_X1 tyX1 tyX1_ok hown (hts (.classLink RX3 19 RX1) (by decide +kernel)) (hts (.instantiable RX1 2) (by decide +kernel)) (hts (.initialized RX1) (by decide +kernel)) hK hP hD hS hA rfl (fun j hj => by rcases (show j = 0 ∨ j = 1 by omega) with rfl | rfl <;> rfl) (Nat.le_of_ble_eq_true rfl) (Nat.le_of_ble_eq_true rfl) dX3_init_36 (fun fa H hP hD hS => ?_)
      have hP : va_P (dC, dI) vwCl [(h0, .inr (4, [.int x, .ref ks, .int 0, .null, .null, .null, .int 0, .int 0, .int 0])), (ks, .inl (cK, 8, .inr (.inr (.inr (.inr (fun _ => none)))))), (fa, .inr (2, [.null, .int 0]))] H := hP
      have hD : va_D A [(h0, .inr (4, [.int x, .ref ks, .int 0, .null, .null, .null, .int 0, .int 0, .int 0])), (ks, .inl (cK, 8, .inr (.inr (.inr (.inr (fun _ => none)))))), (fa, .inr (2, [.null, .int 0]))] := hD
      refine W.widen (k := 2) (n := 10) (by omega) (by omega) ?_
      refine lv_dup hx hb dX3_init_39 rfl ?_
      have hPc := hP.sub (ws' := [(fa, .inr (2, [.null, .int 0]))]) [2] rfl
      have hDc := hD.sub (ws' := [(fa, .inr (2, [.null, .int 0]))]) [2] (by decide) rfl
      have hKc := hK.sub (tys' := []) [] rfl
      have hFc := va_free (wc := [(fa, .inr (2, [.null, .int 0]))]) hD hS hA [2] rfl
      refine va_callv (va_runI (As := []) (rest := [.ref fa, .ref h0]) ⟨hx, hb, hml, hown, hts⟩ (c_X1_init l dC dI fa H.size) (cwI 0 hts gX3_init_X1_init rfl rfl rfl (hts (.initialized RX1) (by decide +kernel)) (hts (.methodLink RX3 21 yX1_init) (by decide +kernel)) (hts (.instanceMethod yX1_init) (by decide +kernel)) rfl (by decide +kernel) ⟨Nat.le_of_ble_eq_true rfl, Nat.le_of_ble_eq_true rfl⟩) ⟨fun a U g mk q => by obtain ⟨q0, q1, qP, qK, qD⟩ := q; exact ⟨q0, q1, qP, va_K.moved (u := U) (U := U.calling g mk a) (Vm.Alike.refl U.vm) qK, qD⟩, fun U hU hW => ⟨rfl, by rw [hU], by rw [hU]; exact hPc, va_K.moved hW.alike hKc, hDc.weaken (fun _ _ _ _ => trivial)⟩⟩ rfl rfl hl.1 rfl (lv_room (Nat.le_of_ble_eq_true rfl)) dX3_init_40 ⟨Nat.le_of_ble_eq_true rfl, Nat.le_of_ble_eq_true rfl⟩) hS (fun q _ h => hFc q h) hFc (fun u t H1 locs ht hvm hw hB hz1 hk1 hS => ?_)
      obtain ⟨oa, cB⟩ := u
      obtain ⟨hP1, hK1, hD1⟩ := hB
      rw [ht] at hP1
      have hK1 := va_K.moved hvm.symm hK1
      try dsimp only at hw hP1 hK1 hD1
      obtain ⟨hP, hD⟩ := va_join (wr := [(h0, .inr (4, [.int x, .ref ks, .int 0, .null, .null, .null, .int 0, .int 0, .int 0])), (ks, .inl (cK, 8, .inr (.inr (.inr (.inr (fun _ => none))))))]) (w1 := [(fa, .inr (2, [.ref oa, .int 0])), (oa, .inl (cB, 16, .inl (fun _ => 0)))]) hP hD [2] [0, 1] rfl rfl (by decide) (by decide) hk1 hFc hP1 hD1
      have hK := hK.app hK1
      generalize H1 = H at hP hS ⊢
      have hP : va_P (dC, dI) vwCl [(h0, .inr (4, [.int x, .ref ks, .int 0, .null, .null, .null, .int 0, .int 0, .int 0])), (ks, .inl (cK, 8, .inr (.inr (.inr (.inr (fun _ => none)))))), (fa, .inr (2, [.ref oa, .int 0])), (oa, .inl (cB, 16, .inl (fun _ => 0)))] H := hP
      have hD : va_D A [(h0, .inr (4, [.int x, .ref ks, .int 0, .null, .null, .null, .int 0, .int 0, .int 0])), (ks, .inl (cK, 8, .inr (.inr (.inr (.inr (fun _ => none)))))), (fa, .inr (2, [.ref oa, .int 0])), (oa, .inl (cB, 16, .inl (fun _ => 0)))] := hD
      have hK : va_K (dC, dI) vwCl [(cK, .object RX2), (cB, .byte)] s := hK
      refine W.widen (k := 3) (n := 26) (by omega) (by omega) ?_
      refine va_put (D := (dC, dI)) (ci := 4) (v := .ref fa) (ty := .object "DoorKeys$Frame") (C := RX3) (T := TX3) (N := 9) hx hb hts inn_X3_init_X3 tyX3 tyX3_ok nmX3 hown hK hP hD hS 0 rfl rfl 3 (by decide) (hts (.fieldLink RX3 22 "DoorKeys" "coming" "LDoorKeys$Frame;") (by decide +kernel)) (fun _ h9 => h9) rfl (by decide +kernel) rfl rfl (Nat.le_of_ble_eq_true rfl) dX3_init_43 (fun H locs hP hD hS => ?_)
      have hP : va_P (dC, dI) vwCl [(h0, .inr (4, [.int x, .ref ks, .int 0, .ref fa, .null, .null, .int 0, .int 0, .int 0])), (ks, .inl (cK, 8, .inr (.inr (.inr (.inr (fun _ => none)))))), (fa, .inr (2, [.ref oa, .int 0])), (oa, .inl (cB, 16, .inl (fun _ => 0)))] H := hP
      have hD : va_D A [(h0, .inr (4, [.int x, .ref ks, .int 0, .ref fa, .null, .null, .int 0, .int 0, .int 0])), (ks, .inl (cK, 8, .inr (.inr (.inr (.inr (fun _ => none)))))), (fa, .inr (2, [.ref oa, .int 0])), (oa, .inl (cB, 16, .inl (fun _ => 0)))] := hD
      refine lv_aload_n hx hb dX3_init_46 rfl (lv_at hl 0 rfl) ?_
      refine va_new (ci := 2) (fs := [.null, .int 0]) (C := RX1) (T := TX1) (N := 2) hx hb hts inn_X3_init_X1 tyX1 tyX1_ok hown (hts (.classLink RX3 19 RX1) (by decide +kernel)) (hts (.instantiable RX1 2) (by decide +kernel)) (hts (.initialized RX1) (by decide +kernel)) hK hP hD hS hA rfl (fun j hj => by rcases (show j = 0 ∨ j = 1 by omega) with rfl | rfl <;> rfl) (Nat.le_of_ble_eq_true rfl) (Nat.le_of_ble_eq_true rfl) dX3_init_47 (fun fb H hP hD hS => ?_)
      have hP : va_P (dC, dI) vwCl [(h0, .inr (4, [.int x, .ref ks, .int 0, .ref fa, .null, .null, .int 0, .int 0, .int 0])), (ks, .inl (cK, 8, .inr (.inr (.inr (.inr (fun _ => none)))))), (fa, .inr (2, [.ref oa, .int 0])), (oa, .inl (cB, 16, .inl (fun _ => 0))), (fb, .inr (2, [.null, .int 0]))] H := hP
      have hD : va_D A [(h0, .inr (4, [.int x, .ref ks, .int 0, .ref fa, .null, .null, .int 0, .int 0, .int 0])), (ks, .inl (cK, 8, .inr (.inr (.inr (.inr (fun _ => none)))))), (fa, .inr (2, [.ref oa, .int 0])), (oa, .inl (cB, 16, .inl (fun _ => 0))), (fb, .inr (2, [.null, .int 0]))] := hD
      refine W.widen (k := 4) (n := 28) (by omega) (by omega) ?_
      refine lv_dup hx hb dX3_init_50 rfl ?_
      have hPc := hP.sub (ws' := [(fb, .inr (2, [.null, .int 0]))]) [4] rfl
      have hDc := hD.sub (ws' := [(fb, .inr (2, [.null, .int 0]))]) [4] (by decide) rfl
      have hKc := hK.sub (tys' := []) [] rfl
      have hFc := va_free (wc := [(fb, .inr (2, [.null, .int 0]))]) hD hS hA [4] rfl
      refine va_callv (va_runI (As := []) (rest := [.ref fb, .ref h0]) ⟨hx, hb, hml, hown, hts⟩ (c_X1_init l dC dI fb H.size) (cwI 0 hts gX3_init_X1_init rfl rfl rfl (hts (.initialized RX1) (by decide +kernel)) (hts (.methodLink RX3 21 yX1_init) (by decide +kernel)) (hts (.instanceMethod yX1_init) (by decide +kernel)) rfl (by decide +kernel) ⟨Nat.le_of_ble_eq_true rfl, Nat.le_of_ble_eq_true rfl⟩) ⟨fun a U g mk q => by obtain ⟨q0, q1, qP, qK, qD⟩ := q; exact ⟨q0, q1, qP, va_K.moved (u := U) (U := U.calling g mk a) (Vm.Alike.refl U.vm) qK, qD⟩, fun U hU hW => ⟨rfl, by rw [hU], by rw [hU]; exact hPc, va_K.moved hW.alike hKc, hDc.weaken (fun _ _ _ _ => trivial)⟩⟩ rfl rfl hl.1 rfl (lv_room (Nat.le_of_ble_eq_true rfl)) dX3_init_51 ⟨Nat.le_of_ble_eq_true rfl, Nat.le_of_ble_eq_true rfl⟩) hS (fun q _ h => hFc q h) hFc (fun u t H1 locs ht hvm hw hB hz1 hk1 hS => ?_)
      obtain ⟨ob, cB2⟩ := u
      obtain ⟨hP1, hK1, hD1⟩ := hB
      rw [ht] at hP1
      have hK1 := va_K.moved hvm.symm hK1
      try dsimp only at hw hP1 hK1 hD1
      obtain ⟨hP, hD⟩ := va_join (wr := [(h0, .inr (4, [.int x, .ref ks, .int 0, .ref fa, .null, .null, .int 0, .int 0, .int 0])), (ks, .inl (cK, 8, .inr (.inr (.inr (.inr (fun _ => none)))))), (fa, .inr (2, [.ref oa, .int 0])), (oa, .inl (cB, 16, .inl (fun _ => 0)))]) (w1 := [(fb, .inr (2, [.ref ob, .int 0])), (ob, .inl (cB2, 16, .inl (fun _ => 0)))]) hP hD [4] [0, 1, 2, 3] rfl rfl (by decide) (by decide) hk1 hFc hP1 hD1
      have hK := hK.app hK1
      generalize H1 = H at hP hS ⊢
      have hP : va_P (dC, dI) vwCl [(h0, .inr (4, [.int x, .ref ks, .int 0, .ref fa, .null, .null, .int 0, .int 0, .int 0])), (ks, .inl (cK, 8, .inr (.inr (.inr (.inr (fun _ => none)))))), (fa, .inr (2, [.ref oa, .int 0])), (oa, .inl (cB, 16, .inl (fun _ => 0))), (fb, .inr (2, [.ref ob, .int 0])), (ob, .inl (cB2, 16, .inl (fun _ => 0)))] H := hP
      have hD : va_D A [(h0, .inr (4, [.int x, .ref ks, .int 0, .ref fa, .null, .null, .int 0, .int 0, .int 0])), (ks, .inl (cK, 8, .inr (.inr (.inr (.inr (fun _ => none)))))), (fa, .inr (2, [.ref oa, .int 0])), (oa, .inl (cB, 16, .inl (fun _ => 0))), (fb, .inr (2, [.ref ob, .int 0])), (ob, .inl (cB2, 16, .inl (fun _ => 0)))] := hD
      have hK : va_K (dC, dI) vwCl [(cK, .object RX2), (cB, .byte), (cB2, .byte)] s := hK
      refine W.widen (k := 5) (n := 44) (by omega) (by omega) ?_
      refine va_put (D := (dC, dI)) (ci := 4) (v := .ref fb) (ty := .object "DoorKeys$Frame") (C := RX3) (T := TX3) (N := 9) hx hb hts inn_X3_init_X3 tyX3 tyX3_ok nmX3 hown hK hP hD hS 0 rfl rfl 4 (by decide) (hts (.fieldLink RX3 26 "DoorKeys" "ended" "LDoorKeys$Frame;") (by decide +kernel)) (fun _ h9 => h9) rfl (by decide +kernel) rfl rfl (Nat.le_of_ble_eq_true rfl) dX3_init_54 (fun H locs hP hD hS => ?_)
      have hP : va_P (dC, dI) vwCl [(h0, .inr (4, [.int x, .ref ks, .int 0, .ref fa, .ref fb, .null, .int 0, .int 0, .int 0])), (ks, .inl (cK, 8, .inr (.inr (.inr (.inr (fun _ => none)))))), (fa, .inr (2, [.ref oa, .int 0])), (oa, .inl (cB, 16, .inl (fun _ => 0))), (fb, .inr (2, [.ref ob, .int 0])), (ob, .inl (cB2, 16, .inl (fun _ => 0)))] H := hP
      have hD : va_D A [(h0, .inr (4, [.int x, .ref ks, .int 0, .ref fa, .ref fb, .null, .int 0, .int 0, .int 0])), (ks, .inl (cK, 8, .inr (.inr (.inr (.inr (fun _ => none)))))), (fa, .inr (2, [.ref oa, .int 0])), (oa, .inl (cB, 16, .inl (fun _ => 0))), (fb, .inr (2, [.ref ob, .int 0])), (ob, .inl (cB2, 16, .inl (fun _ => 0)))] := hD
      refine lv_aload_n hx hb dX3_init_57 rfl (lv_at hl 0 rfl) ?_
      refine va_new (ci := 1) (fs := [.null, .long 0, .long 0]) (C := RX0) (T := TX0) (N := 3) hx hb hts inn_X3_init_X0 tyX0 tyX0_ok hown (hts (.classLink RX3 29 RX0) (by decide +kernel)) (hts (.instantiable RX0 3) (by decide +kernel)) (hts (.initialized RX0) (by decide +kernel)) hK hP hD hS hA rfl (fun j hj => by rcases (show j = 0 ∨ j = 1 ∨ j = 2 by omega) with rfl | rfl | rfl <;> rfl) (Nat.le_of_ble_eq_true rfl) (Nat.le_of_ble_eq_true rfl) dX3_init_58 (fun dr H hP hD hS => ?_)
      have hP : va_P (dC, dI) vwCl [(h0, .inr (4, [.int x, .ref ks, .int 0, .ref fa, .ref fb, .null, .int 0, .int 0, .int 0])), (ks, .inl (cK, 8, .inr (.inr (.inr (.inr (fun _ => none)))))), (fa, .inr (2, [.ref oa, .int 0])), (oa, .inl (cB, 16, .inl (fun _ => 0))), (fb, .inr (2, [.ref ob, .int 0])), (ob, .inl (cB2, 16, .inl (fun _ => 0))), (dr, .inr (1, [.null, .long 0, .long 0]))] H := hP
      have hD : va_D A [(h0, .inr (4, [.int x, .ref ks, .int 0, .ref fa, .ref fb, .null, .int 0, .int 0, .int 0])), (ks, .inl (cK, 8, .inr (.inr (.inr (.inr (fun _ => none)))))), (fa, .inr (2, [.ref oa, .int 0])), (oa, .inl (cB, 16, .inl (fun _ => 0))), (fb, .inr (2, [.ref ob, .int 0])), (ob, .inl (cB2, 16, .inl (fun _ => 0))), (dr, .inr (1, [.null, .long 0, .long 0]))] := hD
      refine W.widen (k := 6) (n := 47) (by omega) (by omega) ?_
      refine lv_dup hx hb dX3_init_61 rfl ?_
      have hPc := hP.sub (ws' := [(dr, .inr (1, [.null, .long 0, .long 0]))]) [6] rfl
      have hDc := hD.sub (ws' := [(dr, .inr (1, [.null, .long 0, .long 0]))]) [6] (by decide) rfl
      have hKc := hK.sub (tys' := []) [] rfl
      have hFc := va_free (wc := [(dr, .inr (1, [.null, .long 0, .long 0]))]) hD hS hA [6] rfl
      refine va_callv (va_runI (As := []) (rest := [.ref dr, .ref h0]) ⟨hx, hb, hml, hown, hts⟩ (c_X0_init l dC dI dr H.size) (cwI 0 hts gX3_init_X0_init rfl rfl rfl (hts (.initialized RX0) (by decide +kernel)) (hts (.methodLink RX3 31 yX0_init) (by decide +kernel)) (hts (.instanceMethod yX0_init) (by decide +kernel)) rfl (by decide +kernel) ⟨Nat.le_of_ble_eq_true rfl, Nat.le_of_ble_eq_true rfl⟩) ⟨fun a U g mk q => by obtain ⟨q0, q1, qP, qK, qD⟩ := q; exact ⟨q0, q1, qP, va_K.moved (u := U) (U := U.calling g mk a) (Vm.Alike.refl U.vm) qK, qD⟩, fun U hU hW => ⟨rfl, by rw [hU], by rw [hU]; exact hPc, va_K.moved hW.alike hKc, hDc.weaken (fun _ _ _ _ => trivial)⟩⟩ rfl rfl hl.1 rfl (lv_room (Nat.le_of_ble_eq_true rfl)) dX3_init_62 ⟨Nat.le_of_ble_eq_true rfl, Nat.le_of_ble_eq_true rfl⟩) hS (fun q _ h => hFc q h) hFc (fun u t H1 locs ht hvm hw hB hz1 hk1 hS => ?_)
      obtain ⟨ds, cI, st⟩ := u
      obtain ⟨hP1, hK1, hD1⟩ := hB
      rw [ht] at hP1
      have hK1 := va_K.moved hvm.symm hK1
      try dsimp only at hw hP1 hK1 hD1
      obtain ⟨hP, hD⟩ := va_join (wr := [(h0, .inr (4, [.int x, .ref ks, .int 0, .ref fa, .ref fb, .null, .int 0, .int 0, .int 0])), (ks, .inl (cK, 8, .inr (.inr (.inr (.inr (fun _ => none)))))), (fa, .inr (2, [.ref oa, .int 0])), (oa, .inl (cB, 16, .inl (fun _ => 0))), (fb, .inr (2, [.ref ob, .int 0])), (ob, .inl (cB2, 16, .inl (fun _ => 0)))]) (w1 := [(dr, .inr (1, [.ref ds, .long 0, .long 0])), (ds, .inl (cI, 5, .inl st))]) hP hD [6] [0, 1, 2, 3, 4, 5] rfl rfl (by decide) (by decide) hk1 hFc hP1 hD1
      have hK := hK.app hK1
      generalize H1 = H at hP hS ⊢
      have hP : va_P (dC, dI) vwCl [(h0, .inr (4, [.int x, .ref ks, .int 0, .ref fa, .ref fb, .null, .int 0, .int 0, .int 0])), (ks, .inl (cK, 8, .inr (.inr (.inr (.inr (fun _ => none)))))), (fa, .inr (2, [.ref oa, .int 0])), (oa, .inl (cB, 16, .inl (fun _ => 0))), (fb, .inr (2, [.ref ob, .int 0])), (ob, .inl (cB2, 16, .inl (fun _ => 0))), (dr, .inr (1, [.ref ds, .long 0, .long 0])), (ds, .inl (cI, 5, .inl st))] H := hP
      have hD : va_D A [(h0, .inr (4, [.int x, .ref ks, .int 0, .ref fa, .ref fb, .null, .int 0, .int 0, .int 0])), (ks, .inl (cK, 8, .inr (.inr (.inr (.inr (fun _ => none)))))), (fa, .inr (2, [.ref oa, .int 0])), (oa, .inl (cB, 16, .inl (fun _ => 0))), (fb, .inr (2, [.ref ob, .int 0])), (ob, .inl (cB2, 16, .inl (fun _ => 0))), (dr, .inr (1, [.ref ds, .long 0, .long 0])), (ds, .inl (cI, 5, .inl st))] := hD
      have hK : va_K (dC, dI) vwCl [(cK, .object RX2), (cB, .byte), (cB2, .byte), (cI, .int)] s := hK
      refine W.widen (k := 7) (n := 52) (by omega) (by omega) ?_
      refine va_putF (D := (dC, dI)) (ci := 4) (v := .ref dr) (ty := .object "DoorKeys$Doors") (C := RX3) (T := TX3) (N := 9) hx hb hts inn_X3_init_X3 tyX3 tyX3_ok nmX3 hown hK hP hD hS 0 rfl rfl 5 (by decide) (hts (.fieldLink RX3 32 "DoorKeys" "doors" "LDoorKeys$Doors;") (by decide +kernel)) (fun _ h9 => h9) rfl hin rfl (by decide +kernel) rfl rfl (Nat.le_of_ble_eq_true rfl) dX3_init_65 (fun H locs hP hD hS => ?_)
      have hP : va_P (dC, dI) vwCl [(h0, .inr (4, [.int x, .ref ks, .int 0, .ref fa, .ref fb, .ref dr, .int 0, .int 0, .int 0])), (ks, .inl (cK, 8, .inr (.inr (.inr (.inr (fun _ => none)))))), (fa, .inr (2, [.ref oa, .int 0])), (oa, .inl (cB, 16, .inl (fun _ => 0))), (fb, .inr (2, [.ref ob, .int 0])), (ob, .inl (cB2, 16, .inl (fun _ => 0))), (dr, .inr (1, [.ref ds, .long 0, .long 0])), (ds, .inl (cI, 5, .inl st))] H := hP
      have hD : va_D A [(h0, .inr (4, [.int x, .ref ks, .int 0, .ref fa, .ref fb, .ref dr, .int 0, .int 0, .int 0])), (ks, .inl (cK, 8, .inr (.inr (.inr (.inr (fun _ => none)))))), (fa, .inr (2, [.ref oa, .int 0])), (oa, .inl (cB, 16, .inl (fun _ => 0))), (fb, .inr (2, [.ref ob, .int 0])), (ob, .inl (cB2, 16, .inl (fun _ => 0))), (dr, .inr (1, [.ref ds, .long 0, .long 0])), (ds, .inl (cI, 5, .inl st))] := hD
      have e2 : cB2 = cB := Option.some.inj ((hK.2 2 _ rfl).2.symm.trans (hK.2 1 _ rfl).2)
      subst e2
      have hw9 : dkW0 cK cB2 cI h0 ks fa oa fb ob dr ds (dk_span x) st = [(h0, .inr (4, [.int x, .ref ks, .int 0, .ref fa, .ref fb, .ref dr, .int 0, .int 0, .int 0])), (ks, .inl (cK, 8, .inr (.inr (.inr (.inr (fun _ => none)))))), (fa, .inr (2, [.ref oa, .int 0])), (oa, .inl (cB2, 16, .inl (fun _ => 0))), (fb, .inr (2, [.ref ob, .int 0])), (ob, .inl (cB2, 16, .inl (fun _ => 0))), (dr, .inr (1, [.ref ds, .long 0, .long 0])), (ds, .inl (cI, 5, .inl st))] := by
        unfold dkW0 dkW
        rw [dk_k0, e1]
        rfl
      have hK9 : va_K (dC, dI) vwCl (dkT cK cB2 cI) s := hK.sub [0, 1, 3] rfl
      exact W.vret hx hb hr (fun t ht hW => ⟨⟨(cK, cB2, cI, ks, fa, oa, fb, ob, dr, ds, st), rfl, hw, by rw [ht, hw9]; exact hP, va_K.moved hW.alike hK9, by rw [hw9]; exact hD⟩, hS.F ht⟩) hS.2.2 dX3_init_68
end
section
/-! key, refused (laid by wip/gen.py) -/
set_option maxRecDepth 20000 in
theorem inn_X3_key_X3 : ∀ w ∈ wsX30, w ∈ wsX3_key := by decide +kernel
/-- a key is taken -/
abbrev dk_keyOK (n : Nat) (K : Nat → KR) (x y : Int64) : Prop := ¬ (lg_cmp y 0) < 0 ∧ (lg_cmp y 65535) ≤ 0 ∧ (dk_isSec n K x) = 0 ∧ nI n < 8
def dk_keyN (n : Nat) (K : Nat → KR) (x : Int64) (y : Int64) : Int32 :=
  if (lg_cmp y 0) < 0 then
    ((-2) : Int32)
  else
    if (lg_cmp y 65535) ≤ 0 then
      if dk_isSec n K x = 0 then
        ((-4) : Int32)
      else
        ((-3) : Int32)
    else
      ((-2) : Int32)
def rm_X3_keyN : Room := { frames := 2, cells := 0, slots := 0, locals := 100 }
set_option maxHeartbeats 4000000 in
set_option maxRecDepth 100000 in
theorem c_X3_keyN (l : Launch) (dC : Nat → ClassId) (dI : Nat → Nat → Nat) (cK : ClassId) (cB : ClassId) (cI : ClassId) (o : Nat) (ks : Nat) (fa : Nat) (oa : Nat) (fb : Nat) (ob : Nat) (dr : Nat) (ds : Nat) (L : Nat → Nat) (n : Nat) (sp : Int32) (co : Nat) (en : Nat) (cr : Int32) (rl : Int32) (qs : Int32) (kA : Int32) (oA : Nat → Int8) (kB : Int32) (oB : Nat → Int8) (tt : Int64) (ss : Int64) (st : Nat → Int32) (K : Nat → KR) (x : Int64) (y : Int64) (hn : n ≤ 8) (hno : ¬ dk_keyOK n K x y) : Met l yX3_key wsX3_key rm_X3_keyN (up_P (dC, dI) vwCl (dkT cK cB cI) (dkW cK cB cI o ks fa oa fb ob dr ds L n sp co en cr rl qs kA oA kB oB tt ss st K) [.ref o, .long x, .long y]) (k2_QcV (.int (dk_keyN n K x y))) 0 0 (fun _ => False) := by
  refine Met.ofW (cc := cX3_key) (maxL := 5) (ret := (some .int)) (by decide) rfl ?_
  intro p e s m args below meth c s₁ B hml hv
  obtain ⟨rfl, hP, hK, hD0⟩ := hv
  have hx := B.exec
  have hb := B.bytes
  have hr := B.returns
  have hts := atoms_spec (ws := wsX3_key) B.pre
  have hown : s.vm.findClass RX3 = some m.cls := findClass_of_methodNamed B.named
  have hlocks := B.notSynchronized
  have hD := up_self hD0
  have hS : va_S (up_c (dkW cK cB cI o ks fa oa fb ob dr ds L n sp co en cr rl qs kA oA kB oB tt ss st K)) s.heap s.heap [] := va_S.rf
  have hl := lv_entry ([.ref o, .long x, .long y]) (n := 5) (Nat.le_of_ble_eq_true rfl)
  rw [lg_entry_eq]
  generalize (lg_sl ([.ref o, .long x, .long y]) ++ List.replicate (5 - (lg_sl ([.ref o, .long x, .long y])).length) Slot.unset).toArray = ls at hl ⊢
  have hl : lv_has ls 5 [(0, .ref o), (1, .long x), (3, .long y)] := hl
  refine lv_lload_n hx hb dX3_key_0 rfl (lv_at hl 2 rfl) ?_
  refine lv_lconst (v := 0) hx hb dX3_key_1 (by decide) ?_
  refine W.lcmp hx hb dX3_key_2 ?_
  refine lv_if_lt (tgt := 14) hx hb dX3_key_3 (by decide) (fun c_3 => ?_) (fun c_3 => ?_)
  · refine lv_bipush (v := (-2)) hx hb dX3_key_14 (by decide) ?_
    have e_ : dk_keyN n K x y = ((-2) : Int32) := by unfold dk_keyN; exact (if_pos c_3).trans rfl
    rw [e_]
    exact W.iret (v := (-2)) hx hb hr (fun t ht hW => ⟨rfl, ht⟩) (fun q h => absurd h List.not_mem_nil) dX3_key_16
  · refine lv_lload_n hx hb dX3_key_6 rfl (lv_at hl 2 rfl) ?_
    refine lv_ldc2 (v := 65535) hx hb hown (hts (.constantLong RX3 36 65535) (by decide +kernel)) dX3_key_7 ?_
    refine W.lcmp hx hb dX3_key_10 ?_
    refine lv_if_le (tgt := 17) hx hb dX3_key_11 (by decide) (fun c_11 => ?_) (fun c_11 => ?_)
    · refine lv_aload_n hx hb dX3_key_17 rfl (lv_at hl 0 rfl) ?_
      refine lv_lload_n hx hb dX3_key_18 rfl (lv_at hl 1 rfl) ?_
      refine up_read (W.runV (As := [.long x]) (rest := []) ⟨hx, hb, hml, hown, hts⟩ (c_X3_isSecretOfAKey l dC dI cK cB cI o ks fa oa fb ob dr ds L n sp co en cr rl qs kA oA kB oB tt ss st K x hn) (cwV 1 hts gX3_key_X3_isSecretOfAKey rfl rfl rfl (by decide +kernel) ⟨Nat.le_of_ble_eq_true rfl, Nat.le_of_ble_eq_true rfl⟩) (up_preV (q0 := 0) (ci := 4) hP hK hD rfl rfl) rfl rfl hl.1 rfl (lv_room (Nat.le_of_ble_eq_true rfl)) dX3_key_19 ⟨Nat.le_of_ble_eq_true rfl, Nat.le_of_ble_eq_true rfl⟩) ?_
      refine lv_if_eq (tgt := 28) hx hb dX3_key_22 (by decide) (fun c_22 => ?_) (fun c_22 => ?_)
      · refine lv_aload_n hx hb dX3_key_28 rfl (lv_at hl 0 rfl) ?_
        refine va_get (D := (dC, dI)) (ci := 4) (v := .int (nI n)) (C := RX3) (T := TX3) (N := 9) hx hb hts inn_X3_key_X3 hown hK hP 0 rfl rfl 2 (by decide) (hts (.fieldLink RX3 42 "DoorKeys" "keyCount" "I") (by decide +kernel)) (fun _ h9 => h9) rfl dX3_key_29 ?_
        refine lv_aload_n hx hb dX3_key_32 rfl (lv_at hl 0 rfl) ?_
        refine va_get (D := (dC, dI)) (ci := 4) (v := .ref ks) (C := RX3) (T := TX3) (N := 9) hx hb hts inn_X3_key_X3 hown hK hP 0 rfl rfl 1 (by decide) (hts (.fieldLink RX3 15 "DoorKeys" "keys" "[LDoorKeys$Key;") (by decide +kernel)) (fun _ h9 => h9) rfl dX3_key_33 ?_
        refine va_alen (v := 8) hx hb hK hP 1 0 rfl rfl rfl dX3_key_36 ?_
        refine lv_icmp_lt (tgt := 43) hx hb dX3_key_37 (by decide) (fun c_37 => (hno ⟨c_3, c_11, c_22, c_37⟩).elim) (fun c_37 => ?_)
        refine lv_bipush (v := (-4)) hx hb dX3_key_40 (by decide) ?_
        have e_ : dk_keyN n K x y = ((-4) : Int32) := by unfold dk_keyN; exact (if_neg c_3).trans ((if_pos c_11).trans ((if_pos c_22).trans rfl))
        rw [e_]
        exact W.iret (v := (-4)) hx hb hr (fun t ht hW => ⟨rfl, ht⟩) (fun q h => absurd h List.not_mem_nil) dX3_key_42
      · refine lv_bipush (v := (-3)) hx hb dX3_key_25 (by decide) ?_
        have e_ : dk_keyN n K x y = ((-3) : Int32) := by unfold dk_keyN; exact (if_neg c_3).trans ((if_pos c_11).trans ((if_neg c_22).trans rfl))
        rw [e_]
        exact W.iret (v := (-3)) hx hb hr (fun t ht hW => ⟨rfl, ht⟩) (fun q h => absurd h List.not_mem_nil) dX3_key_27
    · refine lv_bipush (v := (-2)) hx hb dX3_key_14 (by decide) ?_
      have e_ : dk_keyN n K x y = ((-2) : Int32) := by unfold dk_keyN; exact (if_neg c_3).trans ((if_neg c_11).trans rfl)
      rw [e_]
      exact W.iret (v := (-2)) hx hb hr (fun t ht hW => ⟨rfl, ht⟩) (fun q h => absurd h List.not_mem_nil) dX3_key_16
set_option maxRecDepth 20000 in
theorem inn_X3_key_X2 : ∀ w ∈ wsX20, w ∈ wsX3_key := by decide +kernel
def dk_l2 (n : Nat) : Int32 := if 2 ≤ nI n then 0 else 1
theorem kpool_push (L : Nat → Nat) (K : Nat → KR) (n q : Nat) (r : KR) : kpool (va_up L n q) (va_up K n r) (n + 1) = kpool L K n ++ [(q, kcell r)] := by
  unfold kpool
  rw [List.range_succ, List.map_append]
  congr 1
  · apply List.map_congr_left
    intro i hi
    have h : i ≠ n := Nat.ne_of_lt (List.mem_range.mp hi)
    rw [va_up_ne L q h, va_up_ne K r h]
  · simp [va_up_self]
theorem dk_fpush (L : Nat → Nat) (n q : Nat) : va_up (fun i => if i < n then some (L i) else none) n (some q) = fun i => if i < n + 1 then some (va_up L n q i) else none := by
  funext i
  by_cases h : i = n
  · subst h
    simp [va_up]
  · have h2 : i < n + 1 ↔ i < n := by omega
    simp [va_up, h, h2]
theorem dk_push {cK cB cI : ClassId} {o ks fa oa fb ob dr ds : Nat} {L : Nat → Nat} {n : Nat} {sp : Int32} {co en : Nat} {cr rl qs kA : Int32} {oA : Nat → Int8} {kB : Int32} {oB : Nat → Int8} {tt ss : Int64} {st : Nat → Int32} {K : Nat → KR} {q : Nat} {r : KR} (hn : n < 8) : (((dkW cK cB cI o ks fa oa fb ob dr ds L n sp co en cr rl qs kA oA kB oB tt ss st K) ++ [(q, kcell r)]).set 1 (ks, .inl (cK, 8, .inr (.inr (.inr (.inr (va_up (fun i => if i < n then some (L i) else none) (nI n).toNatClampNeg (some q)))))))).set 0 (o, .inr (4, [.int sp, .ref ks, .int (nI (n + 1)), .ref co, .ref en, .ref dr, .int cr, .int rl, .int qs])) = (dkW cK cB cI o ks fa oa fb ob dr ds (va_up L n q) (n + 1) sp co en cr rl qs kA oA kB oB tt ss st (va_up K n r)) := by
  rw [nI_clamp (show n < 2 ^ 31 by omega), dk_fpush]
  unfold dkW
  rw [kpool_push]
  rfl
theorem dk_newat {cK cB cI : ClassId} {o ks fa oa fb ob dr ds : Nat} {L : Nat → Nat} {n : Nat} {sp : Int32} {co en : Nat} {cr rl qs kA : Int32} {oA : Nat → Int8} {kB : Int32} {oB : Nat → Int8} {tt ss : Int64} {st : Nat → Int32} {K : Nat → KR} {q : Nat} {e : va_E} : ((dkW cK cB cI o ks fa oa fb ob dr ds L n sp co en cr rl qs kA oA kB oB tt ss st K) ++ [(q, e)])[n + 8]? = some (q, e) := by
  unfold dkW
  show (kpool L K n ++ [(q, e)])[n]? = _
  have hl : (kpool L K n).length = n := by simp [kpool]
  rw [List.getElem?_append_right (by omega), hl, Nat.sub_self]
  rfl
section UL
variable {p : Program} {l : Launch} {e : Env} {R : Room} {s : State} {m : MethodId} {args : Array Value} {below : List Frame} {meth : Method} {c : Code} {H : Heap} {locs : List Loc} {cells slots : Nat} {Q : State → Prop} {pc : Nat} {ls : Array Slot} {st0 rest : List Value} {D : va_G} {cl : List vw_C} {A : Nat → Prop} {w0 : va_W} {H0 : Heap} {a : Array Value}
/-- a call that is given the last cell of the world alone -/
theorem up_calllast {v : Option Value} {q : Nat} {e1 e2 : va_E} (hr : CallRun p l e R s m args below meth c H locs cells slots 0 0 (F0 m pc ls st0) rest (up_Q D cl v [(q, e1)] [(q, e2)] a) (up_c [(q, e1)])) (hP : va_P D cl (w0 ++ [(q, e1)]) H) (hD : va_D A (w0 ++ [(q, e1)])) (hS : va_S A H0 H locs)
    (kk : ∀ (H1 : Heap) (locs1 : List Loc), va_P D cl (w0 ++ [(q, e2)]) H1 → va_D A (w0 ++ [(q, e2)]) → va_S A H0 H1 locs1 → W p l e R s m args below meth c H1 locs1 cells slots Q (F0 m (pc + 3) ls (v.toList ++ rest))) : W p l e R s m args below meth c H locs cells slots Q (F0 m pc ls st0) := by
  have hlast : (w0 ++ [(q, e1)])[w0.length]? = some (q, e1) := by simp
  have hD1 : va_D A [(q, e1)] := by
    refine ⟨fun i j x y hi hj _ => ?_, fun k z hk => ?_⟩
    · have h1 := (List.getElem?_eq_some_iff.mp hi).1
      have h2 := (List.getElem?_eq_some_iff.mp hj).1
      simp at h1 h2
      omega
    · have h1 := (List.getElem?_eq_some_iff.mp hk).1
      simp at h1
      subst h1
      cases hk
      exact hD.2 _ _ hlast
  refine up_call hr hD1 hS rfl (fun H1 locs1 hP1 _ hS1 hz hk => ?_)
  have hmem : ∀ z, up_c [(q, e1)] z → z = q := by
    intro z hz
    obtain ⟨k, e9, h9⟩ := hz
    have := List.mem_of_getElem? h9
    simp at this
    exact this.1
  refine kk H1 locs1 ?_ (up_Dfst (by simp) hD) hS1
  refine va_P.app (fun k z hk2 => ?_) hP1
  have hk3 : (w0 ++ [(q, e1)])[k]? = some z := by rw [List.getElem?_append_left (List.getElem?_eq_some_iff.mp hk2).1]; exact hk2
  have hlt := (hP k z hk3).lt
  refine (hP k z hk3).kept (hk z.1 hlt (fun hz => ?_))
  have := hD.1 k w0.length z (q, e1) hk3 hlast (hmem _ hz)
  have := (List.getElem?_eq_some_iff.mp hk2).1
  omega
end UL
def rm_X3_keyY : Room := { frames := 2, cells := 1, slots := 7, locals := 100 }
set_option maxHeartbeats 4000000 in
set_option maxRecDepth 100000 in
theorem c_X3_keyY (l : Launch) (dC : Nat → ClassId) (dI : Nat → Nat → Nat) (cK cB cI : ClassId) (o ks fa oa fb ob dr ds : Nat) (L : Nat → Nat) (n : Nat) (sp : Int32) (co en : Nat) (cr rl qs kA : Int32) (oA : Nat → Int8) (kB : Int32) (oB : Nat → Int8) (tt ss : Int64) (st : Nat → Int32) (K : Nat → KR) (sz : Nat) (x y : Int64) (hn : n ≤ 8) (hok : dk_keyOK n K x y) : Met l yX3_key wsX3_key rm_X3_keyY (va_Pc [.ref o, .long x, .long y] (fun U => U.heap.size = sz ∧ va_P (dC, dI) vwCl (dkW cK cB cI o ks fa oa fb ob dr ds L n sp co en cr rl qs kA oA kB oB tt ss st K) U.heap ∧ va_K (dC, dI) vwCl (dkT cK cB cI) U ∧ va_D (fun _ => True) (dkW cK cB cI o ks fa oa fb ob dr ds L n sp co en cr rl qs kA oA kB oB tt ss st K))) (va_Qi (fun (r : Int32) (_ : Nat) => r = nI (n + 1)) (fun (u : Nat) (t : State) => va_P (dC, dI) vwCl (dkW cK cB cI o ks fa oa fb ob dr ds (va_up L n u) (n + 1) sp co en cr rl qs kA oA kB oB tt ss st (va_up K n (x, y.toInt32, -1, dk_l2 n, 0, 0, 0))) t.heap ∧ va_D (va_A (dkW cK cB cI o ks fa oa fb ob dr ds L n sp co en cr rl qs kA oA kB oB tt ss st K) sz) (dkW cK cB cI o ks fa oa fb ob dr ds (va_up L n u) (n + 1) sp co en cr rl qs kA oA kB oB tt ss st (va_up K n (x, y.toInt32, -1, dk_l2 n, 0, 0, 0)))) (va_A (dkW cK cB cI o ks fa oa fb ob dr ds L n sp co en cr rl qs kA oA kB oB tt ss st K) sz)) 1 7 (va_A (dkW cK cB cI o ks fa oa fb ob dr ds L n sp co en cr rl qs kA oA kB oB tt ss st K) sz) := by
  refine Met.ofW (cc := cX3_key) (maxL := 5) (ret := (some .int)) (by decide) rfl ?_
  intro p e s m args below meth c s₁ B hml hv
  obtain ⟨rfl, hsz, hP, hK, hD0⟩ := hv
  have hx := B.exec
  have hb := B.bytes
  have hr := B.returns
  have hts := atoms_spec (ws := wsX3_key) B.pre
  have hown : s.vm.findClass RX3 = some m.cls := findClass_of_methodNamed B.named
  have hlocks := B.notSynchronized
  subst hsz
  have hD := hD0.self (sz := s.heap.size)
  generalize hAe : va_A (dkW cK cB cI o ks fa oa fb ob dr ds L n sp co en cr rl qs kA oA kB oB tt ss st K) s.heap.size = A at hD ⊢
  have hA : ∀ q : Nat, s.heap.size ≤ q → A q := fun q h => by rw [← hAe]; exact Or.inr h
  have hS : va_S A s.heap s.heap [] := va_S.rf
  have hn8 : n < 8 := (nI_ltI (a := n) (b := 8) (by omega) (by decide)).mp hok.2.2.2
  have hl := lv_entry ([.ref o, .long x, .long y]) (n := 5) (Nat.le_of_ble_eq_true rfl)
  rw [lg_entry_eq]
  generalize (lg_sl ([.ref o, .long x, .long y]) ++ List.replicate (5 - (lg_sl ([.ref o, .long x, .long y])).length) Slot.unset).toArray = ls at hl ⊢
  have hl : lv_has ls 5 [(0, .ref o), (1, .long x), (3, .long y)] := hl
  refine lv_lload_n hx hb dX3_key_0 rfl (lv_at hl 2 rfl) ?_
  refine lv_lconst (v := 0) hx hb dX3_key_1 (by decide) ?_
  refine W.lcmp hx hb dX3_key_2 ?_
  refine lv_if_lt (tgt := 14) hx hb dX3_key_3 (by decide) (fun c_3 => (hok.1 c_3).elim) (fun c_3 => ?_)
  refine lv_lload_n hx hb dX3_key_6 rfl (lv_at hl 2 rfl) ?_
  refine lv_ldc2 (v := 65535) hx hb hown (hts (.constantLong RX3 36 65535) (by decide +kernel)) dX3_key_7 ?_
  refine W.lcmp hx hb dX3_key_10 ?_
  refine lv_if_le (tgt := 17) hx hb dX3_key_11 (by decide) (fun c_11 => ?_) (fun c_11 => (c_11 hok.2.1).elim)
  refine lv_aload_n hx hb dX3_key_17 rfl (lv_at hl 0 rfl) ?_
  refine lv_lload_n hx hb dX3_key_18 rfl (lv_at hl 1 rfl) ?_
  refine up_read (W.runV (As := [.long x]) (rest := []) ⟨hx, hb, hml, hown, hts⟩ (c_X3_isSecretOfAKey l dC dI cK cB cI o ks fa oa fb ob dr ds L n sp co en cr rl qs kA oA kB oB tt ss st K x hn) (cwV 1 hts gX3_key_X3_isSecretOfAKey rfl rfl rfl (by decide +kernel) ⟨Nat.le_of_ble_eq_true rfl, Nat.le_of_ble_eq_true rfl⟩) (up_preV (q0 := 0) (ci := 4) hP hK hD rfl rfl) rfl rfl hl.1 rfl (lv_room (Nat.le_of_ble_eq_true rfl)) dX3_key_19 ⟨Nat.le_of_ble_eq_true rfl, Nat.le_of_ble_eq_true rfl⟩) ?_
  refine lv_if_eq (tgt := 28) hx hb dX3_key_22 (by decide) (fun c_22 => ?_) (fun c_22 => (c_22 hok.2.2.1).elim)
  refine lv_aload_n hx hb dX3_key_28 rfl (lv_at hl 0 rfl) ?_
  refine va_get (D := (dC, dI)) (ci := 4) (v := .int (nI n)) (C := RX3) (T := TX3) (N := 9) hx hb hts inn_X3_key_X3 hown hK hP 0 rfl rfl 2 (by decide) (hts (.fieldLink RX3 42 "DoorKeys" "keyCount" "I") (by decide +kernel)) (fun _ h9 => h9) rfl dX3_key_29 ?_
  refine lv_aload_n hx hb dX3_key_32 rfl (lv_at hl 0 rfl) ?_
  refine va_get (D := (dC, dI)) (ci := 4) (v := .ref ks) (C := RX3) (T := TX3) (N := 9) hx hb hts inn_X3_key_X3 hown hK hP 0 rfl rfl 1 (by decide) (hts (.fieldLink RX3 15 "DoorKeys" "keys" "[LDoorKeys$Key;") (by decide +kernel)) (fun _ h9 => h9) rfl dX3_key_33 ?_
  refine va_alen (v := 8) hx hb hK hP 1 0 rfl rfl rfl dX3_key_36 ?_
  refine lv_icmp_lt (tgt := 43) hx hb dX3_key_37 (by decide) (fun c_37 => ?_) (fun c_37 => (c_37 hok.2.2.2).elim)
  refine lv_aload_n hx hb dX3_key_43 rfl (lv_at hl 0 rfl) ?_
  refine va_get (D := (dC, dI)) (ci := 4) (v := .ref ks) (C := RX3) (T := TX3) (N := 9) hx hb hts inn_X3_key_X3 hown hK hP 0 rfl rfl 1 (by decide) (hts (.fieldLink RX3 15 "DoorKeys" "keys" "[LDoorKeys$Key;") (by decide +kernel)) (fun _ h9 => h9) rfl dX3_key_44 ?_
  refine lv_aload_n hx hb dX3_key_47 rfl (lv_at hl 0 rfl) ?_
  refine va_get (D := (dC, dI)) (ci := 4) (v := .int (nI n)) (C := RX3) (T := TX3) (N := 9) hx hb hts inn_X3_key_X3 hown hK hP 0 rfl rfl 2 (by decide) (hts (.fieldLink RX3 42 "DoorKeys" "keyCount" "I") (by decide +kernel)) (fun _ h9 => h9) rfl dX3_key_48 ?_
  refine va_new (ci := 3) (fs := [.long 0, .int 0, .int 0, .int 0, .int 0, .int 0, .int 0]) (C := RX2) (T := TX2) (N := 7) hx hb hts inn_X3_key_X2 tyX2 tyX2_ok hown (hts (.classLink RX3 13 RX2) (by decide +kernel)) (hts (.instantiable RX2 7) (by decide +kernel)) (hts (.initialized RX2) (by decide +kernel)) hK hP hD hS hA rfl (fun j hj => by rcases (show j = 0 ∨ j = 1 ∨ j = 2 ∨ j = 3 ∨ j = 4 ∨ j = 5 ∨ j = 6 by omega) with rfl | rfl | rfl | rfl | rfl | rfl | rfl <;> rfl) (Nat.le_of_ble_eq_true rfl) (Nat.le_of_ble_eq_true rfl) dX3_key_51 (fun q H hP hD hS => ?_)
  refine W.widen (k := 1) (n := 7) (by omega) (by omega) ?_
  have hPq : va_P (dC, dI) vwCl [(q, kcell (0, 0, 0, 0, 0, 0, 0))] H := fun k z hk => by
    have h1 := (List.getElem?_eq_some_iff.mp hk).1
    simp at h1
    subst h1
    cases hk
    exact hP (n + 8) _ dk_newat
  have hDq : va_D (fun _ => True) [(q, kcell (0, 0, 0, 0, 0, 0, 0))] := by
    refine ⟨fun i j a b hi hj _ => ?_, fun _ _ _ => trivial⟩
    have h1 := (List.getElem?_eq_some_iff.mp hi).1
    have h2 := (List.getElem?_eq_some_iff.mp hj).1
    simp at h1 h2
    omega
  refine lv_dup hx hb dX3_key_54 rfl ?_
  refine lv_lload_n hx hb dX3_key_55 rfl (lv_at hl 1 rfl) ?_
  refine lv_lload_n hx hb dX3_key_56 rfl (lv_at hl 2 rfl) ?_
  refine lv_l2i (v := y.toInt32) hx hb dX3_key_57 rfl ?_
  refine lv_aload_n hx hb dX3_key_58 rfl (lv_at hl 0 rfl) ?_
  refine va_get (D := (dC, dI)) (ci := 4) (v := .int (nI n)) (C := RX3) (T := TX3) (N := 9) hx hb hts inn_X3_key_X3 hown hK hP 0 rfl rfl 2 (by decide) (hts (.fieldLink RX3 42 "DoorKeys" "keyCount" "I") (by decide +kernel)) (fun _ h9 => h9) rfl dX3_key_59 ?_
  refine lv_iconst (v := 2) hx hb dX3_key_62 (by decide) ?_
  refine lv_icmp_ge (tgt := 70) hx hb dX3_key_63 (by decide) (fun c_63 => ?_) (fun c_63 => ?_)
  · have e9 : dk_l2 n = 0 := by unfold dk_l2; exact if_pos c_63
    refine lv_iconst (v := 0) hx hb dX3_key_70 (by decide) ?_
    refine up_calllast (w0 := (dkW cK cB cI o ks fa oa fb ob dr ds L n sp co en cr rl qs kA oA kB oB tt ss st K)) (e1 := kcell (0, 0, 0, 0, 0, 0, 0)) (e2 := kcell (x, y.toInt32, -1, 0, 0, 0, 0)) (W.runI (As := [.long x, .int y.toInt32, .int 0]) (rest := [.ref q, .int (nI n), .ref ks]) ⟨hx, hb, hml, hown, hts⟩ (c_X2_init l dC dI q x y.toInt32 0 (by decide) (by decide)) (cwI 3 hts gX3_key_X2_init rfl rfl rfl (hts (.initialized RX2) (by decide +kernel)) (hts (.methodLink RX3 45 yX2_init) (by decide +kernel)) (hts (.instanceMethod yX2_init) (by decide +kernel)) rfl (by decide +kernel) ⟨Nat.le_of_ble_eq_true rfl, Nat.le_of_ble_eq_true rfl⟩) (up_preS hPq (hK.sub (tys' := []) [] rfl) hDq) rfl rfl hl.1 rfl (lv_room (Nat.le_of_ble_eq_true rfl)) dX3_key_71 ⟨Nat.le_of_ble_eq_true rfl, Nat.le_of_ble_eq_true rfl⟩) hP hD hS (fun H locs hP hD hS => ?_)
    refine W.eq (g2 := F0 m 74 ls [.ref q, .int (nI n), .ref ks]) rfl ?_
    refine va_astq (ci := 3) (r := (RX2, TX2, 7)) hx hb hK hP hD hS 1 0 (n + 8) rfl rfl dk_newat rfl (vp_in_nI (n := n) (N := 8) hn8 (by decide)) dX3_key_74 (fun H locs hP hD hS => ?_)
    refine lv_aload_n hx hb dX3_key_75 rfl (lv_at hl 0 rfl) ?_
    refine lv_dup hx hb dX3_key_76 rfl ?_
    refine va_get (D := (dC, dI)) (ci := 4) (v := .int (nI n)) (C := RX3) (T := TX3) (N := 9) hx hb hts inn_X3_key_X3 hown hK hP 0 rfl rfl 2 (by decide) (hts (.fieldLink RX3 42 "DoorKeys" "keyCount" "I") (by decide +kernel)) (fun _ h9 => h9) rfl dX3_key_77 ?_
    refine lv_iconst (v := 1) hx hb dX3_key_80 (by decide) ?_
    refine lv_iadd hx hb dX3_key_81 ?_
    rw [nI_1]
    refine va_put (D := (dC, dI)) (ci := 4) (v := .int (nI (n + 1))) (ty := .int) (C := RX3) (T := TX3) (N := 9) hx hb hts inn_X3_key_X3 tyX3 tyX3_ok nmX3 hown hK hP hD hS 0 rfl rfl 2 (by decide) (hts (.fieldLink RX3 42 "DoorKeys" "keyCount" "I") (by decide +kernel)) (fun _ h9 => h9) rfl (by decide +kernel) rfl rfl (Nat.le_of_ble_eq_true rfl) dX3_key_82 (fun H locs hP hD hS => ?_)
    have hP : va_P (dC, dI) vwCl (dkW cK cB cI o ks fa oa fb ob dr ds (va_up L n q) (n + 1) sp co en cr rl qs kA oA kB oB tt ss st (va_up K n (x, y.toInt32, -1, dk_l2 n, 0, 0, 0))) H := by rw [e9, ← dk_push hn8]; exact hP
    have hD : va_D A (dkW cK cB cI o ks fa oa fb ob dr ds (va_up L n q) (n + 1) sp co en cr rl qs kA oA kB oB tt ss st (va_up K n (x, y.toInt32, -1, dk_l2 n, 0, 0, 0))) := by rw [e9, ← dk_push hn8]; exact hD
    refine lv_aload_n hx hb dX3_key_85 rfl (lv_at hl 0 rfl) ?_
    refine va_get (D := (dC, dI)) (ci := 4) (v := .int (nI (n + 1))) (C := RX3) (T := TX3) (N := 9) hx hb hts inn_X3_key_X3 hown hK hP 0 rfl rfl 2 (by decide) (hts (.fieldLink RX3 42 "DoorKeys" "keyCount" "I") (by decide +kernel)) (fun _ h9 => h9) rfl dX3_key_86 ?_
    exact W.iret (v := nI (n + 1)) hx hb hr (fun t ht hW => ⟨⟨_, q, rfl, rfl, by rw [ht]; exact hP, hD⟩, hS.F ht⟩) hS.2.2 dX3_key_89
  · have e9 : dk_l2 n = 1 := by unfold dk_l2; exact if_neg c_63
    refine lv_iconst (v := 1) hx hb dX3_key_66 (by decide) ?_
    refine lv_goto (tgt := 71) hx hb dX3_key_67 (by decide) ?_
    refine up_calllast (w0 := (dkW cK cB cI o ks fa oa fb ob dr ds L n sp co en cr rl qs kA oA kB oB tt ss st K)) (e1 := kcell (0, 0, 0, 0, 0, 0, 0)) (e2 := kcell (x, y.toInt32, -1, 1, 0, 0, 0)) (W.runI (As := [.long x, .int y.toInt32, .int 1]) (rest := [.ref q, .int (nI n), .ref ks]) ⟨hx, hb, hml, hown, hts⟩ (c_X2_init l dC dI q x y.toInt32 1 (by decide) (by decide)) (cwI 3 hts gX3_key_X2_init rfl rfl rfl (hts (.initialized RX2) (by decide +kernel)) (hts (.methodLink RX3 45 yX2_init) (by decide +kernel)) (hts (.instanceMethod yX2_init) (by decide +kernel)) rfl (by decide +kernel) ⟨Nat.le_of_ble_eq_true rfl, Nat.le_of_ble_eq_true rfl⟩) (up_preS hPq (hK.sub (tys' := []) [] rfl) hDq) rfl rfl hl.1 rfl (lv_room (Nat.le_of_ble_eq_true rfl)) dX3_key_71 ⟨Nat.le_of_ble_eq_true rfl, Nat.le_of_ble_eq_true rfl⟩) hP hD hS (fun H locs hP hD hS => ?_)
    refine W.eq (g2 := F0 m 74 ls [.ref q, .int (nI n), .ref ks]) rfl ?_
    refine va_astq (ci := 3) (r := (RX2, TX2, 7)) hx hb hK hP hD hS 1 0 (n + 8) rfl rfl dk_newat rfl (vp_in_nI (n := n) (N := 8) hn8 (by decide)) dX3_key_74 (fun H locs hP hD hS => ?_)
    refine lv_aload_n hx hb dX3_key_75 rfl (lv_at hl 0 rfl) ?_
    refine lv_dup hx hb dX3_key_76 rfl ?_
    refine va_get (D := (dC, dI)) (ci := 4) (v := .int (nI n)) (C := RX3) (T := TX3) (N := 9) hx hb hts inn_X3_key_X3 hown hK hP 0 rfl rfl 2 (by decide) (hts (.fieldLink RX3 42 "DoorKeys" "keyCount" "I") (by decide +kernel)) (fun _ h9 => h9) rfl dX3_key_77 ?_
    refine lv_iconst (v := 1) hx hb dX3_key_80 (by decide) ?_
    refine lv_iadd hx hb dX3_key_81 ?_
    rw [nI_1]
    refine va_put (D := (dC, dI)) (ci := 4) (v := .int (nI (n + 1))) (ty := .int) (C := RX3) (T := TX3) (N := 9) hx hb hts inn_X3_key_X3 tyX3 tyX3_ok nmX3 hown hK hP hD hS 0 rfl rfl 2 (by decide) (hts (.fieldLink RX3 42 "DoorKeys" "keyCount" "I") (by decide +kernel)) (fun _ h9 => h9) rfl (by decide +kernel) rfl rfl (Nat.le_of_ble_eq_true rfl) dX3_key_82 (fun H locs hP hD hS => ?_)
    have hP : va_P (dC, dI) vwCl (dkW cK cB cI o ks fa oa fb ob dr ds (va_up L n q) (n + 1) sp co en cr rl qs kA oA kB oB tt ss st (va_up K n (x, y.toInt32, -1, dk_l2 n, 0, 0, 0))) H := by rw [e9, ← dk_push hn8]; exact hP
    have hD : va_D A (dkW cK cB cI o ks fa oa fb ob dr ds (va_up L n q) (n + 1) sp co en cr rl qs kA oA kB oB tt ss st (va_up K n (x, y.toInt32, -1, dk_l2 n, 0, 0, 0))) := by rw [e9, ← dk_push hn8]; exact hD
    refine lv_aload_n hx hb dX3_key_85 rfl (lv_at hl 0 rfl) ?_
    refine va_get (D := (dC, dI)) (ci := 4) (v := .int (nI (n + 1))) (C := RX3) (T := TX3) (N := 9) hx hb hts inn_X3_key_X3 hown hK hP 0 rfl rfl 2 (by decide) (hts (.fieldLink RX3 42 "DoorKeys" "keyCount" "I") (by decide +kernel)) (fun _ h9 => h9) rfl dX3_key_86 ?_
    exact W.iret (v := nI (n + 1)) hx hb hr (fun t ht hW => ⟨⟨_, q, rfl, rfl, by rw [ht]; exact hP, hD⟩, hS.F ht⟩) hS.2.2 dX3_key_89
end
