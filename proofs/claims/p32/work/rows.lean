section
-- ===== PART A: goes FIRST, ahead of the names: the tables' words, and 'selects' of the private methods out of them =====
/-- a private method of a class that the tables say can be made, by its rows of tables_1 -/
def lw_okq (q : MethodName × Nat) : Prop := (q.1.cls ≠ "java/lang/invoke/MethodHandle" ∧ q.1.cls ≠ "java/lang/invoke/VarHandle") ∧ Cond.instantiable q.1.cls q.2 ∈ tables_1 ∧ Cond.privateMethod q.1 ∈ tables_1 ∧ Cond.instanceMethod q.1 ∈ tables_1
theorem lw_p0 : lw_okq (⟨"ApplauseTallies$History", "stateAt", "(I)LApplauseTallies$House;"⟩, 3) := ⟨⟨by decide +kernel, by decide +kernel⟩, List.mem_of_getElem? (i := 157) (by decide +kernel), List.mem_of_getElem? (i := 231) (by decide +kernel), List.mem_of_getElem? (i := 232) (by decide +kernel)⟩
theorem lw_p1 : lw_okq (⟨"ApplauseTallies$House", "bringEncore", "()V"⟩, 11) := ⟨⟨by decide +kernel, by decide +kernel⟩, List.mem_of_getElem? (i := 20) (by decide +kernel), List.mem_of_getElem? (i := 336) (by decide +kernel), List.mem_of_getElem? (i := 337) (by decide +kernel)⟩
theorem lw_p2 : lw_okq (⟨"ApplauseTallies$House", "beginApplause", "(I)V"⟩, 11) := ⟨⟨by decide +kernel, by decide +kernel⟩, List.mem_of_getElem? (i := 20) (by decide +kernel), List.mem_of_getElem? (i := 362) (by decide +kernel), List.mem_of_getElem? (i := 363) (by decide +kernel)⟩
theorem lw_p3 : lw_okq (⟨"ApplauseTallies$House", "suspectedNow", "()I"⟩, 11) := ⟨⟨by decide +kernel, by decide +kernel⟩, List.mem_of_getElem? (i := 20) (by decide +kernel), List.mem_of_getElem? (i := 489) (by decide +kernel), List.mem_of_getElem? (i := 490) (by decide +kernel)⟩
def lw_privs_1 : List (MethodName × Nat) := [(⟨"ApplauseTallies$History", "stateAt", "(I)LApplauseTallies$House;"⟩, 3), (⟨"ApplauseTallies$House", "bringEncore", "()V"⟩, 11), (⟨"ApplauseTallies$House", "beginApplause", "(I)V"⟩, 11), (⟨"ApplauseTallies$House", "suspectedNow", "()I"⟩, 11)]
theorem lw_r1 : ∀ q ∈ lw_privs_1, lw_okq q := List.forall_mem_cons.mpr ⟨lw_p0, List.forall_mem_cons.mpr ⟨lw_p1, List.forall_mem_cons.mpr ⟨lw_p2, List.forall_mem_cons.mpr ⟨lw_p3, fun _ h => absurd h List.not_mem_nil⟩⟩⟩⟩
def lw_privs : List (MethodName × Nat) := lw_privs_1
def lw_tbl : List Cond := k2_sels lw_privs ++ tables_1
theorem lw_privs_ok : ∀ q ∈ lw_privs, lw_okq q := lw_r1
/-! ===== BEGIN words of one list among another's, by their places ===== -/
theorem goodIn_r {big : List Cond} (ws : List Cond) (ps : List Nat) (hp : ws = ps.filterMap (fun i => big[i]?)) (h : ws.all goodWord = true) : GoodIn big ws := by
  intro w hw
  have h1 := List.all_eq_true.mp h w hw
  rw [hp] at hw
  obtain ⟨i, -, hi⟩ := List.mem_filterMap.mp hw
  have hm : w ∈ big := by first | exact List.mem_of_getElem? hi | exact List.getElem?_mem hi
  exact ⟨hm, good_of_word h1⟩
theorem goodIn_app {big a b : List Cond} (ha : GoodIn big a) (hb : GoodIn big b) : GoodIn big (a ++ b) := fun w h => (List.mem_append.mp h).elim (ha w) (hb w)
theorem goodIn_ca {big a b : List Cond} {c : Cond} (ha : GoodIn big (c :: a)) (hb : GoodIn big b) : GoodIn big (c :: (a ++ b)) := fun w h => (List.mem_cons.mp h).elim (fun e => ha w (List.mem_cons.mpr (Or.inl e))) (fun h => (List.mem_append.mp h).elim (fun h => ha w (List.mem_cons.mpr (Or.inr h))) (hb w))
theorem goodIn_sub {big ws : List Cond} (hm : ∀ w ∈ ws, w ∈ big) (h : ws.all goodWord = true) : GoodIn big ws := fun w hw => ⟨hm w hw, good_of_word (List.all_eq_true.mp h w hw)⟩
/-! ===== END ===== -/

/-! ===== BEGIN printed: names, fields, word lists, decode rows ===== -/
def RX0 : String := "ApplauseTallies$Encores"
def TX0 : u_T := fun k => match k with
  | 0 => ("ApplauseTallies$Encores", "owers", "LApplauseTallies$Row;", true)
  | 1 => ("ApplauseTallies$Encores", "since", "LApplauseTallies$Row;", true)
  | 2 => ("ApplauseTallies$Encores", "played", "LApplauseTallies$Row;", true)
  | 3 => ("ApplauseTallies$Encores", "lapsed", "LApplauseTallies$Row;", true)
  | 4 => ("ApplauseTallies$Encores", "pieces", "LApplauseTallies$Row;", true)
  | _ => ("ApplauseTallies$Encores", "owedCount", "I", false)
def tyX0 : Nat → FieldType := fun k => match k with
  | 0 => .object "ApplauseTallies$Row"
  | 1 => .object "ApplauseTallies$Row"
  | 2 => .object "ApplauseTallies$Row"
  | 3 => .object "ApplauseTallies$Row"
  | 4 => .object "ApplauseTallies$Row"
  | _ => .int
abbrev wsX00 : List Cond := u_ws RX0 TX0 6
theorem nmX0 : ∀ a, a < 6 → ∀ b, b < 6 → a ≠ b → (TX0 a).2.1 ≠ (TX0 b).2.1 := by decide +kernel
theorem tyX0_ok : ∀ k, k < 6 → parseFieldDescriptor (TX0 k).2.2.1 = some (tyX0 k) := by decide +kernel
abbrev cX0_init : ByteArray := prog_2_method_1_code
def yX0_init : MethodName := ⟨RX0, "<init>", "()V"⟩
abbrev cX0_copyFrom : ByteArray := prog_2_method_2_code
def yX0_copyFrom : MethodName := ⟨RX0, "copyFrom", "(LApplauseTallies$Encores;)V"⟩
abbrev cX0_owe : ByteArray := prog_2_method_3_code
def yX0_owe : MethodName := ⟨RX0, "owe", "(II)Z"⟩
abbrev cX0_lapseSince : ByteArray := prog_2_method_4_code
def yX0_lapseSince : MethodName := ⟨RX0, "lapseSince", "(I)I"⟩
abbrev cX0_earliestOf : ByteArray := prog_2_method_5_code
def yX0_earliestOf : MethodName := ⟨RX0, "earliestOf", "(I)I"⟩
abbrev cX0_owedBy : ByteArray := prog_2_method_6_code
def yX0_owedBy : MethodName := ⟨RX0, "owedBy", "(I)I"⟩
abbrev cX0_playEarliestOf : ByteArray := prog_2_method_7_code
def yX0_playEarliestOf : MethodName := ⟨RX0, "playEarliestOf", "(I)Z"⟩
abbrev cX0_aboutPerformer : ByteArray := prog_2_method_8_code
def yX0_aboutPerformer : MethodName := ⟨RX0, "aboutPerformer", "(II)I"⟩
abbrev cX0_aboutOwed : ByteArray := prog_2_method_9_code
def yX0_aboutOwed : MethodName := ⟨RX0, "aboutOwed", "(III)I"⟩
def RX1 : String := "ApplauseTallies$History"
def TX1 : u_T := fun k => match k with
  | 0 => ("ApplauseTallies$History", "states", "[LApplauseTallies$House;", true)
  | 1 => ("ApplauseTallies$History", "next", "I", false)
  | _ => ("ApplauseTallies$History", "kept", "I", false)
def tyX1 : Nat → FieldType := fun k => match k with
  | 0 => .array (.object "ApplauseTallies$House")
  | 1 => .int
  | _ => .int
abbrev wsX10 : List Cond := u_ws RX1 TX1 3
theorem nmX1 : ∀ a, a < 3 → ∀ b, b < 3 → a ≠ b → (TX1 a).2.1 ≠ (TX1 b).2.1 := by decide +kernel
theorem tyX1_ok : ∀ k, k < 3 → parseFieldDescriptor (TX1 k).2.2.1 = some (tyX1 k) := by decide +kernel
abbrev cX1_init : ByteArray := prog_3_method_1_code
def yX1_init : MethodName := ⟨RX1, "<init>", "()V"⟩
abbrev cX1_kept : ByteArray := prog_3_method_2_code
def yX1_kept : MethodName := ⟨RX1, "kept", "()I"⟩
abbrev cX1_stateAt : ByteArray := prog_3_method_3_code
def yX1_stateAt : MethodName := ⟨RX1, "stateAt", "(I)LApplauseTallies$House;"⟩
abbrev cX1_setAside : ByteArray := prog_3_method_4_code
def yX1_setAside : MethodName := ⟨RX1, "setAside", "(LApplauseTallies$House;)V"⟩
abbrev cX1_keepUnlessError : ByteArray := prog_3_method_5_code
def yX1_keepUnlessError : MethodName := ⟨RX1, "keepUnlessError", "(I)I"⟩
abbrev cX1_takeBack : ByteArray := prog_3_method_6_code
def yX1_takeBack : MethodName := ⟨RX1, "takeBack", "(LApplauseTallies$House;)I"⟩
def RX2 : String := "ApplauseTallies$House"
def TX2 : u_T := fun k => match k with
  | 0 => ("ApplauseTallies$House", "settings", "LApplauseTallies$Row;", true)
  | 1 => ("ApplauseTallies$House", "seats", "LApplauseTallies$Seats;", true)
  | 2 => ("ApplauseTallies$House", "encores", "LApplauseTallies$Encores;", true)
  | 3 => ("ApplauseTallies$House", "tonight", "LApplauseTallies$Row;", true)
  | 4 => ("ApplauseTallies$House", "records", "LApplauseTallies$Row;", true)
  | 5 => ("ApplauseTallies$House", "applause", "I", false)
  | 6 => ("ApplauseTallies$House", "time", "I", false)
  | 7 => ("ApplauseTallies$House", "nights", "I", false)
  | 8 => ("ApplauseTallies$House", "pieceBy", "I", false)
  | 9 => ("ApplauseTallies$House", "pieceEnd", "I", false)
  | _ => ("ApplauseTallies$House", "encoreCame", "Z", false)
def tyX2 : Nat → FieldType := fun k => match k with
  | 0 => .object "ApplauseTallies$Row"
  | 1 => .object "ApplauseTallies$Seats"
  | 2 => .object "ApplauseTallies$Encores"
  | 3 => .object "ApplauseTallies$Row"
  | 4 => .object "ApplauseTallies$Row"
  | 5 => .int
  | 6 => .int
  | 7 => .int
  | 8 => .int
  | 9 => .int
  | _ => .boolean
abbrev wsX20 : List Cond := u_ws RX2 TX2 11
theorem nmX2 : ∀ a, a < 11 → ∀ b, b < 11 → a ≠ b → (TX2 a).2.1 ≠ (TX2 b).2.1 := by decide +kernel
theorem tyX2_ok : ∀ k, k < 11 → parseFieldDescriptor (TX2 k).2.2.1 = some (tyX2 k) := by decide +kernel
abbrev cX2_init : ByteArray := prog_4_method_1_code
def yX2_init : MethodName := ⟨RX2, "<init>", "()V"⟩
abbrev cX2_copyFrom : ByteArray := prog_4_method_2_code
def yX2_copyFrom : MethodName := ⟨RX2, "copyFrom", "(LApplauseTallies$House;)V"⟩
abbrev cX2_changeSetting : ByteArray := prog_4_method_3_code
def yX2_changeSetting : MethodName := ⟨RX2, "changeSetting", "(II)I"⟩
abbrev cX2_changeLoudness : ByteArray := prog_4_method_4_code
def yX2_changeLoudness : MethodName := ⟨RX2, "changeLoudness", "(II)I"⟩
abbrev cX2_switchPay : ByteArray := prog_4_method_5_code
def yX2_switchPay : MethodName := ⟨RX2, "switchPay", "(I)I"⟩
abbrev cX2_endPiece : ByteArray := prog_4_method_6_code
def yX2_endPiece : MethodName := ⟨RX2, "endPiece", "(I)I"⟩
abbrev cX2_beginApplause : ByteArray := prog_4_method_7_code
def yX2_beginApplause : MethodName := ⟨RX2, "beginApplause", "(I)V"⟩
abbrev cX2_takeClap : ByteArray := prog_4_method_8_code
def yX2_takeClap : MethodName := ⟨RX2, "takeClap", "(I)I"⟩
abbrev cX2_bringEncore : ByteArray := prog_4_method_9_code
def yX2_bringEncore : MethodName := ⟨RX2, "bringEncore", "()V"⟩
abbrev cX2_letPass : ByteArray := prog_4_method_10_code
def yX2_letPass : MethodName := ⟨RX2, "letPass", "(I)I"⟩
abbrev cX2_playEncore : ByteArray := prog_4_method_11_code
def yX2_playEncore : MethodName := ⟨RX2, "playEncore", "(I)I"⟩
abbrev cX2_takeCurtain : ByteArray := prog_4_method_12_code
def yX2_takeCurtain : MethodName := ⟨RX2, "takeCurtain", "()I"⟩
abbrev cX2_endNight : ByteArray := prog_4_method_13_code
def yX2_endNight : MethodName := ⟨RX2, "endNight", "()I"⟩
abbrev cX2_recordPlace : ByteArray := prog_4_method_14_code
def yX2_recordPlace : MethodName := ⟨RX2, "recordPlace", "(II)I"⟩
abbrev cX2_aboutSeat : ByteArray := prog_4_method_16_code
def yX2_aboutSeat : MethodName := ⟨RX2, "aboutSeat", "(II)I"⟩
abbrev cX2_suspectedNow : ByteArray := prog_4_method_17_code
def yX2_suspectedNow : MethodName := ⟨RX2, "suspectedNow", "()I"⟩
abbrev cX2_recordOf : ByteArray := prog_4_method_18_code
def yX2_recordOf : MethodName := ⟨RX2, "recordOf", "(II)I"⟩
abbrev cX2_numberOf : ByteArray := prog_4_method_19_code
def yX2_numberOf : MethodName := ⟨RX2, "numberOf", "(I)I"⟩
abbrev cX2_secondsUntil : ByteArray := prog_4_method_20_code
def yX2_secondsUntil : MethodName := ⟨RX2, "secondsUntil", "(I)I"⟩
abbrev cX2_clapsUntilEncore : ByteArray := prog_4_method_21_code
def yX2_clapsUntilEncore : MethodName := ⟨RX2, "clapsUntilEncore", "(I)I"⟩
abbrev cX2_secondsUntilLapse : ByteArray := prog_4_method_22_code
def yX2_secondsUntilLapse : MethodName := ⟨RX2, "secondsUntilLapse", "(I)I"⟩
abbrev cX2_curtainsLeft : ByteArray := prog_4_method_23_code
def yX2_curtainsLeft : MethodName := ⟨RX2, "curtainsLeft", "()I"⟩
def RX3 : String := "ApplauseTallies$OrderReader"
def TX3 : u_T := fun k => match k with
  | 0 => ("ApplauseTallies$OrderReader", "pad", "LApplauseTallies$Pad;", true)
  | 1 => ("ApplauseTallies$OrderReader", "place", "I", false)
  | 2 => ("ApplauseTallies$OrderReader", "kind", "I", false)
  | 3 => ("ApplauseTallies$OrderReader", "number", "I", false)
  | _ => ("ApplauseTallies$OrderReader", "times", "I", false)
def tyX3 : Nat → FieldType := fun k => match k with
  | 0 => .object "ApplauseTallies$Pad"
  | 1 => .int
  | 2 => .int
  | 3 => .int
  | _ => .int
abbrev wsX30 : List Cond := u_ws RX3 TX3 5
theorem nmX3 : ∀ a, a < 5 → ∀ b, b < 5 → a ≠ b → (TX3 a).2.1 ≠ (TX3 b).2.1 := by decide +kernel
theorem tyX3_ok : ∀ k, k < 5 → parseFieldDescriptor (TX3 k).2.2.1 = some (tyX3 k) := by decide +kernel
abbrev cX3_init : ByteArray := prog_5_method_1_code
def yX3_init : MethodName := ⟨RX3, "<init>", "(LApplauseTallies$Pad;)V"⟩
def RX4 : String := "ApplauseTallies$Pad"
def TX4 : u_T := fun k => match k with
  | 0 => ("ApplauseTallies$Pad", "codes", "[I", true)
  | _ => ("ApplauseTallies$Pad", "length", "I", false)
def tyX4 : Nat → FieldType := fun k => match k with
  | 0 => .array .int
  | _ => .int
abbrev wsX40 : List Cond := u_ws RX4 TX4 2
theorem nmX4 : ∀ a, a < 2 → ∀ b, b < 2 → a ≠ b → (TX4 a).2.1 ≠ (TX4 b).2.1 := by decide +kernel
theorem tyX4_ok : ∀ k, k < 2 → parseFieldDescriptor (TX4 k).2.2.1 = some (tyX4 k) := by decide +kernel
abbrev cX4_init : ByteArray := prog_6_method_1_code
def yX4_init : MethodName := ⟨RX4, "<init>", "()V"⟩
abbrev cX4_length : ByteArray := prog_6_method_2_code
def yX4_length : MethodName := ⟨RX4, "length", "()I"⟩
def RX5 : String := "ApplauseTallies$Row"
def TX5 : u_T := fun k => match k with
  | _ => ("ApplauseTallies$Row", "cells", "[I", true)
def tyX5 : Nat → FieldType := fun k => match k with
  | _ => .array .int
abbrev wsX50 : List Cond := u_ws RX5 TX5 1
theorem nmX5 : ∀ a, a < 1 → ∀ b, b < 1 → a ≠ b → (TX5 a).2.1 ≠ (TX5 b).2.1 := by decide +kernel
theorem tyX5_ok : ∀ k, k < 1 → parseFieldDescriptor (TX5 k).2.2.1 = some (tyX5 k) := by decide +kernel
abbrev cX5_init : ByteArray := prog_7_method_1_code
def yX5_init : MethodName := ⟨RX5, "<init>", "(I)V"⟩
abbrev cX5_at : ByteArray := prog_7_method_2_code
def yX5_at : MethodName := ⟨RX5, "at", "(I)I"⟩
abbrev cX5_store : ByteArray := prog_7_method_3_code
def yX5_store : MethodName := ⟨RX5, "store", "(II)V"⟩
abbrev cX5_add : ByteArray := prog_7_method_4_code
def yX5_add : MethodName := ⟨RX5, "add", "(II)V"⟩
abbrev cX5_fill : ByteArray := prog_7_method_5_code
def yX5_fill : MethodName := ⟨RX5, "fill", "(I)V"⟩
abbrev cX5_sum : ByteArray := prog_7_method_6_code
def yX5_sum : MethodName := ⟨RX5, "sum", "()I"⟩
abbrev cX5_copyFrom : ByteArray := prog_7_method_7_code
def yX5_copyFrom : MethodName := ⟨RX5, "copyFrom", "(LApplauseTallies$Row;)V"⟩
def RX6 : String := "ApplauseTallies$Seats"
def TX6 : u_T := fun k => match k with
  | 0 => ("ApplauseTallies$Seats", "loudness", "LApplauseTallies$Row;", true)
  | 1 => ("ApplauseTallies$Seats", "early", "LApplauseTallies$Row;", true)
  | 2 => ("ApplauseTallies$Seats", "clapsTonight", "LApplauseTallies$Row;", true)
  | 3 => ("ApplauseTallies$Seats", "clapsSoFar", "LApplauseTallies$Row;", true)
  | 4 => ("ApplauseTallies$Seats", "clappers", "LApplauseTallies$Row;", true)
  | 5 => ("ApplauseTallies$Seats", "clapperCount", "I", false)
  | 6 => ("ApplauseTallies$Seats", "paid", "I", false)
  | _ => ("ApplauseTallies$Seats", "clappedForPiece", "I", false)
def tyX6 : Nat → FieldType := fun k => match k with
  | 0 => .object "ApplauseTallies$Row"
  | 1 => .object "ApplauseTallies$Row"
  | 2 => .object "ApplauseTallies$Row"
  | 3 => .object "ApplauseTallies$Row"
  | 4 => .object "ApplauseTallies$Row"
  | 5 => .int
  | 6 => .int
  | _ => .int
abbrev wsX60 : List Cond := u_ws RX6 TX6 8
theorem nmX6 : ∀ a, a < 8 → ∀ b, b < 8 → a ≠ b → (TX6 a).2.1 ≠ (TX6 b).2.1 := by decide +kernel
theorem tyX6_ok : ∀ k, k < 8 → parseFieldDescriptor (TX6 k).2.2.1 = some (tyX6 k) := by decide +kernel
abbrev cX6_init : ByteArray := prog_8_method_1_code
def yX6_init : MethodName := ⟨RX6, "<init>", "()V"⟩
abbrev cX6_copyFrom : ByteArray := prog_8_method_2_code
def yX6_copyFrom : MethodName := ⟨RX6, "copyFrom", "(LApplauseTallies$Seats;)V"⟩
abbrev cX6_hasClapped : ByteArray := prog_8_method_3_code
def yX6_hasClapped : MethodName := ⟨RX6, "hasClapped", "(I)Z"⟩
abbrev cX6_beginPiece : ByteArray := prog_8_method_4_code
def yX6_beginPiece : MethodName := ⟨RX6, "beginPiece", "()V"⟩
abbrev cX6_beginNight : ByteArray := prog_8_method_5_code
def yX6_beginNight : MethodName := ⟨RX6, "beginNight", "()V"⟩
abbrev cX6_addClap : ByteArray := prog_8_method_6_code
def yX6_addClap : MethodName := ⟨RX6, "addClap", "(IZ)V"⟩
abbrev cX6_suspected : ByteArray := prog_8_method_7_code
def yX6_suspected : MethodName := ⟨RX6, "suspected", "(I)I"⟩
abbrev cX6_clapperAt : ByteArray := prog_8_method_8_code
def yX6_clapperAt : MethodName := ⟨RX6, "clapperAt", "(I)I"⟩
def RX7 : String := "ApplauseTallies"
def TX7 : u_T := fun k => match k with
  | 0 => ("ApplauseTallies", "house", "LApplauseTallies$House;", true)
  | 1 => ("ApplauseTallies", "history", "LApplauseTallies$History;", true)
  | 2 => ("ApplauseTallies", "slots", "[LApplauseTallies$House;", true)
  | 3 => ("ApplauseTallies", "pad", "LApplauseTallies$Pad;", true)
  | _ => ("ApplauseTallies", "reader", "LApplauseTallies$OrderReader;", true)
def tyX7 : Nat → FieldType := fun k => match k with
  | 0 => .object "ApplauseTallies$House"
  | 1 => .object "ApplauseTallies$History"
  | 2 => .array (.object "ApplauseTallies$House")
  | 3 => .object "ApplauseTallies$Pad"
  | _ => .object "ApplauseTallies$OrderReader"
abbrev wsX70 : List Cond := u_ws RX7 TX7 5
theorem nmX7 : ∀ a, a < 5 → ∀ b, b < 5 → a ≠ b → (TX7 a).2.1 ≠ (TX7 b).2.1 := by decide +kernel
theorem tyX7_ok : ∀ k, k < 5 → parseFieldDescriptor (TX7 k).2.2.1 = some (tyX7 k) := by decide +kernel
abbrev cX7_init : ByteArray := prog_1_method_1_code
def yX7_init : MethodName := ⟨RX7, "<init>", "()V"⟩
abbrev cX7_set : ByteArray := prog_1_method_2_code
def yX7_set : MethodName := ⟨RX7, "set", "(II)I"⟩
abbrev cX7_loud : ByteArray := prog_1_method_3_code
def yX7_loud : MethodName := ⟨RX7, "loud", "(II)I"⟩
abbrev cX7_pay : ByteArray := prog_1_method_4_code
def yX7_pay : MethodName := ⟨RX7, "pay", "(I)I"⟩
abbrev cX7_ends : ByteArray := prog_1_method_5_code
def yX7_ends : MethodName := ⟨RX7, "ends", "(I)I"⟩
abbrev cX7_clap : ByteArray := prog_1_method_6_code
def yX7_clap : MethodName := ⟨RX7, "clap", "(I)I"⟩
abbrev cX7_pass : ByteArray := prog_1_method_7_code
def yX7_pass : MethodName := ⟨RX7, "pass", "(I)I"⟩
abbrev cX7_play : ByteArray := prog_1_method_8_code
def yX7_play : MethodName := ⟨RX7, "play", "(I)I"⟩
abbrev cX7_call : ByteArray := prog_1_method_9_code
def yX7_call : MethodName := ⟨RX7, "call", "()I"⟩
abbrev cX7_night : ByteArray := prog_1_method_10_code
def yX7_night : MethodName := ⟨RX7, "night", "()I"⟩
abbrev cX7_of : ByteArray := prog_1_method_12_code
def yX7_of : MethodName := ⟨RX7, "of", "(II)I"⟩
abbrev cX7_performer : ByteArray := prog_1_method_13_code
def yX7_performer : MethodName := ⟨RX7, "performer", "(II)I"⟩
abbrev cX7_owed : ByteArray := prog_1_method_14_code
def yX7_owed : MethodName := ⟨RX7, "owed", "(II)I"⟩
abbrev cX7_clapper : ByteArray := prog_1_method_15_code
def yX7_clapper : MethodName := ⟨RX7, "clapper", "(I)I"⟩
abbrev cX7_record : ByteArray := prog_1_method_16_code
def yX7_record : MethodName := ⟨RX7, "record", "(II)I"⟩
abbrev cX7_count : ByteArray := prog_1_method_18_code
def yX7_count : MethodName := ⟨RX7, "count", "(I)I"⟩
abbrev cX7_quietIn : ByteArray := prog_1_method_19_code
def yX7_quietIn : MethodName := ⟨RX7, "quietIn", "(I)I"⟩
abbrev cX7_clapsFor : ByteArray := prog_1_method_20_code
def yX7_clapsFor : MethodName := ⟨RX7, "clapsFor", "(I)I"⟩
abbrev cX7_lapsesIn : ByteArray := prog_1_method_21_code
def yX7_lapsesIn : MethodName := ⟨RX7, "lapsesIn", "(I)I"⟩
abbrev cX7_calls : ByteArray := prog_1_method_22_code
def yX7_calls : MethodName := ⟨RX7, "calls", "()I"⟩
abbrev cX7_ifFound : ByteArray := prog_1_method_23_code
def yX7_ifFound : MethodName := ⟨RX7, "ifFound", "(I)I"⟩
abbrev cX7_undo : ByteArray := prog_1_method_28_code
def yX7_undo : MethodName := ⟨RX7, "undo", "()I"⟩
abbrev cX7_isSeat : ByteArray := prog_1_method_31_code
def yX7_isSeat : MethodName := ⟨RX7, "isSeat", "(I)Z"⟩
abbrev cX7_isPerformer : ByteArray := prog_1_method_32_code
def yX7_isPerformer : MethodName := ⟨RX7, "isPerformer", "(I)Z"⟩
abbrev cX7_afterSecond : ByteArray := prog_1_method_33_code
def yX7_afterSecond : MethodName := ⟨RX7, "afterSecond", "(II)I"⟩
def RX8 : String := "ApplauseTalliesModel"
def TX8 : u_T := fun k => match k with
  | _ => ("", "", "", false)
def tyX8 : Nat → FieldType := fun k => match k with
  | _ => .int
abbrev wsX80 : List Cond := u_ws RX8 TX8 0
theorem nmX8 : ∀ a, a < 0 → ∀ b, b < 0 → a ≠ b → (TX8 a).2.1 ≠ (TX8 b).2.1 := by decide +kernel
theorem tyX8_ok : ∀ k, k < 0 → parseFieldDescriptor (TX8 k).2.2.1 = some (tyX8 k) := by decide +kernel
def RJ9 : String := "java/lang/Math"
def TJ9 : u_T := fun k => match k with
  | _ => ("", "", "", false)
def tyJ9 : Nat → FieldType := fun k => match k with
  | _ => .int
abbrev wsJ90 : List Cond := u_ws RJ9 TJ9 0
theorem nmJ9 : ∀ a, a < 0 → ∀ b, b < 0 → a ≠ b → (TJ9 a).2.1 ≠ (TJ9 b).2.1 := by decide +kernel
theorem tyJ9_ok : ∀ k, k < 0 → parseFieldDescriptor (TJ9 k).2.2.1 = some (tyJ9 k) := by decide +kernel
abbrev cJ9_max_7cf53 : ByteArray := prog_11_method_65_code
def yJ9_max_7cf53 : MethodName := ⟨RJ9, "max", "(II)I"⟩
abbrev cJ9_min_7cf53 : ByteArray := prog_11_method_69_code
def yJ9_min_7cf53 : MethodName := ⟨RJ9, "min", "(II)I"⟩
def RJ10 : String := "java/lang/System"
def TJ10 : u_T := fun k => match k with
  | _ => ("", "", "", false)
def tyJ10 : Nat → FieldType := fun k => match k with
  | _ => .int
abbrev wsJ100 : List Cond := u_ws RJ10 TJ10 0
theorem nmJ10 : ∀ a, a < 0 → ∀ b, b < 0 → a ≠ b → (TJ10 a).2.1 ≠ (TJ10 b).2.1 := by decide +kernel
theorem tyJ10_ok : ∀ k, k < 0 → parseFieldDescriptor (TJ10 k).2.2.1 = some (tyJ10 k) := by decide +kernel
def RL : String := "ApplauseTalliesLaw"
abbrev cL_cell : ByteArray := method_2_code
def yL_cell : MethodName := ⟨RL, "cell", "([II)I"⟩
abbrev cL_low : ByteArray := method_3_code
def yL_low : MethodName := ⟨RL, "low", "(II)I"⟩
abbrev cL_ends : ByteArray := method_4_code
def yL_ends : MethodName := ⟨RL, "ends", "(I[I[I[I)I"⟩
abbrev cL_lapses : ByteArray := method_5_code
def yL_lapses : MethodName := ⟨RL, "lapses", "(I[I[I)V"⟩
abbrev cL_drops : ByteArray := method_6_code
def yL_drops : MethodName := ⟨RL, "drops", "(I[I[I)V"⟩
abbrev cL_claps : ByteArray := method_7_code
def yL_claps : MethodName := ⟨RL, "claps", "(I[I[I[I[I[I[I[I[I)I"⟩
abbrev cL_less : ByteArray := method_8_code
def yL_less : MethodName := ⟨RL, "less", "(I[I)I"⟩
abbrev cL_second : ByteArray := method_9_code
def yL_second : MethodName := ⟨RL, "second", "([I[I[I)V"⟩
abbrev cL_owes : ByteArray := method_10_code
def yL_owes : MethodName := ⟨RL, "owes", "(I[I[I)I"⟩
abbrev cL_earliest : ByteArray := method_11_code
def yL_earliest : MethodName := ⟨RL, "earliest", "(I[I[I)I"⟩
abbrev cL_plays : ByteArray := method_12_code
def yL_plays : MethodName := ⟨RL, "plays", "(I[I[I[I[I)I"⟩
abbrev cL_nights : ByteArray := method_13_code
def yL_nights : MethodName := ⟨RL, "nights", "([I[I[I[I[I[I)I"⟩
abbrev cL_seats : ByteArray := method_14_code
def yL_seats : MethodName := ⟨RL, "seats", "(ZI[I[I)I"⟩
abbrev cL_call : ByteArray := method_15_code
def yL_call : MethodName := ⟨RL, "call", "(LApplauseTallies;III)I"⟩
abbrev cL_ofRest : ByteArray := method_16_code
def yL_ofRest : MethodName := ⟨RL, "ofRest", "(III[I[I[I)I"⟩
abbrev cL_sum : ByteArray := method_17_code
def yL_sum : MethodName := ⟨RL, "sum", "(I[I)I"⟩
abbrev cL_isSeat : ByteArray := method_18_code
def yL_isSeat : MethodName := ⟨RL, "isSeat", "(LApplauseTallies;II[I[I[I[I[I[I)Z"⟩
abbrev cL_isSo : ByteArray := method_19_code
def yL_isSo : MethodName := ⟨RL, "isSo", "(LApplauseTallies;I[I[I[I[I[I[I[I[I[I)Z"⟩
abbrev cL_told : ByteArray := method_20_code
def yL_told : MethodName := ⟨RL, "told", "(LApplauseTallies;)J"⟩
abbrev cL_law : ByteArray := code
def yL_law : MethodName := ⟨RL, "law", "([I)Z"⟩
def wsX5_init : List Cond := .code yX5_init cX5_init 2 none :: ([.methodLink RX5 1 objectInit, .instanceMethod objectInit, .code objectInit ⟨#[0xb1]⟩ 1 none, .methodLink RX5 7 Lib.Math.max.name, .static Lib.Math.max.name, .initialized "java/lang/Math", .code Lib.Math.max.name Lib.Math.max.code 2 (some .int), .arrayClass .int, .fieldLink RX5 13 "ApplauseTallies$Row" "cells" "[I"] ++ wsX50)
def wsX0_init : List Cond := .code yX0_init cX0_init 1 none :: ([.methodLink RX0 3 objectInit, .instanceMethod objectInit, .code objectInit ⟨#[0xb1]⟩ 1 none, .classLink RX0 9 RX5, .instantiable RX5 1, .initialized RX5, .fieldLink RX0 14 "ApplauseTallies$Encores" "owers" "LApplauseTallies$Row;", .fieldLink RX0 20 "ApplauseTallies$Encores" "since" "LApplauseTallies$Row;", .fieldLink RX0 23 "ApplauseTallies$Encores" "played" "LApplauseTallies$Row;", .fieldLink RX0 26 "ApplauseTallies$Encores" "lapsed" "LApplauseTallies$Row;", .fieldLink RX0 29 "ApplauseTallies$Encores" "pieces" "LApplauseTallies$Row;", .methodLink RX0 11 yX5_init, .instanceMethod yX5_init, .code yX5_init cX5_init 2 none, .methodLink RX5 1 objectInit, .methodLink RX5 7 Lib.Math.max.name, .static Lib.Math.max.name, .initialized "java/lang/Math", .code Lib.Math.max.name Lib.Math.max.code 2 (some .int), .arrayClass .int, .fieldLink RX5 13 "ApplauseTallies$Row" "cells" "[I"] ++ wsX50 ++ wsX00)
def wsX5_copyFrom : List Cond := .code yX5_copyFrom cX5_copyFrom 2 none :: ([.fieldLink RX5 13 "ApplauseTallies$Row" "cells" "[I", .methodLink RX5 19 Lib.Math.min.name, .static Lib.Math.min.name, .initialized "java/lang/Math", .code Lib.Math.min.name Lib.Math.min.code 2 (some .int), .methodLink RX5 22 arraycopyName, .native arraycopyName, .static arraycopyName, .initialized "java/lang/System"] ++ wsX50)
def wsX0_copyFrom : List Cond := .code yX0_copyFrom cX0_copyFrom 2 none :: ([.fieldLink RX0 14 "ApplauseTallies$Encores" "owers" "LApplauseTallies$Row;", .fieldLink RX0 20 "ApplauseTallies$Encores" "since" "LApplauseTallies$Row;", .fieldLink RX0 23 "ApplauseTallies$Encores" "played" "LApplauseTallies$Row;", .fieldLink RX0 26 "ApplauseTallies$Encores" "lapsed" "LApplauseTallies$Row;", .fieldLink RX0 29 "ApplauseTallies$Encores" "pieces" "LApplauseTallies$Row;", .fieldLink RX0 36 "ApplauseTallies$Encores" "owedCount" "I", .methodLink RX0 32 yX5_copyFrom, .instanceMethod yX5_copyFrom, .selects RX5 yX5_copyFrom yX5_copyFrom, .initialized RX5, .code yX5_copyFrom cX5_copyFrom 2 none, .fieldLink RX5 13 "ApplauseTallies$Row" "cells" "[I", .methodLink RX5 19 Lib.Math.min.name, .static Lib.Math.min.name, .initialized "java/lang/Math", .code Lib.Math.min.name Lib.Math.min.code 2 (some .int), .methodLink RX5 22 arraycopyName, .native arraycopyName, .static arraycopyName, .initialized "java/lang/System"] ++ wsX00 ++ wsX50)
def wsX5_add : List Cond := .code yX5_add cX5_add 3 none :: ([.fieldLink RX5 13 "ApplauseTallies$Row" "cells" "[I"] ++ wsX50)
def wsX5_store : List Cond := .code yX5_store cX5_store 3 none :: ([.fieldLink RX5 13 "ApplauseTallies$Row" "cells" "[I"] ++ wsX50)
def wsX0_owe : List Cond := .code yX0_owe cX0_owe 3 (some .boolean) :: ([.fieldLink RX0 36 "ApplauseTallies$Encores" "owedCount" "I", .fieldLink RX0 26 "ApplauseTallies$Encores" "lapsed" "LApplauseTallies$Row;", .fieldLink RX0 14 "ApplauseTallies$Encores" "owers" "LApplauseTallies$Row;", .fieldLink RX0 20 "ApplauseTallies$Encores" "since" "LApplauseTallies$Row;", .methodLink RX0 40 yX5_add, .instanceMethod yX5_add, .selects RX5 yX5_add yX5_add, .initialized RX5, .code yX5_add cX5_add 3 none, .fieldLink RX5 13 "ApplauseTallies$Row" "cells" "[I", .methodLink RX0 44 yX5_store, .instanceMethod yX5_store, .selects RX5 yX5_store yX5_store, .code yX5_store cX5_store 3 none] ++ wsX00 ++ wsX50)
def wsX5_at : List Cond := .code yX5_at cX5_at 2 (some .int) :: ([.fieldLink RX5 13 "ApplauseTallies$Row" "cells" "[I"] ++ wsX50)
def wsX0_lapseSince : List Cond := .code yX0_lapseSince cX0_lapseSince 4 (some .int) :: ([.fieldLink RX0 36 "ApplauseTallies$Encores" "owedCount" "I", .fieldLink RX0 20 "ApplauseTallies$Encores" "since" "LApplauseTallies$Row;", .fieldLink RX0 26 "ApplauseTallies$Encores" "lapsed" "LApplauseTallies$Row;", .fieldLink RX0 14 "ApplauseTallies$Encores" "owers" "LApplauseTallies$Row;", .methodLink RX0 47 yX5_at, .instanceMethod yX5_at, .selects RX5 yX5_at yX5_at, .initialized RX5, .code yX5_at cX5_at 2 (some .int), .fieldLink RX5 13 "ApplauseTallies$Row" "cells" "[I", .methodLink RX0 40 yX5_add, .instanceMethod yX5_add, .selects RX5 yX5_add yX5_add, .code yX5_add cX5_add 3 none, .methodLink RX0 44 yX5_store, .instanceMethod yX5_store, .selects RX5 yX5_store yX5_store, .code yX5_store cX5_store 3 none] ++ wsX00 ++ wsX50)
def wsX0_earliestOf : List Cond := .code yX0_earliestOf cX0_earliestOf 3 (some .int) :: ([.fieldLink RX0 36 "ApplauseTallies$Encores" "owedCount" "I", .fieldLink RX0 14 "ApplauseTallies$Encores" "owers" "LApplauseTallies$Row;", .methodLink RX0 47 yX5_at, .instanceMethod yX5_at, .selects RX5 yX5_at yX5_at, .initialized RX5, .code yX5_at cX5_at 2 (some .int), .fieldLink RX5 13 "ApplauseTallies$Row" "cells" "[I"] ++ wsX00 ++ wsX50)
def wsX0_owedBy : List Cond := .code yX0_owedBy cX0_owedBy 4 (some .int) :: ([.fieldLink RX0 36 "ApplauseTallies$Encores" "owedCount" "I", .fieldLink RX0 14 "ApplauseTallies$Encores" "owers" "LApplauseTallies$Row;", .methodLink RX0 47 yX5_at, .instanceMethod yX5_at, .selects RX5 yX5_at yX5_at, .initialized RX5, .code yX5_at cX5_at 2 (some .int), .fieldLink RX5 13 "ApplauseTallies$Row" "cells" "[I"] ++ wsX00 ++ wsX50)
def wsX0_playEarliestOf : List Cond := .code yX0_playEarliestOf cX0_playEarliestOf 4 (some .boolean) :: ([.fieldLink RX0 36 "ApplauseTallies$Encores" "owedCount" "I", .fieldLink RX0 14 "ApplauseTallies$Encores" "owers" "LApplauseTallies$Row;", .fieldLink RX0 20 "ApplauseTallies$Encores" "since" "LApplauseTallies$Row;", .fieldLink RX0 23 "ApplauseTallies$Encores" "played" "LApplauseTallies$Row;", .methodLink RX0 51 yX0_earliestOf, .instanceMethod yX0_earliestOf, .selects RX0 yX0_earliestOf yX0_earliestOf, .initialized RX0, .code yX0_earliestOf cX0_earliestOf 3 (some .int), .methodLink RX0 47 yX5_at, .instanceMethod yX5_at, .selects RX5 yX5_at yX5_at, .initialized RX5, .code yX5_at cX5_at 2 (some .int), .fieldLink RX5 13 "ApplauseTallies$Row" "cells" "[I", .methodLink RX0 44 yX5_store, .instanceMethod yX5_store, .selects RX5 yX5_store yX5_store, .code yX5_store cX5_store 3 none, .methodLink RX0 40 yX5_add, .instanceMethod yX5_add, .selects RX5 yX5_add yX5_add, .code yX5_add cX5_add 3 none] ++ wsX00 ++ wsX50)
def wsX7_isPerformer : List Cond := .code yX7_isPerformer cX7_isPerformer 1 (some .boolean) :: ([])
def wsX0_aboutPerformer : List Cond := .code yX0_aboutPerformer cX0_aboutPerformer 3 (some .int) :: ([.fieldLink RX0 23 "ApplauseTallies$Encores" "played" "LApplauseTallies$Row;", .fieldLink RX0 26 "ApplauseTallies$Encores" "lapsed" "LApplauseTallies$Row;", .fieldLink RX0 29 "ApplauseTallies$Encores" "pieces" "LApplauseTallies$Row;", .static yX7_isPerformer, .initialized RX7, .code yX7_isPerformer cX7_isPerformer 1 (some .boolean), .methodLink RX0 58 yX0_owedBy, .instanceMethod yX0_owedBy, .selects RX0 yX0_owedBy yX0_owedBy, .initialized RX0, .code yX0_owedBy cX0_owedBy 4 (some .int), .fieldLink RX0 36 "ApplauseTallies$Encores" "owedCount" "I", .fieldLink RX0 14 "ApplauseTallies$Encores" "owers" "LApplauseTallies$Row;", .methodLink RX0 47 yX5_at, .instanceMethod yX5_at, .selects RX5 yX5_at yX5_at, .initialized RX5, .code yX5_at cX5_at 2 (some .int), .fieldLink RX5 13 "ApplauseTallies$Row" "cells" "[I"] ++ wsX00 ++ wsX50)
def wsX0_aboutOwed : List Cond := .code yX0_aboutOwed cX0_aboutOwed 4 (some .int) :: ([.fieldLink RX0 36 "ApplauseTallies$Encores" "owedCount" "I", .fieldLink RX0 14 "ApplauseTallies$Encores" "owers" "LApplauseTallies$Row;", .fieldLink RX0 20 "ApplauseTallies$Encores" "since" "LApplauseTallies$Row;", .methodLink RX0 47 yX5_at, .instanceMethod yX5_at, .selects RX5 yX5_at yX5_at, .initialized RX5, .code yX5_at cX5_at 2 (some .int), .fieldLink RX5 13 "ApplauseTallies$Row" "cells" "[I"] ++ wsX00 ++ wsX50)
def wsX5_fill : List Cond := .code yX5_fill cX5_fill 3 none :: ([.fieldLink RX5 13 "ApplauseTallies$Row" "cells" "[I"] ++ wsX50)
def wsX6_init_r1 : List Cond := [Cond.methodLink RX6 3 objectInit, Cond.instanceMethod objectInit, Cond.code objectInit ⟨#[0xb1]⟩ 1 none, Cond.classLink RX6 9 RX5, Cond.instantiable RX5 1, Cond.initialized RX5, Cond.fieldLink RX6 14 "ApplauseTallies$Seats" "loudness" "LApplauseTallies$Row;", Cond.fieldLink RX6 20 "ApplauseTallies$Seats" "early" "LApplauseTallies$Row;", Cond.fieldLink RX6 23 "ApplauseTallies$Seats" "clapsTonight" "LApplauseTallies$Row;", Cond.fieldLink RX6 26 "ApplauseTallies$Seats" "clapsSoFar" "LApplauseTallies$Row;", Cond.fieldLink RX6 29 "ApplauseTallies$Seats" "clappers" "LApplauseTallies$Row;", Cond.methodLink RX6 11 yX5_init, Cond.instanceMethod yX5_init, Cond.code yX5_init cX5_init 2 none, Cond.methodLink RX5 1 objectInit, Cond.methodLink RX5 7 Lib.Math.max.name, Cond.static Lib.Math.max.name, Cond.initialized "java/lang/Math", Cond.code Lib.Math.max.name Lib.Math.max.code 2 (some .int), Cond.arrayClass .int, Cond.fieldLink RX5 13 "ApplauseTallies$Row" "cells" "[I", Cond.methodLink RX6 32 yX5_fill, Cond.instanceMethod yX5_fill, Cond.selects RX5 yX5_fill yX5_fill]
def wsX6_init_r2 : List Cond := [Cond.code yX5_fill cX5_fill 3 none]
def wsX6_init : List Cond := .code yX6_init cX6_init 1 none :: ((wsX6_init_r1 ++ wsX6_init_r2) ++ wsX50 ++ wsX60)
def wsX2_init_r1 : List Cond := [Cond.methodLink RX2 3 objectInit, Cond.instanceMethod objectInit, Cond.code objectInit ⟨#[0xb1]⟩ 1 none, Cond.classLink RX2 9 RX5, Cond.instantiable RX5 1, Cond.initialized RX5, Cond.fieldLink RX2 14 "ApplauseTallies$House" "settings" "LApplauseTallies$Row;", Cond.classLink RX2 20 RX6, Cond.instantiable RX6 8, Cond.initialized RX6, Cond.fieldLink RX2 23 "ApplauseTallies$House" "seats" "LApplauseTallies$Seats;", Cond.classLink RX2 27 RX0, Cond.instantiable RX0 6, Cond.initialized RX0, Cond.fieldLink RX2 30 "ApplauseTallies$House" "encores" "LApplauseTallies$Encores;", Cond.fieldLink RX2 34 "ApplauseTallies$House" "tonight" "LApplauseTallies$Row;", Cond.fieldLink RX2 37 "ApplauseTallies$House" "records" "LApplauseTallies$Row;", Cond.fieldLink RX2 40 "ApplauseTallies$House" "pieceBy" "I", Cond.methodLink RX2 11 yX5_init, Cond.instanceMethod yX5_init, Cond.code yX5_init cX5_init 2 none, Cond.methodLink RX5 1 objectInit, Cond.methodLink RX5 7 Lib.Math.max.name, Cond.static Lib.Math.max.name]
def wsX2_init_r2 : List Cond := [Cond.initialized "java/lang/Math", Cond.code Lib.Math.max.name Lib.Math.max.code 2 (some .int), Cond.arrayClass .int, Cond.fieldLink RX5 13 "ApplauseTallies$Row" "cells" "[I", Cond.methodLink RX2 22 yX6_init, Cond.instanceMethod yX6_init, Cond.code yX6_init cX6_init 1 none, Cond.methodLink RX6 3 objectInit, Cond.classLink RX6 9 RX5, Cond.fieldLink RX6 14 "ApplauseTallies$Seats" "loudness" "LApplauseTallies$Row;", Cond.fieldLink RX6 20 "ApplauseTallies$Seats" "early" "LApplauseTallies$Row;", Cond.fieldLink RX6 23 "ApplauseTallies$Seats" "clapsTonight" "LApplauseTallies$Row;", Cond.fieldLink RX6 26 "ApplauseTallies$Seats" "clapsSoFar" "LApplauseTallies$Row;", Cond.fieldLink RX6 29 "ApplauseTallies$Seats" "clappers" "LApplauseTallies$Row;", Cond.methodLink RX6 11 yX5_init, Cond.methodLink RX6 32 yX5_fill, Cond.instanceMethod yX5_fill, Cond.selects RX5 yX5_fill yX5_fill, Cond.code yX5_fill cX5_fill 3 none, Cond.instanceMethod yX0_init, Cond.code yX0_init cX0_init 1 none, Cond.methodLink RX0 3 objectInit, Cond.classLink RX0 9 RX5, Cond.fieldLink RX0 14 "ApplauseTallies$Encores" "owers" "LApplauseTallies$Row;"]
def wsX2_init_r3 : List Cond := [Cond.fieldLink RX0 20 "ApplauseTallies$Encores" "since" "LApplauseTallies$Row;", Cond.fieldLink RX0 23 "ApplauseTallies$Encores" "played" "LApplauseTallies$Row;", Cond.fieldLink RX0 26 "ApplauseTallies$Encores" "lapsed" "LApplauseTallies$Row;", Cond.fieldLink RX0 29 "ApplauseTallies$Encores" "pieces" "LApplauseTallies$Row;", Cond.methodLink RX0 11 yX5_init, Cond.methodLink RX2 48 yX5_store, Cond.instanceMethod yX5_store, Cond.selects RX5 yX5_store yX5_store, Cond.code yX5_store cX5_store 3 none]
def wsX2_init : List Cond := .code yX2_init cX2_init 2 none :: ((wsX2_init_r1 ++ (wsX2_init_r2 ++ wsX2_init_r3)) ++ wsX50 ++ wsX20 ++ wsX60 ++ wsX00)
def wsX1_init_r1 : List Cond := [Cond.methodLink RX1 3 objectInit, Cond.instanceMethod objectInit, Cond.code objectInit ⟨#[0xb1]⟩ 1 none, Cond.classLink RX1 11 RX2, Cond.fieldLink RX1 13 "ApplauseTallies$History" "states" "[LApplauseTallies$House;", Cond.instantiable RX2 11, Cond.initialized RX2, Cond.methodLink RX1 17 yX2_init, Cond.instanceMethod yX2_init, Cond.code yX2_init cX2_init 2 none, Cond.methodLink RX2 3 objectInit, Cond.classLink RX2 9 RX5, Cond.instantiable RX5 1, Cond.initialized RX5, Cond.fieldLink RX2 14 "ApplauseTallies$House" "settings" "LApplauseTallies$Row;", Cond.classLink RX2 20 RX6, Cond.instantiable RX6 8, Cond.initialized RX6, Cond.fieldLink RX2 23 "ApplauseTallies$House" "seats" "LApplauseTallies$Seats;", Cond.classLink RX2 27 RX0, Cond.instantiable RX0 6, Cond.initialized RX0, Cond.fieldLink RX2 30 "ApplauseTallies$House" "encores" "LApplauseTallies$Encores;", Cond.fieldLink RX2 34 "ApplauseTallies$House" "tonight" "LApplauseTallies$Row;"]
def wsX1_init_r2 : List Cond := [Cond.fieldLink RX2 37 "ApplauseTallies$House" "records" "LApplauseTallies$Row;", Cond.fieldLink RX2 40 "ApplauseTallies$House" "pieceBy" "I", Cond.methodLink RX2 11 yX5_init, Cond.instanceMethod yX5_init, Cond.code yX5_init cX5_init 2 none, Cond.methodLink RX5 1 objectInit, Cond.methodLink RX5 7 Lib.Math.max.name, Cond.static Lib.Math.max.name, Cond.initialized "java/lang/Math", Cond.code Lib.Math.max.name Lib.Math.max.code 2 (some .int), Cond.arrayClass .int, Cond.fieldLink RX5 13 "ApplauseTallies$Row" "cells" "[I", Cond.methodLink RX2 22 yX6_init, Cond.instanceMethod yX6_init, Cond.code yX6_init cX6_init 1 none, Cond.methodLink RX6 3 objectInit, Cond.classLink RX6 9 RX5, Cond.fieldLink RX6 14 "ApplauseTallies$Seats" "loudness" "LApplauseTallies$Row;", Cond.fieldLink RX6 20 "ApplauseTallies$Seats" "early" "LApplauseTallies$Row;", Cond.fieldLink RX6 23 "ApplauseTallies$Seats" "clapsTonight" "LApplauseTallies$Row;", Cond.fieldLink RX6 26 "ApplauseTallies$Seats" "clapsSoFar" "LApplauseTallies$Row;", Cond.fieldLink RX6 29 "ApplauseTallies$Seats" "clappers" "LApplauseTallies$Row;", Cond.methodLink RX6 11 yX5_init, Cond.methodLink RX6 32 yX5_fill]
def wsX1_init_r3 : List Cond := [Cond.instanceMethod yX5_fill, Cond.selects RX5 yX5_fill yX5_fill, Cond.code yX5_fill cX5_fill 3 none, Cond.instanceMethod yX0_init, Cond.code yX0_init cX0_init 1 none, Cond.methodLink RX0 3 objectInit, Cond.classLink RX0 9 RX5, Cond.fieldLink RX0 14 "ApplauseTallies$Encores" "owers" "LApplauseTallies$Row;", Cond.fieldLink RX0 20 "ApplauseTallies$Encores" "since" "LApplauseTallies$Row;", Cond.fieldLink RX0 23 "ApplauseTallies$Encores" "played" "LApplauseTallies$Row;", Cond.fieldLink RX0 26 "ApplauseTallies$Encores" "lapsed" "LApplauseTallies$Row;", Cond.fieldLink RX0 29 "ApplauseTallies$Encores" "pieces" "LApplauseTallies$Row;", Cond.methodLink RX0 11 yX5_init, Cond.methodLink RX2 48 yX5_store, Cond.instanceMethod yX5_store, Cond.selects RX5 yX5_store yX5_store, Cond.code yX5_store cX5_store 3 none]
def wsX1_init : List Cond := .code yX1_init cX1_init 2 none :: ((wsX1_init_r1 ++ (wsX1_init_r2 ++ wsX1_init_r3)) ++ wsX10 ++ wsX20 ++ wsX50 ++ wsX60 ++ wsX00)
def wsX1_kept : List Cond := .code yX1_kept cX1_kept 1 (some .int) :: ([.fieldLink RX1 18 "ApplauseTallies$History" "kept" "I"] ++ wsX10)
def wsX1_stateAt : List Cond := .code yX1_stateAt cX1_stateAt 2 (some (.object "ApplauseTallies$House")) :: ([.fieldLink RX1 13 "ApplauseTallies$History" "states" "[LApplauseTallies$House;"] ++ wsX10)
def wsX6_copyFrom : List Cond := .code yX6_copyFrom cX6_copyFrom 2 none :: ([.fieldLink RX6 14 "ApplauseTallies$Seats" "loudness" "LApplauseTallies$Row;", .fieldLink RX6 20 "ApplauseTallies$Seats" "early" "LApplauseTallies$Row;", .fieldLink RX6 23 "ApplauseTallies$Seats" "clapsTonight" "LApplauseTallies$Row;", .fieldLink RX6 26 "ApplauseTallies$Seats" "clapsSoFar" "LApplauseTallies$Row;", .fieldLink RX6 29 "ApplauseTallies$Seats" "clappers" "LApplauseTallies$Row;", .fieldLink RX6 39 "ApplauseTallies$Seats" "clapperCount" "I", .fieldLink RX6 43 "ApplauseTallies$Seats" "paid" "I", .fieldLink RX6 46 "ApplauseTallies$Seats" "clappedForPiece" "I", .methodLink RX6 35 yX5_copyFrom, .instanceMethod yX5_copyFrom, .selects RX5 yX5_copyFrom yX5_copyFrom, .initialized RX5, .code yX5_copyFrom cX5_copyFrom 2 none, .fieldLink RX5 13 "ApplauseTallies$Row" "cells" "[I", .methodLink RX5 19 Lib.Math.min.name, .static Lib.Math.min.name, .initialized "java/lang/Math", .code Lib.Math.min.name Lib.Math.min.code 2 (some .int), .methodLink RX5 22 arraycopyName, .native arraycopyName, .static arraycopyName, .initialized "java/lang/System"] ++ wsX60 ++ wsX50)
def wsX2_copyFrom_r1 : List Cond := [Cond.fieldLink RX2 14 "ApplauseTallies$House" "settings" "LApplauseTallies$Row;", Cond.fieldLink RX2 23 "ApplauseTallies$House" "seats" "LApplauseTallies$Seats;", Cond.fieldLink RX2 30 "ApplauseTallies$House" "encores" "LApplauseTallies$Encores;", Cond.fieldLink RX2 34 "ApplauseTallies$House" "tonight" "LApplauseTallies$Row;", Cond.fieldLink RX2 37 "ApplauseTallies$House" "records" "LApplauseTallies$Row;", Cond.fieldLink RX2 62 "ApplauseTallies$House" "applause" "I", Cond.fieldLink RX2 65 "ApplauseTallies$House" "time" "I", Cond.fieldLink RX2 68 "ApplauseTallies$House" "nights" "I", Cond.fieldLink RX2 40 "ApplauseTallies$House" "pieceBy" "I", Cond.fieldLink RX2 71 "ApplauseTallies$House" "pieceEnd" "I", Cond.fieldLink RX2 74 "ApplauseTallies$House" "encoreCame" "Z", Cond.methodLink RX2 52 yX5_copyFrom, Cond.instanceMethod yX5_copyFrom, Cond.selects RX5 yX5_copyFrom yX5_copyFrom, Cond.initialized RX5, Cond.code yX5_copyFrom cX5_copyFrom 2 none, Cond.fieldLink RX5 13 "ApplauseTallies$Row" "cells" "[I", Cond.methodLink RX5 19 Lib.Math.min.name, Cond.static Lib.Math.min.name, Cond.initialized "java/lang/Math", Cond.code Lib.Math.min.name Lib.Math.min.code 2 (some .int), Cond.methodLink RX5 22 arraycopyName, Cond.native arraycopyName, Cond.static arraycopyName]
def wsX2_copyFrom_r2 : List Cond := [Cond.initialized "java/lang/System", Cond.methodLink RX2 56 yX6_copyFrom, Cond.instanceMethod yX6_copyFrom, Cond.selects RX6 yX6_copyFrom yX6_copyFrom, Cond.initialized RX6, Cond.code yX6_copyFrom cX6_copyFrom 2 none, Cond.fieldLink RX6 14 "ApplauseTallies$Seats" "loudness" "LApplauseTallies$Row;", Cond.fieldLink RX6 20 "ApplauseTallies$Seats" "early" "LApplauseTallies$Row;", Cond.fieldLink RX6 23 "ApplauseTallies$Seats" "clapsTonight" "LApplauseTallies$Row;", Cond.fieldLink RX6 26 "ApplauseTallies$Seats" "clapsSoFar" "LApplauseTallies$Row;", Cond.fieldLink RX6 29 "ApplauseTallies$Seats" "clappers" "LApplauseTallies$Row;", Cond.fieldLink RX6 39 "ApplauseTallies$Seats" "clapperCount" "I", Cond.fieldLink RX6 43 "ApplauseTallies$Seats" "paid" "I", Cond.fieldLink RX6 46 "ApplauseTallies$Seats" "clappedForPiece" "I", Cond.methodLink RX6 35 yX5_copyFrom, Cond.methodLink RX2 59 yX0_copyFrom, Cond.instanceMethod yX0_copyFrom, Cond.selects RX0 yX0_copyFrom yX0_copyFrom, Cond.initialized RX0, Cond.code yX0_copyFrom cX0_copyFrom 2 none, Cond.fieldLink RX0 14 "ApplauseTallies$Encores" "owers" "LApplauseTallies$Row;", Cond.fieldLink RX0 20 "ApplauseTallies$Encores" "since" "LApplauseTallies$Row;", Cond.fieldLink RX0 23 "ApplauseTallies$Encores" "played" "LApplauseTallies$Row;", Cond.fieldLink RX0 26 "ApplauseTallies$Encores" "lapsed" "LApplauseTallies$Row;"]
def wsX2_copyFrom_r3 : List Cond := [Cond.fieldLink RX0 29 "ApplauseTallies$Encores" "pieces" "LApplauseTallies$Row;", Cond.fieldLink RX0 36 "ApplauseTallies$Encores" "owedCount" "I", Cond.methodLink RX0 32 yX5_copyFrom]
def wsX2_copyFrom : List Cond := .code yX2_copyFrom cX2_copyFrom 2 none :: ((wsX2_copyFrom_r1 ++ (wsX2_copyFrom_r2 ++ wsX2_copyFrom_r3)) ++ wsX20 ++ wsX50 ++ wsX60 ++ wsX00)
def wsX1_setAside_r1 : List Cond := [Cond.fieldLink RX1 22 "ApplauseTallies$History" "next" "I", Cond.methodLink RX1 25 yX1_stateAt, Cond.instanceMethod yX1_stateAt, Cond.selects RX1 yX1_stateAt yX1_stateAt, Cond.initialized RX1, Cond.code yX1_stateAt cX1_stateAt 2 (some (.object "ApplauseTallies$House")), Cond.fieldLink RX1 13 "ApplauseTallies$History" "states" "[LApplauseTallies$House;", Cond.methodLink RX1 29 yX2_copyFrom, Cond.instanceMethod yX2_copyFrom, Cond.selects RX2 yX2_copyFrom yX2_copyFrom, Cond.initialized RX2, Cond.code yX2_copyFrom cX2_copyFrom 2 none, Cond.fieldLink RX2 14 "ApplauseTallies$House" "settings" "LApplauseTallies$Row;", Cond.fieldLink RX2 23 "ApplauseTallies$House" "seats" "LApplauseTallies$Seats;", Cond.fieldLink RX2 30 "ApplauseTallies$House" "encores" "LApplauseTallies$Encores;", Cond.fieldLink RX2 34 "ApplauseTallies$House" "tonight" "LApplauseTallies$Row;", Cond.fieldLink RX2 37 "ApplauseTallies$House" "records" "LApplauseTallies$Row;", Cond.fieldLink RX2 62 "ApplauseTallies$House" "applause" "I", Cond.fieldLink RX2 65 "ApplauseTallies$House" "time" "I", Cond.fieldLink RX2 68 "ApplauseTallies$House" "nights" "I", Cond.fieldLink RX2 40 "ApplauseTallies$House" "pieceBy" "I", Cond.fieldLink RX2 71 "ApplauseTallies$House" "pieceEnd" "I", Cond.fieldLink RX2 74 "ApplauseTallies$House" "encoreCame" "Z", Cond.methodLink RX2 52 yX5_copyFrom]
def wsX1_setAside_r2 : List Cond := [Cond.instanceMethod yX5_copyFrom, Cond.selects RX5 yX5_copyFrom yX5_copyFrom, Cond.initialized RX5, Cond.code yX5_copyFrom cX5_copyFrom 2 none, Cond.fieldLink RX5 13 "ApplauseTallies$Row" "cells" "[I", Cond.methodLink RX5 19 Lib.Math.min.name, Cond.static Lib.Math.min.name, Cond.initialized "java/lang/Math", Cond.code Lib.Math.min.name Lib.Math.min.code 2 (some .int), Cond.methodLink RX5 22 arraycopyName, Cond.native arraycopyName, Cond.static arraycopyName, Cond.initialized "java/lang/System", Cond.methodLink RX2 56 yX6_copyFrom, Cond.instanceMethod yX6_copyFrom, Cond.selects RX6 yX6_copyFrom yX6_copyFrom, Cond.initialized RX6, Cond.code yX6_copyFrom cX6_copyFrom 2 none, Cond.fieldLink RX6 14 "ApplauseTallies$Seats" "loudness" "LApplauseTallies$Row;", Cond.fieldLink RX6 20 "ApplauseTallies$Seats" "early" "LApplauseTallies$Row;", Cond.fieldLink RX6 23 "ApplauseTallies$Seats" "clapsTonight" "LApplauseTallies$Row;", Cond.fieldLink RX6 26 "ApplauseTallies$Seats" "clapsSoFar" "LApplauseTallies$Row;", Cond.fieldLink RX6 29 "ApplauseTallies$Seats" "clappers" "LApplauseTallies$Row;", Cond.fieldLink RX6 39 "ApplauseTallies$Seats" "clapperCount" "I"]
def wsX1_setAside_r3 : List Cond := [Cond.fieldLink RX6 43 "ApplauseTallies$Seats" "paid" "I", Cond.fieldLink RX6 46 "ApplauseTallies$Seats" "clappedForPiece" "I", Cond.methodLink RX6 35 yX5_copyFrom, Cond.methodLink RX2 59 yX0_copyFrom, Cond.instanceMethod yX0_copyFrom, Cond.selects RX0 yX0_copyFrom yX0_copyFrom, Cond.initialized RX0, Cond.code yX0_copyFrom cX0_copyFrom 2 none, Cond.fieldLink RX0 14 "ApplauseTallies$Encores" "owers" "LApplauseTallies$Row;", Cond.fieldLink RX0 20 "ApplauseTallies$Encores" "since" "LApplauseTallies$Row;", Cond.fieldLink RX0 23 "ApplauseTallies$Encores" "played" "LApplauseTallies$Row;", Cond.fieldLink RX0 26 "ApplauseTallies$Encores" "lapsed" "LApplauseTallies$Row;", Cond.fieldLink RX0 29 "ApplauseTallies$Encores" "pieces" "LApplauseTallies$Row;", Cond.fieldLink RX0 36 "ApplauseTallies$Encores" "owedCount" "I", Cond.methodLink RX0 32 yX5_copyFrom]
def wsX1_setAside : List Cond := .code yX1_setAside cX1_setAside 3 none :: ((wsX1_setAside_r1 ++ (wsX1_setAside_r2 ++ wsX1_setAside_r3)) ++ wsX10 ++ wsX20 ++ wsX50 ++ wsX60 ++ wsX00)
def wsX1_keepUnlessError : List Cond := .code yX1_keepUnlessError cX1_keepUnlessError 2 (some .int) :: ([.fieldLink RX1 22 "ApplauseTallies$History" "next" "I", .fieldLink RX1 18 "ApplauseTallies$History" "kept" "I", .methodLink RX1 33 Lib.Math.min.name, .static Lib.Math.min.name, .initialized "java/lang/Math", .code Lib.Math.min.name Lib.Math.min.code 2 (some .int)] ++ wsX10)
def wsX1_takeBack_r1 : List Cond := [Cond.fieldLink RX1 22 "ApplauseTallies$History" "next" "I", Cond.fieldLink RX1 18 "ApplauseTallies$History" "kept" "I", Cond.methodLink RX1 25 yX1_stateAt, Cond.instanceMethod yX1_stateAt, Cond.selects RX1 yX1_stateAt yX1_stateAt, Cond.initialized RX1, Cond.code yX1_stateAt cX1_stateAt 2 (some (.object "ApplauseTallies$House")), Cond.fieldLink RX1 13 "ApplauseTallies$History" "states" "[LApplauseTallies$House;", Cond.methodLink RX1 29 yX2_copyFrom, Cond.instanceMethod yX2_copyFrom, Cond.selects RX2 yX2_copyFrom yX2_copyFrom, Cond.initialized RX2, Cond.code yX2_copyFrom cX2_copyFrom 2 none, Cond.fieldLink RX2 14 "ApplauseTallies$House" "settings" "LApplauseTallies$Row;", Cond.fieldLink RX2 23 "ApplauseTallies$House" "seats" "LApplauseTallies$Seats;", Cond.fieldLink RX2 30 "ApplauseTallies$House" "encores" "LApplauseTallies$Encores;", Cond.fieldLink RX2 34 "ApplauseTallies$House" "tonight" "LApplauseTallies$Row;", Cond.fieldLink RX2 37 "ApplauseTallies$House" "records" "LApplauseTallies$Row;", Cond.fieldLink RX2 62 "ApplauseTallies$House" "applause" "I", Cond.fieldLink RX2 65 "ApplauseTallies$House" "time" "I", Cond.fieldLink RX2 68 "ApplauseTallies$House" "nights" "I", Cond.fieldLink RX2 40 "ApplauseTallies$House" "pieceBy" "I", Cond.fieldLink RX2 71 "ApplauseTallies$House" "pieceEnd" "I", Cond.fieldLink RX2 74 "ApplauseTallies$House" "encoreCame" "Z"]
def wsX1_takeBack_r2 : List Cond := [Cond.methodLink RX2 52 yX5_copyFrom, Cond.instanceMethod yX5_copyFrom, Cond.selects RX5 yX5_copyFrom yX5_copyFrom, Cond.initialized RX5, Cond.code yX5_copyFrom cX5_copyFrom 2 none, Cond.fieldLink RX5 13 "ApplauseTallies$Row" "cells" "[I", Cond.methodLink RX5 19 Lib.Math.min.name, Cond.static Lib.Math.min.name, Cond.initialized "java/lang/Math", Cond.code Lib.Math.min.name Lib.Math.min.code 2 (some .int), Cond.methodLink RX5 22 arraycopyName, Cond.native arraycopyName, Cond.static arraycopyName, Cond.initialized "java/lang/System", Cond.methodLink RX2 56 yX6_copyFrom, Cond.instanceMethod yX6_copyFrom, Cond.selects RX6 yX6_copyFrom yX6_copyFrom, Cond.initialized RX6, Cond.code yX6_copyFrom cX6_copyFrom 2 none, Cond.fieldLink RX6 14 "ApplauseTallies$Seats" "loudness" "LApplauseTallies$Row;", Cond.fieldLink RX6 20 "ApplauseTallies$Seats" "early" "LApplauseTallies$Row;", Cond.fieldLink RX6 23 "ApplauseTallies$Seats" "clapsTonight" "LApplauseTallies$Row;", Cond.fieldLink RX6 26 "ApplauseTallies$Seats" "clapsSoFar" "LApplauseTallies$Row;", Cond.fieldLink RX6 29 "ApplauseTallies$Seats" "clappers" "LApplauseTallies$Row;"]
def wsX1_takeBack_r3 : List Cond := [Cond.fieldLink RX6 39 "ApplauseTallies$Seats" "clapperCount" "I", Cond.fieldLink RX6 43 "ApplauseTallies$Seats" "paid" "I", Cond.fieldLink RX6 46 "ApplauseTallies$Seats" "clappedForPiece" "I", Cond.methodLink RX6 35 yX5_copyFrom, Cond.methodLink RX2 59 yX0_copyFrom, Cond.instanceMethod yX0_copyFrom, Cond.selects RX0 yX0_copyFrom yX0_copyFrom, Cond.initialized RX0, Cond.code yX0_copyFrom cX0_copyFrom 2 none, Cond.fieldLink RX0 14 "ApplauseTallies$Encores" "owers" "LApplauseTallies$Row;", Cond.fieldLink RX0 20 "ApplauseTallies$Encores" "since" "LApplauseTallies$Row;", Cond.fieldLink RX0 23 "ApplauseTallies$Encores" "played" "LApplauseTallies$Row;", Cond.fieldLink RX0 26 "ApplauseTallies$Encores" "lapsed" "LApplauseTallies$Row;", Cond.fieldLink RX0 29 "ApplauseTallies$Encores" "pieces" "LApplauseTallies$Row;", Cond.fieldLink RX0 36 "ApplauseTallies$Encores" "owedCount" "I", Cond.methodLink RX0 32 yX5_copyFrom]
def wsX1_takeBack : List Cond := .code yX1_takeBack cX1_takeBack 4 (some .int) :: ((wsX1_takeBack_r1 ++ (wsX1_takeBack_r2 ++ wsX1_takeBack_r3)) ++ wsX10 ++ wsX20 ++ wsX50 ++ wsX60 ++ wsX00)
def wsX2_changeSetting : List Cond := .code yX2_changeSetting cX2_changeSetting 4 (some .int) :: ([.fieldLink RX2 14 "ApplauseTallies$House" "settings" "LApplauseTallies$Row;", .methodLink RX2 84 yX5_at, .instanceMethod yX5_at, .selects RX5 yX5_at yX5_at, .initialized RX5, .code yX5_at cX5_at 2 (some .int), .fieldLink RX5 13 "ApplauseTallies$Row" "cells" "[I", .methodLink RX2 48 yX5_store, .instanceMethod yX5_store, .selects RX5 yX5_store yX5_store, .code yX5_store cX5_store 3 none] ++ wsX20 ++ wsX50)
def wsX7_isSeat : List Cond := .code yX7_isSeat cX7_isSeat 1 (some .boolean) :: ([])
def wsX2_changeLoudness : List Cond := .code yX2_changeLoudness cX2_changeLoudness 4 (some .int) :: ([.fieldLink RX2 23 "ApplauseTallies$House" "seats" "LApplauseTallies$Seats;", .static yX7_isSeat, .initialized RX7, .code yX7_isSeat cX7_isSeat 1 (some .boolean), .methodLink RX2 84 yX5_at, .instanceMethod yX5_at, .selects RX5 yX5_at yX5_at, .initialized RX5, .code yX5_at cX5_at 2 (some .int), .fieldLink RX5 13 "ApplauseTallies$Row" "cells" "[I", .methodLink RX2 48 yX5_store, .instanceMethod yX5_store, .selects RX5 yX5_store yX5_store, .code yX5_store cX5_store 3 none] ++ wsX20 ++ wsX60 ++ wsX50)
def wsX2_switchPay : List Cond := .code yX2_switchPay cX2_switchPay 2 (some .int) :: ([.fieldLink RX2 23 "ApplauseTallies$House" "seats" "LApplauseTallies$Seats;", .static yX7_isSeat, .initialized RX7, .code yX7_isSeat cX7_isSeat 1 (some .boolean)] ++ wsX20 ++ wsX60)
def wsX6_beginPiece : List Cond := .code yX6_beginPiece cX6_beginPiece 1 none :: ([.fieldLink RX6 46 "ApplauseTallies$Seats" "clappedForPiece" "I"] ++ wsX60)
def wsX2_beginApplause : List Cond := .code yX2_beginApplause cX2_beginApplause 2 none :: ([.fieldLink RX2 30 "ApplauseTallies$House" "encores" "LApplauseTallies$Encores;", .fieldLink RX2 23 "ApplauseTallies$House" "seats" "LApplauseTallies$Seats;", .fieldLink RX2 62 "ApplauseTallies$House" "applause" "I", .fieldLink RX2 40 "ApplauseTallies$House" "pieceBy" "I", .fieldLink RX2 65 "ApplauseTallies$House" "time" "I", .fieldLink RX2 71 "ApplauseTallies$House" "pieceEnd" "I", .fieldLink RX2 74 "ApplauseTallies$House" "encoreCame" "Z", .methodLink RX2 107 yX5_add, .instanceMethod yX5_add, .selects RX5 yX5_add yX5_add, .initialized RX5, .code yX5_add cX5_add 3 none, .fieldLink RX5 13 "ApplauseTallies$Row" "cells" "[I", .methodLink RX2 110 yX6_beginPiece, .instanceMethod yX6_beginPiece, .selects RX6 yX6_beginPiece yX6_beginPiece, .initialized RX6, .code yX6_beginPiece cX6_beginPiece 1 none, .fieldLink RX6 46 "ApplauseTallies$Seats" "clappedForPiece" "I"] ++ wsX20 ++ wsX00 ++ wsX50 ++ wsX60)
def wsX2_endPiece_r1 : List Cond := [Cond.fieldLink RX2 62 "ApplauseTallies$House" "applause" "I", Cond.static yX7_isPerformer, Cond.initialized RX7, Cond.code yX7_isPerformer cX7_isPerformer 1 (some .boolean), Cond.methodLink RX2 101 yX2_beginApplause, Cond.instanceMethod yX2_beginApplause, Cond.selects RX2 yX2_beginApplause yX2_beginApplause, Cond.initialized RX2, Cond.code yX2_beginApplause cX2_beginApplause 2 none, Cond.fieldLink RX2 30 "ApplauseTallies$House" "encores" "LApplauseTallies$Encores;", Cond.fieldLink RX2 23 "ApplauseTallies$House" "seats" "LApplauseTallies$Seats;", Cond.fieldLink RX2 40 "ApplauseTallies$House" "pieceBy" "I", Cond.fieldLink RX2 65 "ApplauseTallies$House" "time" "I", Cond.fieldLink RX2 71 "ApplauseTallies$House" "pieceEnd" "I", Cond.fieldLink RX2 74 "ApplauseTallies$House" "encoreCame" "Z", Cond.methodLink RX2 107 yX5_add, Cond.instanceMethod yX5_add, Cond.selects RX5 yX5_add yX5_add, Cond.initialized RX5, Cond.code yX5_add cX5_add 3 none, Cond.fieldLink RX5 13 "ApplauseTallies$Row" "cells" "[I", Cond.methodLink RX2 110 yX6_beginPiece, Cond.instanceMethod yX6_beginPiece, Cond.selects RX6 yX6_beginPiece yX6_beginPiece]
def wsX2_endPiece_r2 : List Cond := [Cond.initialized RX6, Cond.code yX6_beginPiece cX6_beginPiece 1 none, Cond.fieldLink RX6 46 "ApplauseTallies$Seats" "clappedForPiece" "I"]
def wsX2_endPiece : List Cond := .code yX2_endPiece cX2_endPiece 3 (some .int) :: ((wsX2_endPiece_r1 ++ wsX2_endPiece_r2) ++ wsX20 ++ wsX00 ++ wsX50 ++ wsX60)
def wsX6_hasClapped : List Cond := .code yX6_hasClapped cX6_hasClapped 2 (some .boolean) :: ([.fieldLink RX6 46 "ApplauseTallies$Seats" "clappedForPiece" "I"] ++ wsX60)
def wsX6_addClap_r1 : List Cond := [Cond.fieldLink RX6 20 "ApplauseTallies$Seats" "early" "LApplauseTallies$Row;", Cond.fieldLink RX6 23 "ApplauseTallies$Seats" "clapsTonight" "LApplauseTallies$Row;", Cond.fieldLink RX6 29 "ApplauseTallies$Seats" "clappers" "LApplauseTallies$Row;", Cond.fieldLink RX6 39 "ApplauseTallies$Seats" "clapperCount" "I", Cond.fieldLink RX6 46 "ApplauseTallies$Seats" "clappedForPiece" "I", Cond.fieldLink RX6 26 "ApplauseTallies$Seats" "clapsSoFar" "LApplauseTallies$Row;", Cond.methodLink RX6 49 yX6_hasClapped, Cond.instanceMethod yX6_hasClapped, Cond.selects RX6 yX6_hasClapped yX6_hasClapped, Cond.initialized RX6, Cond.code yX6_hasClapped cX6_hasClapped 2 (some .boolean), Cond.methodLink RX6 53 yX5_add, Cond.instanceMethod yX5_add, Cond.selects RX5 yX5_add yX5_add, Cond.initialized RX5, Cond.code yX5_add cX5_add 3 none, Cond.fieldLink RX5 13 "ApplauseTallies$Row" "cells" "[I", Cond.methodLink RX6 57 yX5_at, Cond.instanceMethod yX5_at, Cond.selects RX5 yX5_at yX5_at, Cond.code yX5_at cX5_at 2 (some .int), Cond.methodLink RX6 61 yX5_store, Cond.instanceMethod yX5_store, Cond.selects RX5 yX5_store yX5_store]
def wsX6_addClap_r2 : List Cond := [Cond.code yX5_store cX5_store 3 none]
def wsX6_addClap : List Cond := .code yX6_addClap cX6_addClap 3 none :: ((wsX6_addClap_r1 ++ wsX6_addClap_r2) ++ wsX60 ++ wsX50)
def wsX2_bringEncore_r1 : List Cond := [Cond.fieldLink RX2 74 "ApplauseTallies$House" "encoreCame" "Z", Cond.fieldLink RX2 30 "ApplauseTallies$House" "encores" "LApplauseTallies$Encores;", Cond.fieldLink RX2 40 "ApplauseTallies$House" "pieceBy" "I", Cond.fieldLink RX2 65 "ApplauseTallies$House" "time" "I", Cond.fieldLink RX2 34 "ApplauseTallies$House" "tonight" "LApplauseTallies$Row;", Cond.methodLink RX2 126 yX0_owe, Cond.instanceMethod yX0_owe, Cond.selects RX0 yX0_owe yX0_owe, Cond.initialized RX0, Cond.code yX0_owe cX0_owe 3 (some .boolean), Cond.fieldLink RX0 36 "ApplauseTallies$Encores" "owedCount" "I", Cond.fieldLink RX0 26 "ApplauseTallies$Encores" "lapsed" "LApplauseTallies$Row;", Cond.fieldLink RX0 14 "ApplauseTallies$Encores" "owers" "LApplauseTallies$Row;", Cond.fieldLink RX0 20 "ApplauseTallies$Encores" "since" "LApplauseTallies$Row;", Cond.methodLink RX0 40 yX5_add, Cond.instanceMethod yX5_add, Cond.selects RX5 yX5_add yX5_add, Cond.initialized RX5, Cond.code yX5_add cX5_add 3 none, Cond.fieldLink RX5 13 "ApplauseTallies$Row" "cells" "[I", Cond.methodLink RX0 44 yX5_store, Cond.instanceMethod yX5_store, Cond.selects RX5 yX5_store yX5_store, Cond.code yX5_store cX5_store 3 none]
def wsX2_bringEncore_r2 : List Cond := [Cond.methodLink RX2 107 yX5_add]
def wsX2_bringEncore : List Cond := .code yX2_bringEncore cX2_bringEncore 1 none :: ((wsX2_bringEncore_r1 ++ wsX2_bringEncore_r2) ++ wsX20 ++ wsX00 ++ wsX50)
def wsX2_takeClap_r1 : List Cond := [Cond.fieldLink RX2 40 "ApplauseTallies$House" "pieceBy" "I", Cond.fieldLink RX2 23 "ApplauseTallies$House" "seats" "LApplauseTallies$Seats;", Cond.fieldLink RX2 65 "ApplauseTallies$House" "time" "I", Cond.fieldLink RX2 71 "ApplauseTallies$House" "pieceEnd" "I", Cond.fieldLink RX2 14 "ApplauseTallies$House" "settings" "LApplauseTallies$Row;", Cond.fieldLink RX2 34 "ApplauseTallies$House" "tonight" "LApplauseTallies$Row;", Cond.fieldLink RX2 62 "ApplauseTallies$House" "applause" "I", Cond.methodLink RX2 117 Lib.Math.min.name, Cond.static Lib.Math.min.name, Cond.initialized "java/lang/Math", Cond.code Lib.Math.min.name Lib.Math.min.code 2 (some .int), Cond.fieldLink RX2 74 "ApplauseTallies$House" "encoreCame" "Z", Cond.static yX7_isSeat, Cond.initialized RX7, Cond.code yX7_isSeat cX7_isSeat 1 (some .boolean), Cond.methodLink RX2 84 yX5_at, Cond.instanceMethod yX5_at, Cond.selects RX5 yX5_at yX5_at, Cond.initialized RX5, Cond.code yX5_at cX5_at 2 (some .int), Cond.fieldLink RX5 13 "ApplauseTallies$Row" "cells" "[I", Cond.methodLink RX2 113 yX6_addClap, Cond.instanceMethod yX6_addClap, Cond.selects RX6 yX6_addClap yX6_addClap]
def wsX2_takeClap_r2 : List Cond := [Cond.initialized RX6, Cond.code yX6_addClap cX6_addClap 3 none, Cond.fieldLink RX6 20 "ApplauseTallies$Seats" "early" "LApplauseTallies$Row;", Cond.fieldLink RX6 23 "ApplauseTallies$Seats" "clapsTonight" "LApplauseTallies$Row;", Cond.fieldLink RX6 29 "ApplauseTallies$Seats" "clappers" "LApplauseTallies$Row;", Cond.fieldLink RX6 39 "ApplauseTallies$Seats" "clapperCount" "I", Cond.fieldLink RX6 46 "ApplauseTallies$Seats" "clappedForPiece" "I", Cond.fieldLink RX6 26 "ApplauseTallies$Seats" "clapsSoFar" "LApplauseTallies$Row;", Cond.methodLink RX6 49 yX6_hasClapped, Cond.instanceMethod yX6_hasClapped, Cond.selects RX6 yX6_hasClapped yX6_hasClapped, Cond.code yX6_hasClapped cX6_hasClapped 2 (some .boolean), Cond.methodLink RX6 53 yX5_add, Cond.instanceMethod yX5_add, Cond.selects RX5 yX5_add yX5_add, Cond.code yX5_add cX5_add 3 none, Cond.methodLink RX6 57 yX5_at, Cond.methodLink RX6 61 yX5_store, Cond.instanceMethod yX5_store, Cond.selects RX5 yX5_store yX5_store, Cond.code yX5_store cX5_store 3 none, Cond.methodLink RX2 107 yX5_add, Cond.methodLink RX2 123 yX2_bringEncore, Cond.instanceMethod yX2_bringEncore]
def wsX2_takeClap_r3 : List Cond := [Cond.selects RX2 yX2_bringEncore yX2_bringEncore, Cond.initialized RX2, Cond.code yX2_bringEncore cX2_bringEncore 1 none, Cond.fieldLink RX2 30 "ApplauseTallies$House" "encores" "LApplauseTallies$Encores;", Cond.methodLink RX2 126 yX0_owe, Cond.instanceMethod yX0_owe, Cond.selects RX0 yX0_owe yX0_owe, Cond.initialized RX0, Cond.code yX0_owe cX0_owe 3 (some .boolean), Cond.fieldLink RX0 36 "ApplauseTallies$Encores" "owedCount" "I", Cond.fieldLink RX0 26 "ApplauseTallies$Encores" "lapsed" "LApplauseTallies$Row;", Cond.fieldLink RX0 14 "ApplauseTallies$Encores" "owers" "LApplauseTallies$Row;", Cond.fieldLink RX0 20 "ApplauseTallies$Encores" "since" "LApplauseTallies$Row;", Cond.methodLink RX0 40 yX5_add, Cond.methodLink RX0 44 yX5_store]
def wsX2_takeClap : List Cond := .code yX2_takeClap cX2_takeClap 2 (some .int) :: ((wsX2_takeClap_r1 ++ (wsX2_takeClap_r2 ++ wsX2_takeClap_r3)) ++ wsX20 ++ wsX60 ++ wsX50 ++ wsX00)
def wsX7_afterSecond : List Cond := .code yX7_afterSecond cX7_afterSecond 2 (some .int) :: ([.methodLink RX7 176 Lib.Math.max.name, .static Lib.Math.max.name, .initialized "java/lang/Math", .code Lib.Math.max.name Lib.Math.max.code 2 (some .int)])
def wsX2_letPass_r1 : List Cond := [Cond.fieldLink RX2 65 "ApplauseTallies$House" "time" "I", Cond.constant RX2 130 (99999), Cond.fieldLink RX2 62 "ApplauseTallies$House" "applause" "I", Cond.fieldLink RX2 14 "ApplauseTallies$House" "settings" "LApplauseTallies$Row;", Cond.fieldLink RX2 34 "ApplauseTallies$House" "tonight" "LApplauseTallies$Row;", Cond.fieldLink RX2 30 "ApplauseTallies$House" "encores" "LApplauseTallies$Encores;", Cond.methodLink RX2 84 yX5_at, Cond.instanceMethod yX5_at, Cond.selects RX5 yX5_at yX5_at, Cond.initialized RX5, Cond.code yX5_at cX5_at 2 (some .int), Cond.fieldLink RX5 13 "ApplauseTallies$Row" "cells" "[I", Cond.static yX7_afterSecond, Cond.initialized RX7, Cond.code yX7_afterSecond cX7_afterSecond 2 (some .int), Cond.methodLink RX7 176 Lib.Math.max.name, Cond.static Lib.Math.max.name, Cond.initialized "java/lang/Math", Cond.code Lib.Math.max.name Lib.Math.max.code 2 (some .int), Cond.methodLink RX2 134 yX0_lapseSince, Cond.instanceMethod yX0_lapseSince, Cond.selects RX0 yX0_lapseSince yX0_lapseSince, Cond.initialized RX0, Cond.code yX0_lapseSince cX0_lapseSince 4 (some .int)]
def wsX2_letPass_r2 : List Cond := [Cond.fieldLink RX0 36 "ApplauseTallies$Encores" "owedCount" "I", Cond.fieldLink RX0 20 "ApplauseTallies$Encores" "since" "LApplauseTallies$Row;", Cond.fieldLink RX0 26 "ApplauseTallies$Encores" "lapsed" "LApplauseTallies$Row;", Cond.fieldLink RX0 14 "ApplauseTallies$Encores" "owers" "LApplauseTallies$Row;", Cond.methodLink RX0 47 yX5_at, Cond.methodLink RX0 40 yX5_add, Cond.instanceMethod yX5_add, Cond.selects RX5 yX5_add yX5_add, Cond.code yX5_add cX5_add 3 none, Cond.methodLink RX0 44 yX5_store, Cond.instanceMethod yX5_store, Cond.selects RX5 yX5_store yX5_store, Cond.code yX5_store cX5_store 3 none, Cond.methodLink RX2 107 yX5_add]
def wsX2_letPass : List Cond := .code yX2_letPass cX2_letPass 3 (some .int) :: ((wsX2_letPass_r1 ++ wsX2_letPass_r2) ++ wsX20 ++ wsX50 ++ wsX00)
def wsX2_playEncore_r1 : List Cond := [Cond.fieldLink RX2 30 "ApplauseTallies$House" "encores" "LApplauseTallies$Encores;", Cond.fieldLink RX2 34 "ApplauseTallies$House" "tonight" "LApplauseTallies$Row;", Cond.static yX7_isPerformer, Cond.initialized RX7, Cond.code yX7_isPerformer cX7_isPerformer 1 (some .boolean), Cond.methodLink RX2 137 yX0_playEarliestOf, Cond.instanceMethod yX0_playEarliestOf, Cond.selects RX0 yX0_playEarliestOf yX0_playEarliestOf, Cond.initialized RX0, Cond.code yX0_playEarliestOf cX0_playEarliestOf 4 (some .boolean), Cond.fieldLink RX0 36 "ApplauseTallies$Encores" "owedCount" "I", Cond.fieldLink RX0 14 "ApplauseTallies$Encores" "owers" "LApplauseTallies$Row;", Cond.fieldLink RX0 20 "ApplauseTallies$Encores" "since" "LApplauseTallies$Row;", Cond.fieldLink RX0 23 "ApplauseTallies$Encores" "played" "LApplauseTallies$Row;", Cond.methodLink RX0 51 yX0_earliestOf, Cond.instanceMethod yX0_earliestOf, Cond.selects RX0 yX0_earliestOf yX0_earliestOf, Cond.code yX0_earliestOf cX0_earliestOf 3 (some .int), Cond.methodLink RX0 47 yX5_at, Cond.instanceMethod yX5_at, Cond.selects RX5 yX5_at yX5_at, Cond.initialized RX5, Cond.code yX5_at cX5_at 2 (some .int), Cond.fieldLink RX5 13 "ApplauseTallies$Row" "cells" "[I"]
def wsX2_playEncore_r2 : List Cond := [Cond.methodLink RX0 44 yX5_store, Cond.instanceMethod yX5_store, Cond.selects RX5 yX5_store yX5_store, Cond.code yX5_store cX5_store 3 none, Cond.methodLink RX0 40 yX5_add, Cond.instanceMethod yX5_add, Cond.selects RX5 yX5_add yX5_add, Cond.code yX5_add cX5_add 3 none, Cond.methodLink RX2 107 yX5_add, Cond.methodLink RX2 101 yX2_beginApplause, Cond.instanceMethod yX2_beginApplause, Cond.selects RX2 yX2_beginApplause yX2_beginApplause, Cond.initialized RX2, Cond.code yX2_beginApplause cX2_beginApplause 2 none, Cond.fieldLink RX2 23 "ApplauseTallies$House" "seats" "LApplauseTallies$Seats;", Cond.fieldLink RX2 62 "ApplauseTallies$House" "applause" "I", Cond.fieldLink RX2 40 "ApplauseTallies$House" "pieceBy" "I", Cond.fieldLink RX2 65 "ApplauseTallies$House" "time" "I", Cond.fieldLink RX2 71 "ApplauseTallies$House" "pieceEnd" "I", Cond.fieldLink RX2 74 "ApplauseTallies$House" "encoreCame" "Z", Cond.methodLink RX2 110 yX6_beginPiece, Cond.instanceMethod yX6_beginPiece, Cond.selects RX6 yX6_beginPiece yX6_beginPiece, Cond.initialized RX6]
def wsX2_playEncore_r3 : List Cond := [Cond.code yX6_beginPiece cX6_beginPiece 1 none, Cond.fieldLink RX6 46 "ApplauseTallies$Seats" "clappedForPiece" "I", Cond.methodLink RX2 140 yX0_owedBy, Cond.instanceMethod yX0_owedBy, Cond.selects RX0 yX0_owedBy yX0_owedBy, Cond.code yX0_owedBy cX0_owedBy 4 (some .int)]
def wsX2_playEncore : List Cond := .code yX2_playEncore cX2_playEncore 2 (some .int) :: ((wsX2_playEncore_r1 ++ (wsX2_playEncore_r2 ++ wsX2_playEncore_r3)) ++ wsX20 ++ wsX00 ++ wsX50 ++ wsX60)
def wsX2_takeCurtain : List Cond := .code yX2_takeCurtain cX2_takeCurtain 1 (some .int) :: ([.fieldLink RX2 62 "ApplauseTallies$House" "applause" "I", .fieldLink RX2 14 "ApplauseTallies$House" "settings" "LApplauseTallies$Row;", .fieldLink RX2 34 "ApplauseTallies$House" "tonight" "LApplauseTallies$Row;", .methodLink RX2 84 yX5_at, .instanceMethod yX5_at, .selects RX5 yX5_at yX5_at, .initialized RX5, .code yX5_at cX5_at 2 (some .int), .fieldLink RX5 13 "ApplauseTallies$Row" "cells" "[I", .methodLink RX2 107 yX5_add, .instanceMethod yX5_add, .selects RX5 yX5_add yX5_add, .code yX5_add cX5_add 3 none] ++ wsX20 ++ wsX50)
def wsX2_recordPlace : List Cond := .code yX2_recordPlace cX2_recordPlace 2 (some .int) :: ([])
def wsX6_beginNight : List Cond := .code yX6_beginNight cX6_beginNight 1 none :: ([.fieldLink RX6 46 "ApplauseTallies$Seats" "clappedForPiece" "I", .fieldLink RX6 23 "ApplauseTallies$Seats" "clapsTonight" "LApplauseTallies$Row;", .fieldLink RX6 39 "ApplauseTallies$Seats" "clapperCount" "I", .methodLink RX6 32 yX5_fill, .instanceMethod yX5_fill, .selects RX5 yX5_fill yX5_fill, .initialized RX5, .code yX5_fill cX5_fill 3 none, .fieldLink RX5 13 "ApplauseTallies$Row" "cells" "[I"] ++ wsX60 ++ wsX50)
def wsX2_endNight_r1 : List Cond := [Cond.fieldLink RX2 68 "ApplauseTallies$House" "nights" "I", Cond.fieldLink RX2 30 "ApplauseTallies$House" "encores" "LApplauseTallies$Encores;", Cond.fieldLink RX2 65 "ApplauseTallies$House" "time" "I", Cond.fieldLink RX2 34 "ApplauseTallies$House" "tonight" "LApplauseTallies$Row;", Cond.fieldLink RX2 37 "ApplauseTallies$House" "records" "LApplauseTallies$Row;", Cond.fieldLink RX2 23 "ApplauseTallies$House" "seats" "LApplauseTallies$Seats;", Cond.fieldLink RX2 62 "ApplauseTallies$House" "applause" "I", Cond.fieldLink RX2 40 "ApplauseTallies$House" "pieceBy" "I", Cond.methodLink RX2 134 yX0_lapseSince, Cond.instanceMethod yX0_lapseSince, Cond.selects RX0 yX0_lapseSince yX0_lapseSince, Cond.initialized RX0, Cond.code yX0_lapseSince cX0_lapseSince 4 (some .int), Cond.fieldLink RX0 36 "ApplauseTallies$Encores" "owedCount" "I", Cond.fieldLink RX0 20 "ApplauseTallies$Encores" "since" "LApplauseTallies$Row;", Cond.fieldLink RX0 26 "ApplauseTallies$Encores" "lapsed" "LApplauseTallies$Row;", Cond.fieldLink RX0 14 "ApplauseTallies$Encores" "owers" "LApplauseTallies$Row;", Cond.methodLink RX0 47 yX5_at, Cond.instanceMethod yX5_at, Cond.selects RX5 yX5_at yX5_at, Cond.initialized RX5, Cond.code yX5_at cX5_at 2 (some .int), Cond.fieldLink RX5 13 "ApplauseTallies$Row" "cells" "[I", Cond.methodLink RX0 40 yX5_add]
def wsX2_endNight_r2 : List Cond := [Cond.instanceMethod yX5_add, Cond.selects RX5 yX5_add yX5_add, Cond.code yX5_add cX5_add 3 none, Cond.methodLink RX0 44 yX5_store, Cond.instanceMethod yX5_store, Cond.selects RX5 yX5_store yX5_store, Cond.code yX5_store cX5_store 3 none, Cond.methodLink RX2 107 yX5_add, Cond.methodLink RX2 143 yX2_recordPlace, Cond.static yX2_recordPlace, Cond.initialized RX2, Cond.code yX2_recordPlace cX2_recordPlace 2 (some .int), Cond.methodLink RX2 84 yX5_at, Cond.methodLink RX2 48 yX5_store, Cond.methodLink RX2 146 yX5_fill, Cond.instanceMethod yX5_fill, Cond.selects RX5 yX5_fill yX5_fill, Cond.code yX5_fill cX5_fill 3 none, Cond.methodLink RX2 149 yX6_beginNight, Cond.instanceMethod yX6_beginNight, Cond.selects RX6 yX6_beginNight yX6_beginNight, Cond.initialized RX6, Cond.code yX6_beginNight cX6_beginNight 1 none, Cond.fieldLink RX6 46 "ApplauseTallies$Seats" "clappedForPiece" "I"]
def wsX2_endNight_r3 : List Cond := [Cond.fieldLink RX6 23 "ApplauseTallies$Seats" "clapsTonight" "LApplauseTallies$Row;", Cond.fieldLink RX6 39 "ApplauseTallies$Seats" "clapperCount" "I", Cond.methodLink RX6 32 yX5_fill]
def wsX2_endNight : List Cond := .code yX2_endNight cX2_endNight 3 (some .int) :: ((wsX2_endNight_r1 ++ (wsX2_endNight_r2 ++ wsX2_endNight_r3)) ++ wsX20 ++ wsX00 ++ wsX50 ++ wsX60)
def wsX2_aboutSeat : List Cond := .code yX2_aboutSeat cX2_aboutSeat 3 (some .int) :: ([.fieldLink RX2 23 "ApplauseTallies$House" "seats" "LApplauseTallies$Seats;", .fieldLink RX2 14 "ApplauseTallies$House" "settings" "LApplauseTallies$Row;", .static yX7_isSeat, .initialized RX7, .code yX7_isSeat cX7_isSeat 1 (some .boolean), .methodLink RX2 84 yX5_at, .instanceMethod yX5_at, .selects RX5 yX5_at yX5_at, .initialized RX5, .code yX5_at cX5_at 2 (some .int), .fieldLink RX5 13 "ApplauseTallies$Row" "cells" "[I", .methodLink RX2 164 yX6_hasClapped, .instanceMethod yX6_hasClapped, .selects RX6 yX6_hasClapped yX6_hasClapped, .initialized RX6, .code yX6_hasClapped cX6_hasClapped 2 (some .boolean), .fieldLink RX6 46 "ApplauseTallies$Seats" "clappedForPiece" "I"] ++ wsX20 ++ wsX60 ++ wsX50)
def wsX6_suspected : List Cond := .code yX6_suspected cX6_suspected 4 (some .int) :: ([.fieldLink RX6 20 "ApplauseTallies$Seats" "early" "LApplauseTallies$Row;", .methodLink RX6 57 yX5_at, .instanceMethod yX5_at, .selects RX5 yX5_at yX5_at, .initialized RX5, .code yX5_at cX5_at 2 (some .int), .fieldLink RX5 13 "ApplauseTallies$Row" "cells" "[I"] ++ wsX60 ++ wsX50)
def wsX2_suspectedNow : List Cond := .code yX2_suspectedNow cX2_suspectedNow 1 (some .int) :: ([.fieldLink RX2 23 "ApplauseTallies$House" "seats" "LApplauseTallies$Seats;", .fieldLink RX2 14 "ApplauseTallies$House" "settings" "LApplauseTallies$Row;", .methodLink RX2 84 yX5_at, .instanceMethod yX5_at, .selects RX5 yX5_at yX5_at, .initialized RX5, .code yX5_at cX5_at 2 (some .int), .fieldLink RX5 13 "ApplauseTallies$Row" "cells" "[I", .methodLink RX2 170 yX6_suspected, .instanceMethod yX6_suspected, .selects RX6 yX6_suspected yX6_suspected, .initialized RX6, .code yX6_suspected cX6_suspected 4 (some .int), .fieldLink RX6 20 "ApplauseTallies$Seats" "early" "LApplauseTallies$Row;", .methodLink RX6 57 yX5_at] ++ wsX20 ++ wsX50 ++ wsX60)
def wsX2_recordOf : List Cond := .code yX2_recordOf cX2_recordOf 3 (some .int) :: ([.fieldLink RX2 68 "ApplauseTallies$House" "nights" "I", .methodLink RX2 117 Lib.Math.min.name, .static Lib.Math.min.name, .initialized "java/lang/Math", .code Lib.Math.min.name Lib.Math.min.code 2 (some .int), .fieldLink RX2 37 "ApplauseTallies$House" "records" "LApplauseTallies$Row;", .methodLink RX2 143 yX2_recordPlace, .static yX2_recordPlace, .initialized RX2, .code yX2_recordPlace cX2_recordPlace 2 (some .int), .methodLink RX2 84 yX5_at, .instanceMethod yX5_at, .selects RX5 yX5_at yX5_at, .initialized RX5, .code yX5_at cX5_at 2 (some .int), .fieldLink RX5 13 "ApplauseTallies$Row" "cells" "[I"] ++ wsX20 ++ wsX50)
def wsX5_sum : List Cond := .code yX5_sum cX5_sum 3 (some .int) :: ([.fieldLink RX5 13 "ApplauseTallies$Row" "cells" "[I"] ++ wsX50)
def wsX2_numberOf_r1 : List Cond := [Cond.fieldLink RX2 62 "ApplauseTallies$House" "applause" "I", Cond.fieldLink RX2 65 "ApplauseTallies$House" "time" "I", Cond.fieldLink RX2 68 "ApplauseTallies$House" "nights" "I", Cond.fieldLink RX2 34 "ApplauseTallies$House" "tonight" "LApplauseTallies$Row;", Cond.fieldLink RX2 30 "ApplauseTallies$House" "encores" "LApplauseTallies$Encores;", Cond.fieldLink RX2 40 "ApplauseTallies$House" "pieceBy" "I", Cond.fieldLink RX2 71 "ApplauseTallies$House" "pieceEnd" "I", Cond.fieldLink RX2 23 "ApplauseTallies$House" "seats" "LApplauseTallies$Seats;", Cond.fieldLink RX2 14 "ApplauseTallies$House" "settings" "LApplauseTallies$Row;", Cond.methodLink RX2 84 yX5_at, Cond.instanceMethod yX5_at, Cond.selects RX5 yX5_at yX5_at, Cond.initialized RX5, Cond.code yX5_at cX5_at 2 (some .int), Cond.fieldLink RX5 13 "ApplauseTallies$Row" "cells" "[I", Cond.methodLink RX2 179 yX5_sum, Cond.instanceMethod yX5_sum, Cond.selects RX5 yX5_sum yX5_sum, Cond.code yX5_sum cX5_sum 3 (some .int), Cond.methodLink RX2 186 yX2_suspectedNow, Cond.instanceMethod yX2_suspectedNow, Cond.selects RX2 yX2_suspectedNow yX2_suspectedNow, Cond.initialized RX2, Cond.code yX2_suspectedNow cX2_suspectedNow 1 (some .int)]
def wsX2_numberOf_r2 : List Cond := [Cond.methodLink RX2 170 yX6_suspected, Cond.instanceMethod yX6_suspected, Cond.selects RX6 yX6_suspected yX6_suspected, Cond.initialized RX6, Cond.code yX6_suspected cX6_suspected 4 (some .int), Cond.fieldLink RX6 20 "ApplauseTallies$Seats" "early" "LApplauseTallies$Row;", Cond.methodLink RX6 57 yX5_at]
def wsX2_numberOf : List Cond := .code yX2_numberOf cX2_numberOf 2 (some .int) :: ((wsX2_numberOf_r1 ++ wsX2_numberOf_r2) ++ wsX20 ++ wsX00 ++ wsX60 ++ wsX50)
def wsX2_secondsUntil : List Cond := .code yX2_secondsUntil cX2_secondsUntil 4 (some .int) :: ([.fieldLink RX2 62 "ApplauseTallies$House" "applause" "I", .fieldLink RX2 14 "ApplauseTallies$House" "settings" "LApplauseTallies$Row;", .methodLink RX2 84 yX5_at, .instanceMethod yX5_at, .selects RX5 yX5_at yX5_at, .initialized RX5, .code yX5_at cX5_at 2 (some .int), .fieldLink RX5 13 "ApplauseTallies$Row" "cells" "[I", .static yX7_afterSecond, .initialized RX7, .code yX7_afterSecond cX7_afterSecond 2 (some .int), .methodLink RX7 176 Lib.Math.max.name, .static Lib.Math.max.name, .initialized "java/lang/Math", .code Lib.Math.max.name Lib.Math.max.code 2 (some .int)] ++ wsX20 ++ wsX50)
def wsX2_clapsUntilEncore : List Cond := .code yX2_clapsUntilEncore cX2_clapsUntilEncore 4 (some .int) :: ([.fieldLink RX2 40 "ApplauseTallies$House" "pieceBy" "I", .fieldLink RX2 74 "ApplauseTallies$House" "encoreCame" "Z", .fieldLink RX2 23 "ApplauseTallies$House" "seats" "LApplauseTallies$Seats;", .fieldLink RX2 14 "ApplauseTallies$House" "settings" "LApplauseTallies$Row;", .fieldLink RX2 62 "ApplauseTallies$House" "applause" "I", .static yX7_isSeat, .initialized RX7, .code yX7_isSeat cX7_isSeat 1 (some .boolean), .methodLink RX2 84 yX5_at, .instanceMethod yX5_at, .selects RX5 yX5_at yX5_at, .initialized RX5, .code yX5_at cX5_at 2 (some .int), .fieldLink RX5 13 "ApplauseTallies$Row" "cells" "[I"] ++ wsX20 ++ wsX60 ++ wsX50)
def wsX2_secondsUntilLapse : List Cond := .code yX2_secondsUntilLapse cX2_secondsUntilLapse 4 (some .int) :: ([.fieldLink RX2 30 "ApplauseTallies$House" "encores" "LApplauseTallies$Encores;", .fieldLink RX2 65 "ApplauseTallies$House" "time" "I", .fieldLink RX2 14 "ApplauseTallies$House" "settings" "LApplauseTallies$Row;", .methodLink RX2 195 Lib.Math.max.name, .static Lib.Math.max.name, .initialized "java/lang/Math", .code Lib.Math.max.name Lib.Math.max.code 2 (some .int), .static yX7_isPerformer, .initialized RX7, .code yX7_isPerformer cX7_isPerformer 1 (some .boolean), .methodLink RX2 189 yX0_earliestOf, .instanceMethod yX0_earliestOf, .selects RX0 yX0_earliestOf yX0_earliestOf, .initialized RX0, .code yX0_earliestOf cX0_earliestOf 3 (some .int), .fieldLink RX0 36 "ApplauseTallies$Encores" "owedCount" "I", .fieldLink RX0 14 "ApplauseTallies$Encores" "owers" "LApplauseTallies$Row;", .methodLink RX0 47 yX5_at, .instanceMethod yX5_at, .selects RX5 yX5_at yX5_at, .initialized RX5, .code yX5_at cX5_at 2 (some .int), .fieldLink RX5 13 "ApplauseTallies$Row" "cells" "[I", .methodLink RX2 84 yX5_at] ++ wsX20 ++ wsX00 ++ wsX50)
def wsX2_curtainsLeft : List Cond := .code yX2_curtainsLeft cX2_curtainsLeft 3 (some .int) :: ([.fieldLink RX2 62 "ApplauseTallies$House" "applause" "I", .fieldLink RX2 14 "ApplauseTallies$House" "settings" "LApplauseTallies$Row;", .methodLink RX2 84 yX5_at, .instanceMethod yX5_at, .selects RX5 yX5_at yX5_at, .initialized RX5, .code yX5_at cX5_at 2 (some .int), .fieldLink RX5 13 "ApplauseTallies$Row" "cells" "[I"] ++ wsX20 ++ wsX50)
def wsX3_init : List Cond := .code yX3_init cX3_init 2 none :: ([.methodLink RX3 3 objectInit, .instanceMethod objectInit, .code objectInit ⟨#[0xb1]⟩ 1 none, .fieldLink RX3 9 "ApplauseTallies$OrderReader" "pad" "LApplauseTallies$Pad;"] ++ wsX30)
def wsX4_init : List Cond := .code yX4_init cX4_init 1 none :: ([.methodLink RX4 3 objectInit, .instanceMethod objectInit, .code objectInit ⟨#[0xb1]⟩ 1 none, .arrayClass .int, .fieldLink RX4 9 "ApplauseTallies$Pad" "codes" "[I"] ++ wsX40)
def wsX4_length : List Cond := .code yX4_length cX4_length 1 (some .int) :: ([.fieldLink RX4 15 "ApplauseTallies$Pad" "length" "I"] ++ wsX40)
def wsX6_clapperAt : List Cond := .code yX6_clapperAt cX6_clapperAt 2 (some .int) :: ([.fieldLink RX6 39 "ApplauseTallies$Seats" "clapperCount" "I", .fieldLink RX6 29 "ApplauseTallies$Seats" "clappers" "LApplauseTallies$Row;", .methodLink RX6 57 yX5_at, .instanceMethod yX5_at, .selects RX5 yX5_at yX5_at, .initialized RX5, .code yX5_at cX5_at 2 (some .int), .fieldLink RX5 13 "ApplauseTallies$Row" "cells" "[I"] ++ wsX60 ++ wsX50)
def wsX7_init_r1 : List Cond := [Cond.methodLink RX7 1 objectInit, Cond.instanceMethod objectInit, Cond.code objectInit ⟨#[0xb1]⟩ 1 none, Cond.classLink RX7 7 RX2, Cond.instantiable RX2 11, Cond.initialized RX2, Cond.fieldLink RX7 10 "ApplauseTallies" "house" "LApplauseTallies$House;", Cond.classLink RX7 16 RX1, Cond.instantiable RX1 3, Cond.initialized RX1, Cond.fieldLink RX7 19 "ApplauseTallies" "history" "LApplauseTallies$History;", Cond.fieldLink RX7 23 "ApplauseTallies" "slots" "[LApplauseTallies$House;", Cond.classLink RX7 27 RX4, Cond.instantiable RX4 2, Cond.initialized RX4, Cond.fieldLink RX7 30 "ApplauseTallies" "pad" "LApplauseTallies$Pad;", Cond.classLink RX7 34 RX3, Cond.instantiable RX3 5, Cond.initialized RX3, Cond.fieldLink RX7 39 "ApplauseTallies" "reader" "LApplauseTallies$OrderReader;", Cond.methodLink RX7 9 yX2_init, Cond.instanceMethod yX2_init, Cond.code yX2_init cX2_init 2 none, Cond.methodLink RX2 3 objectInit]
def wsX7_init_r2 : List Cond := [Cond.classLink RX2 9 RX5, Cond.instantiable RX5 1, Cond.initialized RX5, Cond.fieldLink RX2 14 "ApplauseTallies$House" "settings" "LApplauseTallies$Row;", Cond.classLink RX2 20 RX6, Cond.instantiable RX6 8, Cond.initialized RX6, Cond.fieldLink RX2 23 "ApplauseTallies$House" "seats" "LApplauseTallies$Seats;", Cond.classLink RX2 27 RX0, Cond.instantiable RX0 6, Cond.initialized RX0, Cond.fieldLink RX2 30 "ApplauseTallies$House" "encores" "LApplauseTallies$Encores;", Cond.fieldLink RX2 34 "ApplauseTallies$House" "tonight" "LApplauseTallies$Row;", Cond.fieldLink RX2 37 "ApplauseTallies$House" "records" "LApplauseTallies$Row;", Cond.fieldLink RX2 40 "ApplauseTallies$House" "pieceBy" "I", Cond.methodLink RX2 11 yX5_init, Cond.instanceMethod yX5_init, Cond.code yX5_init cX5_init 2 none, Cond.methodLink RX5 1 objectInit, Cond.methodLink RX5 7 Lib.Math.max.name, Cond.static Lib.Math.max.name, Cond.initialized "java/lang/Math", Cond.code Lib.Math.max.name Lib.Math.max.code 2 (some .int), Cond.arrayClass .int]
def wsX7_init_r3 : List Cond := [Cond.fieldLink RX5 13 "ApplauseTallies$Row" "cells" "[I", Cond.methodLink RX2 22 yX6_init, Cond.instanceMethod yX6_init, Cond.code yX6_init cX6_init 1 none, Cond.methodLink RX6 3 objectInit, Cond.classLink RX6 9 RX5, Cond.fieldLink RX6 14 "ApplauseTallies$Seats" "loudness" "LApplauseTallies$Row;", Cond.fieldLink RX6 20 "ApplauseTallies$Seats" "early" "LApplauseTallies$Row;", Cond.fieldLink RX6 23 "ApplauseTallies$Seats" "clapsTonight" "LApplauseTallies$Row;", Cond.fieldLink RX6 26 "ApplauseTallies$Seats" "clapsSoFar" "LApplauseTallies$Row;", Cond.fieldLink RX6 29 "ApplauseTallies$Seats" "clappers" "LApplauseTallies$Row;", Cond.methodLink RX6 11 yX5_init, Cond.methodLink RX6 32 yX5_fill, Cond.instanceMethod yX5_fill, Cond.selects RX5 yX5_fill yX5_fill, Cond.code yX5_fill cX5_fill 3 none, Cond.instanceMethod yX0_init, Cond.code yX0_init cX0_init 1 none, Cond.methodLink RX0 3 objectInit, Cond.classLink RX0 9 RX5, Cond.fieldLink RX0 14 "ApplauseTallies$Encores" "owers" "LApplauseTallies$Row;", Cond.fieldLink RX0 20 "ApplauseTallies$Encores" "since" "LApplauseTallies$Row;", Cond.fieldLink RX0 23 "ApplauseTallies$Encores" "played" "LApplauseTallies$Row;", Cond.fieldLink RX0 26 "ApplauseTallies$Encores" "lapsed" "LApplauseTallies$Row;"]
def wsX7_init_r4 : List Cond := [Cond.fieldLink RX0 29 "ApplauseTallies$Encores" "pieces" "LApplauseTallies$Row;", Cond.methodLink RX0 11 yX5_init, Cond.methodLink RX2 48 yX5_store, Cond.instanceMethod yX5_store, Cond.selects RX5 yX5_store yX5_store, Cond.code yX5_store cX5_store 3 none, Cond.methodLink RX7 18 yX1_init, Cond.instanceMethod yX1_init, Cond.code yX1_init cX1_init 2 none, Cond.methodLink RX1 3 objectInit, Cond.classLink RX1 11 RX2, Cond.fieldLink RX1 13 "ApplauseTallies$History" "states" "[LApplauseTallies$House;", Cond.methodLink RX1 17 yX2_init, Cond.instanceMethod yX4_init, Cond.code yX4_init cX4_init 1 none, Cond.methodLink RX4 3 objectInit, Cond.fieldLink RX4 9 "ApplauseTallies$Pad" "codes" "[I", Cond.methodLink RX7 36 yX3_init, Cond.instanceMethod yX3_init, Cond.code yX3_init cX3_init 2 none, Cond.methodLink RX3 3 objectInit, Cond.fieldLink RX3 9 "ApplauseTallies$OrderReader" "pad" "LApplauseTallies$Pad;"]
def wsX7_init : List Cond := .code yX7_init cX7_init 1 none :: ((wsX7_init_r1 ++ (wsX7_init_r2 ++ (wsX7_init_r3 ++ wsX7_init_r4))) ++ wsX20 ++ wsX70 ++ wsX10 ++ wsX40 ++ wsX30 ++ wsX50 ++ wsX60 ++ wsX00)
def wsX7_set_r1 : List Cond := [Cond.fieldLink RX7 19 "ApplauseTallies" "history" "LApplauseTallies$History;", Cond.fieldLink RX7 10 "ApplauseTallies" "house" "LApplauseTallies$House;", Cond.methodLink RX7 43 yX1_setAside, Cond.instanceMethod yX1_setAside, Cond.selects RX1 yX1_setAside yX1_setAside, Cond.initialized RX1, Cond.code yX1_setAside cX1_setAside 3 none, Cond.fieldLink RX1 22 "ApplauseTallies$History" "next" "I", Cond.methodLink RX1 25 yX1_stateAt, Cond.instanceMethod yX1_stateAt, Cond.selects RX1 yX1_stateAt yX1_stateAt, Cond.code yX1_stateAt cX1_stateAt 2 (some (.object "ApplauseTallies$House")), Cond.fieldLink RX1 13 "ApplauseTallies$History" "states" "[LApplauseTallies$House;", Cond.methodLink RX1 29 yX2_copyFrom, Cond.instanceMethod yX2_copyFrom, Cond.selects RX2 yX2_copyFrom yX2_copyFrom, Cond.initialized RX2, Cond.code yX2_copyFrom cX2_copyFrom 2 none, Cond.fieldLink RX2 14 "ApplauseTallies$House" "settings" "LApplauseTallies$Row;", Cond.fieldLink RX2 23 "ApplauseTallies$House" "seats" "LApplauseTallies$Seats;", Cond.fieldLink RX2 30 "ApplauseTallies$House" "encores" "LApplauseTallies$Encores;", Cond.fieldLink RX2 34 "ApplauseTallies$House" "tonight" "LApplauseTallies$Row;", Cond.fieldLink RX2 37 "ApplauseTallies$House" "records" "LApplauseTallies$Row;", Cond.fieldLink RX2 62 "ApplauseTallies$House" "applause" "I"]
def wsX7_set_r2 : List Cond := [Cond.fieldLink RX2 65 "ApplauseTallies$House" "time" "I", Cond.fieldLink RX2 68 "ApplauseTallies$House" "nights" "I", Cond.fieldLink RX2 40 "ApplauseTallies$House" "pieceBy" "I", Cond.fieldLink RX2 71 "ApplauseTallies$House" "pieceEnd" "I", Cond.fieldLink RX2 74 "ApplauseTallies$House" "encoreCame" "Z", Cond.methodLink RX2 52 yX5_copyFrom, Cond.instanceMethod yX5_copyFrom, Cond.selects RX5 yX5_copyFrom yX5_copyFrom, Cond.initialized RX5, Cond.code yX5_copyFrom cX5_copyFrom 2 none, Cond.fieldLink RX5 13 "ApplauseTallies$Row" "cells" "[I", Cond.methodLink RX5 19 Lib.Math.min.name, Cond.static Lib.Math.min.name, Cond.initialized "java/lang/Math", Cond.code Lib.Math.min.name Lib.Math.min.code 2 (some .int), Cond.methodLink RX5 22 arraycopyName, Cond.native arraycopyName, Cond.static arraycopyName, Cond.initialized "java/lang/System", Cond.methodLink RX2 56 yX6_copyFrom, Cond.instanceMethod yX6_copyFrom, Cond.selects RX6 yX6_copyFrom yX6_copyFrom, Cond.initialized RX6, Cond.code yX6_copyFrom cX6_copyFrom 2 none]
def wsX7_set_r3 : List Cond := [Cond.fieldLink RX6 14 "ApplauseTallies$Seats" "loudness" "LApplauseTallies$Row;", Cond.fieldLink RX6 20 "ApplauseTallies$Seats" "early" "LApplauseTallies$Row;", Cond.fieldLink RX6 23 "ApplauseTallies$Seats" "clapsTonight" "LApplauseTallies$Row;", Cond.fieldLink RX6 26 "ApplauseTallies$Seats" "clapsSoFar" "LApplauseTallies$Row;", Cond.fieldLink RX6 29 "ApplauseTallies$Seats" "clappers" "LApplauseTallies$Row;", Cond.fieldLink RX6 39 "ApplauseTallies$Seats" "clapperCount" "I", Cond.fieldLink RX6 43 "ApplauseTallies$Seats" "paid" "I", Cond.fieldLink RX6 46 "ApplauseTallies$Seats" "clappedForPiece" "I", Cond.methodLink RX6 35 yX5_copyFrom, Cond.methodLink RX2 59 yX0_copyFrom, Cond.instanceMethod yX0_copyFrom, Cond.selects RX0 yX0_copyFrom yX0_copyFrom, Cond.initialized RX0, Cond.code yX0_copyFrom cX0_copyFrom 2 none, Cond.fieldLink RX0 14 "ApplauseTallies$Encores" "owers" "LApplauseTallies$Row;", Cond.fieldLink RX0 20 "ApplauseTallies$Encores" "since" "LApplauseTallies$Row;", Cond.fieldLink RX0 23 "ApplauseTallies$Encores" "played" "LApplauseTallies$Row;", Cond.fieldLink RX0 26 "ApplauseTallies$Encores" "lapsed" "LApplauseTallies$Row;", Cond.fieldLink RX0 29 "ApplauseTallies$Encores" "pieces" "LApplauseTallies$Row;", Cond.fieldLink RX0 36 "ApplauseTallies$Encores" "owedCount" "I", Cond.methodLink RX0 32 yX5_copyFrom, Cond.methodLink RX7 47 yX2_changeSetting, Cond.instanceMethod yX2_changeSetting, Cond.selects RX2 yX2_changeSetting yX2_changeSetting]
def wsX7_set_r4 : List Cond := [Cond.code yX2_changeSetting cX2_changeSetting 4 (some .int), Cond.methodLink RX2 84 yX5_at, Cond.instanceMethod yX5_at, Cond.selects RX5 yX5_at yX5_at, Cond.code yX5_at cX5_at 2 (some .int), Cond.methodLink RX2 48 yX5_store, Cond.instanceMethod yX5_store, Cond.selects RX5 yX5_store yX5_store, Cond.code yX5_store cX5_store 3 none, Cond.methodLink RX7 51 yX1_keepUnlessError, Cond.instanceMethod yX1_keepUnlessError, Cond.selects RX1 yX1_keepUnlessError yX1_keepUnlessError, Cond.code yX1_keepUnlessError cX1_keepUnlessError 2 (some .int), Cond.fieldLink RX1 18 "ApplauseTallies$History" "kept" "I", Cond.methodLink RX1 33 Lib.Math.min.name]
def wsX7_set : List Cond := .code yX7_set cX7_set 3 (some .int) :: ((wsX7_set_r1 ++ (wsX7_set_r2 ++ (wsX7_set_r3 ++ wsX7_set_r4))) ++ wsX70 ++ wsX10 ++ wsX20 ++ wsX50 ++ wsX60 ++ wsX00)
def wsX7_loud_r1 : List Cond := [Cond.fieldLink RX7 19 "ApplauseTallies" "history" "LApplauseTallies$History;", Cond.fieldLink RX7 10 "ApplauseTallies" "house" "LApplauseTallies$House;", Cond.methodLink RX7 43 yX1_setAside, Cond.instanceMethod yX1_setAside, Cond.selects RX1 yX1_setAside yX1_setAside, Cond.initialized RX1, Cond.code yX1_setAside cX1_setAside 3 none, Cond.fieldLink RX1 22 "ApplauseTallies$History" "next" "I", Cond.methodLink RX1 25 yX1_stateAt, Cond.instanceMethod yX1_stateAt, Cond.selects RX1 yX1_stateAt yX1_stateAt, Cond.code yX1_stateAt cX1_stateAt 2 (some (.object "ApplauseTallies$House")), Cond.fieldLink RX1 13 "ApplauseTallies$History" "states" "[LApplauseTallies$House;", Cond.methodLink RX1 29 yX2_copyFrom, Cond.instanceMethod yX2_copyFrom, Cond.selects RX2 yX2_copyFrom yX2_copyFrom, Cond.initialized RX2, Cond.code yX2_copyFrom cX2_copyFrom 2 none, Cond.fieldLink RX2 14 "ApplauseTallies$House" "settings" "LApplauseTallies$Row;", Cond.fieldLink RX2 23 "ApplauseTallies$House" "seats" "LApplauseTallies$Seats;", Cond.fieldLink RX2 30 "ApplauseTallies$House" "encores" "LApplauseTallies$Encores;", Cond.fieldLink RX2 34 "ApplauseTallies$House" "tonight" "LApplauseTallies$Row;", Cond.fieldLink RX2 37 "ApplauseTallies$House" "records" "LApplauseTallies$Row;", Cond.fieldLink RX2 62 "ApplauseTallies$House" "applause" "I"]
def wsX7_loud_r2 : List Cond := [Cond.fieldLink RX2 65 "ApplauseTallies$House" "time" "I", Cond.fieldLink RX2 68 "ApplauseTallies$House" "nights" "I", Cond.fieldLink RX2 40 "ApplauseTallies$House" "pieceBy" "I", Cond.fieldLink RX2 71 "ApplauseTallies$House" "pieceEnd" "I", Cond.fieldLink RX2 74 "ApplauseTallies$House" "encoreCame" "Z", Cond.methodLink RX2 52 yX5_copyFrom, Cond.instanceMethod yX5_copyFrom, Cond.selects RX5 yX5_copyFrom yX5_copyFrom, Cond.initialized RX5, Cond.code yX5_copyFrom cX5_copyFrom 2 none, Cond.fieldLink RX5 13 "ApplauseTallies$Row" "cells" "[I", Cond.methodLink RX5 19 Lib.Math.min.name, Cond.static Lib.Math.min.name, Cond.initialized "java/lang/Math", Cond.code Lib.Math.min.name Lib.Math.min.code 2 (some .int), Cond.methodLink RX5 22 arraycopyName, Cond.native arraycopyName, Cond.static arraycopyName, Cond.initialized "java/lang/System", Cond.methodLink RX2 56 yX6_copyFrom, Cond.instanceMethod yX6_copyFrom, Cond.selects RX6 yX6_copyFrom yX6_copyFrom, Cond.initialized RX6, Cond.code yX6_copyFrom cX6_copyFrom 2 none]
def wsX7_loud_r3 : List Cond := [Cond.fieldLink RX6 14 "ApplauseTallies$Seats" "loudness" "LApplauseTallies$Row;", Cond.fieldLink RX6 20 "ApplauseTallies$Seats" "early" "LApplauseTallies$Row;", Cond.fieldLink RX6 23 "ApplauseTallies$Seats" "clapsTonight" "LApplauseTallies$Row;", Cond.fieldLink RX6 26 "ApplauseTallies$Seats" "clapsSoFar" "LApplauseTallies$Row;", Cond.fieldLink RX6 29 "ApplauseTallies$Seats" "clappers" "LApplauseTallies$Row;", Cond.fieldLink RX6 39 "ApplauseTallies$Seats" "clapperCount" "I", Cond.fieldLink RX6 43 "ApplauseTallies$Seats" "paid" "I", Cond.fieldLink RX6 46 "ApplauseTallies$Seats" "clappedForPiece" "I", Cond.methodLink RX6 35 yX5_copyFrom, Cond.methodLink RX2 59 yX0_copyFrom, Cond.instanceMethod yX0_copyFrom, Cond.selects RX0 yX0_copyFrom yX0_copyFrom, Cond.initialized RX0, Cond.code yX0_copyFrom cX0_copyFrom 2 none, Cond.fieldLink RX0 14 "ApplauseTallies$Encores" "owers" "LApplauseTallies$Row;", Cond.fieldLink RX0 20 "ApplauseTallies$Encores" "since" "LApplauseTallies$Row;", Cond.fieldLink RX0 23 "ApplauseTallies$Encores" "played" "LApplauseTallies$Row;", Cond.fieldLink RX0 26 "ApplauseTallies$Encores" "lapsed" "LApplauseTallies$Row;", Cond.fieldLink RX0 29 "ApplauseTallies$Encores" "pieces" "LApplauseTallies$Row;", Cond.fieldLink RX0 36 "ApplauseTallies$Encores" "owedCount" "I", Cond.methodLink RX0 32 yX5_copyFrom, Cond.methodLink RX7 55 yX2_changeLoudness, Cond.instanceMethod yX2_changeLoudness, Cond.selects RX2 yX2_changeLoudness yX2_changeLoudness]
def wsX7_loud_r4 : List Cond := [Cond.code yX2_changeLoudness cX2_changeLoudness 4 (some .int), Cond.static yX7_isSeat, Cond.initialized RX7, Cond.code yX7_isSeat cX7_isSeat 1 (some .boolean), Cond.methodLink RX2 84 yX5_at, Cond.instanceMethod yX5_at, Cond.selects RX5 yX5_at yX5_at, Cond.code yX5_at cX5_at 2 (some .int), Cond.methodLink RX2 48 yX5_store, Cond.instanceMethod yX5_store, Cond.selects RX5 yX5_store yX5_store, Cond.code yX5_store cX5_store 3 none, Cond.methodLink RX7 51 yX1_keepUnlessError, Cond.instanceMethod yX1_keepUnlessError, Cond.selects RX1 yX1_keepUnlessError yX1_keepUnlessError, Cond.code yX1_keepUnlessError cX1_keepUnlessError 2 (some .int), Cond.fieldLink RX1 18 "ApplauseTallies$History" "kept" "I", Cond.methodLink RX1 33 Lib.Math.min.name]
def wsX7_loud : List Cond := .code yX7_loud cX7_loud 3 (some .int) :: ((wsX7_loud_r1 ++ (wsX7_loud_r2 ++ (wsX7_loud_r3 ++ wsX7_loud_r4))) ++ wsX70 ++ wsX10 ++ wsX20 ++ wsX50 ++ wsX60 ++ wsX00)
def wsX7_pay_r1 : List Cond := [Cond.fieldLink RX7 19 "ApplauseTallies" "history" "LApplauseTallies$History;", Cond.fieldLink RX7 10 "ApplauseTallies" "house" "LApplauseTallies$House;", Cond.methodLink RX7 43 yX1_setAside, Cond.instanceMethod yX1_setAside, Cond.selects RX1 yX1_setAside yX1_setAside, Cond.initialized RX1, Cond.code yX1_setAside cX1_setAside 3 none, Cond.fieldLink RX1 22 "ApplauseTallies$History" "next" "I", Cond.methodLink RX1 25 yX1_stateAt, Cond.instanceMethod yX1_stateAt, Cond.selects RX1 yX1_stateAt yX1_stateAt, Cond.code yX1_stateAt cX1_stateAt 2 (some (.object "ApplauseTallies$House")), Cond.fieldLink RX1 13 "ApplauseTallies$History" "states" "[LApplauseTallies$House;", Cond.methodLink RX1 29 yX2_copyFrom, Cond.instanceMethod yX2_copyFrom, Cond.selects RX2 yX2_copyFrom yX2_copyFrom, Cond.initialized RX2, Cond.code yX2_copyFrom cX2_copyFrom 2 none, Cond.fieldLink RX2 14 "ApplauseTallies$House" "settings" "LApplauseTallies$Row;", Cond.fieldLink RX2 23 "ApplauseTallies$House" "seats" "LApplauseTallies$Seats;", Cond.fieldLink RX2 30 "ApplauseTallies$House" "encores" "LApplauseTallies$Encores;", Cond.fieldLink RX2 34 "ApplauseTallies$House" "tonight" "LApplauseTallies$Row;", Cond.fieldLink RX2 37 "ApplauseTallies$House" "records" "LApplauseTallies$Row;", Cond.fieldLink RX2 62 "ApplauseTallies$House" "applause" "I"]
def wsX7_pay_r2 : List Cond := [Cond.fieldLink RX2 65 "ApplauseTallies$House" "time" "I", Cond.fieldLink RX2 68 "ApplauseTallies$House" "nights" "I", Cond.fieldLink RX2 40 "ApplauseTallies$House" "pieceBy" "I", Cond.fieldLink RX2 71 "ApplauseTallies$House" "pieceEnd" "I", Cond.fieldLink RX2 74 "ApplauseTallies$House" "encoreCame" "Z", Cond.methodLink RX2 52 yX5_copyFrom, Cond.instanceMethod yX5_copyFrom, Cond.selects RX5 yX5_copyFrom yX5_copyFrom, Cond.initialized RX5, Cond.code yX5_copyFrom cX5_copyFrom 2 none, Cond.fieldLink RX5 13 "ApplauseTallies$Row" "cells" "[I", Cond.methodLink RX5 19 Lib.Math.min.name, Cond.static Lib.Math.min.name, Cond.initialized "java/lang/Math", Cond.code Lib.Math.min.name Lib.Math.min.code 2 (some .int), Cond.methodLink RX5 22 arraycopyName, Cond.native arraycopyName, Cond.static arraycopyName, Cond.initialized "java/lang/System", Cond.methodLink RX2 56 yX6_copyFrom, Cond.instanceMethod yX6_copyFrom, Cond.selects RX6 yX6_copyFrom yX6_copyFrom, Cond.initialized RX6, Cond.code yX6_copyFrom cX6_copyFrom 2 none]
def wsX7_pay_r3 : List Cond := [Cond.fieldLink RX6 14 "ApplauseTallies$Seats" "loudness" "LApplauseTallies$Row;", Cond.fieldLink RX6 20 "ApplauseTallies$Seats" "early" "LApplauseTallies$Row;", Cond.fieldLink RX6 23 "ApplauseTallies$Seats" "clapsTonight" "LApplauseTallies$Row;", Cond.fieldLink RX6 26 "ApplauseTallies$Seats" "clapsSoFar" "LApplauseTallies$Row;", Cond.fieldLink RX6 29 "ApplauseTallies$Seats" "clappers" "LApplauseTallies$Row;", Cond.fieldLink RX6 39 "ApplauseTallies$Seats" "clapperCount" "I", Cond.fieldLink RX6 43 "ApplauseTallies$Seats" "paid" "I", Cond.fieldLink RX6 46 "ApplauseTallies$Seats" "clappedForPiece" "I", Cond.methodLink RX6 35 yX5_copyFrom, Cond.methodLink RX2 59 yX0_copyFrom, Cond.instanceMethod yX0_copyFrom, Cond.selects RX0 yX0_copyFrom yX0_copyFrom, Cond.initialized RX0, Cond.code yX0_copyFrom cX0_copyFrom 2 none, Cond.fieldLink RX0 14 "ApplauseTallies$Encores" "owers" "LApplauseTallies$Row;", Cond.fieldLink RX0 20 "ApplauseTallies$Encores" "since" "LApplauseTallies$Row;", Cond.fieldLink RX0 23 "ApplauseTallies$Encores" "played" "LApplauseTallies$Row;", Cond.fieldLink RX0 26 "ApplauseTallies$Encores" "lapsed" "LApplauseTallies$Row;", Cond.fieldLink RX0 29 "ApplauseTallies$Encores" "pieces" "LApplauseTallies$Row;", Cond.fieldLink RX0 36 "ApplauseTallies$Encores" "owedCount" "I", Cond.methodLink RX0 32 yX5_copyFrom, Cond.methodLink RX7 58 yX2_switchPay, Cond.instanceMethod yX2_switchPay, Cond.selects RX2 yX2_switchPay yX2_switchPay]
def wsX7_pay_r4 : List Cond := [Cond.code yX2_switchPay cX2_switchPay 2 (some .int), Cond.static yX7_isSeat, Cond.initialized RX7, Cond.code yX7_isSeat cX7_isSeat 1 (some .boolean), Cond.methodLink RX7 51 yX1_keepUnlessError, Cond.instanceMethod yX1_keepUnlessError, Cond.selects RX1 yX1_keepUnlessError yX1_keepUnlessError, Cond.code yX1_keepUnlessError cX1_keepUnlessError 2 (some .int), Cond.fieldLink RX1 18 "ApplauseTallies$History" "kept" "I", Cond.methodLink RX1 33 Lib.Math.min.name]
def wsX7_pay : List Cond := .code yX7_pay cX7_pay 2 (some .int) :: ((wsX7_pay_r1 ++ (wsX7_pay_r2 ++ (wsX7_pay_r3 ++ wsX7_pay_r4))) ++ wsX70 ++ wsX10 ++ wsX20 ++ wsX50 ++ wsX60 ++ wsX00)
def wsX7_ends_r1 : List Cond := [Cond.fieldLink RX7 19 "ApplauseTallies" "history" "LApplauseTallies$History;", Cond.fieldLink RX7 10 "ApplauseTallies" "house" "LApplauseTallies$House;", Cond.methodLink RX7 43 yX1_setAside, Cond.instanceMethod yX1_setAside, Cond.selects RX1 yX1_setAside yX1_setAside, Cond.initialized RX1, Cond.code yX1_setAside cX1_setAside 3 none, Cond.fieldLink RX1 22 "ApplauseTallies$History" "next" "I", Cond.methodLink RX1 25 yX1_stateAt, Cond.instanceMethod yX1_stateAt, Cond.selects RX1 yX1_stateAt yX1_stateAt, Cond.code yX1_stateAt cX1_stateAt 2 (some (.object "ApplauseTallies$House")), Cond.fieldLink RX1 13 "ApplauseTallies$History" "states" "[LApplauseTallies$House;", Cond.methodLink RX1 29 yX2_copyFrom, Cond.instanceMethod yX2_copyFrom, Cond.selects RX2 yX2_copyFrom yX2_copyFrom, Cond.initialized RX2, Cond.code yX2_copyFrom cX2_copyFrom 2 none, Cond.fieldLink RX2 14 "ApplauseTallies$House" "settings" "LApplauseTallies$Row;", Cond.fieldLink RX2 23 "ApplauseTallies$House" "seats" "LApplauseTallies$Seats;", Cond.fieldLink RX2 30 "ApplauseTallies$House" "encores" "LApplauseTallies$Encores;", Cond.fieldLink RX2 34 "ApplauseTallies$House" "tonight" "LApplauseTallies$Row;", Cond.fieldLink RX2 37 "ApplauseTallies$House" "records" "LApplauseTallies$Row;", Cond.fieldLink RX2 62 "ApplauseTallies$House" "applause" "I"]
def wsX7_ends_r2 : List Cond := [Cond.fieldLink RX2 65 "ApplauseTallies$House" "time" "I", Cond.fieldLink RX2 68 "ApplauseTallies$House" "nights" "I", Cond.fieldLink RX2 40 "ApplauseTallies$House" "pieceBy" "I", Cond.fieldLink RX2 71 "ApplauseTallies$House" "pieceEnd" "I", Cond.fieldLink RX2 74 "ApplauseTallies$House" "encoreCame" "Z", Cond.methodLink RX2 52 yX5_copyFrom, Cond.instanceMethod yX5_copyFrom, Cond.selects RX5 yX5_copyFrom yX5_copyFrom, Cond.initialized RX5, Cond.code yX5_copyFrom cX5_copyFrom 2 none, Cond.fieldLink RX5 13 "ApplauseTallies$Row" "cells" "[I", Cond.methodLink RX5 19 Lib.Math.min.name, Cond.static Lib.Math.min.name, Cond.initialized "java/lang/Math", Cond.code Lib.Math.min.name Lib.Math.min.code 2 (some .int), Cond.methodLink RX5 22 arraycopyName, Cond.native arraycopyName, Cond.static arraycopyName, Cond.initialized "java/lang/System", Cond.methodLink RX2 56 yX6_copyFrom, Cond.instanceMethod yX6_copyFrom, Cond.selects RX6 yX6_copyFrom yX6_copyFrom, Cond.initialized RX6, Cond.code yX6_copyFrom cX6_copyFrom 2 none]
def wsX7_ends_r3 : List Cond := [Cond.fieldLink RX6 14 "ApplauseTallies$Seats" "loudness" "LApplauseTallies$Row;", Cond.fieldLink RX6 20 "ApplauseTallies$Seats" "early" "LApplauseTallies$Row;", Cond.fieldLink RX6 23 "ApplauseTallies$Seats" "clapsTonight" "LApplauseTallies$Row;", Cond.fieldLink RX6 26 "ApplauseTallies$Seats" "clapsSoFar" "LApplauseTallies$Row;", Cond.fieldLink RX6 29 "ApplauseTallies$Seats" "clappers" "LApplauseTallies$Row;", Cond.fieldLink RX6 39 "ApplauseTallies$Seats" "clapperCount" "I", Cond.fieldLink RX6 43 "ApplauseTallies$Seats" "paid" "I", Cond.fieldLink RX6 46 "ApplauseTallies$Seats" "clappedForPiece" "I", Cond.methodLink RX6 35 yX5_copyFrom, Cond.methodLink RX2 59 yX0_copyFrom, Cond.instanceMethod yX0_copyFrom, Cond.selects RX0 yX0_copyFrom yX0_copyFrom, Cond.initialized RX0, Cond.code yX0_copyFrom cX0_copyFrom 2 none, Cond.fieldLink RX0 14 "ApplauseTallies$Encores" "owers" "LApplauseTallies$Row;", Cond.fieldLink RX0 20 "ApplauseTallies$Encores" "since" "LApplauseTallies$Row;", Cond.fieldLink RX0 23 "ApplauseTallies$Encores" "played" "LApplauseTallies$Row;", Cond.fieldLink RX0 26 "ApplauseTallies$Encores" "lapsed" "LApplauseTallies$Row;", Cond.fieldLink RX0 29 "ApplauseTallies$Encores" "pieces" "LApplauseTallies$Row;", Cond.fieldLink RX0 36 "ApplauseTallies$Encores" "owedCount" "I", Cond.methodLink RX0 32 yX5_copyFrom, Cond.methodLink RX7 61 yX2_endPiece, Cond.instanceMethod yX2_endPiece, Cond.selects RX2 yX2_endPiece yX2_endPiece]
def wsX7_ends_r4 : List Cond := [Cond.code yX2_endPiece cX2_endPiece 3 (some .int), Cond.static yX7_isPerformer, Cond.initialized RX7, Cond.code yX7_isPerformer cX7_isPerformer 1 (some .boolean), Cond.methodLink RX2 101 yX2_beginApplause, Cond.instanceMethod yX2_beginApplause, Cond.selects RX2 yX2_beginApplause yX2_beginApplause, Cond.code yX2_beginApplause cX2_beginApplause 2 none, Cond.methodLink RX2 107 yX5_add, Cond.instanceMethod yX5_add, Cond.selects RX5 yX5_add yX5_add, Cond.code yX5_add cX5_add 3 none, Cond.methodLink RX2 110 yX6_beginPiece, Cond.instanceMethod yX6_beginPiece, Cond.selects RX6 yX6_beginPiece yX6_beginPiece, Cond.code yX6_beginPiece cX6_beginPiece 1 none, Cond.methodLink RX7 51 yX1_keepUnlessError, Cond.instanceMethod yX1_keepUnlessError, Cond.selects RX1 yX1_keepUnlessError yX1_keepUnlessError, Cond.code yX1_keepUnlessError cX1_keepUnlessError 2 (some .int), Cond.fieldLink RX1 18 "ApplauseTallies$History" "kept" "I", Cond.methodLink RX1 33 Lib.Math.min.name]
def wsX7_ends : List Cond := .code yX7_ends cX7_ends 2 (some .int) :: ((wsX7_ends_r1 ++ (wsX7_ends_r2 ++ (wsX7_ends_r3 ++ wsX7_ends_r4))) ++ wsX70 ++ wsX10 ++ wsX20 ++ wsX50 ++ wsX60 ++ wsX00)
def wsX7_clap_r1 : List Cond := [Cond.fieldLink RX7 19 "ApplauseTallies" "history" "LApplauseTallies$History;", Cond.fieldLink RX7 10 "ApplauseTallies" "house" "LApplauseTallies$House;", Cond.methodLink RX7 43 yX1_setAside, Cond.instanceMethod yX1_setAside, Cond.selects RX1 yX1_setAside yX1_setAside, Cond.initialized RX1, Cond.code yX1_setAside cX1_setAside 3 none, Cond.fieldLink RX1 22 "ApplauseTallies$History" "next" "I", Cond.methodLink RX1 25 yX1_stateAt, Cond.instanceMethod yX1_stateAt, Cond.selects RX1 yX1_stateAt yX1_stateAt, Cond.code yX1_stateAt cX1_stateAt 2 (some (.object "ApplauseTallies$House")), Cond.fieldLink RX1 13 "ApplauseTallies$History" "states" "[LApplauseTallies$House;", Cond.methodLink RX1 29 yX2_copyFrom, Cond.instanceMethod yX2_copyFrom, Cond.selects RX2 yX2_copyFrom yX2_copyFrom, Cond.initialized RX2, Cond.code yX2_copyFrom cX2_copyFrom 2 none, Cond.fieldLink RX2 14 "ApplauseTallies$House" "settings" "LApplauseTallies$Row;", Cond.fieldLink RX2 23 "ApplauseTallies$House" "seats" "LApplauseTallies$Seats;", Cond.fieldLink RX2 30 "ApplauseTallies$House" "encores" "LApplauseTallies$Encores;", Cond.fieldLink RX2 34 "ApplauseTallies$House" "tonight" "LApplauseTallies$Row;", Cond.fieldLink RX2 37 "ApplauseTallies$House" "records" "LApplauseTallies$Row;", Cond.fieldLink RX2 62 "ApplauseTallies$House" "applause" "I"]
def wsX7_clap_r2 : List Cond := [Cond.fieldLink RX2 65 "ApplauseTallies$House" "time" "I", Cond.fieldLink RX2 68 "ApplauseTallies$House" "nights" "I", Cond.fieldLink RX2 40 "ApplauseTallies$House" "pieceBy" "I", Cond.fieldLink RX2 71 "ApplauseTallies$House" "pieceEnd" "I", Cond.fieldLink RX2 74 "ApplauseTallies$House" "encoreCame" "Z", Cond.methodLink RX2 52 yX5_copyFrom, Cond.instanceMethod yX5_copyFrom, Cond.selects RX5 yX5_copyFrom yX5_copyFrom, Cond.initialized RX5, Cond.code yX5_copyFrom cX5_copyFrom 2 none, Cond.fieldLink RX5 13 "ApplauseTallies$Row" "cells" "[I", Cond.methodLink RX5 19 Lib.Math.min.name, Cond.static Lib.Math.min.name, Cond.initialized "java/lang/Math", Cond.code Lib.Math.min.name Lib.Math.min.code 2 (some .int), Cond.methodLink RX5 22 arraycopyName, Cond.native arraycopyName, Cond.static arraycopyName, Cond.initialized "java/lang/System", Cond.methodLink RX2 56 yX6_copyFrom, Cond.instanceMethod yX6_copyFrom, Cond.selects RX6 yX6_copyFrom yX6_copyFrom, Cond.initialized RX6, Cond.code yX6_copyFrom cX6_copyFrom 2 none]
def wsX7_clap_r3 : List Cond := [Cond.fieldLink RX6 14 "ApplauseTallies$Seats" "loudness" "LApplauseTallies$Row;", Cond.fieldLink RX6 20 "ApplauseTallies$Seats" "early" "LApplauseTallies$Row;", Cond.fieldLink RX6 23 "ApplauseTallies$Seats" "clapsTonight" "LApplauseTallies$Row;", Cond.fieldLink RX6 26 "ApplauseTallies$Seats" "clapsSoFar" "LApplauseTallies$Row;", Cond.fieldLink RX6 29 "ApplauseTallies$Seats" "clappers" "LApplauseTallies$Row;", Cond.fieldLink RX6 39 "ApplauseTallies$Seats" "clapperCount" "I", Cond.fieldLink RX6 43 "ApplauseTallies$Seats" "paid" "I", Cond.fieldLink RX6 46 "ApplauseTallies$Seats" "clappedForPiece" "I", Cond.methodLink RX6 35 yX5_copyFrom, Cond.methodLink RX2 59 yX0_copyFrom, Cond.instanceMethod yX0_copyFrom, Cond.selects RX0 yX0_copyFrom yX0_copyFrom, Cond.initialized RX0, Cond.code yX0_copyFrom cX0_copyFrom 2 none, Cond.fieldLink RX0 14 "ApplauseTallies$Encores" "owers" "LApplauseTallies$Row;", Cond.fieldLink RX0 20 "ApplauseTallies$Encores" "since" "LApplauseTallies$Row;", Cond.fieldLink RX0 23 "ApplauseTallies$Encores" "played" "LApplauseTallies$Row;", Cond.fieldLink RX0 26 "ApplauseTallies$Encores" "lapsed" "LApplauseTallies$Row;", Cond.fieldLink RX0 29 "ApplauseTallies$Encores" "pieces" "LApplauseTallies$Row;", Cond.fieldLink RX0 36 "ApplauseTallies$Encores" "owedCount" "I", Cond.methodLink RX0 32 yX5_copyFrom, Cond.methodLink RX7 64 yX2_takeClap, Cond.instanceMethod yX2_takeClap, Cond.selects RX2 yX2_takeClap yX2_takeClap]
def wsX7_clap_r4 : List Cond := [Cond.code yX2_takeClap cX2_takeClap 2 (some .int), Cond.methodLink RX2 117 Lib.Math.min.name, Cond.static yX7_isSeat, Cond.initialized RX7, Cond.code yX7_isSeat cX7_isSeat 1 (some .boolean), Cond.methodLink RX2 84 yX5_at, Cond.instanceMethod yX5_at, Cond.selects RX5 yX5_at yX5_at, Cond.code yX5_at cX5_at 2 (some .int), Cond.methodLink RX2 113 yX6_addClap, Cond.instanceMethod yX6_addClap, Cond.selects RX6 yX6_addClap yX6_addClap, Cond.code yX6_addClap cX6_addClap 3 none, Cond.methodLink RX6 49 yX6_hasClapped, Cond.instanceMethod yX6_hasClapped, Cond.selects RX6 yX6_hasClapped yX6_hasClapped, Cond.code yX6_hasClapped cX6_hasClapped 2 (some .boolean), Cond.methodLink RX6 53 yX5_add, Cond.instanceMethod yX5_add, Cond.selects RX5 yX5_add yX5_add, Cond.code yX5_add cX5_add 3 none, Cond.methodLink RX6 57 yX5_at, Cond.methodLink RX6 61 yX5_store, Cond.instanceMethod yX5_store]
def wsX7_clap_r5 : List Cond := [Cond.selects RX5 yX5_store yX5_store, Cond.code yX5_store cX5_store 3 none, Cond.methodLink RX2 107 yX5_add, Cond.methodLink RX2 123 yX2_bringEncore, Cond.instanceMethod yX2_bringEncore, Cond.selects RX2 yX2_bringEncore yX2_bringEncore, Cond.code yX2_bringEncore cX2_bringEncore 1 none, Cond.methodLink RX2 126 yX0_owe, Cond.instanceMethod yX0_owe, Cond.selects RX0 yX0_owe yX0_owe, Cond.code yX0_owe cX0_owe 3 (some .boolean), Cond.methodLink RX0 40 yX5_add, Cond.methodLink RX0 44 yX5_store, Cond.methodLink RX7 51 yX1_keepUnlessError, Cond.instanceMethod yX1_keepUnlessError, Cond.selects RX1 yX1_keepUnlessError yX1_keepUnlessError, Cond.code yX1_keepUnlessError cX1_keepUnlessError 2 (some .int), Cond.fieldLink RX1 18 "ApplauseTallies$History" "kept" "I", Cond.methodLink RX1 33 Lib.Math.min.name]
def wsX7_clap : List Cond := .code yX7_clap cX7_clap 2 (some .int) :: ((wsX7_clap_r1 ++ (wsX7_clap_r2 ++ (wsX7_clap_r3 ++ (wsX7_clap_r4 ++ wsX7_clap_r5)))) ++ wsX70 ++ wsX10 ++ wsX20 ++ wsX50 ++ wsX60 ++ wsX00)
def wsX7_pass_r1 : List Cond := [Cond.fieldLink RX7 19 "ApplauseTallies" "history" "LApplauseTallies$History;", Cond.fieldLink RX7 10 "ApplauseTallies" "house" "LApplauseTallies$House;", Cond.methodLink RX7 43 yX1_setAside, Cond.instanceMethod yX1_setAside, Cond.selects RX1 yX1_setAside yX1_setAside, Cond.initialized RX1, Cond.code yX1_setAside cX1_setAside 3 none, Cond.fieldLink RX1 22 "ApplauseTallies$History" "next" "I", Cond.methodLink RX1 25 yX1_stateAt, Cond.instanceMethod yX1_stateAt, Cond.selects RX1 yX1_stateAt yX1_stateAt, Cond.code yX1_stateAt cX1_stateAt 2 (some (.object "ApplauseTallies$House")), Cond.fieldLink RX1 13 "ApplauseTallies$History" "states" "[LApplauseTallies$House;", Cond.methodLink RX1 29 yX2_copyFrom, Cond.instanceMethod yX2_copyFrom, Cond.selects RX2 yX2_copyFrom yX2_copyFrom, Cond.initialized RX2, Cond.code yX2_copyFrom cX2_copyFrom 2 none, Cond.fieldLink RX2 14 "ApplauseTallies$House" "settings" "LApplauseTallies$Row;", Cond.fieldLink RX2 23 "ApplauseTallies$House" "seats" "LApplauseTallies$Seats;", Cond.fieldLink RX2 30 "ApplauseTallies$House" "encores" "LApplauseTallies$Encores;", Cond.fieldLink RX2 34 "ApplauseTallies$House" "tonight" "LApplauseTallies$Row;", Cond.fieldLink RX2 37 "ApplauseTallies$House" "records" "LApplauseTallies$Row;", Cond.fieldLink RX2 62 "ApplauseTallies$House" "applause" "I"]
def wsX7_pass_r2 : List Cond := [Cond.fieldLink RX2 65 "ApplauseTallies$House" "time" "I", Cond.fieldLink RX2 68 "ApplauseTallies$House" "nights" "I", Cond.fieldLink RX2 40 "ApplauseTallies$House" "pieceBy" "I", Cond.fieldLink RX2 71 "ApplauseTallies$House" "pieceEnd" "I", Cond.fieldLink RX2 74 "ApplauseTallies$House" "encoreCame" "Z", Cond.methodLink RX2 52 yX5_copyFrom, Cond.instanceMethod yX5_copyFrom, Cond.selects RX5 yX5_copyFrom yX5_copyFrom, Cond.initialized RX5, Cond.code yX5_copyFrom cX5_copyFrom 2 none, Cond.fieldLink RX5 13 "ApplauseTallies$Row" "cells" "[I", Cond.methodLink RX5 19 Lib.Math.min.name, Cond.static Lib.Math.min.name, Cond.initialized "java/lang/Math", Cond.code Lib.Math.min.name Lib.Math.min.code 2 (some .int), Cond.methodLink RX5 22 arraycopyName, Cond.native arraycopyName, Cond.static arraycopyName, Cond.initialized "java/lang/System", Cond.methodLink RX2 56 yX6_copyFrom, Cond.instanceMethod yX6_copyFrom, Cond.selects RX6 yX6_copyFrom yX6_copyFrom, Cond.initialized RX6, Cond.code yX6_copyFrom cX6_copyFrom 2 none]
def wsX7_pass_r3 : List Cond := [Cond.fieldLink RX6 14 "ApplauseTallies$Seats" "loudness" "LApplauseTallies$Row;", Cond.fieldLink RX6 20 "ApplauseTallies$Seats" "early" "LApplauseTallies$Row;", Cond.fieldLink RX6 23 "ApplauseTallies$Seats" "clapsTonight" "LApplauseTallies$Row;", Cond.fieldLink RX6 26 "ApplauseTallies$Seats" "clapsSoFar" "LApplauseTallies$Row;", Cond.fieldLink RX6 29 "ApplauseTallies$Seats" "clappers" "LApplauseTallies$Row;", Cond.fieldLink RX6 39 "ApplauseTallies$Seats" "clapperCount" "I", Cond.fieldLink RX6 43 "ApplauseTallies$Seats" "paid" "I", Cond.fieldLink RX6 46 "ApplauseTallies$Seats" "clappedForPiece" "I", Cond.methodLink RX6 35 yX5_copyFrom, Cond.methodLink RX2 59 yX0_copyFrom, Cond.instanceMethod yX0_copyFrom, Cond.selects RX0 yX0_copyFrom yX0_copyFrom, Cond.initialized RX0, Cond.code yX0_copyFrom cX0_copyFrom 2 none, Cond.fieldLink RX0 14 "ApplauseTallies$Encores" "owers" "LApplauseTallies$Row;", Cond.fieldLink RX0 20 "ApplauseTallies$Encores" "since" "LApplauseTallies$Row;", Cond.fieldLink RX0 23 "ApplauseTallies$Encores" "played" "LApplauseTallies$Row;", Cond.fieldLink RX0 26 "ApplauseTallies$Encores" "lapsed" "LApplauseTallies$Row;", Cond.fieldLink RX0 29 "ApplauseTallies$Encores" "pieces" "LApplauseTallies$Row;", Cond.fieldLink RX0 36 "ApplauseTallies$Encores" "owedCount" "I", Cond.methodLink RX0 32 yX5_copyFrom, Cond.methodLink RX7 67 yX2_letPass, Cond.instanceMethod yX2_letPass, Cond.selects RX2 yX2_letPass yX2_letPass]
def wsX7_pass_r4 : List Cond := [Cond.code yX2_letPass cX2_letPass 3 (some .int), Cond.constant RX2 130 (99999), Cond.methodLink RX2 84 yX5_at, Cond.instanceMethod yX5_at, Cond.selects RX5 yX5_at yX5_at, Cond.code yX5_at cX5_at 2 (some .int), Cond.static yX7_afterSecond, Cond.initialized RX7, Cond.code yX7_afterSecond cX7_afterSecond 2 (some .int), Cond.methodLink RX7 176 Lib.Math.max.name, Cond.static Lib.Math.max.name, Cond.code Lib.Math.max.name Lib.Math.max.code 2 (some .int), Cond.methodLink RX2 134 yX0_lapseSince, Cond.instanceMethod yX0_lapseSince, Cond.selects RX0 yX0_lapseSince yX0_lapseSince, Cond.code yX0_lapseSince cX0_lapseSince 4 (some .int), Cond.methodLink RX0 47 yX5_at, Cond.methodLink RX0 40 yX5_add, Cond.instanceMethod yX5_add, Cond.selects RX5 yX5_add yX5_add, Cond.code yX5_add cX5_add 3 none, Cond.methodLink RX0 44 yX5_store, Cond.instanceMethod yX5_store, Cond.selects RX5 yX5_store yX5_store]
def wsX7_pass_r5 : List Cond := [Cond.code yX5_store cX5_store 3 none, Cond.methodLink RX2 107 yX5_add, Cond.methodLink RX7 51 yX1_keepUnlessError, Cond.instanceMethod yX1_keepUnlessError, Cond.selects RX1 yX1_keepUnlessError yX1_keepUnlessError, Cond.code yX1_keepUnlessError cX1_keepUnlessError 2 (some .int), Cond.fieldLink RX1 18 "ApplauseTallies$History" "kept" "I", Cond.methodLink RX1 33 Lib.Math.min.name]
def wsX7_pass : List Cond := .code yX7_pass cX7_pass 2 (some .int) :: ((wsX7_pass_r1 ++ (wsX7_pass_r2 ++ (wsX7_pass_r3 ++ (wsX7_pass_r4 ++ wsX7_pass_r5)))) ++ wsX70 ++ wsX10 ++ wsX20 ++ wsX50 ++ wsX60 ++ wsX00)
def wsX7_play_r1 : List Cond := [Cond.fieldLink RX7 19 "ApplauseTallies" "history" "LApplauseTallies$History;", Cond.fieldLink RX7 10 "ApplauseTallies" "house" "LApplauseTallies$House;", Cond.methodLink RX7 43 yX1_setAside, Cond.instanceMethod yX1_setAside, Cond.selects RX1 yX1_setAside yX1_setAside, Cond.initialized RX1, Cond.code yX1_setAside cX1_setAside 3 none, Cond.fieldLink RX1 22 "ApplauseTallies$History" "next" "I", Cond.methodLink RX1 25 yX1_stateAt, Cond.instanceMethod yX1_stateAt, Cond.selects RX1 yX1_stateAt yX1_stateAt, Cond.code yX1_stateAt cX1_stateAt 2 (some (.object "ApplauseTallies$House")), Cond.fieldLink RX1 13 "ApplauseTallies$History" "states" "[LApplauseTallies$House;", Cond.methodLink RX1 29 yX2_copyFrom, Cond.instanceMethod yX2_copyFrom, Cond.selects RX2 yX2_copyFrom yX2_copyFrom, Cond.initialized RX2, Cond.code yX2_copyFrom cX2_copyFrom 2 none, Cond.fieldLink RX2 14 "ApplauseTallies$House" "settings" "LApplauseTallies$Row;", Cond.fieldLink RX2 23 "ApplauseTallies$House" "seats" "LApplauseTallies$Seats;", Cond.fieldLink RX2 30 "ApplauseTallies$House" "encores" "LApplauseTallies$Encores;", Cond.fieldLink RX2 34 "ApplauseTallies$House" "tonight" "LApplauseTallies$Row;", Cond.fieldLink RX2 37 "ApplauseTallies$House" "records" "LApplauseTallies$Row;", Cond.fieldLink RX2 62 "ApplauseTallies$House" "applause" "I"]
def wsX7_play_r2 : List Cond := [Cond.fieldLink RX2 65 "ApplauseTallies$House" "time" "I", Cond.fieldLink RX2 68 "ApplauseTallies$House" "nights" "I", Cond.fieldLink RX2 40 "ApplauseTallies$House" "pieceBy" "I", Cond.fieldLink RX2 71 "ApplauseTallies$House" "pieceEnd" "I", Cond.fieldLink RX2 74 "ApplauseTallies$House" "encoreCame" "Z", Cond.methodLink RX2 52 yX5_copyFrom, Cond.instanceMethod yX5_copyFrom, Cond.selects RX5 yX5_copyFrom yX5_copyFrom, Cond.initialized RX5, Cond.code yX5_copyFrom cX5_copyFrom 2 none, Cond.fieldLink RX5 13 "ApplauseTallies$Row" "cells" "[I", Cond.methodLink RX5 19 Lib.Math.min.name, Cond.static Lib.Math.min.name, Cond.initialized "java/lang/Math", Cond.code Lib.Math.min.name Lib.Math.min.code 2 (some .int), Cond.methodLink RX5 22 arraycopyName, Cond.native arraycopyName, Cond.static arraycopyName, Cond.initialized "java/lang/System", Cond.methodLink RX2 56 yX6_copyFrom, Cond.instanceMethod yX6_copyFrom, Cond.selects RX6 yX6_copyFrom yX6_copyFrom, Cond.initialized RX6, Cond.code yX6_copyFrom cX6_copyFrom 2 none]
def wsX7_play_r3 : List Cond := [Cond.fieldLink RX6 14 "ApplauseTallies$Seats" "loudness" "LApplauseTallies$Row;", Cond.fieldLink RX6 20 "ApplauseTallies$Seats" "early" "LApplauseTallies$Row;", Cond.fieldLink RX6 23 "ApplauseTallies$Seats" "clapsTonight" "LApplauseTallies$Row;", Cond.fieldLink RX6 26 "ApplauseTallies$Seats" "clapsSoFar" "LApplauseTallies$Row;", Cond.fieldLink RX6 29 "ApplauseTallies$Seats" "clappers" "LApplauseTallies$Row;", Cond.fieldLink RX6 39 "ApplauseTallies$Seats" "clapperCount" "I", Cond.fieldLink RX6 43 "ApplauseTallies$Seats" "paid" "I", Cond.fieldLink RX6 46 "ApplauseTallies$Seats" "clappedForPiece" "I", Cond.methodLink RX6 35 yX5_copyFrom, Cond.methodLink RX2 59 yX0_copyFrom, Cond.instanceMethod yX0_copyFrom, Cond.selects RX0 yX0_copyFrom yX0_copyFrom, Cond.initialized RX0, Cond.code yX0_copyFrom cX0_copyFrom 2 none, Cond.fieldLink RX0 14 "ApplauseTallies$Encores" "owers" "LApplauseTallies$Row;", Cond.fieldLink RX0 20 "ApplauseTallies$Encores" "since" "LApplauseTallies$Row;", Cond.fieldLink RX0 23 "ApplauseTallies$Encores" "played" "LApplauseTallies$Row;", Cond.fieldLink RX0 26 "ApplauseTallies$Encores" "lapsed" "LApplauseTallies$Row;", Cond.fieldLink RX0 29 "ApplauseTallies$Encores" "pieces" "LApplauseTallies$Row;", Cond.fieldLink RX0 36 "ApplauseTallies$Encores" "owedCount" "I", Cond.methodLink RX0 32 yX5_copyFrom, Cond.methodLink RX7 70 yX2_playEncore, Cond.instanceMethod yX2_playEncore, Cond.selects RX2 yX2_playEncore yX2_playEncore]
def wsX7_play_r4 : List Cond := [Cond.code yX2_playEncore cX2_playEncore 2 (some .int), Cond.static yX7_isPerformer, Cond.initialized RX7, Cond.code yX7_isPerformer cX7_isPerformer 1 (some .boolean), Cond.methodLink RX2 137 yX0_playEarliestOf, Cond.instanceMethod yX0_playEarliestOf, Cond.selects RX0 yX0_playEarliestOf yX0_playEarliestOf, Cond.code yX0_playEarliestOf cX0_playEarliestOf 4 (some .boolean), Cond.methodLink RX0 51 yX0_earliestOf, Cond.instanceMethod yX0_earliestOf, Cond.selects RX0 yX0_earliestOf yX0_earliestOf, Cond.code yX0_earliestOf cX0_earliestOf 3 (some .int), Cond.methodLink RX0 47 yX5_at, Cond.instanceMethod yX5_at, Cond.selects RX5 yX5_at yX5_at, Cond.code yX5_at cX5_at 2 (some .int), Cond.methodLink RX0 44 yX5_store, Cond.instanceMethod yX5_store, Cond.selects RX5 yX5_store yX5_store, Cond.code yX5_store cX5_store 3 none, Cond.methodLink RX0 40 yX5_add, Cond.instanceMethod yX5_add, Cond.selects RX5 yX5_add yX5_add, Cond.code yX5_add cX5_add 3 none]
def wsX7_play_r5 : List Cond := [Cond.methodLink RX2 107 yX5_add, Cond.methodLink RX2 101 yX2_beginApplause, Cond.instanceMethod yX2_beginApplause, Cond.selects RX2 yX2_beginApplause yX2_beginApplause, Cond.code yX2_beginApplause cX2_beginApplause 2 none, Cond.methodLink RX2 110 yX6_beginPiece, Cond.instanceMethod yX6_beginPiece, Cond.selects RX6 yX6_beginPiece yX6_beginPiece, Cond.code yX6_beginPiece cX6_beginPiece 1 none, Cond.methodLink RX2 140 yX0_owedBy, Cond.instanceMethod yX0_owedBy, Cond.selects RX0 yX0_owedBy yX0_owedBy, Cond.code yX0_owedBy cX0_owedBy 4 (some .int), Cond.methodLink RX7 51 yX1_keepUnlessError, Cond.instanceMethod yX1_keepUnlessError, Cond.selects RX1 yX1_keepUnlessError yX1_keepUnlessError, Cond.code yX1_keepUnlessError cX1_keepUnlessError 2 (some .int), Cond.fieldLink RX1 18 "ApplauseTallies$History" "kept" "I", Cond.methodLink RX1 33 Lib.Math.min.name]
def wsX7_play : List Cond := .code yX7_play cX7_play 2 (some .int) :: ((wsX7_play_r1 ++ (wsX7_play_r2 ++ (wsX7_play_r3 ++ (wsX7_play_r4 ++ wsX7_play_r5)))) ++ wsX70 ++ wsX10 ++ wsX20 ++ wsX50 ++ wsX60 ++ wsX00)
def wsX7_call_r1 : List Cond := [Cond.fieldLink RX7 19 "ApplauseTallies" "history" "LApplauseTallies$History;", Cond.fieldLink RX7 10 "ApplauseTallies" "house" "LApplauseTallies$House;", Cond.methodLink RX7 43 yX1_setAside, Cond.instanceMethod yX1_setAside, Cond.selects RX1 yX1_setAside yX1_setAside, Cond.initialized RX1, Cond.code yX1_setAside cX1_setAside 3 none, Cond.fieldLink RX1 22 "ApplauseTallies$History" "next" "I", Cond.methodLink RX1 25 yX1_stateAt, Cond.instanceMethod yX1_stateAt, Cond.selects RX1 yX1_stateAt yX1_stateAt, Cond.code yX1_stateAt cX1_stateAt 2 (some (.object "ApplauseTallies$House")), Cond.fieldLink RX1 13 "ApplauseTallies$History" "states" "[LApplauseTallies$House;", Cond.methodLink RX1 29 yX2_copyFrom, Cond.instanceMethod yX2_copyFrom, Cond.selects RX2 yX2_copyFrom yX2_copyFrom, Cond.initialized RX2, Cond.code yX2_copyFrom cX2_copyFrom 2 none, Cond.fieldLink RX2 14 "ApplauseTallies$House" "settings" "LApplauseTallies$Row;", Cond.fieldLink RX2 23 "ApplauseTallies$House" "seats" "LApplauseTallies$Seats;", Cond.fieldLink RX2 30 "ApplauseTallies$House" "encores" "LApplauseTallies$Encores;", Cond.fieldLink RX2 34 "ApplauseTallies$House" "tonight" "LApplauseTallies$Row;", Cond.fieldLink RX2 37 "ApplauseTallies$House" "records" "LApplauseTallies$Row;", Cond.fieldLink RX2 62 "ApplauseTallies$House" "applause" "I"]
def wsX7_call_r2 : List Cond := [Cond.fieldLink RX2 65 "ApplauseTallies$House" "time" "I", Cond.fieldLink RX2 68 "ApplauseTallies$House" "nights" "I", Cond.fieldLink RX2 40 "ApplauseTallies$House" "pieceBy" "I", Cond.fieldLink RX2 71 "ApplauseTallies$House" "pieceEnd" "I", Cond.fieldLink RX2 74 "ApplauseTallies$House" "encoreCame" "Z", Cond.methodLink RX2 52 yX5_copyFrom, Cond.instanceMethod yX5_copyFrom, Cond.selects RX5 yX5_copyFrom yX5_copyFrom, Cond.initialized RX5, Cond.code yX5_copyFrom cX5_copyFrom 2 none, Cond.fieldLink RX5 13 "ApplauseTallies$Row" "cells" "[I", Cond.methodLink RX5 19 Lib.Math.min.name, Cond.static Lib.Math.min.name, Cond.initialized "java/lang/Math", Cond.code Lib.Math.min.name Lib.Math.min.code 2 (some .int), Cond.methodLink RX5 22 arraycopyName, Cond.native arraycopyName, Cond.static arraycopyName, Cond.initialized "java/lang/System", Cond.methodLink RX2 56 yX6_copyFrom, Cond.instanceMethod yX6_copyFrom, Cond.selects RX6 yX6_copyFrom yX6_copyFrom, Cond.initialized RX6, Cond.code yX6_copyFrom cX6_copyFrom 2 none]
def wsX7_call_r3 : List Cond := [Cond.fieldLink RX6 14 "ApplauseTallies$Seats" "loudness" "LApplauseTallies$Row;", Cond.fieldLink RX6 20 "ApplauseTallies$Seats" "early" "LApplauseTallies$Row;", Cond.fieldLink RX6 23 "ApplauseTallies$Seats" "clapsTonight" "LApplauseTallies$Row;", Cond.fieldLink RX6 26 "ApplauseTallies$Seats" "clapsSoFar" "LApplauseTallies$Row;", Cond.fieldLink RX6 29 "ApplauseTallies$Seats" "clappers" "LApplauseTallies$Row;", Cond.fieldLink RX6 39 "ApplauseTallies$Seats" "clapperCount" "I", Cond.fieldLink RX6 43 "ApplauseTallies$Seats" "paid" "I", Cond.fieldLink RX6 46 "ApplauseTallies$Seats" "clappedForPiece" "I", Cond.methodLink RX6 35 yX5_copyFrom, Cond.methodLink RX2 59 yX0_copyFrom, Cond.instanceMethod yX0_copyFrom, Cond.selects RX0 yX0_copyFrom yX0_copyFrom, Cond.initialized RX0, Cond.code yX0_copyFrom cX0_copyFrom 2 none, Cond.fieldLink RX0 14 "ApplauseTallies$Encores" "owers" "LApplauseTallies$Row;", Cond.fieldLink RX0 20 "ApplauseTallies$Encores" "since" "LApplauseTallies$Row;", Cond.fieldLink RX0 23 "ApplauseTallies$Encores" "played" "LApplauseTallies$Row;", Cond.fieldLink RX0 26 "ApplauseTallies$Encores" "lapsed" "LApplauseTallies$Row;", Cond.fieldLink RX0 29 "ApplauseTallies$Encores" "pieces" "LApplauseTallies$Row;", Cond.fieldLink RX0 36 "ApplauseTallies$Encores" "owedCount" "I", Cond.methodLink RX0 32 yX5_copyFrom, Cond.methodLink RX7 73 yX2_takeCurtain, Cond.instanceMethod yX2_takeCurtain, Cond.selects RX2 yX2_takeCurtain yX2_takeCurtain]
def wsX7_call_r4 : List Cond := [Cond.code yX2_takeCurtain cX2_takeCurtain 1 (some .int), Cond.methodLink RX2 84 yX5_at, Cond.instanceMethod yX5_at, Cond.selects RX5 yX5_at yX5_at, Cond.code yX5_at cX5_at 2 (some .int), Cond.methodLink RX2 107 yX5_add, Cond.instanceMethod yX5_add, Cond.selects RX5 yX5_add yX5_add, Cond.code yX5_add cX5_add 3 none, Cond.methodLink RX7 51 yX1_keepUnlessError, Cond.instanceMethod yX1_keepUnlessError, Cond.selects RX1 yX1_keepUnlessError yX1_keepUnlessError, Cond.code yX1_keepUnlessError cX1_keepUnlessError 2 (some .int), Cond.fieldLink RX1 18 "ApplauseTallies$History" "kept" "I", Cond.methodLink RX1 33 Lib.Math.min.name]
def wsX7_call : List Cond := .code yX7_call cX7_call 1 (some .int) :: ((wsX7_call_r1 ++ (wsX7_call_r2 ++ (wsX7_call_r3 ++ wsX7_call_r4))) ++ wsX70 ++ wsX10 ++ wsX20 ++ wsX50 ++ wsX60 ++ wsX00)
def wsX7_night_r1 : List Cond := [Cond.fieldLink RX7 19 "ApplauseTallies" "history" "LApplauseTallies$History;", Cond.fieldLink RX7 10 "ApplauseTallies" "house" "LApplauseTallies$House;", Cond.methodLink RX7 43 yX1_setAside, Cond.instanceMethod yX1_setAside, Cond.selects RX1 yX1_setAside yX1_setAside, Cond.initialized RX1, Cond.code yX1_setAside cX1_setAside 3 none, Cond.fieldLink RX1 22 "ApplauseTallies$History" "next" "I", Cond.methodLink RX1 25 yX1_stateAt, Cond.instanceMethod yX1_stateAt, Cond.selects RX1 yX1_stateAt yX1_stateAt, Cond.code yX1_stateAt cX1_stateAt 2 (some (.object "ApplauseTallies$House")), Cond.fieldLink RX1 13 "ApplauseTallies$History" "states" "[LApplauseTallies$House;", Cond.methodLink RX1 29 yX2_copyFrom, Cond.instanceMethod yX2_copyFrom, Cond.selects RX2 yX2_copyFrom yX2_copyFrom, Cond.initialized RX2, Cond.code yX2_copyFrom cX2_copyFrom 2 none, Cond.fieldLink RX2 14 "ApplauseTallies$House" "settings" "LApplauseTallies$Row;", Cond.fieldLink RX2 23 "ApplauseTallies$House" "seats" "LApplauseTallies$Seats;", Cond.fieldLink RX2 30 "ApplauseTallies$House" "encores" "LApplauseTallies$Encores;", Cond.fieldLink RX2 34 "ApplauseTallies$House" "tonight" "LApplauseTallies$Row;", Cond.fieldLink RX2 37 "ApplauseTallies$House" "records" "LApplauseTallies$Row;", Cond.fieldLink RX2 62 "ApplauseTallies$House" "applause" "I"]
def wsX7_night_r2 : List Cond := [Cond.fieldLink RX2 65 "ApplauseTallies$House" "time" "I", Cond.fieldLink RX2 68 "ApplauseTallies$House" "nights" "I", Cond.fieldLink RX2 40 "ApplauseTallies$House" "pieceBy" "I", Cond.fieldLink RX2 71 "ApplauseTallies$House" "pieceEnd" "I", Cond.fieldLink RX2 74 "ApplauseTallies$House" "encoreCame" "Z", Cond.methodLink RX2 52 yX5_copyFrom, Cond.instanceMethod yX5_copyFrom, Cond.selects RX5 yX5_copyFrom yX5_copyFrom, Cond.initialized RX5, Cond.code yX5_copyFrom cX5_copyFrom 2 none, Cond.fieldLink RX5 13 "ApplauseTallies$Row" "cells" "[I", Cond.methodLink RX5 19 Lib.Math.min.name, Cond.static Lib.Math.min.name, Cond.initialized "java/lang/Math", Cond.code Lib.Math.min.name Lib.Math.min.code 2 (some .int), Cond.methodLink RX5 22 arraycopyName, Cond.native arraycopyName, Cond.static arraycopyName, Cond.initialized "java/lang/System", Cond.methodLink RX2 56 yX6_copyFrom, Cond.instanceMethod yX6_copyFrom, Cond.selects RX6 yX6_copyFrom yX6_copyFrom, Cond.initialized RX6, Cond.code yX6_copyFrom cX6_copyFrom 2 none]
def wsX7_night_r3 : List Cond := [Cond.fieldLink RX6 14 "ApplauseTallies$Seats" "loudness" "LApplauseTallies$Row;", Cond.fieldLink RX6 20 "ApplauseTallies$Seats" "early" "LApplauseTallies$Row;", Cond.fieldLink RX6 23 "ApplauseTallies$Seats" "clapsTonight" "LApplauseTallies$Row;", Cond.fieldLink RX6 26 "ApplauseTallies$Seats" "clapsSoFar" "LApplauseTallies$Row;", Cond.fieldLink RX6 29 "ApplauseTallies$Seats" "clappers" "LApplauseTallies$Row;", Cond.fieldLink RX6 39 "ApplauseTallies$Seats" "clapperCount" "I", Cond.fieldLink RX6 43 "ApplauseTallies$Seats" "paid" "I", Cond.fieldLink RX6 46 "ApplauseTallies$Seats" "clappedForPiece" "I", Cond.methodLink RX6 35 yX5_copyFrom, Cond.methodLink RX2 59 yX0_copyFrom, Cond.instanceMethod yX0_copyFrom, Cond.selects RX0 yX0_copyFrom yX0_copyFrom, Cond.initialized RX0, Cond.code yX0_copyFrom cX0_copyFrom 2 none, Cond.fieldLink RX0 14 "ApplauseTallies$Encores" "owers" "LApplauseTallies$Row;", Cond.fieldLink RX0 20 "ApplauseTallies$Encores" "since" "LApplauseTallies$Row;", Cond.fieldLink RX0 23 "ApplauseTallies$Encores" "played" "LApplauseTallies$Row;", Cond.fieldLink RX0 26 "ApplauseTallies$Encores" "lapsed" "LApplauseTallies$Row;", Cond.fieldLink RX0 29 "ApplauseTallies$Encores" "pieces" "LApplauseTallies$Row;", Cond.fieldLink RX0 36 "ApplauseTallies$Encores" "owedCount" "I", Cond.methodLink RX0 32 yX5_copyFrom, Cond.methodLink RX7 77 yX2_endNight, Cond.instanceMethod yX2_endNight, Cond.selects RX2 yX2_endNight yX2_endNight]
def wsX7_night_r4 : List Cond := [Cond.code yX2_endNight cX2_endNight 3 (some .int), Cond.methodLink RX2 134 yX0_lapseSince, Cond.instanceMethod yX0_lapseSince, Cond.selects RX0 yX0_lapseSince yX0_lapseSince, Cond.code yX0_lapseSince cX0_lapseSince 4 (some .int), Cond.methodLink RX0 47 yX5_at, Cond.instanceMethod yX5_at, Cond.selects RX5 yX5_at yX5_at, Cond.code yX5_at cX5_at 2 (some .int), Cond.methodLink RX0 40 yX5_add, Cond.instanceMethod yX5_add, Cond.selects RX5 yX5_add yX5_add, Cond.code yX5_add cX5_add 3 none, Cond.methodLink RX0 44 yX5_store, Cond.instanceMethod yX5_store, Cond.selects RX5 yX5_store yX5_store, Cond.code yX5_store cX5_store 3 none, Cond.methodLink RX2 107 yX5_add, Cond.methodLink RX2 143 yX2_recordPlace, Cond.static yX2_recordPlace, Cond.code yX2_recordPlace cX2_recordPlace 2 (some .int), Cond.methodLink RX2 84 yX5_at, Cond.methodLink RX2 48 yX5_store, Cond.methodLink RX2 146 yX5_fill]
def wsX7_night_r5 : List Cond := [Cond.instanceMethod yX5_fill, Cond.selects RX5 yX5_fill yX5_fill, Cond.code yX5_fill cX5_fill 3 none, Cond.methodLink RX2 149 yX6_beginNight, Cond.instanceMethod yX6_beginNight, Cond.selects RX6 yX6_beginNight yX6_beginNight, Cond.code yX6_beginNight cX6_beginNight 1 none, Cond.methodLink RX6 32 yX5_fill, Cond.methodLink RX7 51 yX1_keepUnlessError, Cond.instanceMethod yX1_keepUnlessError, Cond.selects RX1 yX1_keepUnlessError yX1_keepUnlessError, Cond.code yX1_keepUnlessError cX1_keepUnlessError 2 (some .int), Cond.fieldLink RX1 18 "ApplauseTallies$History" "kept" "I", Cond.methodLink RX1 33 Lib.Math.min.name]
def wsX7_night : List Cond := .code yX7_night cX7_night 1 (some .int) :: ((wsX7_night_r1 ++ (wsX7_night_r2 ++ (wsX7_night_r3 ++ (wsX7_night_r4 ++ wsX7_night_r5)))) ++ wsX70 ++ wsX10 ++ wsX20 ++ wsX50 ++ wsX60 ++ wsX00)
def wsX7_of : List Cond := .code yX7_of cX7_of 3 (some .int) :: ([.fieldLink RX7 10 "ApplauseTallies" "house" "LApplauseTallies$House;", .methodLink RX7 89 yX2_aboutSeat, .instanceMethod yX2_aboutSeat, .selects RX2 yX2_aboutSeat yX2_aboutSeat, .initialized RX2, .code yX2_aboutSeat cX2_aboutSeat 3 (some .int), .fieldLink RX2 23 "ApplauseTallies$House" "seats" "LApplauseTallies$Seats;", .fieldLink RX2 14 "ApplauseTallies$House" "settings" "LApplauseTallies$Row;", .static yX7_isSeat, .initialized RX7, .code yX7_isSeat cX7_isSeat 1 (some .boolean), .methodLink RX2 84 yX5_at, .instanceMethod yX5_at, .selects RX5 yX5_at yX5_at, .initialized RX5, .code yX5_at cX5_at 2 (some .int), .fieldLink RX5 13 "ApplauseTallies$Row" "cells" "[I", .methodLink RX2 164 yX6_hasClapped, .instanceMethod yX6_hasClapped, .selects RX6 yX6_hasClapped yX6_hasClapped, .initialized RX6, .code yX6_hasClapped cX6_hasClapped 2 (some .boolean), .fieldLink RX6 46 "ApplauseTallies$Seats" "clappedForPiece" "I"] ++ wsX70 ++ wsX20 ++ wsX60 ++ wsX50)
def wsX7_performer : List Cond := .code yX7_performer cX7_performer 3 (some .int) :: ([.fieldLink RX7 10 "ApplauseTallies" "house" "LApplauseTallies$House;", .methodLink RX7 96 yX0_aboutPerformer, .instanceMethod yX0_aboutPerformer, .selects RX0 yX0_aboutPerformer yX0_aboutPerformer, .initialized RX0, .code yX0_aboutPerformer cX0_aboutPerformer 3 (some .int), .fieldLink RX0 23 "ApplauseTallies$Encores" "played" "LApplauseTallies$Row;", .fieldLink RX0 26 "ApplauseTallies$Encores" "lapsed" "LApplauseTallies$Row;", .fieldLink RX0 29 "ApplauseTallies$Encores" "pieces" "LApplauseTallies$Row;", .static yX7_isPerformer, .initialized RX7, .code yX7_isPerformer cX7_isPerformer 1 (some .boolean), .methodLink RX0 58 yX0_owedBy, .instanceMethod yX0_owedBy, .selects RX0 yX0_owedBy yX0_owedBy, .code yX0_owedBy cX0_owedBy 4 (some .int), .fieldLink RX0 36 "ApplauseTallies$Encores" "owedCount" "I", .fieldLink RX0 14 "ApplauseTallies$Encores" "owers" "LApplauseTallies$Row;", .methodLink RX0 47 yX5_at, .instanceMethod yX5_at, .selects RX5 yX5_at yX5_at, .initialized RX5, .code yX5_at cX5_at 2 (some .int), .fieldLink RX5 13 "ApplauseTallies$Row" "cells" "[I"] ++ wsX70 ++ wsX20 ++ wsX00 ++ wsX50)
def wsX7_owed : List Cond := .code yX7_owed cX7_owed 3 (some .int) :: ([.fieldLink RX7 10 "ApplauseTallies" "house" "LApplauseTallies$House;", .methodLink RX7 105 yX0_aboutOwed, .instanceMethod yX0_aboutOwed, .selects RX0 yX0_aboutOwed yX0_aboutOwed, .initialized RX0, .code yX0_aboutOwed cX0_aboutOwed 4 (some .int), .fieldLink RX0 36 "ApplauseTallies$Encores" "owedCount" "I", .fieldLink RX0 14 "ApplauseTallies$Encores" "owers" "LApplauseTallies$Row;", .fieldLink RX0 20 "ApplauseTallies$Encores" "since" "LApplauseTallies$Row;", .methodLink RX0 47 yX5_at, .instanceMethod yX5_at, .selects RX5 yX5_at yX5_at, .initialized RX5, .code yX5_at cX5_at 2 (some .int), .fieldLink RX5 13 "ApplauseTallies$Row" "cells" "[I"] ++ wsX70 ++ wsX20 ++ wsX00 ++ wsX50)
def wsX7_clapper : List Cond := .code yX7_clapper cX7_clapper 2 (some .int) :: ([.fieldLink RX7 10 "ApplauseTallies" "house" "LApplauseTallies$House;", .methodLink RX7 113 yX6_clapperAt, .instanceMethod yX6_clapperAt, .selects RX6 yX6_clapperAt yX6_clapperAt, .initialized RX6, .code yX6_clapperAt cX6_clapperAt 2 (some .int), .fieldLink RX6 39 "ApplauseTallies$Seats" "clapperCount" "I", .fieldLink RX6 29 "ApplauseTallies$Seats" "clappers" "LApplauseTallies$Row;", .methodLink RX6 57 yX5_at, .instanceMethod yX5_at, .selects RX5 yX5_at yX5_at, .initialized RX5, .code yX5_at cX5_at 2 (some .int), .fieldLink RX5 13 "ApplauseTallies$Row" "cells" "[I"] ++ wsX70 ++ wsX20 ++ wsX60 ++ wsX50)
def wsX7_record : List Cond := .code yX7_record cX7_record 3 (some .int) :: ([.fieldLink RX7 10 "ApplauseTallies" "house" "LApplauseTallies$House;", .methodLink RX7 118 yX2_recordOf, .instanceMethod yX2_recordOf, .selects RX2 yX2_recordOf yX2_recordOf, .initialized RX2, .code yX2_recordOf cX2_recordOf 3 (some .int), .fieldLink RX2 68 "ApplauseTallies$House" "nights" "I", .methodLink RX2 117 Lib.Math.min.name, .static Lib.Math.min.name, .initialized "java/lang/Math", .code Lib.Math.min.name Lib.Math.min.code 2 (some .int), .fieldLink RX2 37 "ApplauseTallies$House" "records" "LApplauseTallies$Row;", .methodLink RX2 143 yX2_recordPlace, .static yX2_recordPlace, .code yX2_recordPlace cX2_recordPlace 2 (some .int), .methodLink RX2 84 yX5_at, .instanceMethod yX5_at, .selects RX5 yX5_at yX5_at, .initialized RX5, .code yX5_at cX5_at 2 (some .int), .fieldLink RX5 13 "ApplauseTallies$Row" "cells" "[I"] ++ wsX70 ++ wsX20 ++ wsX50)
def wsX7_count_r1 : List Cond := [Cond.fieldLink RX7 30 "ApplauseTallies" "pad" "LApplauseTallies$Pad;", Cond.fieldLink RX7 19 "ApplauseTallies" "history" "LApplauseTallies$History;", Cond.fieldLink RX7 10 "ApplauseTallies" "house" "LApplauseTallies$House;", Cond.methodLink RX7 86 yX4_length, Cond.instanceMethod yX4_length, Cond.selects RX4 yX4_length yX4_length, Cond.initialized RX4, Cond.code yX4_length cX4_length 1 (some .int), Cond.fieldLink RX4 15 "ApplauseTallies$Pad" "length" "I", Cond.methodLink RX7 128 yX1_kept, Cond.instanceMethod yX1_kept, Cond.selects RX1 yX1_kept yX1_kept, Cond.initialized RX1, Cond.code yX1_kept cX1_kept 1 (some .int), Cond.fieldLink RX1 18 "ApplauseTallies$History" "kept" "I", Cond.methodLink RX7 131 yX2_numberOf, Cond.instanceMethod yX2_numberOf, Cond.selects RX2 yX2_numberOf yX2_numberOf, Cond.initialized RX2, Cond.code yX2_numberOf cX2_numberOf 2 (some .int), Cond.fieldLink RX2 62 "ApplauseTallies$House" "applause" "I", Cond.fieldLink RX2 65 "ApplauseTallies$House" "time" "I", Cond.fieldLink RX2 68 "ApplauseTallies$House" "nights" "I", Cond.fieldLink RX2 34 "ApplauseTallies$House" "tonight" "LApplauseTallies$Row;"]
def wsX7_count_r2 : List Cond := [Cond.fieldLink RX2 30 "ApplauseTallies$House" "encores" "LApplauseTallies$Encores;", Cond.fieldLink RX2 40 "ApplauseTallies$House" "pieceBy" "I", Cond.fieldLink RX2 71 "ApplauseTallies$House" "pieceEnd" "I", Cond.fieldLink RX2 23 "ApplauseTallies$House" "seats" "LApplauseTallies$Seats;", Cond.fieldLink RX2 14 "ApplauseTallies$House" "settings" "LApplauseTallies$Row;", Cond.methodLink RX2 84 yX5_at, Cond.instanceMethod yX5_at, Cond.selects RX5 yX5_at yX5_at, Cond.initialized RX5, Cond.code yX5_at cX5_at 2 (some .int), Cond.fieldLink RX5 13 "ApplauseTallies$Row" "cells" "[I", Cond.methodLink RX2 179 yX5_sum, Cond.instanceMethod yX5_sum, Cond.selects RX5 yX5_sum yX5_sum, Cond.code yX5_sum cX5_sum 3 (some .int), Cond.methodLink RX2 186 yX2_suspectedNow, Cond.instanceMethod yX2_suspectedNow, Cond.selects RX2 yX2_suspectedNow yX2_suspectedNow, Cond.code yX2_suspectedNow cX2_suspectedNow 1 (some .int), Cond.methodLink RX2 170 yX6_suspected, Cond.instanceMethod yX6_suspected, Cond.selects RX6 yX6_suspected yX6_suspected, Cond.initialized RX6, Cond.code yX6_suspected cX6_suspected 4 (some .int)]
def wsX7_count_r3 : List Cond := [Cond.fieldLink RX6 20 "ApplauseTallies$Seats" "early" "LApplauseTallies$Row;", Cond.methodLink RX6 57 yX5_at]
def wsX7_count : List Cond := .code yX7_count cX7_count 2 (some .int) :: ((wsX7_count_r1 ++ (wsX7_count_r2 ++ wsX7_count_r3)) ++ wsX70 ++ wsX40 ++ wsX10 ++ wsX20 ++ wsX00 ++ wsX60 ++ wsX50)
def wsX7_quietIn : List Cond := .code yX7_quietIn cX7_quietIn 2 (some .int) :: ([.fieldLink RX7 10 "ApplauseTallies" "house" "LApplauseTallies$House;", .methodLink RX7 134 yX2_secondsUntil, .instanceMethod yX2_secondsUntil, .selects RX2 yX2_secondsUntil yX2_secondsUntil, .initialized RX2, .code yX2_secondsUntil cX2_secondsUntil 4 (some .int), .fieldLink RX2 62 "ApplauseTallies$House" "applause" "I", .fieldLink RX2 14 "ApplauseTallies$House" "settings" "LApplauseTallies$Row;", .methodLink RX2 84 yX5_at, .instanceMethod yX5_at, .selects RX5 yX5_at yX5_at, .initialized RX5, .code yX5_at cX5_at 2 (some .int), .fieldLink RX5 13 "ApplauseTallies$Row" "cells" "[I", .static yX7_afterSecond, .initialized RX7, .code yX7_afterSecond cX7_afterSecond 2 (some .int), .methodLink RX7 176 Lib.Math.max.name, .static Lib.Math.max.name, .initialized "java/lang/Math", .code Lib.Math.max.name Lib.Math.max.code 2 (some .int)] ++ wsX70 ++ wsX20 ++ wsX50)
def wsX7_clapsFor : List Cond := .code yX7_clapsFor cX7_clapsFor 2 (some .int) :: ([.fieldLink RX7 10 "ApplauseTallies" "house" "LApplauseTallies$House;", .methodLink RX7 137 yX2_clapsUntilEncore, .instanceMethod yX2_clapsUntilEncore, .selects RX2 yX2_clapsUntilEncore yX2_clapsUntilEncore, .initialized RX2, .code yX2_clapsUntilEncore cX2_clapsUntilEncore 4 (some .int), .fieldLink RX2 40 "ApplauseTallies$House" "pieceBy" "I", .fieldLink RX2 74 "ApplauseTallies$House" "encoreCame" "Z", .fieldLink RX2 23 "ApplauseTallies$House" "seats" "LApplauseTallies$Seats;", .fieldLink RX2 14 "ApplauseTallies$House" "settings" "LApplauseTallies$Row;", .fieldLink RX2 62 "ApplauseTallies$House" "applause" "I", .static yX7_isSeat, .initialized RX7, .code yX7_isSeat cX7_isSeat 1 (some .boolean), .methodLink RX2 84 yX5_at, .instanceMethod yX5_at, .selects RX5 yX5_at yX5_at, .initialized RX5, .code yX5_at cX5_at 2 (some .int), .fieldLink RX5 13 "ApplauseTallies$Row" "cells" "[I"] ++ wsX70 ++ wsX20 ++ wsX60 ++ wsX50)
def wsX7_lapsesIn_r1 : List Cond := [Cond.fieldLink RX7 10 "ApplauseTallies" "house" "LApplauseTallies$House;", Cond.methodLink RX7 140 yX2_secondsUntilLapse, Cond.instanceMethod yX2_secondsUntilLapse, Cond.selects RX2 yX2_secondsUntilLapse yX2_secondsUntilLapse, Cond.initialized RX2, Cond.code yX2_secondsUntilLapse cX2_secondsUntilLapse 4 (some .int), Cond.fieldLink RX2 30 "ApplauseTallies$House" "encores" "LApplauseTallies$Encores;", Cond.fieldLink RX2 65 "ApplauseTallies$House" "time" "I", Cond.fieldLink RX2 14 "ApplauseTallies$House" "settings" "LApplauseTallies$Row;", Cond.methodLink RX2 195 Lib.Math.max.name, Cond.static Lib.Math.max.name, Cond.initialized "java/lang/Math", Cond.code Lib.Math.max.name Lib.Math.max.code 2 (some .int), Cond.static yX7_isPerformer, Cond.initialized RX7, Cond.code yX7_isPerformer cX7_isPerformer 1 (some .boolean), Cond.methodLink RX2 189 yX0_earliestOf, Cond.instanceMethod yX0_earliestOf, Cond.selects RX0 yX0_earliestOf yX0_earliestOf, Cond.initialized RX0, Cond.code yX0_earliestOf cX0_earliestOf 3 (some .int), Cond.fieldLink RX0 36 "ApplauseTallies$Encores" "owedCount" "I", Cond.fieldLink RX0 14 "ApplauseTallies$Encores" "owers" "LApplauseTallies$Row;", Cond.methodLink RX0 47 yX5_at]
def wsX7_lapsesIn_r2 : List Cond := [Cond.instanceMethod yX5_at, Cond.selects RX5 yX5_at yX5_at, Cond.initialized RX5, Cond.code yX5_at cX5_at 2 (some .int), Cond.fieldLink RX5 13 "ApplauseTallies$Row" "cells" "[I", Cond.methodLink RX2 84 yX5_at]
def wsX7_lapsesIn : List Cond := .code yX7_lapsesIn cX7_lapsesIn 2 (some .int) :: ((wsX7_lapsesIn_r1 ++ wsX7_lapsesIn_r2) ++ wsX70 ++ wsX20 ++ wsX00 ++ wsX50)
def wsX7_calls : List Cond := .code yX7_calls cX7_calls 1 (some .int) :: ([.fieldLink RX7 10 "ApplauseTallies" "house" "LApplauseTallies$House;", .methodLink RX7 143 yX2_curtainsLeft, .instanceMethod yX2_curtainsLeft, .selects RX2 yX2_curtainsLeft yX2_curtainsLeft, .initialized RX2, .code yX2_curtainsLeft cX2_curtainsLeft 3 (some .int), .fieldLink RX2 62 "ApplauseTallies$House" "applause" "I", .fieldLink RX2 14 "ApplauseTallies$House" "settings" "LApplauseTallies$Row;", .methodLink RX2 84 yX5_at, .instanceMethod yX5_at, .selects RX5 yX5_at yX5_at, .initialized RX5, .code yX5_at cX5_at 2 (some .int), .fieldLink RX5 13 "ApplauseTallies$Row" "cells" "[I"] ++ wsX70 ++ wsX20 ++ wsX50)
def wsX7_ifFound : List Cond := .code yX7_ifFound cX7_ifFound 2 (some .int) :: ([.fieldLink RX7 146 "ApplauseTallies" "LEAST" "[I", .fieldLink RX7 150 "ApplauseTallies" "MOST" "[I", .fieldLink RX7 10 "ApplauseTallies" "house" "LApplauseTallies$House;", .methodLink RX7 153 yX6_suspected, .instanceMethod yX6_suspected, .selects RX6 yX6_suspected yX6_suspected, .initialized RX6, .code yX6_suspected cX6_suspected 4 (some .int), .fieldLink RX6 20 "ApplauseTallies$Seats" "early" "LApplauseTallies$Row;", .methodLink RX6 57 yX5_at, .instanceMethod yX5_at, .selects RX5 yX5_at yX5_at, .initialized RX5, .code yX5_at cX5_at 2 (some .int), .fieldLink RX5 13 "ApplauseTallies$Row" "cells" "[I"] ++ wsX70 ++ wsX20 ++ wsX60 ++ wsX50)
def wsX7_undo_r1 : List Cond := [Cond.fieldLink RX7 19 "ApplauseTallies" "history" "LApplauseTallies$History;", Cond.fieldLink RX7 10 "ApplauseTallies" "house" "LApplauseTallies$House;", Cond.methodLink RX7 167 yX1_takeBack, Cond.instanceMethod yX1_takeBack, Cond.selects RX1 yX1_takeBack yX1_takeBack, Cond.initialized RX1, Cond.code yX1_takeBack cX1_takeBack 4 (some .int), Cond.fieldLink RX1 22 "ApplauseTallies$History" "next" "I", Cond.fieldLink RX1 18 "ApplauseTallies$History" "kept" "I", Cond.methodLink RX1 25 yX1_stateAt, Cond.instanceMethod yX1_stateAt, Cond.selects RX1 yX1_stateAt yX1_stateAt, Cond.code yX1_stateAt cX1_stateAt 2 (some (.object "ApplauseTallies$House")), Cond.fieldLink RX1 13 "ApplauseTallies$History" "states" "[LApplauseTallies$House;", Cond.methodLink RX1 29 yX2_copyFrom, Cond.instanceMethod yX2_copyFrom, Cond.selects RX2 yX2_copyFrom yX2_copyFrom, Cond.initialized RX2, Cond.code yX2_copyFrom cX2_copyFrom 2 none, Cond.fieldLink RX2 14 "ApplauseTallies$House" "settings" "LApplauseTallies$Row;", Cond.fieldLink RX2 23 "ApplauseTallies$House" "seats" "LApplauseTallies$Seats;", Cond.fieldLink RX2 30 "ApplauseTallies$House" "encores" "LApplauseTallies$Encores;", Cond.fieldLink RX2 34 "ApplauseTallies$House" "tonight" "LApplauseTallies$Row;", Cond.fieldLink RX2 37 "ApplauseTallies$House" "records" "LApplauseTallies$Row;"]
def wsX7_undo_r2 : List Cond := [Cond.fieldLink RX2 62 "ApplauseTallies$House" "applause" "I", Cond.fieldLink RX2 65 "ApplauseTallies$House" "time" "I", Cond.fieldLink RX2 68 "ApplauseTallies$House" "nights" "I", Cond.fieldLink RX2 40 "ApplauseTallies$House" "pieceBy" "I", Cond.fieldLink RX2 71 "ApplauseTallies$House" "pieceEnd" "I", Cond.fieldLink RX2 74 "ApplauseTallies$House" "encoreCame" "Z", Cond.methodLink RX2 52 yX5_copyFrom, Cond.instanceMethod yX5_copyFrom, Cond.selects RX5 yX5_copyFrom yX5_copyFrom, Cond.initialized RX5, Cond.code yX5_copyFrom cX5_copyFrom 2 none, Cond.fieldLink RX5 13 "ApplauseTallies$Row" "cells" "[I", Cond.methodLink RX5 19 Lib.Math.min.name, Cond.static Lib.Math.min.name, Cond.initialized "java/lang/Math", Cond.code Lib.Math.min.name Lib.Math.min.code 2 (some .int), Cond.methodLink RX5 22 arraycopyName, Cond.native arraycopyName, Cond.static arraycopyName, Cond.initialized "java/lang/System", Cond.methodLink RX2 56 yX6_copyFrom, Cond.instanceMethod yX6_copyFrom, Cond.selects RX6 yX6_copyFrom yX6_copyFrom, Cond.initialized RX6]
def wsX7_undo_r3 : List Cond := [Cond.code yX6_copyFrom cX6_copyFrom 2 none, Cond.fieldLink RX6 14 "ApplauseTallies$Seats" "loudness" "LApplauseTallies$Row;", Cond.fieldLink RX6 20 "ApplauseTallies$Seats" "early" "LApplauseTallies$Row;", Cond.fieldLink RX6 23 "ApplauseTallies$Seats" "clapsTonight" "LApplauseTallies$Row;", Cond.fieldLink RX6 26 "ApplauseTallies$Seats" "clapsSoFar" "LApplauseTallies$Row;", Cond.fieldLink RX6 29 "ApplauseTallies$Seats" "clappers" "LApplauseTallies$Row;", Cond.fieldLink RX6 39 "ApplauseTallies$Seats" "clapperCount" "I", Cond.fieldLink RX6 43 "ApplauseTallies$Seats" "paid" "I", Cond.fieldLink RX6 46 "ApplauseTallies$Seats" "clappedForPiece" "I", Cond.methodLink RX6 35 yX5_copyFrom, Cond.methodLink RX2 59 yX0_copyFrom, Cond.instanceMethod yX0_copyFrom, Cond.selects RX0 yX0_copyFrom yX0_copyFrom, Cond.initialized RX0, Cond.code yX0_copyFrom cX0_copyFrom 2 none, Cond.fieldLink RX0 14 "ApplauseTallies$Encores" "owers" "LApplauseTallies$Row;", Cond.fieldLink RX0 20 "ApplauseTallies$Encores" "since" "LApplauseTallies$Row;", Cond.fieldLink RX0 23 "ApplauseTallies$Encores" "played" "LApplauseTallies$Row;", Cond.fieldLink RX0 26 "ApplauseTallies$Encores" "lapsed" "LApplauseTallies$Row;", Cond.fieldLink RX0 29 "ApplauseTallies$Encores" "pieces" "LApplauseTallies$Row;", Cond.fieldLink RX0 36 "ApplauseTallies$Encores" "owedCount" "I", Cond.methodLink RX0 32 yX5_copyFrom]
def wsX7_undo : List Cond := .code yX7_undo cX7_undo 1 (some .int) :: ((wsX7_undo_r1 ++ (wsX7_undo_r2 ++ wsX7_undo_r3)) ++ wsX70 ++ wsX10 ++ wsX20 ++ wsX50 ++ wsX60 ++ wsX00)
def wsJ9_max_7cf53 : List Cond := .code yJ9_max_7cf53 cJ9_max_7cf53 2 (some .int) :: ([])
def wsJ9_min_7cf53 : List Cond := .code yJ9_min_7cf53 cJ9_min_7cf53 2 (some .int) :: ([])
def wsL_cell : List Cond := .code yL_cell cL_cell 2 (some .int) :: ([.constant RL 7 (42307), .constant RL 8 (2742257)])
def wsL_low : List Cond := .code yL_low cL_low 2 (some .int) :: ([.constant RL 9 (2147483647)])
def wsL_ends : List Cond := .code yL_ends cL_ends 6 (some .int) :: ([])
def wsL_lapses : List Cond := .code yL_lapses cL_lapses 3 none :: ([])
def wsL_drops : List Cond := .code yL_drops cL_drops 4 none :: ([])
def wsL_claps : List Cond := .code yL_claps cL_claps 10 (some .int) :: ([.methodLink RL 10 yL_lapses, .static yL_lapses, .initialized RL, .code yL_lapses cL_lapses 3 none])
def wsL_less : List Cond := .code yL_less cL_less 3 (some .int) :: ([])
def wsL_second : List Cond := .code yL_second cL_second 4 none :: ([.methodLink RL 16 yL_less, .static yL_less, .initialized RL, .code yL_less cL_less 3 (some .int), .methodLink RL 10 yL_lapses, .static yL_lapses, .code yL_lapses cL_lapses 3 none, .methodLink RL 20 yL_drops, .static yL_drops, .code yL_drops cL_drops 4 none])
def wsL_owes : List Cond := .code yL_owes cL_owes 5 (some .int) :: ([])
def wsL_earliest : List Cond := .code yL_earliest cL_earliest 5 (some .int) :: ([])
def wsL_plays : List Cond := .code yL_plays cL_plays 7 (some .int) :: ([.methodLink RL 23 yL_earliest, .static yL_earliest, .initialized RL, .code yL_earliest cL_earliest 5 (some .int), .methodLink RL 20 yL_drops, .static yL_drops, .code yL_drops cL_drops 4 none, .methodLink RL 27 yL_ends, .static yL_ends, .code yL_ends cL_ends 6 (some .int), .methodLink RL 31 yL_owes, .static yL_owes, .code yL_owes cL_owes 5 (some .int)])
def wsL_nights : List Cond := .code yL_nights cL_nights 8 (some .int) :: ([.methodLink RL 10 yL_lapses, .static yL_lapses, .initialized RL, .code yL_lapses cL_lapses 3 none])
def wsL_seats : List Cond := .code yL_seats cL_seats 6 (some .int) :: ([])
def wsL_call_r1 : List Cond := [Cond.methodLink RL 34 yX7_clap, Cond.instanceMethod yX7_clap, Cond.selects RX7 yX7_clap yX7_clap, Cond.initialized RX7, Cond.code yX7_clap cX7_clap 2 (some .int), Cond.fieldLink RX7 19 "ApplauseTallies" "history" "LApplauseTallies$History;", Cond.fieldLink RX7 10 "ApplauseTallies" "house" "LApplauseTallies$House;", Cond.methodLink RX7 43 yX1_setAside, Cond.instanceMethod yX1_setAside, Cond.selects RX1 yX1_setAside yX1_setAside, Cond.initialized RX1, Cond.code yX1_setAside cX1_setAside 3 none, Cond.fieldLink RX1 22 "ApplauseTallies$History" "next" "I", Cond.methodLink RX1 25 yX1_stateAt, Cond.instanceMethod yX1_stateAt, Cond.selects RX1 yX1_stateAt yX1_stateAt, Cond.code yX1_stateAt cX1_stateAt 2 (some (.object "ApplauseTallies$House")), Cond.fieldLink RX1 13 "ApplauseTallies$History" "states" "[LApplauseTallies$House;", Cond.methodLink RX1 29 yX2_copyFrom, Cond.instanceMethod yX2_copyFrom, Cond.selects RX2 yX2_copyFrom yX2_copyFrom, Cond.initialized RX2, Cond.code yX2_copyFrom cX2_copyFrom 2 none, Cond.fieldLink RX2 14 "ApplauseTallies$House" "settings" "LApplauseTallies$Row;"]
def wsL_call_r2 : List Cond := [Cond.fieldLink RX2 23 "ApplauseTallies$House" "seats" "LApplauseTallies$Seats;", Cond.fieldLink RX2 30 "ApplauseTallies$House" "encores" "LApplauseTallies$Encores;", Cond.fieldLink RX2 34 "ApplauseTallies$House" "tonight" "LApplauseTallies$Row;", Cond.fieldLink RX2 37 "ApplauseTallies$House" "records" "LApplauseTallies$Row;", Cond.fieldLink RX2 62 "ApplauseTallies$House" "applause" "I", Cond.fieldLink RX2 65 "ApplauseTallies$House" "time" "I", Cond.fieldLink RX2 68 "ApplauseTallies$House" "nights" "I", Cond.fieldLink RX2 40 "ApplauseTallies$House" "pieceBy" "I", Cond.fieldLink RX2 71 "ApplauseTallies$House" "pieceEnd" "I", Cond.fieldLink RX2 74 "ApplauseTallies$House" "encoreCame" "Z", Cond.methodLink RX2 52 yX5_copyFrom, Cond.instanceMethod yX5_copyFrom, Cond.selects RX5 yX5_copyFrom yX5_copyFrom, Cond.initialized RX5, Cond.code yX5_copyFrom cX5_copyFrom 2 none, Cond.fieldLink RX5 13 "ApplauseTallies$Row" "cells" "[I", Cond.methodLink RX5 19 Lib.Math.min.name, Cond.static Lib.Math.min.name, Cond.initialized "java/lang/Math", Cond.code Lib.Math.min.name Lib.Math.min.code 2 (some .int), Cond.methodLink RX5 22 arraycopyName, Cond.native arraycopyName, Cond.static arraycopyName, Cond.initialized "java/lang/System"]
def wsL_call_r3 : List Cond := [Cond.methodLink RX2 56 yX6_copyFrom, Cond.instanceMethod yX6_copyFrom, Cond.selects RX6 yX6_copyFrom yX6_copyFrom, Cond.initialized RX6, Cond.code yX6_copyFrom cX6_copyFrom 2 none, Cond.fieldLink RX6 14 "ApplauseTallies$Seats" "loudness" "LApplauseTallies$Row;", Cond.fieldLink RX6 20 "ApplauseTallies$Seats" "early" "LApplauseTallies$Row;", Cond.fieldLink RX6 23 "ApplauseTallies$Seats" "clapsTonight" "LApplauseTallies$Row;", Cond.fieldLink RX6 26 "ApplauseTallies$Seats" "clapsSoFar" "LApplauseTallies$Row;", Cond.fieldLink RX6 29 "ApplauseTallies$Seats" "clappers" "LApplauseTallies$Row;", Cond.fieldLink RX6 39 "ApplauseTallies$Seats" "clapperCount" "I", Cond.fieldLink RX6 43 "ApplauseTallies$Seats" "paid" "I", Cond.fieldLink RX6 46 "ApplauseTallies$Seats" "clappedForPiece" "I", Cond.methodLink RX6 35 yX5_copyFrom, Cond.methodLink RX2 59 yX0_copyFrom, Cond.instanceMethod yX0_copyFrom, Cond.selects RX0 yX0_copyFrom yX0_copyFrom, Cond.initialized RX0, Cond.code yX0_copyFrom cX0_copyFrom 2 none, Cond.fieldLink RX0 14 "ApplauseTallies$Encores" "owers" "LApplauseTallies$Row;", Cond.fieldLink RX0 20 "ApplauseTallies$Encores" "since" "LApplauseTallies$Row;", Cond.fieldLink RX0 23 "ApplauseTallies$Encores" "played" "LApplauseTallies$Row;", Cond.fieldLink RX0 26 "ApplauseTallies$Encores" "lapsed" "LApplauseTallies$Row;", Cond.fieldLink RX0 29 "ApplauseTallies$Encores" "pieces" "LApplauseTallies$Row;"]
def wsL_call_r4 : List Cond := [Cond.fieldLink RX0 36 "ApplauseTallies$Encores" "owedCount" "I", Cond.methodLink RX0 32 yX5_copyFrom, Cond.methodLink RX7 64 yX2_takeClap, Cond.instanceMethod yX2_takeClap, Cond.selects RX2 yX2_takeClap yX2_takeClap, Cond.code yX2_takeClap cX2_takeClap 2 (some .int), Cond.methodLink RX2 117 Lib.Math.min.name, Cond.static yX7_isSeat, Cond.code yX7_isSeat cX7_isSeat 1 (some .boolean), Cond.methodLink RX2 84 yX5_at, Cond.instanceMethod yX5_at, Cond.selects RX5 yX5_at yX5_at, Cond.code yX5_at cX5_at 2 (some .int), Cond.methodLink RX2 113 yX6_addClap, Cond.instanceMethod yX6_addClap, Cond.selects RX6 yX6_addClap yX6_addClap, Cond.code yX6_addClap cX6_addClap 3 none, Cond.methodLink RX6 49 yX6_hasClapped, Cond.instanceMethod yX6_hasClapped, Cond.selects RX6 yX6_hasClapped yX6_hasClapped, Cond.code yX6_hasClapped cX6_hasClapped 2 (some .boolean), Cond.methodLink RX6 53 yX5_add, Cond.instanceMethod yX5_add, Cond.selects RX5 yX5_add yX5_add]
def wsL_call_r5 : List Cond := [Cond.code yX5_add cX5_add 3 none, Cond.methodLink RX6 57 yX5_at, Cond.methodLink RX6 61 yX5_store, Cond.instanceMethod yX5_store, Cond.selects RX5 yX5_store yX5_store, Cond.code yX5_store cX5_store 3 none, Cond.methodLink RX2 107 yX5_add, Cond.methodLink RX2 123 yX2_bringEncore, Cond.instanceMethod yX2_bringEncore, Cond.selects RX2 yX2_bringEncore yX2_bringEncore, Cond.code yX2_bringEncore cX2_bringEncore 1 none, Cond.methodLink RX2 126 yX0_owe, Cond.instanceMethod yX0_owe, Cond.selects RX0 yX0_owe yX0_owe, Cond.code yX0_owe cX0_owe 3 (some .boolean), Cond.methodLink RX0 40 yX5_add, Cond.methodLink RX0 44 yX5_store, Cond.methodLink RX7 51 yX1_keepUnlessError, Cond.instanceMethod yX1_keepUnlessError, Cond.selects RX1 yX1_keepUnlessError yX1_keepUnlessError, Cond.code yX1_keepUnlessError cX1_keepUnlessError 2 (some .int), Cond.fieldLink RX1 18 "ApplauseTallies$History" "kept" "I", Cond.methodLink RX1 33 Lib.Math.min.name, Cond.methodLink RL 40 yX7_ends]
def wsL_call_r6 : List Cond := [Cond.instanceMethod yX7_ends, Cond.selects RX7 yX7_ends yX7_ends, Cond.code yX7_ends cX7_ends 2 (some .int), Cond.methodLink RX7 61 yX2_endPiece, Cond.instanceMethod yX2_endPiece, Cond.selects RX2 yX2_endPiece yX2_endPiece, Cond.code yX2_endPiece cX2_endPiece 3 (some .int), Cond.static yX7_isPerformer, Cond.code yX7_isPerformer cX7_isPerformer 1 (some .boolean), Cond.methodLink RX2 101 yX2_beginApplause, Cond.instanceMethod yX2_beginApplause, Cond.selects RX2 yX2_beginApplause yX2_beginApplause, Cond.code yX2_beginApplause cX2_beginApplause 2 none, Cond.methodLink RX2 110 yX6_beginPiece, Cond.instanceMethod yX6_beginPiece, Cond.selects RX6 yX6_beginPiece yX6_beginPiece, Cond.code yX6_beginPiece cX6_beginPiece 1 none, Cond.methodLink RL 42 yX7_pass, Cond.instanceMethod yX7_pass, Cond.selects RX7 yX7_pass yX7_pass, Cond.code yX7_pass cX7_pass 2 (some .int), Cond.methodLink RX7 67 yX2_letPass, Cond.instanceMethod yX2_letPass, Cond.selects RX2 yX2_letPass yX2_letPass]
def wsL_call_r7 : List Cond := [Cond.code yX2_letPass cX2_letPass 3 (some .int), Cond.constant RX2 130 (99999), Cond.static yX7_afterSecond, Cond.code yX7_afterSecond cX7_afterSecond 2 (some .int), Cond.methodLink RX7 176 Lib.Math.max.name, Cond.static Lib.Math.max.name, Cond.code Lib.Math.max.name Lib.Math.max.code 2 (some .int), Cond.methodLink RX2 134 yX0_lapseSince, Cond.instanceMethod yX0_lapseSince, Cond.selects RX0 yX0_lapseSince yX0_lapseSince, Cond.code yX0_lapseSince cX0_lapseSince 4 (some .int), Cond.methodLink RX0 47 yX5_at, Cond.methodLink RL 45 yX7_play, Cond.instanceMethod yX7_play, Cond.selects RX7 yX7_play yX7_play, Cond.code yX7_play cX7_play 2 (some .int), Cond.methodLink RX7 70 yX2_playEncore, Cond.instanceMethod yX2_playEncore, Cond.selects RX2 yX2_playEncore yX2_playEncore, Cond.code yX2_playEncore cX2_playEncore 2 (some .int), Cond.methodLink RX2 137 yX0_playEarliestOf, Cond.instanceMethod yX0_playEarliestOf, Cond.selects RX0 yX0_playEarliestOf yX0_playEarliestOf, Cond.code yX0_playEarliestOf cX0_playEarliestOf 4 (some .boolean)]
def wsL_call_r8 : List Cond := [Cond.methodLink RX0 51 yX0_earliestOf, Cond.instanceMethod yX0_earliestOf, Cond.selects RX0 yX0_earliestOf yX0_earliestOf, Cond.code yX0_earliestOf cX0_earliestOf 3 (some .int), Cond.methodLink RX2 140 yX0_owedBy, Cond.instanceMethod yX0_owedBy, Cond.selects RX0 yX0_owedBy yX0_owedBy, Cond.code yX0_owedBy cX0_owedBy 4 (some .int), Cond.methodLink RL 48 yX7_call, Cond.instanceMethod yX7_call, Cond.selects RX7 yX7_call yX7_call, Cond.code yX7_call cX7_call 1 (some .int), Cond.methodLink RX7 73 yX2_takeCurtain, Cond.instanceMethod yX2_takeCurtain, Cond.selects RX2 yX2_takeCurtain yX2_takeCurtain, Cond.code yX2_takeCurtain cX2_takeCurtain 1 (some .int), Cond.methodLink RL 52 yX7_night, Cond.instanceMethod yX7_night, Cond.selects RX7 yX7_night yX7_night, Cond.code yX7_night cX7_night 1 (some .int), Cond.methodLink RX7 77 yX2_endNight, Cond.instanceMethod yX2_endNight, Cond.selects RX2 yX2_endNight yX2_endNight, Cond.code yX2_endNight cX2_endNight 3 (some .int)]
def wsL_call_r9 : List Cond := [Cond.methodLink RX2 143 yX2_recordPlace, Cond.static yX2_recordPlace, Cond.code yX2_recordPlace cX2_recordPlace 2 (some .int), Cond.methodLink RX2 48 yX5_store, Cond.methodLink RX2 146 yX5_fill, Cond.instanceMethod yX5_fill, Cond.selects RX5 yX5_fill yX5_fill, Cond.code yX5_fill cX5_fill 3 none, Cond.methodLink RX2 149 yX6_beginNight, Cond.instanceMethod yX6_beginNight, Cond.selects RX6 yX6_beginNight yX6_beginNight, Cond.code yX6_beginNight cX6_beginNight 1 none, Cond.methodLink RX6 32 yX5_fill, Cond.methodLink RL 55 yX7_loud, Cond.instanceMethod yX7_loud, Cond.selects RX7 yX7_loud yX7_loud, Cond.code yX7_loud cX7_loud 3 (some .int), Cond.methodLink RX7 55 yX2_changeLoudness, Cond.instanceMethod yX2_changeLoudness, Cond.selects RX2 yX2_changeLoudness yX2_changeLoudness, Cond.code yX2_changeLoudness cX2_changeLoudness 4 (some .int), Cond.methodLink RL 59 yX7_pay, Cond.instanceMethod yX7_pay, Cond.selects RX7 yX7_pay yX7_pay]
def wsL_call_r10 : List Cond := [Cond.code yX7_pay cX7_pay 2 (some .int), Cond.methodLink RX7 58 yX2_switchPay, Cond.instanceMethod yX2_switchPay, Cond.selects RX2 yX2_switchPay yX2_switchPay, Cond.code yX2_switchPay cX2_switchPay 2 (some .int), Cond.methodLink RL 62 yX7_set, Cond.instanceMethod yX7_set, Cond.selects RX7 yX7_set yX7_set, Cond.code yX7_set cX7_set 3 (some .int), Cond.methodLink RX7 47 yX2_changeSetting, Cond.instanceMethod yX2_changeSetting, Cond.selects RX2 yX2_changeSetting yX2_changeSetting, Cond.code yX2_changeSetting cX2_changeSetting 4 (some .int)]
def wsL_call : List Cond := .code yL_call cL_call 4 (some .int) :: ((wsL_call_r1 ++ (wsL_call_r2 ++ (wsL_call_r3 ++ (wsL_call_r4 ++ (wsL_call_r5 ++ (wsL_call_r6 ++ (wsL_call_r7 ++ (wsL_call_r8 ++ (wsL_call_r9 ++ wsL_call_r10))))))))) ++ wsX70 ++ wsX10 ++ wsX20 ++ wsX50 ++ wsX60 ++ wsX00)
def wsL_ofRest : List Cond := .code yL_ofRest cL_ofRest 7 (some .int) :: ([.methodLink RL 65 yL_seats, .static yL_seats, .initialized RL, .code yL_seats cL_seats 6 (some .int)])
def wsL_sum : List Cond := .code yL_sum cL_sum 4 (some .int) :: ([])
def wsL_isSeat_r1 : List Cond := [Cond.methodLink RL 69 yX7_of, Cond.instanceMethod yX7_of, Cond.selects RX7 yX7_of yX7_of, Cond.initialized RX7, Cond.code yX7_of cX7_of 3 (some .int), Cond.fieldLink RX7 10 "ApplauseTallies" "house" "LApplauseTallies$House;", Cond.methodLink RX7 89 yX2_aboutSeat, Cond.instanceMethod yX2_aboutSeat, Cond.selects RX2 yX2_aboutSeat yX2_aboutSeat, Cond.initialized RX2, Cond.code yX2_aboutSeat cX2_aboutSeat 3 (some .int), Cond.fieldLink RX2 23 "ApplauseTallies$House" "seats" "LApplauseTallies$Seats;", Cond.fieldLink RX2 14 "ApplauseTallies$House" "settings" "LApplauseTallies$Row;", Cond.static yX7_isSeat, Cond.code yX7_isSeat cX7_isSeat 1 (some .boolean), Cond.methodLink RX2 84 yX5_at, Cond.instanceMethod yX5_at, Cond.selects RX5 yX5_at yX5_at, Cond.initialized RX5, Cond.code yX5_at cX5_at 2 (some .int), Cond.fieldLink RX5 13 "ApplauseTallies$Row" "cells" "[I", Cond.methodLink RX2 164 yX6_hasClapped, Cond.instanceMethod yX6_hasClapped, Cond.selects RX6 yX6_hasClapped yX6_hasClapped]
def wsL_isSeat_r2 : List Cond := [Cond.initialized RX6, Cond.code yX6_hasClapped cX6_hasClapped 2 (some .boolean), Cond.fieldLink RX6 46 "ApplauseTallies$Seats" "clappedForPiece" "I", Cond.methodLink RL 72 yX7_clapsFor, Cond.instanceMethod yX7_clapsFor, Cond.selects RX7 yX7_clapsFor yX7_clapsFor, Cond.code yX7_clapsFor cX7_clapsFor 2 (some .int), Cond.methodLink RX7 137 yX2_clapsUntilEncore, Cond.instanceMethod yX2_clapsUntilEncore, Cond.selects RX2 yX2_clapsUntilEncore yX2_clapsUntilEncore, Cond.code yX2_clapsUntilEncore cX2_clapsUntilEncore 4 (some .int), Cond.fieldLink RX2 40 "ApplauseTallies$House" "pieceBy" "I", Cond.fieldLink RX2 74 "ApplauseTallies$House" "encoreCame" "Z", Cond.fieldLink RX2 62 "ApplauseTallies$House" "applause" "I", Cond.methodLink RL 75 yX7_clapper, Cond.instanceMethod yX7_clapper, Cond.selects RX7 yX7_clapper yX7_clapper, Cond.code yX7_clapper cX7_clapper 2 (some .int), Cond.methodLink RX7 113 yX6_clapperAt, Cond.instanceMethod yX6_clapperAt, Cond.selects RX6 yX6_clapperAt yX6_clapperAt, Cond.code yX6_clapperAt cX6_clapperAt 2 (some .int), Cond.fieldLink RX6 39 "ApplauseTallies$Seats" "clapperCount" "I", Cond.fieldLink RX6 29 "ApplauseTallies$Seats" "clappers" "LApplauseTallies$Row;"]
def wsL_isSeat_r3 : List Cond := [Cond.methodLink RX6 57 yX5_at]
def wsL_isSeat : List Cond := .code yL_isSeat cL_isSeat 13 (some .boolean) :: ((wsL_isSeat_r1 ++ (wsL_isSeat_r2 ++ wsL_isSeat_r3)) ++ wsX70 ++ wsX20 ++ wsX60 ++ wsX50)
def wsL_isSo_r1 : List Cond := [Cond.methodLink RL 78 yX7_count, Cond.instanceMethod yX7_count, Cond.selects RX7 yX7_count yX7_count, Cond.initialized RX7, Cond.code yX7_count cX7_count 2 (some .int), Cond.fieldLink RX7 30 "ApplauseTallies" "pad" "LApplauseTallies$Pad;", Cond.fieldLink RX7 19 "ApplauseTallies" "history" "LApplauseTallies$History;", Cond.fieldLink RX7 10 "ApplauseTallies" "house" "LApplauseTallies$House;", Cond.methodLink RX7 86 yX4_length, Cond.instanceMethod yX4_length, Cond.selects RX4 yX4_length yX4_length, Cond.initialized RX4, Cond.code yX4_length cX4_length 1 (some .int), Cond.fieldLink RX4 15 "ApplauseTallies$Pad" "length" "I", Cond.methodLink RX7 128 yX1_kept, Cond.instanceMethod yX1_kept, Cond.selects RX1 yX1_kept yX1_kept, Cond.initialized RX1, Cond.code yX1_kept cX1_kept 1 (some .int), Cond.fieldLink RX1 18 "ApplauseTallies$History" "kept" "I", Cond.methodLink RX7 131 yX2_numberOf, Cond.instanceMethod yX2_numberOf, Cond.selects RX2 yX2_numberOf yX2_numberOf, Cond.initialized RX2]
def wsL_isSo_r2 : List Cond := [Cond.code yX2_numberOf cX2_numberOf 2 (some .int), Cond.fieldLink RX2 62 "ApplauseTallies$House" "applause" "I", Cond.fieldLink RX2 65 "ApplauseTallies$House" "time" "I", Cond.fieldLink RX2 68 "ApplauseTallies$House" "nights" "I", Cond.fieldLink RX2 34 "ApplauseTallies$House" "tonight" "LApplauseTallies$Row;", Cond.fieldLink RX2 30 "ApplauseTallies$House" "encores" "LApplauseTallies$Encores;", Cond.fieldLink RX2 40 "ApplauseTallies$House" "pieceBy" "I", Cond.fieldLink RX2 71 "ApplauseTallies$House" "pieceEnd" "I", Cond.fieldLink RX2 23 "ApplauseTallies$House" "seats" "LApplauseTallies$Seats;", Cond.fieldLink RX2 14 "ApplauseTallies$House" "settings" "LApplauseTallies$Row;", Cond.methodLink RX2 84 yX5_at, Cond.instanceMethod yX5_at, Cond.selects RX5 yX5_at yX5_at, Cond.initialized RX5, Cond.code yX5_at cX5_at 2 (some .int), Cond.fieldLink RX5 13 "ApplauseTallies$Row" "cells" "[I", Cond.methodLink RX2 179 yX5_sum, Cond.instanceMethod yX5_sum, Cond.selects RX5 yX5_sum yX5_sum, Cond.code yX5_sum cX5_sum 3 (some .int), Cond.methodLink RX2 186 yX2_suspectedNow, Cond.instanceMethod yX2_suspectedNow, Cond.selects RX2 yX2_suspectedNow yX2_suspectedNow, Cond.code yX2_suspectedNow cX2_suspectedNow 1 (some .int)]
def wsL_isSo_r3 : List Cond := [Cond.methodLink RX2 170 yX6_suspected, Cond.instanceMethod yX6_suspected, Cond.selects RX6 yX6_suspected yX6_suspected, Cond.initialized RX6, Cond.code yX6_suspected cX6_suspected 4 (some .int), Cond.fieldLink RX6 20 "ApplauseTallies$Seats" "early" "LApplauseTallies$Row;", Cond.methodLink RX6 57 yX5_at, Cond.methodLink RL 81 yL_sum, Cond.static yL_sum, Cond.initialized RL, Cond.code yL_sum cL_sum 4 (some .int), Cond.methodLink RL 65 yL_seats, Cond.static yL_seats, Cond.code yL_seats cL_seats 6 (some .int), Cond.methodLink RL 84 yL_low, Cond.static yL_low, Cond.code yL_low cL_low 2 (some .int), Cond.constant RL 9 (2147483647), Cond.methodLink RL 23 yL_earliest, Cond.static yL_earliest, Cond.code yL_earliest cL_earliest 5 (some .int), Cond.methodLink RL 87 yX7_performer, Cond.instanceMethod yX7_performer, Cond.selects RX7 yX7_performer yX7_performer]
def wsL_isSo_r4 : List Cond := [Cond.code yX7_performer cX7_performer 3 (some .int), Cond.methodLink RX7 96 yX0_aboutPerformer, Cond.instanceMethod yX0_aboutPerformer, Cond.selects RX0 yX0_aboutPerformer yX0_aboutPerformer, Cond.initialized RX0, Cond.code yX0_aboutPerformer cX0_aboutPerformer 3 (some .int), Cond.fieldLink RX0 23 "ApplauseTallies$Encores" "played" "LApplauseTallies$Row;", Cond.fieldLink RX0 26 "ApplauseTallies$Encores" "lapsed" "LApplauseTallies$Row;", Cond.fieldLink RX0 29 "ApplauseTallies$Encores" "pieces" "LApplauseTallies$Row;", Cond.static yX7_isPerformer, Cond.code yX7_isPerformer cX7_isPerformer 1 (some .boolean), Cond.methodLink RX0 58 yX0_owedBy, Cond.instanceMethod yX0_owedBy, Cond.selects RX0 yX0_owedBy yX0_owedBy, Cond.code yX0_owedBy cX0_owedBy 4 (some .int), Cond.fieldLink RX0 36 "ApplauseTallies$Encores" "owedCount" "I", Cond.fieldLink RX0 14 "ApplauseTallies$Encores" "owers" "LApplauseTallies$Row;", Cond.methodLink RX0 47 yX5_at, Cond.methodLink RL 31 yL_owes, Cond.static yL_owes, Cond.code yL_owes cL_owes 5 (some .int), Cond.methodLink RL 90 yX7_lapsesIn, Cond.instanceMethod yX7_lapsesIn, Cond.selects RX7 yX7_lapsesIn yX7_lapsesIn]
def wsL_isSo_r5 : List Cond := [Cond.code yX7_lapsesIn cX7_lapsesIn 2 (some .int), Cond.methodLink RX7 140 yX2_secondsUntilLapse, Cond.instanceMethod yX2_secondsUntilLapse, Cond.selects RX2 yX2_secondsUntilLapse yX2_secondsUntilLapse, Cond.code yX2_secondsUntilLapse cX2_secondsUntilLapse 4 (some .int), Cond.methodLink RX2 195 Lib.Math.max.name, Cond.static Lib.Math.max.name, Cond.initialized "java/lang/Math", Cond.code Lib.Math.max.name Lib.Math.max.code 2 (some .int), Cond.methodLink RX2 189 yX0_earliestOf, Cond.instanceMethod yX0_earliestOf, Cond.selects RX0 yX0_earliestOf yX0_earliestOf, Cond.code yX0_earliestOf cX0_earliestOf 3 (some .int), Cond.methodLink RL 93 yX7_owed, Cond.instanceMethod yX7_owed, Cond.selects RX7 yX7_owed yX7_owed, Cond.code yX7_owed cX7_owed 3 (some .int), Cond.methodLink RX7 105 yX0_aboutOwed, Cond.instanceMethod yX0_aboutOwed, Cond.selects RX0 yX0_aboutOwed yX0_aboutOwed, Cond.code yX0_aboutOwed cX0_aboutOwed 4 (some .int), Cond.fieldLink RX0 20 "ApplauseTallies$Encores" "since" "LApplauseTallies$Row;", Cond.methodLink RL 96 yX7_record, Cond.instanceMethod yX7_record]
def wsL_isSo_r6 : List Cond := [Cond.selects RX7 yX7_record yX7_record, Cond.code yX7_record cX7_record 3 (some .int), Cond.methodLink RX7 118 yX2_recordOf, Cond.instanceMethod yX2_recordOf, Cond.selects RX2 yX2_recordOf yX2_recordOf, Cond.code yX2_recordOf cX2_recordOf 3 (some .int), Cond.methodLink RX2 117 Lib.Math.min.name, Cond.static Lib.Math.min.name, Cond.code Lib.Math.min.name Lib.Math.min.code 2 (some .int), Cond.fieldLink RX2 37 "ApplauseTallies$House" "records" "LApplauseTallies$Row;", Cond.methodLink RX2 143 yX2_recordPlace, Cond.static yX2_recordPlace, Cond.code yX2_recordPlace cX2_recordPlace 2 (some .int), Cond.methodLink RL 99 yX7_ifFound, Cond.instanceMethod yX7_ifFound, Cond.selects RX7 yX7_ifFound yX7_ifFound, Cond.code yX7_ifFound cX7_ifFound 2 (some .int), Cond.fieldLink RX7 146 "ApplauseTallies" "LEAST" "[I", Cond.fieldLink RX7 150 "ApplauseTallies" "MOST" "[I", Cond.methodLink RX7 153 yX6_suspected, Cond.methodLink RL 16 yL_less, Cond.static yL_less, Cond.code yL_less cL_less 3 (some .int), Cond.methodLink RL 102 yX7_quietIn]
def wsL_isSo_r7 : List Cond := [Cond.instanceMethod yX7_quietIn, Cond.selects RX7 yX7_quietIn yX7_quietIn, Cond.code yX7_quietIn cX7_quietIn 2 (some .int), Cond.methodLink RX7 134 yX2_secondsUntil, Cond.instanceMethod yX2_secondsUntil, Cond.selects RX2 yX2_secondsUntil yX2_secondsUntil, Cond.code yX2_secondsUntil cX2_secondsUntil 4 (some .int), Cond.static yX7_afterSecond, Cond.code yX7_afterSecond cX7_afterSecond 2 (some .int), Cond.methodLink RX7 176 Lib.Math.max.name, Cond.methodLink RL 105 yX7_calls, Cond.instanceMethod yX7_calls, Cond.selects RX7 yX7_calls yX7_calls, Cond.code yX7_calls cX7_calls 1 (some .int), Cond.methodLink RX7 143 yX2_curtainsLeft, Cond.instanceMethod yX2_curtainsLeft, Cond.selects RX2 yX2_curtainsLeft yX2_curtainsLeft, Cond.code yX2_curtainsLeft cX2_curtainsLeft 3 (some .int), Cond.methodLink RL 108 yL_isSeat, Cond.static yL_isSeat, Cond.code yL_isSeat cL_isSeat 13 (some .boolean), Cond.methodLink RL 69 yX7_of, Cond.instanceMethod yX7_of, Cond.selects RX7 yX7_of yX7_of]
def wsL_isSo_r8 : List Cond := [Cond.code yX7_of cX7_of 3 (some .int), Cond.methodLink RX7 89 yX2_aboutSeat, Cond.instanceMethod yX2_aboutSeat, Cond.selects RX2 yX2_aboutSeat yX2_aboutSeat, Cond.code yX2_aboutSeat cX2_aboutSeat 3 (some .int), Cond.static yX7_isSeat, Cond.code yX7_isSeat cX7_isSeat 1 (some .boolean), Cond.methodLink RX2 164 yX6_hasClapped, Cond.instanceMethod yX6_hasClapped, Cond.selects RX6 yX6_hasClapped yX6_hasClapped, Cond.code yX6_hasClapped cX6_hasClapped 2 (some .boolean), Cond.fieldLink RX6 46 "ApplauseTallies$Seats" "clappedForPiece" "I", Cond.methodLink RL 72 yX7_clapsFor, Cond.instanceMethod yX7_clapsFor, Cond.selects RX7 yX7_clapsFor yX7_clapsFor, Cond.code yX7_clapsFor cX7_clapsFor 2 (some .int), Cond.methodLink RX7 137 yX2_clapsUntilEncore, Cond.instanceMethod yX2_clapsUntilEncore, Cond.selects RX2 yX2_clapsUntilEncore yX2_clapsUntilEncore, Cond.code yX2_clapsUntilEncore cX2_clapsUntilEncore 4 (some .int), Cond.fieldLink RX2 74 "ApplauseTallies$House" "encoreCame" "Z", Cond.methodLink RL 75 yX7_clapper, Cond.instanceMethod yX7_clapper, Cond.selects RX7 yX7_clapper yX7_clapper]
def wsL_isSo_r9 : List Cond := [Cond.code yX7_clapper cX7_clapper 2 (some .int), Cond.methodLink RX7 113 yX6_clapperAt, Cond.instanceMethod yX6_clapperAt, Cond.selects RX6 yX6_clapperAt yX6_clapperAt, Cond.code yX6_clapperAt cX6_clapperAt 2 (some .int), Cond.fieldLink RX6 39 "ApplauseTallies$Seats" "clapperCount" "I", Cond.fieldLink RX6 29 "ApplauseTallies$Seats" "clappers" "LApplauseTallies$Row;"]
def wsL_isSo : List Cond := .code yL_isSo cL_isSo 21 (some .boolean) :: ((wsL_isSo_r1 ++ (wsL_isSo_r2 ++ (wsL_isSo_r3 ++ (wsL_isSo_r4 ++ (wsL_isSo_r5 ++ (wsL_isSo_r6 ++ (wsL_isSo_r7 ++ (wsL_isSo_r8 ++ wsL_isSo_r9)))))))) ++ wsX70 ++ wsX40 ++ wsX10 ++ wsX20 ++ wsX00 ++ wsX60 ++ wsX50)
def wsL_told_r1 : List Cond := [Cond.constantLong RL 112 (229), Cond.constantLong RL 114 (31), Cond.constantLong RL 116 (100), Cond.constantLong RL 118 (1000), Cond.methodLink RL 78 yX7_count, Cond.instanceMethod yX7_count, Cond.selects RX7 yX7_count yX7_count, Cond.initialized RX7, Cond.code yX7_count cX7_count 2 (some .int), Cond.fieldLink RX7 30 "ApplauseTallies" "pad" "LApplauseTallies$Pad;", Cond.fieldLink RX7 19 "ApplauseTallies" "history" "LApplauseTallies$History;", Cond.fieldLink RX7 10 "ApplauseTallies" "house" "LApplauseTallies$House;", Cond.methodLink RX7 86 yX4_length, Cond.instanceMethod yX4_length, Cond.selects RX4 yX4_length yX4_length, Cond.initialized RX4, Cond.code yX4_length cX4_length 1 (some .int), Cond.fieldLink RX4 15 "ApplauseTallies$Pad" "length" "I", Cond.methodLink RX7 128 yX1_kept, Cond.instanceMethod yX1_kept, Cond.selects RX1 yX1_kept yX1_kept, Cond.initialized RX1, Cond.code yX1_kept cX1_kept 1 (some .int), Cond.fieldLink RX1 18 "ApplauseTallies$History" "kept" "I"]
def wsL_told_r2 : List Cond := [Cond.methodLink RX7 131 yX2_numberOf, Cond.instanceMethod yX2_numberOf, Cond.selects RX2 yX2_numberOf yX2_numberOf, Cond.initialized RX2, Cond.code yX2_numberOf cX2_numberOf 2 (some .int), Cond.fieldLink RX2 62 "ApplauseTallies$House" "applause" "I", Cond.fieldLink RX2 65 "ApplauseTallies$House" "time" "I", Cond.fieldLink RX2 68 "ApplauseTallies$House" "nights" "I", Cond.fieldLink RX2 34 "ApplauseTallies$House" "tonight" "LApplauseTallies$Row;", Cond.fieldLink RX2 30 "ApplauseTallies$House" "encores" "LApplauseTallies$Encores;", Cond.fieldLink RX2 40 "ApplauseTallies$House" "pieceBy" "I", Cond.fieldLink RX2 71 "ApplauseTallies$House" "pieceEnd" "I", Cond.fieldLink RX2 23 "ApplauseTallies$House" "seats" "LApplauseTallies$Seats;", Cond.fieldLink RX2 14 "ApplauseTallies$House" "settings" "LApplauseTallies$Row;", Cond.methodLink RX2 84 yX5_at, Cond.instanceMethod yX5_at, Cond.selects RX5 yX5_at yX5_at, Cond.initialized RX5, Cond.code yX5_at cX5_at 2 (some .int), Cond.fieldLink RX5 13 "ApplauseTallies$Row" "cells" "[I", Cond.methodLink RX2 179 yX5_sum, Cond.instanceMethod yX5_sum, Cond.selects RX5 yX5_sum yX5_sum, Cond.code yX5_sum cX5_sum 3 (some .int)]
def wsL_told_r3 : List Cond := [Cond.methodLink RX2 186 yX2_suspectedNow, Cond.instanceMethod yX2_suspectedNow, Cond.selects RX2 yX2_suspectedNow yX2_suspectedNow, Cond.code yX2_suspectedNow cX2_suspectedNow 1 (some .int), Cond.methodLink RX2 170 yX6_suspected, Cond.instanceMethod yX6_suspected, Cond.selects RX6 yX6_suspected yX6_suspected, Cond.initialized RX6, Cond.code yX6_suspected cX6_suspected 4 (some .int), Cond.fieldLink RX6 20 "ApplauseTallies$Seats" "early" "LApplauseTallies$Row;", Cond.methodLink RX6 57 yX5_at, Cond.methodLink RL 69 yX7_of, Cond.instanceMethod yX7_of, Cond.selects RX7 yX7_of yX7_of, Cond.code yX7_of cX7_of 3 (some .int), Cond.methodLink RX7 89 yX2_aboutSeat, Cond.instanceMethod yX2_aboutSeat, Cond.selects RX2 yX2_aboutSeat yX2_aboutSeat, Cond.code yX2_aboutSeat cX2_aboutSeat 3 (some .int), Cond.static yX7_isSeat, Cond.code yX7_isSeat cX7_isSeat 1 (some .boolean), Cond.methodLink RX2 164 yX6_hasClapped, Cond.instanceMethod yX6_hasClapped, Cond.selects RX6 yX6_hasClapped yX6_hasClapped]
def wsL_told_r4 : List Cond := [Cond.code yX6_hasClapped cX6_hasClapped 2 (some .boolean), Cond.fieldLink RX6 46 "ApplauseTallies$Seats" "clappedForPiece" "I", Cond.methodLink RL 75 yX7_clapper, Cond.instanceMethod yX7_clapper, Cond.selects RX7 yX7_clapper yX7_clapper, Cond.code yX7_clapper cX7_clapper 2 (some .int), Cond.methodLink RX7 113 yX6_clapperAt, Cond.instanceMethod yX6_clapperAt, Cond.selects RX6 yX6_clapperAt yX6_clapperAt, Cond.code yX6_clapperAt cX6_clapperAt 2 (some .int), Cond.fieldLink RX6 39 "ApplauseTallies$Seats" "clapperCount" "I", Cond.fieldLink RX6 29 "ApplauseTallies$Seats" "clappers" "LApplauseTallies$Row;", Cond.methodLink RL 87 yX7_performer, Cond.instanceMethod yX7_performer, Cond.selects RX7 yX7_performer yX7_performer, Cond.code yX7_performer cX7_performer 3 (some .int), Cond.methodLink RX7 96 yX0_aboutPerformer, Cond.instanceMethod yX0_aboutPerformer, Cond.selects RX0 yX0_aboutPerformer yX0_aboutPerformer, Cond.initialized RX0, Cond.code yX0_aboutPerformer cX0_aboutPerformer 3 (some .int), Cond.fieldLink RX0 23 "ApplauseTallies$Encores" "played" "LApplauseTallies$Row;", Cond.fieldLink RX0 26 "ApplauseTallies$Encores" "lapsed" "LApplauseTallies$Row;", Cond.fieldLink RX0 29 "ApplauseTallies$Encores" "pieces" "LApplauseTallies$Row;"]
def wsL_told_r5 : List Cond := [Cond.static yX7_isPerformer, Cond.code yX7_isPerformer cX7_isPerformer 1 (some .boolean), Cond.methodLink RX0 58 yX0_owedBy, Cond.instanceMethod yX0_owedBy, Cond.selects RX0 yX0_owedBy yX0_owedBy, Cond.code yX0_owedBy cX0_owedBy 4 (some .int), Cond.fieldLink RX0 36 "ApplauseTallies$Encores" "owedCount" "I", Cond.fieldLink RX0 14 "ApplauseTallies$Encores" "owers" "LApplauseTallies$Row;", Cond.methodLink RX0 47 yX5_at, Cond.methodLink RL 93 yX7_owed, Cond.instanceMethod yX7_owed, Cond.selects RX7 yX7_owed yX7_owed, Cond.code yX7_owed cX7_owed 3 (some .int), Cond.methodLink RX7 105 yX0_aboutOwed, Cond.instanceMethod yX0_aboutOwed, Cond.selects RX0 yX0_aboutOwed yX0_aboutOwed, Cond.code yX0_aboutOwed cX0_aboutOwed 4 (some .int), Cond.fieldLink RX0 20 "ApplauseTallies$Encores" "since" "LApplauseTallies$Row;", Cond.methodLink RL 96 yX7_record, Cond.instanceMethod yX7_record, Cond.selects RX7 yX7_record yX7_record, Cond.code yX7_record cX7_record 3 (some .int), Cond.methodLink RX7 118 yX2_recordOf, Cond.instanceMethod yX2_recordOf]
def wsL_told_r6 : List Cond := [Cond.selects RX2 yX2_recordOf yX2_recordOf, Cond.code yX2_recordOf cX2_recordOf 3 (some .int), Cond.methodLink RX2 117 Lib.Math.min.name, Cond.static Lib.Math.min.name, Cond.initialized "java/lang/Math", Cond.code Lib.Math.min.name Lib.Math.min.code 2 (some .int), Cond.fieldLink RX2 37 "ApplauseTallies$House" "records" "LApplauseTallies$Row;", Cond.methodLink RX2 143 yX2_recordPlace, Cond.static yX2_recordPlace, Cond.code yX2_recordPlace cX2_recordPlace 2 (some .int)]
def wsL_told : List Cond := .code yL_told cL_told 4 (some .long) :: ((wsL_told_r1 ++ (wsL_told_r2 ++ (wsL_told_r3 ++ (wsL_told_r4 ++ (wsL_told_r5 ++ wsL_told_r6))))) ++ wsX70 ++ wsX40 ++ wsX10 ++ wsX20 ++ wsX00 ++ wsX60 ++ wsX50)
def wsL_law_r1 : List Cond := [Cond.classLink RL 35 RX7, Cond.instantiable RX7 5, Cond.initialized RX7, Cond.arrayClass .int, Cond.methodLink RL 120 yX7_init, Cond.instanceMethod yX7_init, Cond.code yX7_init cX7_init 1 none, Cond.methodLink RX7 1 objectInit, Cond.instanceMethod objectInit, Cond.code objectInit ⟨#[0xb1]⟩ 1 none, Cond.classLink RX7 7 RX2, Cond.instantiable RX2 11, Cond.initialized RX2, Cond.fieldLink RX7 10 "ApplauseTallies" "house" "LApplauseTallies$House;", Cond.classLink RX7 16 RX1, Cond.instantiable RX1 3, Cond.initialized RX1, Cond.fieldLink RX7 19 "ApplauseTallies" "history" "LApplauseTallies$History;", Cond.fieldLink RX7 23 "ApplauseTallies" "slots" "[LApplauseTallies$House;", Cond.classLink RX7 27 RX4, Cond.instantiable RX4 2, Cond.initialized RX4, Cond.fieldLink RX7 30 "ApplauseTallies" "pad" "LApplauseTallies$Pad;", Cond.classLink RX7 34 RX3]
def wsL_law_r2 : List Cond := [Cond.instantiable RX3 5, Cond.initialized RX3, Cond.fieldLink RX7 39 "ApplauseTallies" "reader" "LApplauseTallies$OrderReader;", Cond.methodLink RX7 9 yX2_init, Cond.instanceMethod yX2_init, Cond.code yX2_init cX2_init 2 none, Cond.methodLink RX2 3 objectInit, Cond.classLink RX2 9 RX5, Cond.instantiable RX5 1, Cond.initialized RX5, Cond.fieldLink RX2 14 "ApplauseTallies$House" "settings" "LApplauseTallies$Row;", Cond.classLink RX2 20 RX6, Cond.instantiable RX6 8, Cond.initialized RX6, Cond.fieldLink RX2 23 "ApplauseTallies$House" "seats" "LApplauseTallies$Seats;", Cond.classLink RX2 27 RX0, Cond.instantiable RX0 6, Cond.initialized RX0, Cond.fieldLink RX2 30 "ApplauseTallies$House" "encores" "LApplauseTallies$Encores;", Cond.fieldLink RX2 34 "ApplauseTallies$House" "tonight" "LApplauseTallies$Row;", Cond.fieldLink RX2 37 "ApplauseTallies$House" "records" "LApplauseTallies$Row;", Cond.fieldLink RX2 40 "ApplauseTallies$House" "pieceBy" "I", Cond.methodLink RX2 11 yX5_init, Cond.instanceMethod yX5_init]
def wsL_law_r3 : List Cond := [Cond.code yX5_init cX5_init 2 none, Cond.methodLink RX5 1 objectInit, Cond.methodLink RX5 7 Lib.Math.max.name, Cond.static Lib.Math.max.name, Cond.initialized "java/lang/Math", Cond.code Lib.Math.max.name Lib.Math.max.code 2 (some .int), Cond.fieldLink RX5 13 "ApplauseTallies$Row" "cells" "[I", Cond.methodLink RX2 22 yX6_init, Cond.instanceMethod yX6_init, Cond.code yX6_init cX6_init 1 none, Cond.methodLink RX6 3 objectInit, Cond.classLink RX6 9 RX5, Cond.fieldLink RX6 14 "ApplauseTallies$Seats" "loudness" "LApplauseTallies$Row;", Cond.fieldLink RX6 20 "ApplauseTallies$Seats" "early" "LApplauseTallies$Row;", Cond.fieldLink RX6 23 "ApplauseTallies$Seats" "clapsTonight" "LApplauseTallies$Row;", Cond.fieldLink RX6 26 "ApplauseTallies$Seats" "clapsSoFar" "LApplauseTallies$Row;", Cond.fieldLink RX6 29 "ApplauseTallies$Seats" "clappers" "LApplauseTallies$Row;", Cond.methodLink RX6 11 yX5_init, Cond.methodLink RX6 32 yX5_fill, Cond.instanceMethod yX5_fill, Cond.selects RX5 yX5_fill yX5_fill, Cond.code yX5_fill cX5_fill 3 none, Cond.instanceMethod yX0_init, Cond.code yX0_init cX0_init 1 none]
def wsL_law_r4 : List Cond := [Cond.methodLink RX0 3 objectInit, Cond.classLink RX0 9 RX5, Cond.fieldLink RX0 14 "ApplauseTallies$Encores" "owers" "LApplauseTallies$Row;", Cond.fieldLink RX0 20 "ApplauseTallies$Encores" "since" "LApplauseTallies$Row;", Cond.fieldLink RX0 23 "ApplauseTallies$Encores" "played" "LApplauseTallies$Row;", Cond.fieldLink RX0 26 "ApplauseTallies$Encores" "lapsed" "LApplauseTallies$Row;", Cond.fieldLink RX0 29 "ApplauseTallies$Encores" "pieces" "LApplauseTallies$Row;", Cond.methodLink RX0 11 yX5_init, Cond.methodLink RX2 48 yX5_store, Cond.instanceMethod yX5_store, Cond.selects RX5 yX5_store yX5_store, Cond.code yX5_store cX5_store 3 none, Cond.methodLink RX7 18 yX1_init, Cond.instanceMethod yX1_init, Cond.code yX1_init cX1_init 2 none, Cond.methodLink RX1 3 objectInit, Cond.classLink RX1 11 RX2, Cond.fieldLink RX1 13 "ApplauseTallies$History" "states" "[LApplauseTallies$House;", Cond.methodLink RX1 17 yX2_init, Cond.instanceMethod yX4_init, Cond.code yX4_init cX4_init 1 none, Cond.methodLink RX4 3 objectInit, Cond.fieldLink RX4 9 "ApplauseTallies$Pad" "codes" "[I", Cond.methodLink RX7 36 yX3_init]
def wsL_law_r5 : List Cond := [Cond.instanceMethod yX3_init, Cond.code yX3_init cX3_init 2 none, Cond.methodLink RX3 3 objectInit, Cond.fieldLink RX3 9 "ApplauseTallies$OrderReader" "pad" "LApplauseTallies$Pad;", Cond.methodLink RL 121 yL_cell, Cond.static yL_cell, Cond.initialized RL, Cond.code yL_cell cL_cell 2 (some .int), Cond.constant RL 7 (42307), Cond.constant RL 8 (2742257), Cond.methodLink RL 84 yL_low, Cond.static yL_low, Cond.code yL_low cL_low 2 (some .int), Cond.constant RL 9 (2147483647), Cond.methodLink RL 125 yL_told, Cond.static yL_told, Cond.code yL_told cL_told 4 (some .long), Cond.constantLong RL 112 (229), Cond.constantLong RL 114 (31), Cond.constantLong RL 116 (100), Cond.constantLong RL 118 (1000), Cond.methodLink RL 78 yX7_count, Cond.instanceMethod yX7_count, Cond.selects RX7 yX7_count yX7_count]
def wsL_law_r6 : List Cond := [Cond.code yX7_count cX7_count 2 (some .int), Cond.methodLink RX7 86 yX4_length, Cond.instanceMethod yX4_length, Cond.selects RX4 yX4_length yX4_length, Cond.code yX4_length cX4_length 1 (some .int), Cond.fieldLink RX4 15 "ApplauseTallies$Pad" "length" "I", Cond.methodLink RX7 128 yX1_kept, Cond.instanceMethod yX1_kept, Cond.selects RX1 yX1_kept yX1_kept, Cond.code yX1_kept cX1_kept 1 (some .int), Cond.fieldLink RX1 18 "ApplauseTallies$History" "kept" "I", Cond.methodLink RX7 131 yX2_numberOf, Cond.instanceMethod yX2_numberOf, Cond.selects RX2 yX2_numberOf yX2_numberOf, Cond.code yX2_numberOf cX2_numberOf 2 (some .int), Cond.fieldLink RX2 62 "ApplauseTallies$House" "applause" "I", Cond.fieldLink RX2 65 "ApplauseTallies$House" "time" "I", Cond.fieldLink RX2 68 "ApplauseTallies$House" "nights" "I", Cond.fieldLink RX2 71 "ApplauseTallies$House" "pieceEnd" "I", Cond.methodLink RX2 84 yX5_at, Cond.instanceMethod yX5_at, Cond.selects RX5 yX5_at yX5_at, Cond.code yX5_at cX5_at 2 (some .int), Cond.methodLink RX2 179 yX5_sum]
def wsL_law_r7 : List Cond := [Cond.instanceMethod yX5_sum, Cond.selects RX5 yX5_sum yX5_sum, Cond.code yX5_sum cX5_sum 3 (some .int), Cond.methodLink RX2 186 yX2_suspectedNow, Cond.instanceMethod yX2_suspectedNow, Cond.selects RX2 yX2_suspectedNow yX2_suspectedNow, Cond.code yX2_suspectedNow cX2_suspectedNow 1 (some .int), Cond.methodLink RX2 170 yX6_suspected, Cond.instanceMethod yX6_suspected, Cond.selects RX6 yX6_suspected yX6_suspected, Cond.code yX6_suspected cX6_suspected 4 (some .int), Cond.methodLink RX6 57 yX5_at, Cond.methodLink RL 69 yX7_of, Cond.instanceMethod yX7_of, Cond.selects RX7 yX7_of yX7_of, Cond.code yX7_of cX7_of 3 (some .int), Cond.methodLink RX7 89 yX2_aboutSeat, Cond.instanceMethod yX2_aboutSeat, Cond.selects RX2 yX2_aboutSeat yX2_aboutSeat, Cond.code yX2_aboutSeat cX2_aboutSeat 3 (some .int), Cond.static yX7_isSeat, Cond.code yX7_isSeat cX7_isSeat 1 (some .boolean), Cond.methodLink RX2 164 yX6_hasClapped, Cond.instanceMethod yX6_hasClapped]
def wsL_law_r8 : List Cond := [Cond.selects RX6 yX6_hasClapped yX6_hasClapped, Cond.code yX6_hasClapped cX6_hasClapped 2 (some .boolean), Cond.fieldLink RX6 46 "ApplauseTallies$Seats" "clappedForPiece" "I", Cond.methodLink RL 75 yX7_clapper, Cond.instanceMethod yX7_clapper, Cond.selects RX7 yX7_clapper yX7_clapper, Cond.code yX7_clapper cX7_clapper 2 (some .int), Cond.methodLink RX7 113 yX6_clapperAt, Cond.instanceMethod yX6_clapperAt, Cond.selects RX6 yX6_clapperAt yX6_clapperAt, Cond.code yX6_clapperAt cX6_clapperAt 2 (some .int), Cond.fieldLink RX6 39 "ApplauseTallies$Seats" "clapperCount" "I", Cond.methodLink RL 87 yX7_performer, Cond.instanceMethod yX7_performer, Cond.selects RX7 yX7_performer yX7_performer, Cond.code yX7_performer cX7_performer 3 (some .int), Cond.methodLink RX7 96 yX0_aboutPerformer, Cond.instanceMethod yX0_aboutPerformer, Cond.selects RX0 yX0_aboutPerformer yX0_aboutPerformer, Cond.code yX0_aboutPerformer cX0_aboutPerformer 3 (some .int), Cond.static yX7_isPerformer, Cond.code yX7_isPerformer cX7_isPerformer 1 (some .boolean), Cond.methodLink RX0 58 yX0_owedBy, Cond.instanceMethod yX0_owedBy]
def wsL_law_r9 : List Cond := [Cond.selects RX0 yX0_owedBy yX0_owedBy, Cond.code yX0_owedBy cX0_owedBy 4 (some .int), Cond.fieldLink RX0 36 "ApplauseTallies$Encores" "owedCount" "I", Cond.methodLink RX0 47 yX5_at, Cond.methodLink RL 93 yX7_owed, Cond.instanceMethod yX7_owed, Cond.selects RX7 yX7_owed yX7_owed, Cond.code yX7_owed cX7_owed 3 (some .int), Cond.methodLink RX7 105 yX0_aboutOwed, Cond.instanceMethod yX0_aboutOwed, Cond.selects RX0 yX0_aboutOwed yX0_aboutOwed, Cond.code yX0_aboutOwed cX0_aboutOwed 4 (some .int), Cond.methodLink RL 96 yX7_record, Cond.instanceMethod yX7_record, Cond.selects RX7 yX7_record yX7_record, Cond.code yX7_record cX7_record 3 (some .int), Cond.methodLink RX7 118 yX2_recordOf, Cond.instanceMethod yX2_recordOf, Cond.selects RX2 yX2_recordOf yX2_recordOf, Cond.code yX2_recordOf cX2_recordOf 3 (some .int), Cond.methodLink RX2 117 Lib.Math.min.name, Cond.static Lib.Math.min.name, Cond.code Lib.Math.min.name Lib.Math.min.code 2 (some .int), Cond.methodLink RX2 143 yX2_recordPlace]
def wsL_law_r10 : List Cond := [Cond.static yX2_recordPlace, Cond.code yX2_recordPlace cX2_recordPlace 2 (some .int), Cond.methodLink RL 129 yL_call, Cond.static yL_call, Cond.code yL_call cL_call 4 (some .int), Cond.methodLink RL 34 yX7_clap, Cond.instanceMethod yX7_clap, Cond.selects RX7 yX7_clap yX7_clap, Cond.code yX7_clap cX7_clap 2 (some .int), Cond.methodLink RX7 43 yX1_setAside, Cond.instanceMethod yX1_setAside, Cond.selects RX1 yX1_setAside yX1_setAside, Cond.code yX1_setAside cX1_setAside 3 none, Cond.fieldLink RX1 22 "ApplauseTallies$History" "next" "I", Cond.methodLink RX1 25 yX1_stateAt, Cond.instanceMethod yX1_stateAt, Cond.selects RX1 yX1_stateAt yX1_stateAt, Cond.code yX1_stateAt cX1_stateAt 2 (some (.object "ApplauseTallies$House")), Cond.methodLink RX1 29 yX2_copyFrom, Cond.instanceMethod yX2_copyFrom, Cond.selects RX2 yX2_copyFrom yX2_copyFrom, Cond.code yX2_copyFrom cX2_copyFrom 2 none, Cond.fieldLink RX2 74 "ApplauseTallies$House" "encoreCame" "Z", Cond.methodLink RX2 52 yX5_copyFrom]
def wsL_law_r11 : List Cond := [Cond.instanceMethod yX5_copyFrom, Cond.selects RX5 yX5_copyFrom yX5_copyFrom, Cond.code yX5_copyFrom cX5_copyFrom 2 none, Cond.methodLink RX5 19 Lib.Math.min.name, Cond.methodLink RX5 22 arraycopyName, Cond.native arraycopyName, Cond.static arraycopyName, Cond.initialized "java/lang/System", Cond.methodLink RX2 56 yX6_copyFrom, Cond.instanceMethod yX6_copyFrom, Cond.selects RX6 yX6_copyFrom yX6_copyFrom, Cond.code yX6_copyFrom cX6_copyFrom 2 none, Cond.fieldLink RX6 43 "ApplauseTallies$Seats" "paid" "I", Cond.methodLink RX6 35 yX5_copyFrom, Cond.methodLink RX2 59 yX0_copyFrom, Cond.instanceMethod yX0_copyFrom, Cond.selects RX0 yX0_copyFrom yX0_copyFrom, Cond.code yX0_copyFrom cX0_copyFrom 2 none, Cond.methodLink RX0 32 yX5_copyFrom, Cond.methodLink RX7 64 yX2_takeClap, Cond.instanceMethod yX2_takeClap, Cond.selects RX2 yX2_takeClap yX2_takeClap, Cond.code yX2_takeClap cX2_takeClap 2 (some .int), Cond.methodLink RX2 113 yX6_addClap]
def wsL_law_r12 : List Cond := [Cond.instanceMethod yX6_addClap, Cond.selects RX6 yX6_addClap yX6_addClap, Cond.code yX6_addClap cX6_addClap 3 none, Cond.methodLink RX6 49 yX6_hasClapped, Cond.methodLink RX6 53 yX5_add, Cond.instanceMethod yX5_add, Cond.selects RX5 yX5_add yX5_add, Cond.code yX5_add cX5_add 3 none, Cond.methodLink RX6 61 yX5_store, Cond.methodLink RX2 107 yX5_add, Cond.methodLink RX2 123 yX2_bringEncore, Cond.instanceMethod yX2_bringEncore, Cond.selects RX2 yX2_bringEncore yX2_bringEncore, Cond.code yX2_bringEncore cX2_bringEncore 1 none, Cond.methodLink RX2 126 yX0_owe, Cond.instanceMethod yX0_owe, Cond.selects RX0 yX0_owe yX0_owe, Cond.code yX0_owe cX0_owe 3 (some .boolean), Cond.methodLink RX0 40 yX5_add, Cond.methodLink RX0 44 yX5_store, Cond.methodLink RX7 51 yX1_keepUnlessError, Cond.instanceMethod yX1_keepUnlessError, Cond.selects RX1 yX1_keepUnlessError yX1_keepUnlessError, Cond.code yX1_keepUnlessError cX1_keepUnlessError 2 (some .int)]
def wsL_law_r13 : List Cond := [Cond.methodLink RX1 33 Lib.Math.min.name, Cond.methodLink RL 40 yX7_ends, Cond.instanceMethod yX7_ends, Cond.selects RX7 yX7_ends yX7_ends, Cond.code yX7_ends cX7_ends 2 (some .int), Cond.methodLink RX7 61 yX2_endPiece, Cond.instanceMethod yX2_endPiece, Cond.selects RX2 yX2_endPiece yX2_endPiece, Cond.code yX2_endPiece cX2_endPiece 3 (some .int), Cond.methodLink RX2 101 yX2_beginApplause, Cond.instanceMethod yX2_beginApplause, Cond.selects RX2 yX2_beginApplause yX2_beginApplause, Cond.code yX2_beginApplause cX2_beginApplause 2 none, Cond.methodLink RX2 110 yX6_beginPiece, Cond.instanceMethod yX6_beginPiece, Cond.selects RX6 yX6_beginPiece yX6_beginPiece, Cond.code yX6_beginPiece cX6_beginPiece 1 none, Cond.methodLink RL 42 yX7_pass, Cond.instanceMethod yX7_pass, Cond.selects RX7 yX7_pass yX7_pass, Cond.code yX7_pass cX7_pass 2 (some .int), Cond.methodLink RX7 67 yX2_letPass, Cond.instanceMethod yX2_letPass, Cond.selects RX2 yX2_letPass yX2_letPass]
def wsL_law_r14 : List Cond := [Cond.code yX2_letPass cX2_letPass 3 (some .int), Cond.constant RX2 130 (99999), Cond.static yX7_afterSecond, Cond.code yX7_afterSecond cX7_afterSecond 2 (some .int), Cond.methodLink RX7 176 Lib.Math.max.name, Cond.methodLink RX2 134 yX0_lapseSince, Cond.instanceMethod yX0_lapseSince, Cond.selects RX0 yX0_lapseSince yX0_lapseSince, Cond.code yX0_lapseSince cX0_lapseSince 4 (some .int), Cond.methodLink RL 45 yX7_play, Cond.instanceMethod yX7_play, Cond.selects RX7 yX7_play yX7_play, Cond.code yX7_play cX7_play 2 (some .int), Cond.methodLink RX7 70 yX2_playEncore, Cond.instanceMethod yX2_playEncore, Cond.selects RX2 yX2_playEncore yX2_playEncore, Cond.code yX2_playEncore cX2_playEncore 2 (some .int), Cond.methodLink RX2 137 yX0_playEarliestOf, Cond.instanceMethod yX0_playEarliestOf, Cond.selects RX0 yX0_playEarliestOf yX0_playEarliestOf, Cond.code yX0_playEarliestOf cX0_playEarliestOf 4 (some .boolean), Cond.methodLink RX0 51 yX0_earliestOf, Cond.instanceMethod yX0_earliestOf, Cond.selects RX0 yX0_earliestOf yX0_earliestOf]
def wsL_law_r15 : List Cond := [Cond.code yX0_earliestOf cX0_earliestOf 3 (some .int), Cond.methodLink RX2 140 yX0_owedBy, Cond.methodLink RL 48 yX7_call, Cond.instanceMethod yX7_call, Cond.selects RX7 yX7_call yX7_call, Cond.code yX7_call cX7_call 1 (some .int), Cond.methodLink RX7 73 yX2_takeCurtain, Cond.instanceMethod yX2_takeCurtain, Cond.selects RX2 yX2_takeCurtain yX2_takeCurtain, Cond.code yX2_takeCurtain cX2_takeCurtain 1 (some .int), Cond.methodLink RL 52 yX7_night, Cond.instanceMethod yX7_night, Cond.selects RX7 yX7_night yX7_night, Cond.code yX7_night cX7_night 1 (some .int), Cond.methodLink RX7 77 yX2_endNight, Cond.instanceMethod yX2_endNight, Cond.selects RX2 yX2_endNight yX2_endNight, Cond.code yX2_endNight cX2_endNight 3 (some .int), Cond.methodLink RX2 146 yX5_fill, Cond.methodLink RX2 149 yX6_beginNight, Cond.instanceMethod yX6_beginNight, Cond.selects RX6 yX6_beginNight yX6_beginNight, Cond.code yX6_beginNight cX6_beginNight 1 none, Cond.methodLink RL 55 yX7_loud]
def wsL_law_r16 : List Cond := [Cond.instanceMethod yX7_loud, Cond.selects RX7 yX7_loud yX7_loud, Cond.code yX7_loud cX7_loud 3 (some .int), Cond.methodLink RX7 55 yX2_changeLoudness, Cond.instanceMethod yX2_changeLoudness, Cond.selects RX2 yX2_changeLoudness yX2_changeLoudness, Cond.code yX2_changeLoudness cX2_changeLoudness 4 (some .int), Cond.methodLink RL 59 yX7_pay, Cond.instanceMethod yX7_pay, Cond.selects RX7 yX7_pay yX7_pay, Cond.code yX7_pay cX7_pay 2 (some .int), Cond.methodLink RX7 58 yX2_switchPay, Cond.instanceMethod yX2_switchPay, Cond.selects RX2 yX2_switchPay yX2_switchPay, Cond.code yX2_switchPay cX2_switchPay 2 (some .int), Cond.methodLink RL 62 yX7_set, Cond.instanceMethod yX7_set, Cond.selects RX7 yX7_set yX7_set, Cond.code yX7_set cX7_set 3 (some .int), Cond.methodLink RX7 47 yX2_changeSetting, Cond.instanceMethod yX2_changeSetting, Cond.selects RX2 yX2_changeSetting yX2_changeSetting, Cond.code yX2_changeSetting cX2_changeSetting 4 (some .int), Cond.methodLink RL 132 yX7_undo]
def wsL_law_r17 : List Cond := [Cond.instanceMethod yX7_undo, Cond.selects RX7 yX7_undo yX7_undo, Cond.code yX7_undo cX7_undo 1 (some .int), Cond.methodLink RX7 167 yX1_takeBack, Cond.instanceMethod yX1_takeBack, Cond.selects RX1 yX1_takeBack yX1_takeBack, Cond.code yX1_takeBack cX1_takeBack 4 (some .int), Cond.methodLink RL 135 yL_claps, Cond.static yL_claps, Cond.code yL_claps cL_claps 10 (some .int), Cond.methodLink RL 10 yL_lapses, Cond.static yL_lapses, Cond.code yL_lapses cL_lapses 3 none, Cond.methodLink RL 27 yL_ends, Cond.static yL_ends, Cond.code yL_ends cL_ends 6 (some .int), Cond.methodLink RL 139 yL_second, Cond.static yL_second, Cond.code yL_second cL_second 4 none, Cond.methodLink RL 16 yL_less, Cond.static yL_less, Cond.code yL_less cL_less 3 (some .int), Cond.methodLink RL 20 yL_drops, Cond.static yL_drops]
def wsL_law_r18 : List Cond := [Cond.code yL_drops cL_drops 4 none, Cond.methodLink RL 143 yL_plays, Cond.static yL_plays, Cond.code yL_plays cL_plays 7 (some .int), Cond.methodLink RL 23 yL_earliest, Cond.static yL_earliest, Cond.code yL_earliest cL_earliest 5 (some .int), Cond.methodLink RL 31 yL_owes, Cond.static yL_owes, Cond.code yL_owes cL_owes 5 (some .int), Cond.methodLink RL 147 yL_nights, Cond.static yL_nights, Cond.code yL_nights cL_nights 8 (some .int), Cond.methodLink RL 151 yL_ofRest, Cond.static yL_ofRest, Cond.code yL_ofRest cL_ofRest 7 (some .int), Cond.methodLink RL 65 yL_seats, Cond.static yL_seats, Cond.code yL_seats cL_seats 6 (some .int), Cond.methodLink RL 155 yL_isSo, Cond.static yL_isSo, Cond.code yL_isSo cL_isSo 21 (some .boolean), Cond.methodLink RL 81 yL_sum, Cond.static yL_sum]
def wsL_law_r19 : List Cond := [Cond.code yL_sum cL_sum 4 (some .int), Cond.methodLink RL 90 yX7_lapsesIn, Cond.instanceMethod yX7_lapsesIn, Cond.selects RX7 yX7_lapsesIn yX7_lapsesIn, Cond.code yX7_lapsesIn cX7_lapsesIn 2 (some .int), Cond.methodLink RX7 140 yX2_secondsUntilLapse, Cond.instanceMethod yX2_secondsUntilLapse, Cond.selects RX2 yX2_secondsUntilLapse yX2_secondsUntilLapse, Cond.code yX2_secondsUntilLapse cX2_secondsUntilLapse 4 (some .int), Cond.methodLink RX2 195 Lib.Math.max.name, Cond.methodLink RX2 189 yX0_earliestOf, Cond.methodLink RL 99 yX7_ifFound, Cond.instanceMethod yX7_ifFound, Cond.selects RX7 yX7_ifFound yX7_ifFound, Cond.code yX7_ifFound cX7_ifFound 2 (some .int), Cond.fieldLink RX7 146 "ApplauseTallies" "LEAST" "[I", Cond.fieldLink RX7 150 "ApplauseTallies" "MOST" "[I", Cond.methodLink RX7 153 yX6_suspected, Cond.methodLink RL 102 yX7_quietIn, Cond.instanceMethod yX7_quietIn, Cond.selects RX7 yX7_quietIn yX7_quietIn, Cond.code yX7_quietIn cX7_quietIn 2 (some .int), Cond.methodLink RX7 134 yX2_secondsUntil, Cond.instanceMethod yX2_secondsUntil]
def wsL_law_r20 : List Cond := [Cond.selects RX2 yX2_secondsUntil yX2_secondsUntil, Cond.code yX2_secondsUntil cX2_secondsUntil 4 (some .int), Cond.methodLink RL 105 yX7_calls, Cond.instanceMethod yX7_calls, Cond.selects RX7 yX7_calls yX7_calls, Cond.code yX7_calls cX7_calls 1 (some .int), Cond.methodLink RX7 143 yX2_curtainsLeft, Cond.instanceMethod yX2_curtainsLeft, Cond.selects RX2 yX2_curtainsLeft yX2_curtainsLeft, Cond.code yX2_curtainsLeft cX2_curtainsLeft 3 (some .int), Cond.methodLink RL 108 yL_isSeat, Cond.static yL_isSeat, Cond.code yL_isSeat cL_isSeat 13 (some .boolean), Cond.methodLink RL 72 yX7_clapsFor, Cond.instanceMethod yX7_clapsFor, Cond.selects RX7 yX7_clapsFor yX7_clapsFor, Cond.code yX7_clapsFor cX7_clapsFor 2 (some .int), Cond.methodLink RX7 137 yX2_clapsUntilEncore, Cond.instanceMethod yX2_clapsUntilEncore, Cond.selects RX2 yX2_clapsUntilEncore yX2_clapsUntilEncore, Cond.code yX2_clapsUntilEncore cX2_clapsUntilEncore 4 (some .int)]
def wsL_law : List Cond := (wsL_law_r1 ++ (wsL_law_r2 ++ (wsL_law_r3 ++ (wsL_law_r4 ++ (wsL_law_r5 ++ (wsL_law_r6 ++ (wsL_law_r7 ++ (wsL_law_r8 ++ (wsL_law_r9 ++ (wsL_law_r10 ++ (wsL_law_r11 ++ (wsL_law_r12 ++ (wsL_law_r13 ++ (wsL_law_r14 ++ (wsL_law_r15 ++ (wsL_law_r16 ++ (wsL_law_r17 ++ (wsL_law_r18 ++ (wsL_law_r19 ++ wsL_law_r20))))))))))))))))))) ++ wsX70 ++ wsX20 ++ wsX10 ++ wsX40 ++ wsX30 ++ wsX50 ++ wsX60 ++ wsX00 ++ ([] : List Cond)
theorem zz_in {big ws : List Cond} (ps : List Nat) (hp : ws = ps.filterMap (fun i => big[i]?)) : ∀ w ∈ ws, w ∈ big := by
  intro w hw
  rw [hp] at hw
  obtain ⟨i, -, hi⟩ := List.mem_filterMap.mp hw
  exact List.mem_of_getElem? hi
theorem zz_app {big a b : List Cond} (ha : ∀ w ∈ a, w ∈ big) (hb : ∀ w ∈ b, w ∈ big) : ∀ w ∈ a ++ b, w ∈ big := fun w h => (List.mem_append.mp h).elim (ha w) (hb w)
theorem zi_nil {big : List Cond} : ∀ w ∈ ([] : List Cond), w ∈ big := fun _ h => absurd h List.not_mem_nil
set_option maxRecDepth 20000 in
theorem zi_wsL_law_r1 : ∀ w ∈ wsL_law_r1, w ∈ lw_tbl := zz_in [15, 16, 5, 42, 17, 18, 19, 20, 21, 22, 23, 24, 6, 210, 160, 161, 11, 211, 212, 179, 180, 12, 213, 192] (by decide +kernel)
set_option maxRecDepth 20000 in
theorem zi_wsL_law_r2 : ∀ w ∈ wsL_law_r2, w ∈ lw_tbl := zz_in [193, 13, 214, 25, 26, 27, 28, 29, 30, 7, 123, 43, 44, 9, 124, 85, 86, 10, 126, 128, 129, 134, 31, 32] (by decide +kernel)
set_option maxRecDepth 20000 in
theorem zi_wsL_law_r3 : ∀ w ∈ wsL_law_r3, w ∈ lw_tbl := zz_in [33, 34, 35, 36, 8, 37, 38, 45, 46, 47, 48, 49, 55, 57, 59, 61, 63, 50, 51, 52, 53, 54, 88, 89] (by decide +kernel)
set_option maxRecDepth 20000 in
theorem zi_wsL_law_r4 : ∀ w ∈ wsL_law_r4, w ∈ lw_tbl := zz_in [90, 91, 93, 94, 96, 98, 100, 92, 119, 120, 121, 122, 162, 163, 164, 165, 166, 169, 168, 182, 183, 184, 185, 194] (by decide +kernel)
set_option maxRecDepth 20000 in
theorem zi_wsL_law_r5 : ∀ w ∈ wsL_law_r5, w ∈ lw_tbl := zz_in [195, 196, 197, 198, 262, 263, 4, 264, 265, 266, 267, 268, 269, 270, 590, 591, 592, 593, 594, 595, 596, 472, 473, 474] (by decide +kernel)
set_option maxRecDepth 20000 in
theorem zi_wsL_law_r6 : ∀ w ∈ wsL_law_r6, w ∈ lw_tbl := zz_in [475, 476, 477, 478, 479, 186, 480, 481, 482, 483, 171, 484, 485, 486, 487, 130, 131, 133, 135, 319, 320, 321, 322, 488] (by decide +kernel)
set_option maxRecDepth 20000 in
theorem zi_wsL_law_r7 : ∀ w ∈ wsL_law_r7, w ∈ lw_tbl := zz_in [489, 490, 491, 492, 494, 3, 495, 496, 497, 498, 499, 335, 565, 566, 567, 568, 569, 570, 571, 572, 317, 318, 573, 328] (by decide +kernel)
set_option maxRecDepth 20000 in
theorem zi_wsL_law_r8 : ∀ w ∈ wsL_law_r8, w ∈ lw_tbl := zz_in [329, 330, 67, 582, 583, 584, 585, 586, 587, 588, 589, 64, 503, 504, 505, 506, 507, 508, 509, 510, 363, 364, 512, 408] (by decide +kernel)
set_option maxRecDepth 20000 in
theorem zi_wsL_law_r9 : ∀ w ∈ wsL_law_r9, w ∈ lw_tbl := zz_in [409, 410, 102, 390, 523, 524, 525, 526, 527, 528, 529, 530, 531, 532, 533, 534, 535, 536, 537, 538, 338, 247, 248, 427] (by decide +kernel)
set_option maxRecDepth 20000 in
theorem zi_wsL_law_r10 : ∀ w ∈ wsL_law_r10, w ∈ lw_tbl := zz_in [428, 429, 301, 302, 303, 304, 305, 306, 307, 308, 309, 310, 311, 170, 234, 236, 0, 237, 238, 239, 240, 241, 136, 242] (by decide +kernel)
set_option maxRecDepth 20000 in
theorem zi_wsL_law_r11 : ∀ w ∈ wsL_law_r11, w ∈ lw_tbl := zz_in [243, 244, 245, 246, 249, 251, 250, 14, 252, 253, 254, 255, 65, 256, 257, 258, 259, 260, 261, 312, 313, 314, 315, 323] (by decide +kernel)
set_option maxRecDepth 20000 in
theorem zi_wsL_law_r12 : ∀ w ∈ wsL_law_r12, w ∈ lw_tbl := zz_in [324, 325, 326, 327, 331, 332, 333, 334, 336, 337, 339, 341, 1, 342, 343, 344, 345, 346, 347, 348, 349, 350, 351, 352] (by decide +kernel)
set_option maxRecDepth 20000 in
theorem zi_wsL_law_r13 : ∀ w ∈ wsL_law_r13, w ∈ lw_tbl := zz_in [353, 354, 355, 356, 357, 358, 359, 360, 361, 365, 367, 2, 368, 369, 370, 371, 372, 373, 374, 375, 376, 377, 378, 379] (by decide +kernel)
set_option maxRecDepth 20000 in
theorem zi_wsL_law_r14 : ∀ w ∈ wsL_law_r14, w ∈ lw_tbl := zz_in [380, 381, 383, 384, 385, 386, 387, 388, 389, 391, 392, 393, 394, 395, 396, 397, 398, 399, 400, 401, 402, 403, 404, 405] (by decide +kernel)
set_option maxRecDepth 20000 in
theorem zi_wsL_law_r15 : ∀ w ∈ wsL_law_r15, w ∈ lw_tbl := zz_in [406, 407, 411, 412, 413, 414, 415, 416, 417, 418, 419, 420, 421, 422, 423, 424, 425, 426, 430, 431, 432, 433, 434, 435] (by decide +kernel)
set_option maxRecDepth 20000 in
theorem zi_wsL_law_r16 : ∀ w ∈ wsL_law_r16, w ∈ lw_tbl := zz_in [436, 437, 438, 439, 440, 441, 442, 443, 444, 445, 446, 447, 448, 449, 450, 451, 452, 453, 454, 455, 456, 457, 458, 226] (by decide +kernel)
set_option maxRecDepth 20000 in
theorem zi_wsL_law_r17 : ∀ w ∈ wsL_law_r17, w ∈ lw_tbl := zz_in [227, 228, 229, 230, 231, 232, 233, 274, 275, 276, 277, 278, 279, 271, 272, 273, 280, 281, 282, 283, 284, 285, 286, 287] (by decide +kernel)
set_option maxRecDepth 20000 in
theorem zi_big : Cond.code yL_isSo cL_isSo 21 (some .boolean) ∈ lw_tbl := List.mem_append_right _ (show _ ∈ tables_1_1 ++ (tables_1_2 ++ tables_1_3) from List.mem_append_right _ (List.mem_append_left _ (List.mem_of_getElem? (i := 227) rfl)))
theorem zz_mid {big a b : List Cond} {c : Cond} (ha : ∀ w ∈ a, w ∈ big) (hc : c ∈ big) (hb : ∀ w ∈ b, w ∈ big) : ∀ w ∈ a ++ c :: b, w ∈ big := fun w h => (List.mem_append.mp h).elim (ha w) (fun h => (List.mem_cons.mp h).elim (fun e => e ▸ hc) (hb w))
set_option maxRecDepth 20000 in
theorem zi_wsL_law_r18 : ∀ w ∈ wsL_law_r18, w ∈ lw_tbl := zz_mid (a := [Cond.code yL_drops cL_drops 4 none, Cond.methodLink RL 143 yL_plays, Cond.static yL_plays, Cond.code yL_plays cL_plays 7 (some .int), Cond.methodLink RL 23 yL_earliest, Cond.static yL_earliest, Cond.code yL_earliest cL_earliest 5 (some .int), Cond.methodLink RL 31 yL_owes, Cond.static yL_owes, Cond.code yL_owes cL_owes 5 (some .int), Cond.methodLink RL 147 yL_nights, Cond.static yL_nights, Cond.code yL_nights cL_nights 8 (some .int), Cond.methodLink RL 151 yL_ofRest, Cond.static yL_ofRest, Cond.code yL_ofRest cL_ofRest 7 (some .int), Cond.methodLink RL 65 yL_seats, Cond.static yL_seats, Cond.code yL_seats cL_seats 6 (some .int), Cond.methodLink RL 155 yL_isSo, Cond.static yL_isSo]) (b := [Cond.methodLink RL 81 yL_sum, Cond.static yL_sum]) (zz_in [288, 289, 290, 291, 292, 293, 294, 295, 296, 297, 298, 299, 300, 463, 464, 465, 466, 467, 468, 469, 470] (by decide +kernel)) zi_big (zz_in [500, 501] (by decide +kernel))
set_option maxRecDepth 20000 in
theorem zi_wsL_law_r19 : ∀ w ∈ wsL_law_r19, w ∈ lw_tbl := zz_in [502, 513, 514, 515, 516, 517, 518, 519, 520, 522, 521, 539, 540, 541, 542, 543, 544, 545, 546, 547, 548, 549, 550, 551] (by decide +kernel)
set_option maxRecDepth 20000 in
theorem zi_wsL_law_r20 : ∀ w ∈ wsL_law_r20, w ∈ lw_tbl := zz_in [552, 553, 554, 555, 556, 557, 558, 559, 560, 561, 562, 563, 564, 574, 575, 576, 577, 578, 579, 580, 581] (by decide +kernel)
set_option maxRecDepth 20000 in
theorem zi_wsX70 : ∀ w ∈ wsX70, w ∈ lw_tbl := zz_in [215, 217, 219, 221, 223] (by decide +kernel)
set_option maxRecDepth 20000 in
theorem zi_wsX20 : ∀ w ∈ wsX20, w ∈ lw_tbl := zz_in [137, 139, 141, 143, 145, 147, 149, 151, 153, 155, 157] (by decide +kernel)
set_option maxRecDepth 20000 in
theorem zi_wsX10 : ∀ w ∈ wsX10, w ∈ lw_tbl := zz_in [172, 174, 176] (by decide +kernel)
set_option maxRecDepth 20000 in
theorem zi_wsX40 : ∀ w ∈ wsX40, w ∈ lw_tbl := zz_in [187, 189] (by decide +kernel)
set_option maxRecDepth 20000 in
theorem zi_wsX30 : ∀ w ∈ wsX30, w ∈ lw_tbl := zz_in [199, 201, 203, 205, 207] (by decide +kernel)
set_option maxRecDepth 20000 in
theorem zi_wsX50 : ∀ w ∈ wsX50, w ∈ lw_tbl := zz_in [39] (by decide +kernel)
set_option maxRecDepth 20000 in
theorem zi_wsX60 : ∀ w ∈ wsX60, w ∈ lw_tbl := zz_in [68, 70, 72, 74, 76, 78, 80, 82] (by decide +kernel)
set_option maxRecDepth 20000 in
theorem zi_wsX00 : ∀ w ∈ wsX00, w ∈ lw_tbl := zz_in [104, 106, 108, 110, 112, 114] (by decide +kernel)
set_option maxRecDepth 20000 in
theorem wsL_law_in : ∀ w ∈ wsL_law, w ∈ lw_tbl := (zz_app (zz_app (zz_app (zz_app (zz_app (zz_app (zz_app (zz_app (zz_app (zz_app zi_wsL_law_r1 (zz_app zi_wsL_law_r2 (zz_app zi_wsL_law_r3 (zz_app zi_wsL_law_r4 (zz_app zi_wsL_law_r5 (zz_app zi_wsL_law_r6 (zz_app zi_wsL_law_r7 (zz_app zi_wsL_law_r8 (zz_app zi_wsL_law_r9 (zz_app zi_wsL_law_r10 (zz_app zi_wsL_law_r11 (zz_app zi_wsL_law_r12 (zz_app zi_wsL_law_r13 (zz_app zi_wsL_law_r14 (zz_app zi_wsL_law_r15 (zz_app zi_wsL_law_r16 (zz_app zi_wsL_law_r17 (zz_app zi_wsL_law_r18 (zz_app zi_wsL_law_r19 zi_wsL_law_r20))))))))))))))))))) zi_wsX70) zi_wsX20) zi_wsX10) zi_wsX40) zi_wsX30) zi_wsX50) zi_wsX60) zi_wsX00) (zi_nil))
theorem inlX0 : ∀ w ∈ wsX00, w ∈ wsL_law := fun _ h => List.mem_append_left _ (List.mem_append_right _ h)
theorem inX0 : ∀ w ∈ wsX00, w ∈ lw_tbl := fun w h => wsL_law_in w (inlX0 w h)
theorem inlX1 : ∀ w ∈ wsX10, w ∈ wsL_law := fun _ h => List.mem_append_left _ (List.mem_append_left _ (List.mem_append_left _ (List.mem_append_left _ (List.mem_append_left _ (List.mem_append_left _ (List.mem_append_right _ h))))))
theorem inX1 : ∀ w ∈ wsX10, w ∈ lw_tbl := fun w h => wsL_law_in w (inlX1 w h)
theorem inlX2 : ∀ w ∈ wsX20, w ∈ wsL_law := fun _ h => List.mem_append_left _ (List.mem_append_left _ (List.mem_append_left _ (List.mem_append_left _ (List.mem_append_left _ (List.mem_append_left _ (List.mem_append_left _ (List.mem_append_right _ h)))))))
theorem inX2 : ∀ w ∈ wsX20, w ∈ lw_tbl := fun w h => wsL_law_in w (inlX2 w h)
theorem inlX3 : ∀ w ∈ wsX30, w ∈ wsL_law := fun _ h => List.mem_append_left _ (List.mem_append_left _ (List.mem_append_left _ (List.mem_append_left _ (List.mem_append_right _ h))))
theorem inX3 : ∀ w ∈ wsX30, w ∈ lw_tbl := fun w h => wsL_law_in w (inlX3 w h)
theorem inlX4 : ∀ w ∈ wsX40, w ∈ wsL_law := fun _ h => List.mem_append_left _ (List.mem_append_left _ (List.mem_append_left _ (List.mem_append_left _ (List.mem_append_left _ (List.mem_append_right _ h)))))
theorem inX4 : ∀ w ∈ wsX40, w ∈ lw_tbl := fun w h => wsL_law_in w (inlX4 w h)
theorem inlX5 : ∀ w ∈ wsX50, w ∈ wsL_law := fun _ h => List.mem_append_left _ (List.mem_append_left _ (List.mem_append_left _ (List.mem_append_right _ h)))
theorem inX5 : ∀ w ∈ wsX50, w ∈ lw_tbl := fun w h => wsL_law_in w (inlX5 w h)
theorem inlX6 : ∀ w ∈ wsX60, w ∈ wsL_law := fun _ h => List.mem_append_left _ (List.mem_append_left _ (List.mem_append_right _ h))
theorem inX6 : ∀ w ∈ wsX60, w ∈ lw_tbl := fun w h => wsL_law_in w (inlX6 w h)
theorem inlX7 : ∀ w ∈ wsX70, w ∈ wsL_law := fun _ h => List.mem_append_left _ (List.mem_append_left _ (List.mem_append_left _ (List.mem_append_left _ (List.mem_append_left _ (List.mem_append_left _ (List.mem_append_left _ (List.mem_append_left _ (List.mem_append_right _ h))))))))
theorem inX7 : ∀ w ∈ wsX70, w ∈ lw_tbl := fun w h => wsL_law_in w (inlX7 w h)
theorem inX8 : ∀ w ∈ wsX80, w ∈ lw_tbl := by decide +kernel
theorem inJ9 : ∀ w ∈ wsJ90, w ∈ lw_tbl := by decide +kernel
theorem inJ10 : ∀ w ∈ wsJ100, w ∈ lw_tbl := by decide +kernel
abbrev vwCl : List vw_C := [(RX0, TX0, 6), (RX1, TX1, 3), (RX2, TX2, 11), (RX3, TX3, 5), (RX4, TX4, 2), (RX5, TX5, 1), (RX6, TX6, 8), (RX7, TX7, 5)]
end
section
set_option maxRecDepth 20000 in
theorem ggX0_init_X5_init : GoodIn wsX0_init wsX5_init := goodIn_r _ [14, 15, 2, 3, 16, 17, 18, 19, 20, 21, 22] (by decide +kernel) (by decide +kernel)
set_option maxRecDepth 20000 in
theorem gX0_init_X5_init : GoodIn wsX0_init (wsX5_init) := ggX0_init_X5_init
theorem dX0_init_0 : decode cX0_init 0 = .ok (.aload_n 0, 1) := by decide +kernel
theorem dX0_init_1 : decode cX0_init 1 = .ok (.invokespecial 3, 3) := by decide +kernel
theorem dX0_init_4 : decode cX0_init 4 = .ok (.aload_n 0, 1) := by decide +kernel
theorem dX0_init_5 : decode cX0_init 5 = .ok (.new 9, 3) := by decide +kernel
theorem dX0_init_8 : decode cX0_init 8 = .ok (.dup, 1) := by decide +kernel
theorem dX0_init_9 : decode cX0_init 9 = .ok (.bipush 8, 2) := by decide +kernel
theorem dX0_init_11 : decode cX0_init 11 = .ok (.invokespecial 11, 3) := by decide +kernel
theorem dX0_init_14 : decode cX0_init 14 = .ok (.putfield 14, 3) := by decide +kernel
theorem dX0_init_17 : decode cX0_init 17 = .ok (.aload_n 0, 1) := by decide +kernel
theorem dX0_init_18 : decode cX0_init 18 = .ok (.new 9, 3) := by decide +kernel
theorem dX0_init_21 : decode cX0_init 21 = .ok (.dup, 1) := by decide +kernel
theorem dX0_init_22 : decode cX0_init 22 = .ok (.bipush 8, 2) := by decide +kernel
theorem dX0_init_24 : decode cX0_init 24 = .ok (.invokespecial 11, 3) := by decide +kernel
theorem dX0_init_27 : decode cX0_init 27 = .ok (.putfield 20, 3) := by decide +kernel
theorem dX0_init_30 : decode cX0_init 30 = .ok (.aload_n 0, 1) := by decide +kernel
theorem dX0_init_31 : decode cX0_init 31 = .ok (.new 9, 3) := by decide +kernel
theorem dX0_init_34 : decode cX0_init 34 = .ok (.dup, 1) := by decide +kernel
theorem dX0_init_35 : decode cX0_init 35 = .ok (.bipush 6, 2) := by decide +kernel
theorem dX0_init_37 : decode cX0_init 37 = .ok (.invokespecial 11, 3) := by decide +kernel
theorem dX0_init_40 : decode cX0_init 40 = .ok (.putfield 23, 3) := by decide +kernel
theorem dX0_init_43 : decode cX0_init 43 = .ok (.aload_n 0, 1) := by decide +kernel
theorem dX0_init_44 : decode cX0_init 44 = .ok (.new 9, 3) := by decide +kernel
theorem dX0_init_47 : decode cX0_init 47 = .ok (.dup, 1) := by decide +kernel
theorem dX0_init_48 : decode cX0_init 48 = .ok (.bipush 6, 2) := by decide +kernel
theorem dX0_init_50 : decode cX0_init 50 = .ok (.invokespecial 11, 3) := by decide +kernel
theorem dX0_init_53 : decode cX0_init 53 = .ok (.putfield 26, 3) := by decide +kernel
theorem dX0_init_56 : decode cX0_init 56 = .ok (.aload_n 0, 1) := by decide +kernel
theorem dX0_init_57 : decode cX0_init 57 = .ok (.new 9, 3) := by decide +kernel
theorem dX0_init_60 : decode cX0_init 60 = .ok (.dup, 1) := by decide +kernel
theorem dX0_init_61 : decode cX0_init 61 = .ok (.bipush 6, 2) := by decide +kernel
theorem dX0_init_63 : decode cX0_init 63 = .ok (.invokespecial 11, 3) := by decide +kernel
theorem dX0_init_66 : decode cX0_init 66 = .ok (.putfield 29, 3) := by decide +kernel
theorem dX0_init_69 : decode cX0_init 69 = .ok (.return_, 1) := by decide +kernel
set_option maxRecDepth 20000 in
theorem ggX0_copyFrom_X5_copyFrom : GoodIn wsX0_copyFrom wsX5_copyFrom := goodIn_r _ [11, 12, 13, 14, 15, 16, 17, 18, 19, 20, 27] (by decide +kernel) (by decide +kernel)
set_option maxRecDepth 20000 in
theorem gX0_copyFrom_X5_copyFrom : GoodIn wsX0_copyFrom (wsV RX0 32 RX5 yX5_copyFrom wsX5_copyFrom) := goodIn_app (goodIn_of _ (by decide +kernel)) ggX0_copyFrom_X5_copyFrom
theorem dX0_copyFrom_0 : decode cX0_copyFrom 0 = .ok (.aload_n 0, 1) := by decide +kernel
theorem dX0_copyFrom_1 : decode cX0_copyFrom 1 = .ok (.getfield 14, 3) := by decide +kernel
theorem dX0_copyFrom_4 : decode cX0_copyFrom 4 = .ok (.aload_n 1, 1) := by decide +kernel
theorem dX0_copyFrom_5 : decode cX0_copyFrom 5 = .ok (.getfield 14, 3) := by decide +kernel
theorem dX0_copyFrom_8 : decode cX0_copyFrom 8 = .ok (.invokevirtual 32, 3) := by decide +kernel
theorem dX0_copyFrom_11 : decode cX0_copyFrom 11 = .ok (.aload_n 0, 1) := by decide +kernel
theorem dX0_copyFrom_12 : decode cX0_copyFrom 12 = .ok (.getfield 20, 3) := by decide +kernel
theorem dX0_copyFrom_15 : decode cX0_copyFrom 15 = .ok (.aload_n 1, 1) := by decide +kernel
theorem dX0_copyFrom_16 : decode cX0_copyFrom 16 = .ok (.getfield 20, 3) := by decide +kernel
theorem dX0_copyFrom_19 : decode cX0_copyFrom 19 = .ok (.invokevirtual 32, 3) := by decide +kernel
theorem dX0_copyFrom_22 : decode cX0_copyFrom 22 = .ok (.aload_n 0, 1) := by decide +kernel
theorem dX0_copyFrom_23 : decode cX0_copyFrom 23 = .ok (.getfield 23, 3) := by decide +kernel
theorem dX0_copyFrom_26 : decode cX0_copyFrom 26 = .ok (.aload_n 1, 1) := by decide +kernel
theorem dX0_copyFrom_27 : decode cX0_copyFrom 27 = .ok (.getfield 23, 3) := by decide +kernel
theorem dX0_copyFrom_30 : decode cX0_copyFrom 30 = .ok (.invokevirtual 32, 3) := by decide +kernel
theorem dX0_copyFrom_33 : decode cX0_copyFrom 33 = .ok (.aload_n 0, 1) := by decide +kernel
theorem dX0_copyFrom_34 : decode cX0_copyFrom 34 = .ok (.getfield 26, 3) := by decide +kernel
theorem dX0_copyFrom_37 : decode cX0_copyFrom 37 = .ok (.aload_n 1, 1) := by decide +kernel
theorem dX0_copyFrom_38 : decode cX0_copyFrom 38 = .ok (.getfield 26, 3) := by decide +kernel
theorem dX0_copyFrom_41 : decode cX0_copyFrom 41 = .ok (.invokevirtual 32, 3) := by decide +kernel
theorem dX0_copyFrom_44 : decode cX0_copyFrom 44 = .ok (.aload_n 0, 1) := by decide +kernel
theorem dX0_copyFrom_45 : decode cX0_copyFrom 45 = .ok (.getfield 29, 3) := by decide +kernel
theorem dX0_copyFrom_48 : decode cX0_copyFrom 48 = .ok (.aload_n 1, 1) := by decide +kernel
theorem dX0_copyFrom_49 : decode cX0_copyFrom 49 = .ok (.getfield 29, 3) := by decide +kernel
theorem dX0_copyFrom_52 : decode cX0_copyFrom 52 = .ok (.invokevirtual 32, 3) := by decide +kernel
theorem dX0_copyFrom_55 : decode cX0_copyFrom 55 = .ok (.aload_n 0, 1) := by decide +kernel
theorem dX0_copyFrom_56 : decode cX0_copyFrom 56 = .ok (.aload_n 1, 1) := by decide +kernel
theorem dX0_copyFrom_57 : decode cX0_copyFrom 57 = .ok (.getfield 36, 3) := by decide +kernel
theorem dX0_copyFrom_60 : decode cX0_copyFrom 60 = .ok (.putfield 36, 3) := by decide +kernel
theorem dX0_copyFrom_63 : decode cX0_copyFrom 63 = .ok (.return_, 1) := by decide +kernel
set_option maxRecDepth 20000 in
theorem ggX0_owe_X5_add : GoodIn wsX0_owe wsX5_add := goodIn_r _ [9, 10, 21] (by decide +kernel) (by decide +kernel)
set_option maxRecDepth 20000 in
theorem gX0_owe_X5_add : GoodIn wsX0_owe (wsV RX0 40 RX5 yX5_add wsX5_add) := goodIn_app (goodIn_of _ (by decide +kernel)) ggX0_owe_X5_add
set_option maxRecDepth 20000 in
theorem ggX0_owe_X5_store : GoodIn wsX0_owe wsX5_store := goodIn_r _ [14, 10, 21] (by decide +kernel) (by decide +kernel)
set_option maxRecDepth 20000 in
theorem gX0_owe_X5_store : GoodIn wsX0_owe (wsV RX0 44 RX5 yX5_store wsX5_store) := goodIn_app (goodIn_of _ (by decide +kernel)) ggX0_owe_X5_store
theorem dX0_owe_0 : decode cX0_owe 0 = .ok (.aload_n 0, 1) := by decide +kernel
theorem dX0_owe_1 : decode cX0_owe 1 = .ok (.getfield 36, 3) := by decide +kernel
theorem dX0_owe_4 : decode cX0_owe 4 = .ok (.bipush 8, 2) := by decide +kernel
theorem dX0_owe_6 : decode cX0_owe 6 = .ok (.if_icmp .lt 14, 3) := by decide +kernel
theorem dX0_owe_9 : decode cX0_owe 9 = .ok (.aload_n 0, 1) := by decide +kernel
theorem dX0_owe_10 : decode cX0_owe 10 = .ok (.getfield 26, 3) := by decide +kernel
theorem dX0_owe_13 : decode cX0_owe 13 = .ok (.iload_n 1, 1) := by decide +kernel
theorem dX0_owe_14 : decode cX0_owe 14 = .ok (.iconst 1, 1) := by decide +kernel
theorem dX0_owe_15 : decode cX0_owe 15 = .ok (.invokevirtual 40, 3) := by decide +kernel
theorem dX0_owe_18 : decode cX0_owe 18 = .ok (.iconst 0, 1) := by decide +kernel
theorem dX0_owe_19 : decode cX0_owe 19 = .ok (.ireturn, 1) := by decide +kernel
theorem dX0_owe_20 : decode cX0_owe 20 = .ok (.aload_n 0, 1) := by decide +kernel
theorem dX0_owe_21 : decode cX0_owe 21 = .ok (.getfield 14, 3) := by decide +kernel
theorem dX0_owe_24 : decode cX0_owe 24 = .ok (.aload_n 0, 1) := by decide +kernel
theorem dX0_owe_25 : decode cX0_owe 25 = .ok (.getfield 36, 3) := by decide +kernel
theorem dX0_owe_28 : decode cX0_owe 28 = .ok (.iload_n 1, 1) := by decide +kernel
theorem dX0_owe_29 : decode cX0_owe 29 = .ok (.invokevirtual 44, 3) := by decide +kernel
theorem dX0_owe_32 : decode cX0_owe 32 = .ok (.aload_n 0, 1) := by decide +kernel
theorem dX0_owe_33 : decode cX0_owe 33 = .ok (.getfield 20, 3) := by decide +kernel
theorem dX0_owe_36 : decode cX0_owe 36 = .ok (.aload_n 0, 1) := by decide +kernel
theorem dX0_owe_37 : decode cX0_owe 37 = .ok (.getfield 36, 3) := by decide +kernel
theorem dX0_owe_40 : decode cX0_owe 40 = .ok (.iload_n 2, 1) := by decide +kernel
theorem dX0_owe_41 : decode cX0_owe 41 = .ok (.invokevirtual 44, 3) := by decide +kernel
theorem dX0_owe_44 : decode cX0_owe 44 = .ok (.aload_n 0, 1) := by decide +kernel
theorem dX0_owe_45 : decode cX0_owe 45 = .ok (.dup, 1) := by decide +kernel
theorem dX0_owe_46 : decode cX0_owe 46 = .ok (.getfield 36, 3) := by decide +kernel
theorem dX0_owe_49 : decode cX0_owe 49 = .ok (.iconst 1, 1) := by decide +kernel
theorem dX0_owe_50 : decode cX0_owe 50 = .ok (.iadd, 1) := by decide +kernel
theorem dX0_owe_51 : decode cX0_owe 51 = .ok (.putfield 36, 3) := by decide +kernel
theorem dX0_owe_54 : decode cX0_owe 54 = .ok (.iconst 1, 1) := by decide +kernel
theorem dX0_owe_55 : decode cX0_owe 55 = .ok (.ireturn, 1) := by decide +kernel
set_option maxRecDepth 20000 in
theorem ggX0_lapseSince_X5_at : GoodIn wsX0_lapseSince wsX5_at := goodIn_r _ [9, 10, 25] (by decide +kernel) (by decide +kernel)
set_option maxRecDepth 20000 in
theorem gX0_lapseSince_X5_at : GoodIn wsX0_lapseSince (wsV RX0 47 RX5 yX5_at wsX5_at) := goodIn_app (goodIn_of _ (by decide +kernel)) ggX0_lapseSince_X5_at
set_option maxRecDepth 20000 in
theorem ggX0_lapseSince_X5_add : GoodIn wsX0_lapseSince wsX5_add := goodIn_r _ [14, 10, 25] (by decide +kernel) (by decide +kernel)
set_option maxRecDepth 20000 in
theorem gX0_lapseSince_X5_add : GoodIn wsX0_lapseSince (wsV RX0 40 RX5 yX5_add wsX5_add) := goodIn_app (goodIn_of _ (by decide +kernel)) ggX0_lapseSince_X5_add
set_option maxRecDepth 20000 in
theorem ggX0_lapseSince_X5_store : GoodIn wsX0_lapseSince wsX5_store := goodIn_r _ [18, 10, 25] (by decide +kernel) (by decide +kernel)
set_option maxRecDepth 20000 in
theorem gX0_lapseSince_X5_store : GoodIn wsX0_lapseSince (wsV RX0 44 RX5 yX5_store wsX5_store) := goodIn_app (goodIn_of _ (by decide +kernel)) ggX0_lapseSince_X5_store
theorem dX0_lapseSince_0 : decode cX0_lapseSince 0 = .ok (.iconst 0, 1) := by decide +kernel
theorem dX0_lapseSince_1 : decode cX0_lapseSince 1 = .ok (.istore_n 2, 1) := by decide +kernel
theorem dX0_lapseSince_2 : decode cX0_lapseSince 2 = .ok (.iconst 0, 1) := by decide +kernel
theorem dX0_lapseSince_3 : decode cX0_lapseSince 3 = .ok (.istore_n 3, 1) := by decide +kernel
theorem dX0_lapseSince_4 : decode cX0_lapseSince 4 = .ok (.iload_n 3, 1) := by decide +kernel
theorem dX0_lapseSince_5 : decode cX0_lapseSince 5 = .ok (.aload_n 0, 1) := by decide +kernel
theorem dX0_lapseSince_6 : decode cX0_lapseSince 6 = .ok (.getfield 36, 3) := by decide +kernel
theorem dX0_lapseSince_9 : decode cX0_lapseSince 9 = .ok (.if_icmp .ge 75, 3) := by decide +kernel
theorem dX0_lapseSince_12 : decode cX0_lapseSince 12 = .ok (.aload_n 0, 1) := by decide +kernel
theorem dX0_lapseSince_13 : decode cX0_lapseSince 13 = .ok (.getfield 20, 3) := by decide +kernel
theorem dX0_lapseSince_16 : decode cX0_lapseSince 16 = .ok (.iload_n 3, 1) := by decide +kernel
theorem dX0_lapseSince_17 : decode cX0_lapseSince 17 = .ok (.invokevirtual 47, 3) := by decide +kernel
theorem dX0_lapseSince_20 : decode cX0_lapseSince 20 = .ok (.iload_n 1, 1) := by decide +kernel
theorem dX0_lapseSince_21 : decode cX0_lapseSince 21 = .ok (.if_icmp .gt 22, 3) := by decide +kernel
theorem dX0_lapseSince_24 : decode cX0_lapseSince 24 = .ok (.aload_n 0, 1) := by decide +kernel
theorem dX0_lapseSince_25 : decode cX0_lapseSince 25 = .ok (.getfield 26, 3) := by decide +kernel
theorem dX0_lapseSince_28 : decode cX0_lapseSince 28 = .ok (.aload_n 0, 1) := by decide +kernel
theorem dX0_lapseSince_29 : decode cX0_lapseSince 29 = .ok (.getfield 14, 3) := by decide +kernel
theorem dX0_lapseSince_32 : decode cX0_lapseSince 32 = .ok (.iload_n 3, 1) := by decide +kernel
theorem dX0_lapseSince_33 : decode cX0_lapseSince 33 = .ok (.invokevirtual 47, 3) := by decide +kernel
theorem dX0_lapseSince_36 : decode cX0_lapseSince 36 = .ok (.iconst 1, 1) := by decide +kernel
theorem dX0_lapseSince_37 : decode cX0_lapseSince 37 = .ok (.invokevirtual 40, 3) := by decide +kernel
theorem dX0_lapseSince_40 : decode cX0_lapseSince 40 = .ok (.goto 38, 3) := by decide +kernel
theorem dX0_lapseSince_43 : decode cX0_lapseSince 43 = .ok (.aload_n 0, 1) := by decide +kernel
theorem dX0_lapseSince_44 : decode cX0_lapseSince 44 = .ok (.getfield 14, 3) := by decide +kernel
theorem dX0_lapseSince_47 : decode cX0_lapseSince 47 = .ok (.iload_n 2, 1) := by decide +kernel
theorem dX0_lapseSince_48 : decode cX0_lapseSince 48 = .ok (.aload_n 0, 1) := by decide +kernel
theorem dX0_lapseSince_49 : decode cX0_lapseSince 49 = .ok (.getfield 14, 3) := by decide +kernel
theorem dX0_lapseSince_52 : decode cX0_lapseSince 52 = .ok (.iload_n 3, 1) := by decide +kernel
theorem dX0_lapseSince_53 : decode cX0_lapseSince 53 = .ok (.invokevirtual 47, 3) := by decide +kernel
theorem dX0_lapseSince_56 : decode cX0_lapseSince 56 = .ok (.invokevirtual 44, 3) := by decide +kernel
theorem dX0_lapseSince_59 : decode cX0_lapseSince 59 = .ok (.aload_n 0, 1) := by decide +kernel
theorem dX0_lapseSince_60 : decode cX0_lapseSince 60 = .ok (.getfield 20, 3) := by decide +kernel
theorem dX0_lapseSince_63 : decode cX0_lapseSince 63 = .ok (.iload_n 2, 1) := by decide +kernel
theorem dX0_lapseSince_64 : decode cX0_lapseSince 64 = .ok (.aload_n 0, 1) := by decide +kernel
theorem dX0_lapseSince_65 : decode cX0_lapseSince 65 = .ok (.getfield 20, 3) := by decide +kernel
theorem dX0_lapseSince_68 : decode cX0_lapseSince 68 = .ok (.iload_n 3, 1) := by decide +kernel
theorem dX0_lapseSince_69 : decode cX0_lapseSince 69 = .ok (.invokevirtual 47, 3) := by decide +kernel
theorem dX0_lapseSince_72 : decode cX0_lapseSince 72 = .ok (.invokevirtual 44, 3) := by decide +kernel
theorem dX0_lapseSince_75 : decode cX0_lapseSince 75 = .ok (.iinc 2 1, 3) := by decide +kernel
theorem dX0_lapseSince_78 : decode cX0_lapseSince 78 = .ok (.iinc 3 1, 3) := by decide +kernel
theorem dX0_lapseSince_81 : decode cX0_lapseSince 81 = .ok (.goto (-77), 3) := by decide +kernel
theorem dX0_lapseSince_84 : decode cX0_lapseSince 84 = .ok (.aload_n 0, 1) := by decide +kernel
theorem dX0_lapseSince_85 : decode cX0_lapseSince 85 = .ok (.getfield 36, 3) := by decide +kernel
theorem dX0_lapseSince_88 : decode cX0_lapseSince 88 = .ok (.iload_n 2, 1) := by decide +kernel
theorem dX0_lapseSince_89 : decode cX0_lapseSince 89 = .ok (.isub, 1) := by decide +kernel
theorem dX0_lapseSince_90 : decode cX0_lapseSince 90 = .ok (.istore_n 3, 1) := by decide +kernel
theorem dX0_lapseSince_91 : decode cX0_lapseSince 91 = .ok (.aload_n 0, 1) := by decide +kernel
theorem dX0_lapseSince_92 : decode cX0_lapseSince 92 = .ok (.iload_n 2, 1) := by decide +kernel
theorem dX0_lapseSince_93 : decode cX0_lapseSince 93 = .ok (.putfield 36, 3) := by decide +kernel
theorem dX0_lapseSince_96 : decode cX0_lapseSince 96 = .ok (.iload_n 3, 1) := by decide +kernel
theorem dX0_lapseSince_97 : decode cX0_lapseSince 97 = .ok (.ireturn, 1) := by decide +kernel
set_option maxRecDepth 20000 in
theorem ggX0_earliestOf_X5_at : GoodIn wsX0_earliestOf wsX5_at := goodIn_r _ [7, 8, 15] (by decide +kernel) (by decide +kernel)
set_option maxRecDepth 20000 in
theorem gX0_earliestOf_X5_at : GoodIn wsX0_earliestOf (wsV RX0 47 RX5 yX5_at wsX5_at) := goodIn_app (goodIn_of _ (by decide +kernel)) ggX0_earliestOf_X5_at
theorem dX0_earliestOf_0 : decode cX0_earliestOf 0 = .ok (.iconst 0, 1) := by decide +kernel
theorem dX0_earliestOf_1 : decode cX0_earliestOf 1 = .ok (.istore_n 2, 1) := by decide +kernel
theorem dX0_earliestOf_2 : decode cX0_earliestOf 2 = .ok (.iload_n 2, 1) := by decide +kernel
theorem dX0_earliestOf_3 : decode cX0_earliestOf 3 = .ok (.aload_n 0, 1) := by decide +kernel
theorem dX0_earliestOf_4 : decode cX0_earliestOf 4 = .ok (.getfield 36, 3) := by decide +kernel
theorem dX0_earliestOf_7 : decode cX0_earliestOf 7 = .ok (.if_icmp .ge 23, 3) := by decide +kernel
theorem dX0_earliestOf_10 : decode cX0_earliestOf 10 = .ok (.aload_n 0, 1) := by decide +kernel
theorem dX0_earliestOf_11 : decode cX0_earliestOf 11 = .ok (.getfield 14, 3) := by decide +kernel
theorem dX0_earliestOf_14 : decode cX0_earliestOf 14 = .ok (.iload_n 2, 1) := by decide +kernel
theorem dX0_earliestOf_15 : decode cX0_earliestOf 15 = .ok (.invokevirtual 47, 3) := by decide +kernel
theorem dX0_earliestOf_18 : decode cX0_earliestOf 18 = .ok (.iload_n 1, 1) := by decide +kernel
theorem dX0_earliestOf_19 : decode cX0_earliestOf 19 = .ok (.if_icmp .ne 5, 3) := by decide +kernel
theorem dX0_earliestOf_22 : decode cX0_earliestOf 22 = .ok (.iload_n 2, 1) := by decide +kernel
theorem dX0_earliestOf_23 : decode cX0_earliestOf 23 = .ok (.ireturn, 1) := by decide +kernel
theorem dX0_earliestOf_24 : decode cX0_earliestOf 24 = .ok (.iinc 2 1, 3) := by decide +kernel
theorem dX0_earliestOf_27 : decode cX0_earliestOf 27 = .ok (.goto (-25), 3) := by decide +kernel
theorem dX0_earliestOf_30 : decode cX0_earliestOf 30 = .ok (.bipush (-6), 2) := by decide +kernel
theorem dX0_earliestOf_32 : decode cX0_earliestOf 32 = .ok (.ireturn, 1) := by decide +kernel
set_option maxRecDepth 20000 in
theorem ggX0_owedBy_X5_at : GoodIn wsX0_owedBy wsX5_at := goodIn_r _ [7, 8, 15] (by decide +kernel) (by decide +kernel)
set_option maxRecDepth 20000 in
theorem gX0_owedBy_X5_at : GoodIn wsX0_owedBy (wsV RX0 47 RX5 yX5_at wsX5_at) := goodIn_app (goodIn_of _ (by decide +kernel)) ggX0_owedBy_X5_at
theorem dX0_owedBy_0 : decode cX0_owedBy 0 = .ok (.iconst 0, 1) := by decide +kernel
theorem dX0_owedBy_1 : decode cX0_owedBy 1 = .ok (.istore_n 2, 1) := by decide +kernel
theorem dX0_owedBy_2 : decode cX0_owedBy 2 = .ok (.iconst 0, 1) := by decide +kernel
theorem dX0_owedBy_3 : decode cX0_owedBy 3 = .ok (.istore_n 3, 1) := by decide +kernel
theorem dX0_owedBy_4 : decode cX0_owedBy 4 = .ok (.iload_n 3, 1) := by decide +kernel
theorem dX0_owedBy_5 : decode cX0_owedBy 5 = .ok (.aload_n 0, 1) := by decide +kernel
theorem dX0_owedBy_6 : decode cX0_owedBy 6 = .ok (.getfield 36, 3) := by decide +kernel
theorem dX0_owedBy_9 : decode cX0_owedBy 9 = .ok (.if_icmp .ge 24, 3) := by decide +kernel
theorem dX0_owedBy_12 : decode cX0_owedBy 12 = .ok (.aload_n 0, 1) := by decide +kernel
theorem dX0_owedBy_13 : decode cX0_owedBy 13 = .ok (.getfield 14, 3) := by decide +kernel
theorem dX0_owedBy_16 : decode cX0_owedBy 16 = .ok (.iload_n 3, 1) := by decide +kernel
theorem dX0_owedBy_17 : decode cX0_owedBy 17 = .ok (.invokevirtual 47, 3) := by decide +kernel
theorem dX0_owedBy_20 : decode cX0_owedBy 20 = .ok (.iload_n 1, 1) := by decide +kernel
theorem dX0_owedBy_21 : decode cX0_owedBy 21 = .ok (.if_icmp .ne 6, 3) := by decide +kernel
theorem dX0_owedBy_24 : decode cX0_owedBy 24 = .ok (.iinc 2 1, 3) := by decide +kernel
theorem dX0_owedBy_27 : decode cX0_owedBy 27 = .ok (.iinc 3 1, 3) := by decide +kernel
theorem dX0_owedBy_30 : decode cX0_owedBy 30 = .ok (.goto (-26), 3) := by decide +kernel
theorem dX0_owedBy_33 : decode cX0_owedBy 33 = .ok (.iload_n 2, 1) := by decide +kernel
theorem dX0_owedBy_34 : decode cX0_owedBy 34 = .ok (.ireturn, 1) := by decide +kernel
set_option maxRecDepth 20000 in
theorem ggX0_playEarliestOf_X0_earliestOf : GoodIn wsX0_playEarliestOf wsX0_earliestOf := goodIn_r _ [9, 1, 2, 10, 11, 12, 13, 14, 15, 24, 25, 26, 27, 28, 29, 30] (by decide +kernel) (by decide +kernel)
set_option maxRecDepth 20000 in
theorem gX0_playEarliestOf_X0_earliestOf : GoodIn wsX0_playEarliestOf (wsV RX0 51 RX0 yX0_earliestOf wsX0_earliestOf) := goodIn_app (goodIn_of _ (by decide +kernel)) ggX0_playEarliestOf_X0_earliestOf
set_option maxRecDepth 20000 in
theorem ggX0_playEarliestOf_X5_at : GoodIn wsX0_playEarliestOf wsX5_at := goodIn_r _ [14, 15, 30] (by decide +kernel) (by decide +kernel)
set_option maxRecDepth 20000 in
theorem gX0_playEarliestOf_X5_at : GoodIn wsX0_playEarliestOf (wsV RX0 47 RX5 yX5_at wsX5_at) := goodIn_app (goodIn_of _ (by decide +kernel)) ggX0_playEarliestOf_X5_at
set_option maxRecDepth 20000 in
theorem ggX0_playEarliestOf_X5_store : GoodIn wsX0_playEarliestOf wsX5_store := goodIn_r _ [19, 15, 30] (by decide +kernel) (by decide +kernel)
set_option maxRecDepth 20000 in
theorem gX0_playEarliestOf_X5_store : GoodIn wsX0_playEarliestOf (wsV RX0 44 RX5 yX5_store wsX5_store) := goodIn_app (goodIn_of _ (by decide +kernel)) ggX0_playEarliestOf_X5_store
set_option maxRecDepth 20000 in
theorem ggX0_playEarliestOf_X5_add : GoodIn wsX0_playEarliestOf wsX5_add := goodIn_r _ [23, 15, 30] (by decide +kernel) (by decide +kernel)
set_option maxRecDepth 20000 in
theorem gX0_playEarliestOf_X5_add : GoodIn wsX0_playEarliestOf (wsV RX0 40 RX5 yX5_add wsX5_add) := goodIn_app (goodIn_of _ (by decide +kernel)) ggX0_playEarliestOf_X5_add
theorem dX0_playEarliestOf_0 : decode cX0_playEarliestOf 0 = .ok (.aload_n 0, 1) := by decide +kernel
theorem dX0_playEarliestOf_1 : decode cX0_playEarliestOf 1 = .ok (.iload_n 1, 1) := by decide +kernel
theorem dX0_playEarliestOf_2 : decode cX0_playEarliestOf 2 = .ok (.invokevirtual 51, 3) := by decide +kernel
theorem dX0_playEarliestOf_5 : decode cX0_playEarliestOf 5 = .ok (.istore_n 2, 1) := by decide +kernel
theorem dX0_playEarliestOf_6 : decode cX0_playEarliestOf 6 = .ok (.iload_n 2, 1) := by decide +kernel
theorem dX0_playEarliestOf_7 : decode cX0_playEarliestOf 7 = .ok (.bipush (-6), 2) := by decide +kernel
theorem dX0_playEarliestOf_9 : decode cX0_playEarliestOf 9 = .ok (.if_icmp .ne 5, 3) := by decide +kernel
theorem dX0_playEarliestOf_12 : decode cX0_playEarliestOf 12 = .ok (.iconst 0, 1) := by decide +kernel
theorem dX0_playEarliestOf_13 : decode cX0_playEarliestOf 13 = .ok (.ireturn, 1) := by decide +kernel
theorem dX0_playEarliestOf_14 : decode cX0_playEarliestOf 14 = .ok (.iload_n 2, 1) := by decide +kernel
theorem dX0_playEarliestOf_15 : decode cX0_playEarliestOf 15 = .ok (.iconst 1, 1) := by decide +kernel
theorem dX0_playEarliestOf_16 : decode cX0_playEarliestOf 16 = .ok (.iadd, 1) := by decide +kernel
theorem dX0_playEarliestOf_17 : decode cX0_playEarliestOf 17 = .ok (.istore_n 3, 1) := by decide +kernel
theorem dX0_playEarliestOf_18 : decode cX0_playEarliestOf 18 = .ok (.iload_n 3, 1) := by decide +kernel
theorem dX0_playEarliestOf_19 : decode cX0_playEarliestOf 19 = .ok (.aload_n 0, 1) := by decide +kernel
theorem dX0_playEarliestOf_20 : decode cX0_playEarliestOf 20 = .ok (.getfield 36, 3) := by decide +kernel
theorem dX0_playEarliestOf_23 : decode cX0_playEarliestOf 23 = .ok (.if_icmp .ge 45, 3) := by decide +kernel
theorem dX0_playEarliestOf_26 : decode cX0_playEarliestOf 26 = .ok (.aload_n 0, 1) := by decide +kernel
theorem dX0_playEarliestOf_27 : decode cX0_playEarliestOf 27 = .ok (.getfield 14, 3) := by decide +kernel
theorem dX0_playEarliestOf_30 : decode cX0_playEarliestOf 30 = .ok (.iload_n 3, 1) := by decide +kernel
theorem dX0_playEarliestOf_31 : decode cX0_playEarliestOf 31 = .ok (.iconst 1, 1) := by decide +kernel
theorem dX0_playEarliestOf_32 : decode cX0_playEarliestOf 32 = .ok (.isub, 1) := by decide +kernel
theorem dX0_playEarliestOf_33 : decode cX0_playEarliestOf 33 = .ok (.aload_n 0, 1) := by decide +kernel
theorem dX0_playEarliestOf_34 : decode cX0_playEarliestOf 34 = .ok (.getfield 14, 3) := by decide +kernel
theorem dX0_playEarliestOf_37 : decode cX0_playEarliestOf 37 = .ok (.iload_n 3, 1) := by decide +kernel
theorem dX0_playEarliestOf_38 : decode cX0_playEarliestOf 38 = .ok (.invokevirtual 47, 3) := by decide +kernel
theorem dX0_playEarliestOf_41 : decode cX0_playEarliestOf 41 = .ok (.invokevirtual 44, 3) := by decide +kernel
theorem dX0_playEarliestOf_44 : decode cX0_playEarliestOf 44 = .ok (.aload_n 0, 1) := by decide +kernel
theorem dX0_playEarliestOf_45 : decode cX0_playEarliestOf 45 = .ok (.getfield 20, 3) := by decide +kernel
theorem dX0_playEarliestOf_48 : decode cX0_playEarliestOf 48 = .ok (.iload_n 3, 1) := by decide +kernel
theorem dX0_playEarliestOf_49 : decode cX0_playEarliestOf 49 = .ok (.iconst 1, 1) := by decide +kernel
theorem dX0_playEarliestOf_50 : decode cX0_playEarliestOf 50 = .ok (.isub, 1) := by decide +kernel
theorem dX0_playEarliestOf_51 : decode cX0_playEarliestOf 51 = .ok (.aload_n 0, 1) := by decide +kernel
theorem dX0_playEarliestOf_52 : decode cX0_playEarliestOf 52 = .ok (.getfield 20, 3) := by decide +kernel
theorem dX0_playEarliestOf_55 : decode cX0_playEarliestOf 55 = .ok (.iload_n 3, 1) := by decide +kernel
theorem dX0_playEarliestOf_56 : decode cX0_playEarliestOf 56 = .ok (.invokevirtual 47, 3) := by decide +kernel
theorem dX0_playEarliestOf_59 : decode cX0_playEarliestOf 59 = .ok (.invokevirtual 44, 3) := by decide +kernel
theorem dX0_playEarliestOf_62 : decode cX0_playEarliestOf 62 = .ok (.iinc 3 1, 3) := by decide +kernel
theorem dX0_playEarliestOf_65 : decode cX0_playEarliestOf 65 = .ok (.goto (-47), 3) := by decide +kernel
theorem dX0_playEarliestOf_68 : decode cX0_playEarliestOf 68 = .ok (.aload_n 0, 1) := by decide +kernel
theorem dX0_playEarliestOf_69 : decode cX0_playEarliestOf 69 = .ok (.dup, 1) := by decide +kernel
theorem dX0_playEarliestOf_70 : decode cX0_playEarliestOf 70 = .ok (.getfield 36, 3) := by decide +kernel
theorem dX0_playEarliestOf_73 : decode cX0_playEarliestOf 73 = .ok (.iconst 1, 1) := by decide +kernel
theorem dX0_playEarliestOf_74 : decode cX0_playEarliestOf 74 = .ok (.isub, 1) := by decide +kernel
theorem dX0_playEarliestOf_75 : decode cX0_playEarliestOf 75 = .ok (.putfield 36, 3) := by decide +kernel
theorem dX0_playEarliestOf_78 : decode cX0_playEarliestOf 78 = .ok (.aload_n 0, 1) := by decide +kernel
theorem dX0_playEarliestOf_79 : decode cX0_playEarliestOf 79 = .ok (.getfield 23, 3) := by decide +kernel
theorem dX0_playEarliestOf_82 : decode cX0_playEarliestOf 82 = .ok (.iload_n 1, 1) := by decide +kernel
theorem dX0_playEarliestOf_83 : decode cX0_playEarliestOf 83 = .ok (.iconst 1, 1) := by decide +kernel
theorem dX0_playEarliestOf_84 : decode cX0_playEarliestOf 84 = .ok (.invokevirtual 40, 3) := by decide +kernel
theorem dX0_playEarliestOf_87 : decode cX0_playEarliestOf 87 = .ok (.iconst 1, 1) := by decide +kernel
theorem dX0_playEarliestOf_88 : decode cX0_playEarliestOf 88 = .ok (.ireturn, 1) := by decide +kernel
set_option maxRecDepth 20000 in
theorem ggX0_aboutPerformer_X7_isPerformer : GoodIn wsX0_aboutPerformer wsX7_isPerformer := goodIn_r _ [6] (by decide +kernel) (by decide +kernel)
set_option maxRecDepth 20000 in
theorem gX0_aboutPerformer_X7_isPerformer_n54 : GoodIn wsX0_aboutPerformer (wsX7_isPerformer) := ggX0_aboutPerformer_X7_isPerformer
set_option maxRecDepth 20000 in
theorem ggX0_aboutPerformer_X0_owedBy : GoodIn wsX0_aboutPerformer wsX0_owedBy := goodIn_r _ [11, 12, 13, 14, 15, 16, 17, 18, 19, 20, 21, 22, 23, 24, 25, 26] (by decide +kernel) (by decide +kernel)
set_option maxRecDepth 20000 in
theorem gX0_aboutPerformer_X0_owedBy : GoodIn wsX0_aboutPerformer (wsV RX0 58 RX0 yX0_owedBy wsX0_owedBy) := goodIn_app (goodIn_of _ (by decide +kernel)) ggX0_aboutPerformer_X0_owedBy
set_option maxRecDepth 20000 in
theorem ggX0_aboutPerformer_X5_at : GoodIn wsX0_aboutPerformer wsX5_at := goodIn_r _ [18, 19, 26] (by decide +kernel) (by decide +kernel)
set_option maxRecDepth 20000 in
theorem gX0_aboutPerformer_X5_at : GoodIn wsX0_aboutPerformer (wsV RX0 47 RX5 yX5_at wsX5_at) := goodIn_app (goodIn_of _ (by decide +kernel)) ggX0_aboutPerformer_X5_at
theorem dX0_aboutPerformer_0 : decode cX0_aboutPerformer 0 = .ok (.iload_n 1, 1) := by decide +kernel
theorem dX0_aboutPerformer_1 : decode cX0_aboutPerformer 1 = .ok (.invokestatic 54, 3) := by decide +kernel
theorem dX0_aboutPerformer_4 : decode cX0_aboutPerformer 4 = .ok (.ifCond .ne 5, 3) := by decide +kernel
theorem dX0_aboutPerformer_7 : decode cX0_aboutPerformer 7 = .ok (.iconst (-1), 1) := by decide +kernel
theorem dX0_aboutPerformer_8 : decode cX0_aboutPerformer 8 = .ok (.ireturn, 1) := by decide +kernel
theorem dX0_aboutPerformer_9 : decode cX0_aboutPerformer 9 = .ok (.iload_n 2, 1) := by decide +kernel
theorem dX0_aboutPerformer_10 : decode cX0_aboutPerformer 10 = .ok (.tableswitch 63 0 3 #[30, 36, 45, 54], 30) := by decide +kernel
theorem dX0_aboutPerformer_40 : decode cX0_aboutPerformer 40 = .ok (.aload_n 0, 1) := by decide +kernel
theorem dX0_aboutPerformer_41 : decode cX0_aboutPerformer 41 = .ok (.iload_n 1, 1) := by decide +kernel
theorem dX0_aboutPerformer_42 : decode cX0_aboutPerformer 42 = .ok (.invokevirtual 58, 3) := by decide +kernel
theorem dX0_aboutPerformer_45 : decode cX0_aboutPerformer 45 = .ok (.ireturn, 1) := by decide +kernel
theorem dX0_aboutPerformer_46 : decode cX0_aboutPerformer 46 = .ok (.aload_n 0, 1) := by decide +kernel
theorem dX0_aboutPerformer_47 : decode cX0_aboutPerformer 47 = .ok (.getfield 23, 3) := by decide +kernel
theorem dX0_aboutPerformer_50 : decode cX0_aboutPerformer 50 = .ok (.iload_n 1, 1) := by decide +kernel
theorem dX0_aboutPerformer_51 : decode cX0_aboutPerformer 51 = .ok (.invokevirtual 47, 3) := by decide +kernel
theorem dX0_aboutPerformer_54 : decode cX0_aboutPerformer 54 = .ok (.ireturn, 1) := by decide +kernel
theorem dX0_aboutPerformer_55 : decode cX0_aboutPerformer 55 = .ok (.aload_n 0, 1) := by decide +kernel
theorem dX0_aboutPerformer_56 : decode cX0_aboutPerformer 56 = .ok (.getfield 26, 3) := by decide +kernel
theorem dX0_aboutPerformer_59 : decode cX0_aboutPerformer 59 = .ok (.iload_n 1, 1) := by decide +kernel
theorem dX0_aboutPerformer_60 : decode cX0_aboutPerformer 60 = .ok (.invokevirtual 47, 3) := by decide +kernel
theorem dX0_aboutPerformer_63 : decode cX0_aboutPerformer 63 = .ok (.ireturn, 1) := by decide +kernel
theorem dX0_aboutPerformer_64 : decode cX0_aboutPerformer 64 = .ok (.aload_n 0, 1) := by decide +kernel
theorem dX0_aboutPerformer_65 : decode cX0_aboutPerformer 65 = .ok (.getfield 29, 3) := by decide +kernel
theorem dX0_aboutPerformer_68 : decode cX0_aboutPerformer 68 = .ok (.iload_n 1, 1) := by decide +kernel
theorem dX0_aboutPerformer_69 : decode cX0_aboutPerformer 69 = .ok (.invokevirtual 47, 3) := by decide +kernel
theorem dX0_aboutPerformer_72 : decode cX0_aboutPerformer 72 = .ok (.ireturn, 1) := by decide +kernel
theorem dX0_aboutPerformer_73 : decode cX0_aboutPerformer 73 = .ok (.bipush (-2), 2) := by decide +kernel
theorem dX0_aboutPerformer_75 : decode cX0_aboutPerformer 75 = .ok (.ireturn, 1) := by decide +kernel
set_option maxRecDepth 20000 in
theorem ggX0_aboutOwed_X5_at : GoodIn wsX0_aboutOwed wsX5_at := goodIn_r _ [8, 9, 16] (by decide +kernel) (by decide +kernel)
set_option maxRecDepth 20000 in
theorem gX0_aboutOwed_X5_at : GoodIn wsX0_aboutOwed (wsV RX0 47 RX5 yX5_at wsX5_at) := goodIn_app (goodIn_of _ (by decide +kernel)) ggX0_aboutOwed_X5_at
theorem dX0_aboutOwed_0 : decode cX0_aboutOwed 0 = .ok (.iload_n 1, 1) := by decide +kernel
theorem dX0_aboutOwed_1 : decode cX0_aboutOwed 1 = .ok (.ifCond .lt 11, 3) := by decide +kernel
theorem dX0_aboutOwed_4 : decode cX0_aboutOwed 4 = .ok (.iload_n 1, 1) := by decide +kernel
theorem dX0_aboutOwed_5 : decode cX0_aboutOwed 5 = .ok (.aload_n 0, 1) := by decide +kernel
theorem dX0_aboutOwed_6 : decode cX0_aboutOwed 6 = .ok (.getfield 36, 3) := by decide +kernel
theorem dX0_aboutOwed_9 : decode cX0_aboutOwed 9 = .ok (.if_icmp .lt 5, 3) := by decide +kernel
theorem dX0_aboutOwed_12 : decode cX0_aboutOwed 12 = .ok (.iconst (-1), 1) := by decide +kernel
theorem dX0_aboutOwed_13 : decode cX0_aboutOwed 13 = .ok (.ireturn, 1) := by decide +kernel
theorem dX0_aboutOwed_14 : decode cX0_aboutOwed 14 = .ok (.iload_n 2, 1) := by decide +kernel
theorem dX0_aboutOwed_15 : decode cX0_aboutOwed 15 = .ok (.lookupswitch 45 #[(0, 25), (1, 34)], 25) := by decide +kernel
theorem dX0_aboutOwed_40 : decode cX0_aboutOwed 40 = .ok (.aload_n 0, 1) := by decide +kernel
theorem dX0_aboutOwed_41 : decode cX0_aboutOwed 41 = .ok (.getfield 14, 3) := by decide +kernel
theorem dX0_aboutOwed_44 : decode cX0_aboutOwed 44 = .ok (.iload_n 1, 1) := by decide +kernel
theorem dX0_aboutOwed_45 : decode cX0_aboutOwed 45 = .ok (.invokevirtual 47, 3) := by decide +kernel
theorem dX0_aboutOwed_48 : decode cX0_aboutOwed 48 = .ok (.ireturn, 1) := by decide +kernel
theorem dX0_aboutOwed_49 : decode cX0_aboutOwed 49 = .ok (.iload_n 3, 1) := by decide +kernel
theorem dX0_aboutOwed_50 : decode cX0_aboutOwed 50 = .ok (.aload_n 0, 1) := by decide +kernel
theorem dX0_aboutOwed_51 : decode cX0_aboutOwed 51 = .ok (.getfield 20, 3) := by decide +kernel
theorem dX0_aboutOwed_54 : decode cX0_aboutOwed 54 = .ok (.iload_n 1, 1) := by decide +kernel
theorem dX0_aboutOwed_55 : decode cX0_aboutOwed 55 = .ok (.invokevirtual 47, 3) := by decide +kernel
theorem dX0_aboutOwed_58 : decode cX0_aboutOwed 58 = .ok (.isub, 1) := by decide +kernel
theorem dX0_aboutOwed_59 : decode cX0_aboutOwed 59 = .ok (.ireturn, 1) := by decide +kernel
theorem dX0_aboutOwed_60 : decode cX0_aboutOwed 60 = .ok (.bipush (-2), 2) := by decide +kernel
theorem dX0_aboutOwed_62 : decode cX0_aboutOwed 62 = .ok (.ireturn, 1) := by decide +kernel
set_option maxRecDepth 20000 in
theorem ggX1_init_X2_init : GoodIn wsX1_init wsX2_init := goodIn_r _ [10, 11, 2, 3, 12, 13, 14, 15, 16, 17, 18, 19, 20, 21, 22, 23, 24, 25, 26, 27, 28, 29, 30, 31, 32, 33, 34, 35, 36, 37, 38, 39, 40, 41, 42, 43, 44, 45, 46, 47, 48, 49, 50, 51, 52, 53, 54, 55, 56, 57, 58, 59, 60, 61, 62, 63, 64, 65, 80, 69, 70, 71, 72, 73, 74, 75, 76, 77, 78, 79, 81, 82, 83, 84, 85, 86, 87, 88, 89, 90, 91, 92, 93, 94] (by decide +kernel) (by decide +kernel)
set_option maxRecDepth 20000 in
theorem gX1_init_X2_init : GoodIn wsX1_init (wsX2_init) := ggX1_init_X2_init
theorem dX1_init_0 : decode cX1_init 0 = .ok (.aload_n 0, 1) := by decide +kernel
theorem dX1_init_1 : decode cX1_init 1 = .ok (.invokespecial 3, 3) := by decide +kernel
theorem dX1_init_4 : decode cX1_init 4 = .ok (.aload_n 0, 1) := by decide +kernel
theorem dX1_init_5 : decode cX1_init 5 = .ok (.bipush 7, 2) := by decide +kernel
theorem dX1_init_7 : decode cX1_init 7 = .ok (.anewarray 11, 3) := by decide +kernel
theorem dX1_init_10 : decode cX1_init 10 = .ok (.putfield 13, 3) := by decide +kernel
theorem dX1_init_13 : decode cX1_init 13 = .ok (.iconst 0, 1) := by decide +kernel
theorem dX1_init_14 : decode cX1_init 14 = .ok (.istore_n 1, 1) := by decide +kernel
theorem dX1_init_15 : decode cX1_init 15 = .ok (.iload_n 1, 1) := by decide +kernel
theorem dX1_init_16 : decode cX1_init 16 = .ok (.aload_n 0, 1) := by decide +kernel
theorem dX1_init_17 : decode cX1_init 17 = .ok (.getfield 13, 3) := by decide +kernel
theorem dX1_init_20 : decode cX1_init 20 = .ok (.arraylength, 1) := by decide +kernel
theorem dX1_init_21 : decode cX1_init 21 = .ok (.if_icmp .ge 22, 3) := by decide +kernel
theorem dX1_init_24 : decode cX1_init 24 = .ok (.aload_n 0, 1) := by decide +kernel
theorem dX1_init_25 : decode cX1_init 25 = .ok (.getfield 13, 3) := by decide +kernel
theorem dX1_init_28 : decode cX1_init 28 = .ok (.iload_n 1, 1) := by decide +kernel
theorem dX1_init_29 : decode cX1_init 29 = .ok (.new 11, 3) := by decide +kernel
theorem dX1_init_32 : decode cX1_init 32 = .ok (.dup, 1) := by decide +kernel
theorem dX1_init_33 : decode cX1_init 33 = .ok (.invokespecial 17, 3) := by decide +kernel
theorem dX1_init_36 : decode cX1_init 36 = .ok (.aastore, 1) := by decide +kernel
theorem dX1_init_37 : decode cX1_init 37 = .ok (.iinc 1 1, 3) := by decide +kernel
theorem dX1_init_40 : decode cX1_init 40 = .ok (.goto (-25), 3) := by decide +kernel
theorem dX1_init_43 : decode cX1_init 43 = .ok (.return_, 1) := by decide +kernel
theorem dX1_kept_0 : decode cX1_kept 0 = .ok (.aload_n 0, 1) := by decide +kernel
theorem dX1_kept_1 : decode cX1_kept 1 = .ok (.getfield 18, 3) := by decide +kernel
theorem dX1_kept_4 : decode cX1_kept 4 = .ok (.ireturn, 1) := by decide +kernel
theorem dX1_stateAt_0 : decode cX1_stateAt 0 = .ok (.iload_n 1, 1) := by decide +kernel
theorem dX1_stateAt_1 : decode cX1_stateAt 1 = .ok (.ifCond .lt 21, 3) := by decide +kernel
theorem dX1_stateAt_4 : decode cX1_stateAt 4 = .ok (.iload_n 1, 1) := by decide +kernel
theorem dX1_stateAt_5 : decode cX1_stateAt 5 = .ok (.aload_n 0, 1) := by decide +kernel
theorem dX1_stateAt_6 : decode cX1_stateAt 6 = .ok (.getfield 13, 3) := by decide +kernel
theorem dX1_stateAt_9 : decode cX1_stateAt 9 = .ok (.arraylength, 1) := by decide +kernel
theorem dX1_stateAt_10 : decode cX1_stateAt 10 = .ok (.if_icmp .ge 12, 3) := by decide +kernel
theorem dX1_stateAt_13 : decode cX1_stateAt 13 = .ok (.aload_n 0, 1) := by decide +kernel
theorem dX1_stateAt_14 : decode cX1_stateAt 14 = .ok (.getfield 13, 3) := by decide +kernel
theorem dX1_stateAt_17 : decode cX1_stateAt 17 = .ok (.iload_n 1, 1) := by decide +kernel
theorem dX1_stateAt_18 : decode cX1_stateAt 18 = .ok (.aaload, 1) := by decide +kernel
theorem dX1_stateAt_19 : decode cX1_stateAt 19 = .ok (.goto 4, 3) := by decide +kernel
theorem dX1_stateAt_22 : decode cX1_stateAt 22 = .ok (.aconst_null, 1) := by decide +kernel
theorem dX1_stateAt_23 : decode cX1_stateAt 23 = .ok (.areturn, 1) := by decide +kernel
set_option maxRecDepth 20000 in
theorem ggX1_setAside_X1_stateAt : GoodIn wsX1_setAside wsX1_stateAt := goodIn_r _ [6, 7, 64, 65, 66] (by decide +kernel) (by decide +kernel)
set_option maxRecDepth 20000 in
theorem gX1_setAside_X1_stateAt : GoodIn wsX1_setAside (wsV RX1 25 RX1 yX1_stateAt wsX1_stateAt) := goodIn_app (goodIn_of _ (by decide +kernel)) ggX1_setAside_X1_stateAt
set_option maxRecDepth 20000 in
theorem ggX1_setAside_X2_copyFrom : GoodIn wsX1_setAside wsX2_copyFrom := goodIn_r _ [12, 13, 14, 15, 16, 17, 18, 19, 20, 21, 22, 23, 24, 25, 26, 27, 28, 29, 30, 31, 32, 33, 34, 35, 36, 37, 38, 39, 40, 41, 42, 43, 44, 45, 46, 47, 48, 49, 50, 51, 52, 53, 54, 55, 56, 57, 58, 59, 60, 61, 62, 63, 67, 68, 69, 70, 71, 72, 73, 74, 75, 76, 77, 78, 79, 80, 81, 82, 83, 84, 85, 86, 87, 88, 89, 90, 91, 92] (by decide +kernel) (by decide +kernel)
set_option maxRecDepth 20000 in
theorem gX1_setAside_X2_copyFrom : GoodIn wsX1_setAside (wsV RX1 29 RX2 yX2_copyFrom wsX2_copyFrom) := goodIn_app (goodIn_of _ (by decide +kernel)) ggX1_setAside_X2_copyFrom
theorem dX1_setAside_0 : decode cX1_setAside 0 = .ok (.aload_n 0, 1) := by decide +kernel
theorem dX1_setAside_1 : decode cX1_setAside 1 = .ok (.aload_n 0, 1) := by decide +kernel
theorem dX1_setAside_2 : decode cX1_setAside 2 = .ok (.getfield 22, 3) := by decide +kernel
theorem dX1_setAside_5 : decode cX1_setAside 5 = .ok (.invokevirtual 25, 3) := by decide +kernel
theorem dX1_setAside_8 : decode cX1_setAside 8 = .ok (.astore_n 2, 1) := by decide +kernel
theorem dX1_setAside_9 : decode cX1_setAside 9 = .ok (.aload_n 2, 1) := by decide +kernel
theorem dX1_setAside_10 : decode cX1_setAside 10 = .ok (.ifnull 8, 3) := by decide +kernel
theorem dX1_setAside_13 : decode cX1_setAside 13 = .ok (.aload_n 2, 1) := by decide +kernel
theorem dX1_setAside_14 : decode cX1_setAside 14 = .ok (.aload_n 1, 1) := by decide +kernel
theorem dX1_setAside_15 : decode cX1_setAside 15 = .ok (.invokevirtual 29, 3) := by decide +kernel
theorem dX1_setAside_18 : decode cX1_setAside 18 = .ok (.return_, 1) := by decide +kernel
theorem dX1_keepUnlessError_0 : decode cX1_keepUnlessError 0 = .ok (.iload_n 1, 1) := by decide +kernel
theorem dX1_keepUnlessError_1 : decode cX1_keepUnlessError 1 = .ok (.ifCond .lt 31, 3) := by decide +kernel
theorem dX1_keepUnlessError_4 : decode cX1_keepUnlessError 4 = .ok (.aload_n 0, 1) := by decide +kernel
theorem dX1_keepUnlessError_5 : decode cX1_keepUnlessError 5 = .ok (.aload_n 0, 1) := by decide +kernel
theorem dX1_keepUnlessError_6 : decode cX1_keepUnlessError 6 = .ok (.getfield 22, 3) := by decide +kernel
theorem dX1_keepUnlessError_9 : decode cX1_keepUnlessError 9 = .ok (.iconst 1, 1) := by decide +kernel
theorem dX1_keepUnlessError_10 : decode cX1_keepUnlessError 10 = .ok (.iadd, 1) := by decide +kernel
theorem dX1_keepUnlessError_11 : decode cX1_keepUnlessError 11 = .ok (.bipush 7, 2) := by decide +kernel
theorem dX1_keepUnlessError_13 : decode cX1_keepUnlessError 13 = .ok (.irem, 1) := by decide +kernel
theorem dX1_keepUnlessError_14 : decode cX1_keepUnlessError 14 = .ok (.putfield 22, 3) := by decide +kernel
theorem dX1_keepUnlessError_17 : decode cX1_keepUnlessError 17 = .ok (.aload_n 0, 1) := by decide +kernel
theorem dX1_keepUnlessError_18 : decode cX1_keepUnlessError 18 = .ok (.aload_n 0, 1) := by decide +kernel
theorem dX1_keepUnlessError_19 : decode cX1_keepUnlessError 19 = .ok (.getfield 18, 3) := by decide +kernel
theorem dX1_keepUnlessError_22 : decode cX1_keepUnlessError 22 = .ok (.iconst 1, 1) := by decide +kernel
theorem dX1_keepUnlessError_23 : decode cX1_keepUnlessError 23 = .ok (.iadd, 1) := by decide +kernel
theorem dX1_keepUnlessError_24 : decode cX1_keepUnlessError 24 = .ok (.bipush 6, 2) := by decide +kernel
theorem dX1_keepUnlessError_26 : decode cX1_keepUnlessError 26 = .ok (.invokestatic 33, 3) := by decide +kernel
theorem dX1_keepUnlessError_29 : decode cX1_keepUnlessError 29 = .ok (.putfield 18, 3) := by decide +kernel
theorem dX1_keepUnlessError_32 : decode cX1_keepUnlessError 32 = .ok (.iload_n 1, 1) := by decide +kernel
theorem dX1_keepUnlessError_33 : decode cX1_keepUnlessError 33 = .ok (.ireturn, 1) := by decide +kernel
set_option maxRecDepth 20000 in
theorem ggX1_takeBack_X1_stateAt : GoodIn wsX1_takeBack wsX1_stateAt := goodIn_r _ [7, 8, 65, 66, 67] (by decide +kernel) (by decide +kernel)
set_option maxRecDepth 20000 in
theorem gX1_takeBack_X1_stateAt : GoodIn wsX1_takeBack (wsV RX1 25 RX1 yX1_stateAt wsX1_stateAt) := goodIn_app (goodIn_of _ (by decide +kernel)) ggX1_takeBack_X1_stateAt
set_option maxRecDepth 20000 in
theorem ggX1_takeBack_X2_copyFrom : GoodIn wsX1_takeBack wsX2_copyFrom := goodIn_r _ [13, 14, 15, 16, 17, 18, 19, 20, 21, 22, 23, 24, 25, 26, 27, 28, 29, 30, 31, 32, 33, 34, 35, 36, 37, 38, 39, 40, 41, 42, 43, 44, 45, 46, 47, 48, 49, 50, 51, 52, 53, 54, 55, 56, 57, 58, 59, 60, 61, 62, 63, 64, 68, 69, 70, 71, 72, 73, 74, 75, 76, 77, 78, 79, 80, 81, 82, 83, 84, 85, 86, 87, 88, 89, 90, 91, 92, 93] (by decide +kernel) (by decide +kernel)
set_option maxRecDepth 20000 in
theorem gX1_takeBack_X2_copyFrom : GoodIn wsX1_takeBack (wsV RX1 29 RX2 yX2_copyFrom wsX2_copyFrom) := goodIn_app (goodIn_of _ (by decide +kernel)) ggX1_takeBack_X2_copyFrom
theorem dX1_takeBack_0 : decode cX1_takeBack 0 = .ok (.aload_n 0, 1) := by decide +kernel
theorem dX1_takeBack_1 : decode cX1_takeBack 1 = .ok (.getfield 22, 3) := by decide +kernel
theorem dX1_takeBack_4 : decode cX1_takeBack 4 = .ok (.bipush 7, 2) := by decide +kernel
theorem dX1_takeBack_6 : decode cX1_takeBack 6 = .ok (.iadd, 1) := by decide +kernel
theorem dX1_takeBack_7 : decode cX1_takeBack 7 = .ok (.iconst 1, 1) := by decide +kernel
theorem dX1_takeBack_8 : decode cX1_takeBack 8 = .ok (.isub, 1) := by decide +kernel
theorem dX1_takeBack_9 : decode cX1_takeBack 9 = .ok (.bipush 7, 2) := by decide +kernel
theorem dX1_takeBack_11 : decode cX1_takeBack 11 = .ok (.irem, 1) := by decide +kernel
theorem dX1_takeBack_12 : decode cX1_takeBack 12 = .ok (.istore_n 2, 1) := by decide +kernel
theorem dX1_takeBack_13 : decode cX1_takeBack 13 = .ok (.aload_n 0, 1) := by decide +kernel
theorem dX1_takeBack_14 : decode cX1_takeBack 14 = .ok (.iload_n 2, 1) := by decide +kernel
theorem dX1_takeBack_15 : decode cX1_takeBack 15 = .ok (.invokevirtual 25, 3) := by decide +kernel
theorem dX1_takeBack_18 : decode cX1_takeBack 18 = .ok (.astore_n 3, 1) := by decide +kernel
theorem dX1_takeBack_19 : decode cX1_takeBack 19 = .ok (.aload_n 0, 1) := by decide +kernel
theorem dX1_takeBack_20 : decode cX1_takeBack 20 = .ok (.getfield 18, 3) := by decide +kernel
theorem dX1_takeBack_23 : decode cX1_takeBack 23 = .ok (.ifCond .le 7, 3) := by decide +kernel
theorem dX1_takeBack_26 : decode cX1_takeBack 26 = .ok (.aload_n 3, 1) := by decide +kernel
theorem dX1_takeBack_27 : decode cX1_takeBack 27 = .ok (.ifnonnull 6, 3) := by decide +kernel
theorem dX1_takeBack_30 : decode cX1_takeBack 30 = .ok (.bipush (-5), 2) := by decide +kernel
theorem dX1_takeBack_32 : decode cX1_takeBack 32 = .ok (.ireturn, 1) := by decide +kernel
theorem dX1_takeBack_33 : decode cX1_takeBack 33 = .ok (.aload_n 1, 1) := by decide +kernel
theorem dX1_takeBack_34 : decode cX1_takeBack 34 = .ok (.aload_n 3, 1) := by decide +kernel
theorem dX1_takeBack_35 : decode cX1_takeBack 35 = .ok (.invokevirtual 29, 3) := by decide +kernel
theorem dX1_takeBack_38 : decode cX1_takeBack 38 = .ok (.aload_n 0, 1) := by decide +kernel
theorem dX1_takeBack_39 : decode cX1_takeBack 39 = .ok (.iload_n 2, 1) := by decide +kernel
theorem dX1_takeBack_40 : decode cX1_takeBack 40 = .ok (.putfield 22, 3) := by decide +kernel
theorem dX1_takeBack_43 : decode cX1_takeBack 43 = .ok (.aload_n 0, 1) := by decide +kernel
theorem dX1_takeBack_44 : decode cX1_takeBack 44 = .ok (.dup, 1) := by decide +kernel
theorem dX1_takeBack_45 : decode cX1_takeBack 45 = .ok (.getfield 18, 3) := by decide +kernel
theorem dX1_takeBack_48 : decode cX1_takeBack 48 = .ok (.iconst 1, 1) := by decide +kernel
theorem dX1_takeBack_49 : decode cX1_takeBack 49 = .ok (.isub, 1) := by decide +kernel
theorem dX1_takeBack_50 : decode cX1_takeBack 50 = .ok (.putfield 18, 3) := by decide +kernel
theorem dX1_takeBack_53 : decode cX1_takeBack 53 = .ok (.aload_n 0, 1) := by decide +kernel
theorem dX1_takeBack_54 : decode cX1_takeBack 54 = .ok (.getfield 18, 3) := by decide +kernel
theorem dX1_takeBack_57 : decode cX1_takeBack 57 = .ok (.ireturn, 1) := by decide +kernel
set_option maxRecDepth 20000 in
theorem ggX2_init_X5_init : GoodIn wsX2_init wsX5_init := goodIn_r _ [21, 22, 2, 3, 23, 24, 25, 26, 27, 28, 58] (by decide +kernel) (by decide +kernel)
set_option maxRecDepth 20000 in
theorem gX2_init_X5_init : GoodIn wsX2_init (wsX5_init) := ggX2_init_X5_init
set_option maxRecDepth 20000 in
theorem ggX2_init_X6_init : GoodIn wsX2_init wsX6_init := goodIn_r _ [31, 32, 2, 3, 33, 5, 6, 34, 35, 36, 37, 38, 39, 20, 21, 22, 23, 24, 25, 26, 27, 28, 40, 41, 42, 43, 58, 70, 71, 72, 73, 74, 75, 76, 77] (by decide +kernel) (by decide +kernel)
set_option maxRecDepth 20000 in
theorem gX2_init_X6_init : GoodIn wsX2_init (wsX6_init) := ggX2_init_X6_init
set_option maxRecDepth 20000 in
theorem ggX2_init_X0_init : GoodIn wsX2_init wsX0_init := goodIn_r _ [45, 46, 2, 3, 47, 5, 6, 48, 49, 50, 51, 52, 53, 20, 21, 22, 23, 24, 25, 26, 27, 28, 58, 78, 79, 80, 81, 82, 83] (by decide +kernel) (by decide +kernel)
set_option maxRecDepth 20000 in
theorem gX2_init_X0_init_n29 : GoodIn wsX2_init (wsX0_init) := ggX2_init_X0_init
set_option maxRecDepth 20000 in
theorem ggX2_init_X5_store : GoodIn wsX2_init wsX5_store := goodIn_r _ [57, 28, 58] (by decide +kernel) (by decide +kernel)
set_option maxRecDepth 20000 in
theorem gX2_init_X5_store : GoodIn wsX2_init (wsV RX2 48 RX5 yX5_store wsX5_store) := goodIn_app (goodIn_of _ (by decide +kernel)) ggX2_init_X5_store
theorem dX2_init_0 : decode cX2_init 0 = .ok (.aload_n 0, 1) := by decide +kernel
theorem dX2_init_1 : decode cX2_init 1 = .ok (.invokespecial 3, 3) := by decide +kernel
theorem dX2_init_4 : decode cX2_init 4 = .ok (.aload_n 0, 1) := by decide +kernel
theorem dX2_init_5 : decode cX2_init 5 = .ok (.new 9, 3) := by decide +kernel
theorem dX2_init_8 : decode cX2_init 8 = .ok (.dup, 1) := by decide +kernel
theorem dX2_init_9 : decode cX2_init 9 = .ok (.bipush 6, 2) := by decide +kernel
theorem dX2_init_11 : decode cX2_init 11 = .ok (.invokespecial 11, 3) := by decide +kernel
theorem dX2_init_14 : decode cX2_init 14 = .ok (.putfield 14, 3) := by decide +kernel
theorem dX2_init_17 : decode cX2_init 17 = .ok (.aload_n 0, 1) := by decide +kernel
theorem dX2_init_18 : decode cX2_init 18 = .ok (.new 20, 3) := by decide +kernel
theorem dX2_init_21 : decode cX2_init 21 = .ok (.dup, 1) := by decide +kernel
theorem dX2_init_22 : decode cX2_init 22 = .ok (.invokespecial 22, 3) := by decide +kernel
theorem dX2_init_25 : decode cX2_init 25 = .ok (.putfield 23, 3) := by decide +kernel
theorem dX2_init_28 : decode cX2_init 28 = .ok (.aload_n 0, 1) := by decide +kernel
theorem dX2_init_29 : decode cX2_init 29 = .ok (.new 27, 3) := by decide +kernel
theorem dX2_init_32 : decode cX2_init 32 = .ok (.dup, 1) := by decide +kernel
theorem dX2_init_33 : decode cX2_init 33 = .ok (.invokespecial 29, 3) := by decide +kernel
theorem dX2_init_36 : decode cX2_init 36 = .ok (.putfield 30, 3) := by decide +kernel
theorem dX2_init_39 : decode cX2_init 39 = .ok (.aload_n 0, 1) := by decide +kernel
theorem dX2_init_40 : decode cX2_init 40 = .ok (.new 9, 3) := by decide +kernel
theorem dX2_init_43 : decode cX2_init 43 = .ok (.dup, 1) := by decide +kernel
theorem dX2_init_44 : decode cX2_init 44 = .ok (.iconst 4, 1) := by decide +kernel
theorem dX2_init_45 : decode cX2_init 45 = .ok (.invokespecial 11, 3) := by decide +kernel
theorem dX2_init_48 : decode cX2_init 48 = .ok (.putfield 34, 3) := by decide +kernel
theorem dX2_init_51 : decode cX2_init 51 = .ok (.aload_n 0, 1) := by decide +kernel
theorem dX2_init_52 : decode cX2_init 52 = .ok (.new 9, 3) := by decide +kernel
theorem dX2_init_55 : decode cX2_init 55 = .ok (.dup, 1) := by decide +kernel
theorem dX2_init_56 : decode cX2_init 56 = .ok (.bipush 24, 2) := by decide +kernel
theorem dX2_init_58 : decode cX2_init 58 = .ok (.invokespecial 11, 3) := by decide +kernel
theorem dX2_init_61 : decode cX2_init 61 = .ok (.putfield 37, 3) := by decide +kernel
theorem dX2_init_64 : decode cX2_init 64 = .ok (.aload_n 0, 1) := by decide +kernel
theorem dX2_init_65 : decode cX2_init 65 = .ok (.bipush (-6), 2) := by decide +kernel
theorem dX2_init_67 : decode cX2_init 67 = .ok (.putfield 40, 3) := by decide +kernel
theorem dX2_init_70 : decode cX2_init 70 = .ok (.iconst 0, 1) := by decide +kernel
theorem dX2_init_71 : decode cX2_init 71 = .ok (.istore_n 1, 1) := by decide +kernel
theorem dX2_init_72 : decode cX2_init 72 = .ok (.iload_n 1, 1) := by decide +kernel
theorem dX2_init_73 : decode cX2_init 73 = .ok (.bipush 6, 2) := by decide +kernel
theorem dX2_init_75 : decode cX2_init 75 = .ok (.if_icmp .ge 30, 3) := by decide +kernel
theorem dX2_init_78 : decode cX2_init 78 = .ok (.iload_n 1, 1) := by decide +kernel
theorem dX2_init_79 : decode cX2_init 79 = .ok (.getstatic 44, 3) := by decide +kernel
theorem dX2_init_82 : decode cX2_init 82 = .ok (.arraylength, 1) := by decide +kernel
theorem dX2_init_83 : decode cX2_init 83 = .ok (.if_icmp .ge 22, 3) := by decide +kernel
theorem dX2_init_86 : decode cX2_init 86 = .ok (.aload_n 0, 1) := by decide +kernel
theorem dX2_init_87 : decode cX2_init 87 = .ok (.getfield 14, 3) := by decide +kernel
theorem dX2_init_90 : decode cX2_init 90 = .ok (.iload_n 1, 1) := by decide +kernel
theorem dX2_init_91 : decode cX2_init 91 = .ok (.getstatic 44, 3) := by decide +kernel
theorem dX2_init_94 : decode cX2_init 94 = .ok (.iload_n 1, 1) := by decide +kernel
theorem dX2_init_95 : decode cX2_init 95 = .ok (.iaload, 1) := by decide +kernel
theorem dX2_init_96 : decode cX2_init 96 = .ok (.invokevirtual 48, 3) := by decide +kernel
theorem dX2_init_99 : decode cX2_init 99 = .ok (.iinc 1 1, 3) := by decide +kernel
theorem dX2_init_102 : decode cX2_init 102 = .ok (.goto (-30), 3) := by decide +kernel
theorem dX2_init_105 : decode cX2_init 105 = .ok (.return_, 1) := by decide +kernel
set_option maxRecDepth 20000 in
theorem ggX2_copyFrom_X5_copyFrom : GoodIn wsX2_copyFrom wsX5_copyFrom := goodIn_r _ [16, 17, 18, 19, 20, 21, 22, 23, 24, 25, 63] (by decide +kernel) (by decide +kernel)
set_option maxRecDepth 20000 in
theorem gX2_copyFrom_X5_copyFrom : GoodIn wsX2_copyFrom (wsV RX2 52 RX5 yX5_copyFrom wsX5_copyFrom) := goodIn_app (goodIn_of _ (by decide +kernel)) ggX2_copyFrom_X5_copyFrom
set_option maxRecDepth 20000 in
theorem ggX2_copyFrom_X6_copyFrom : GoodIn wsX2_copyFrom wsX6_copyFrom := goodIn_r _ [30, 31, 32, 33, 34, 35, 36, 37, 38, 39, 13, 14, 15, 16, 17, 18, 19, 20, 21, 22, 23, 24, 25, 64, 65, 66, 67, 68, 69, 70, 71, 63] (by decide +kernel) (by decide +kernel)
set_option maxRecDepth 20000 in
theorem gX2_copyFrom_X6_copyFrom : GoodIn wsX2_copyFrom (wsV RX2 56 RX6 yX6_copyFrom wsX6_copyFrom) := goodIn_app (goodIn_of _ (by decide +kernel)) ggX2_copyFrom_X6_copyFrom
set_option maxRecDepth 20000 in
theorem ggX2_copyFrom_X0_copyFrom : GoodIn wsX2_copyFrom wsX0_copyFrom := goodIn_r _ [44, 45, 46, 47, 48, 49, 50, 51, 13, 14, 15, 16, 17, 18, 19, 20, 21, 22, 23, 24, 25, 72, 73, 74, 75, 76, 77, 63] (by decide +kernel) (by decide +kernel)
set_option maxRecDepth 20000 in
theorem gX2_copyFrom_X0_copyFrom : GoodIn wsX2_copyFrom (wsV RX2 59 RX0 yX0_copyFrom wsX0_copyFrom) := goodIn_app (goodIn_of _ (by decide +kernel)) ggX2_copyFrom_X0_copyFrom
theorem dX2_copyFrom_0 : decode cX2_copyFrom 0 = .ok (.aload_n 0, 1) := by decide +kernel
theorem dX2_copyFrom_1 : decode cX2_copyFrom 1 = .ok (.getfield 14, 3) := by decide +kernel
theorem dX2_copyFrom_4 : decode cX2_copyFrom 4 = .ok (.aload_n 1, 1) := by decide +kernel
theorem dX2_copyFrom_5 : decode cX2_copyFrom 5 = .ok (.getfield 14, 3) := by decide +kernel
theorem dX2_copyFrom_8 : decode cX2_copyFrom 8 = .ok (.invokevirtual 52, 3) := by decide +kernel
theorem dX2_copyFrom_11 : decode cX2_copyFrom 11 = .ok (.aload_n 0, 1) := by decide +kernel
theorem dX2_copyFrom_12 : decode cX2_copyFrom 12 = .ok (.getfield 23, 3) := by decide +kernel
theorem dX2_copyFrom_15 : decode cX2_copyFrom 15 = .ok (.aload_n 1, 1) := by decide +kernel
theorem dX2_copyFrom_16 : decode cX2_copyFrom 16 = .ok (.getfield 23, 3) := by decide +kernel
theorem dX2_copyFrom_19 : decode cX2_copyFrom 19 = .ok (.invokevirtual 56, 3) := by decide +kernel
theorem dX2_copyFrom_22 : decode cX2_copyFrom 22 = .ok (.aload_n 0, 1) := by decide +kernel
theorem dX2_copyFrom_23 : decode cX2_copyFrom 23 = .ok (.getfield 30, 3) := by decide +kernel
theorem dX2_copyFrom_26 : decode cX2_copyFrom 26 = .ok (.aload_n 1, 1) := by decide +kernel
theorem dX2_copyFrom_27 : decode cX2_copyFrom 27 = .ok (.getfield 30, 3) := by decide +kernel
theorem dX2_copyFrom_30 : decode cX2_copyFrom 30 = .ok (.invokevirtual 59, 3) := by decide +kernel
theorem dX2_copyFrom_33 : decode cX2_copyFrom 33 = .ok (.aload_n 0, 1) := by decide +kernel
theorem dX2_copyFrom_34 : decode cX2_copyFrom 34 = .ok (.getfield 34, 3) := by decide +kernel
theorem dX2_copyFrom_37 : decode cX2_copyFrom 37 = .ok (.aload_n 1, 1) := by decide +kernel
theorem dX2_copyFrom_38 : decode cX2_copyFrom 38 = .ok (.getfield 34, 3) := by decide +kernel
theorem dX2_copyFrom_41 : decode cX2_copyFrom 41 = .ok (.invokevirtual 52, 3) := by decide +kernel
theorem dX2_copyFrom_44 : decode cX2_copyFrom 44 = .ok (.aload_n 0, 1) := by decide +kernel
theorem dX2_copyFrom_45 : decode cX2_copyFrom 45 = .ok (.getfield 37, 3) := by decide +kernel
theorem dX2_copyFrom_48 : decode cX2_copyFrom 48 = .ok (.aload_n 1, 1) := by decide +kernel
theorem dX2_copyFrom_49 : decode cX2_copyFrom 49 = .ok (.getfield 37, 3) := by decide +kernel
theorem dX2_copyFrom_52 : decode cX2_copyFrom 52 = .ok (.invokevirtual 52, 3) := by decide +kernel
theorem dX2_copyFrom_55 : decode cX2_copyFrom 55 = .ok (.aload_n 0, 1) := by decide +kernel
theorem dX2_copyFrom_56 : decode cX2_copyFrom 56 = .ok (.aload_n 1, 1) := by decide +kernel
theorem dX2_copyFrom_57 : decode cX2_copyFrom 57 = .ok (.getfield 62, 3) := by decide +kernel
theorem dX2_copyFrom_60 : decode cX2_copyFrom 60 = .ok (.putfield 62, 3) := by decide +kernel
theorem dX2_copyFrom_63 : decode cX2_copyFrom 63 = .ok (.aload_n 0, 1) := by decide +kernel
theorem dX2_copyFrom_64 : decode cX2_copyFrom 64 = .ok (.aload_n 1, 1) := by decide +kernel
theorem dX2_copyFrom_65 : decode cX2_copyFrom 65 = .ok (.getfield 65, 3) := by decide +kernel
theorem dX2_copyFrom_68 : decode cX2_copyFrom 68 = .ok (.putfield 65, 3) := by decide +kernel
theorem dX2_copyFrom_71 : decode cX2_copyFrom 71 = .ok (.aload_n 0, 1) := by decide +kernel
theorem dX2_copyFrom_72 : decode cX2_copyFrom 72 = .ok (.aload_n 1, 1) := by decide +kernel
theorem dX2_copyFrom_73 : decode cX2_copyFrom 73 = .ok (.getfield 68, 3) := by decide +kernel
theorem dX2_copyFrom_76 : decode cX2_copyFrom 76 = .ok (.putfield 68, 3) := by decide +kernel
theorem dX2_copyFrom_79 : decode cX2_copyFrom 79 = .ok (.aload_n 0, 1) := by decide +kernel
theorem dX2_copyFrom_80 : decode cX2_copyFrom 80 = .ok (.aload_n 1, 1) := by decide +kernel
theorem dX2_copyFrom_81 : decode cX2_copyFrom 81 = .ok (.getfield 40, 3) := by decide +kernel
theorem dX2_copyFrom_84 : decode cX2_copyFrom 84 = .ok (.putfield 40, 3) := by decide +kernel
theorem dX2_copyFrom_87 : decode cX2_copyFrom 87 = .ok (.aload_n 0, 1) := by decide +kernel
theorem dX2_copyFrom_88 : decode cX2_copyFrom 88 = .ok (.aload_n 1, 1) := by decide +kernel
theorem dX2_copyFrom_89 : decode cX2_copyFrom 89 = .ok (.getfield 71, 3) := by decide +kernel
theorem dX2_copyFrom_92 : decode cX2_copyFrom 92 = .ok (.putfield 71, 3) := by decide +kernel
theorem dX2_copyFrom_95 : decode cX2_copyFrom 95 = .ok (.aload_n 0, 1) := by decide +kernel
theorem dX2_copyFrom_96 : decode cX2_copyFrom 96 = .ok (.aload_n 1, 1) := by decide +kernel
theorem dX2_copyFrom_97 : decode cX2_copyFrom 97 = .ok (.getfield 74, 3) := by decide +kernel
theorem dX2_copyFrom_100 : decode cX2_copyFrom 100 = .ok (.putfield 74, 3) := by decide +kernel
theorem dX2_copyFrom_103 : decode cX2_copyFrom 103 = .ok (.return_, 1) := by decide +kernel
set_option maxRecDepth 20000 in
theorem ggX2_changeSetting_X5_at : GoodIn wsX2_changeSetting wsX5_at := goodIn_r _ [6, 7, 23] (by decide +kernel) (by decide +kernel)
set_option maxRecDepth 20000 in
theorem gX2_changeSetting_X5_at : GoodIn wsX2_changeSetting (wsV RX2 84 RX5 yX5_at wsX5_at) := goodIn_app (goodIn_of _ (by decide +kernel)) ggX2_changeSetting_X5_at
set_option maxRecDepth 20000 in
theorem ggX2_changeSetting_X5_store : GoodIn wsX2_changeSetting wsX5_store := goodIn_r _ [11, 7, 23] (by decide +kernel) (by decide +kernel)
set_option maxRecDepth 20000 in
theorem gX2_changeSetting_X5_store : GoodIn wsX2_changeSetting (wsV RX2 48 RX5 yX5_store wsX5_store) := goodIn_app (goodIn_of _ (by decide +kernel)) ggX2_changeSetting_X5_store
theorem dX2_changeSetting_0 : decode cX2_changeSetting 0 = .ok (.iload_n 1, 1) := by decide +kernel
theorem dX2_changeSetting_1 : decode cX2_changeSetting 1 = .ok (.ifCond .lt 19, 3) := by decide +kernel
theorem dX2_changeSetting_4 : decode cX2_changeSetting 4 = .ok (.iload_n 1, 1) := by decide +kernel
theorem dX2_changeSetting_5 : decode cX2_changeSetting 5 = .ok (.getstatic 78, 3) := by decide +kernel
theorem dX2_changeSetting_8 : decode cX2_changeSetting 8 = .ok (.arraylength, 1) := by decide +kernel
theorem dX2_changeSetting_9 : decode cX2_changeSetting 9 = .ok (.if_icmp .ge 11, 3) := by decide +kernel
theorem dX2_changeSetting_12 : decode cX2_changeSetting 12 = .ok (.iload_n 1, 1) := by decide +kernel
theorem dX2_changeSetting_13 : decode cX2_changeSetting 13 = .ok (.getstatic 81, 3) := by decide +kernel
theorem dX2_changeSetting_16 : decode cX2_changeSetting 16 = .ok (.arraylength, 1) := by decide +kernel
theorem dX2_changeSetting_17 : decode cX2_changeSetting 17 = .ok (.if_icmp .lt 6, 3) := by decide +kernel
theorem dX2_changeSetting_20 : decode cX2_changeSetting 20 = .ok (.bipush (-2), 2) := by decide +kernel
theorem dX2_changeSetting_22 : decode cX2_changeSetting 22 = .ok (.ireturn, 1) := by decide +kernel
theorem dX2_changeSetting_23 : decode cX2_changeSetting 23 = .ok (.iload_n 2, 1) := by decide +kernel
theorem dX2_changeSetting_24 : decode cX2_changeSetting 24 = .ok (.getstatic 78, 3) := by decide +kernel
theorem dX2_changeSetting_27 : decode cX2_changeSetting 27 = .ok (.iload_n 1, 1) := by decide +kernel
theorem dX2_changeSetting_28 : decode cX2_changeSetting 28 = .ok (.iaload, 1) := by decide +kernel
theorem dX2_changeSetting_29 : decode cX2_changeSetting 29 = .ok (.if_icmp .lt 12, 3) := by decide +kernel
theorem dX2_changeSetting_32 : decode cX2_changeSetting 32 = .ok (.iload_n 2, 1) := by decide +kernel
theorem dX2_changeSetting_33 : decode cX2_changeSetting 33 = .ok (.getstatic 81, 3) := by decide +kernel
theorem dX2_changeSetting_36 : decode cX2_changeSetting 36 = .ok (.iload_n 1, 1) := by decide +kernel
theorem dX2_changeSetting_37 : decode cX2_changeSetting 37 = .ok (.iaload, 1) := by decide +kernel
theorem dX2_changeSetting_38 : decode cX2_changeSetting 38 = .ok (.if_icmp .le 6, 3) := by decide +kernel
theorem dX2_changeSetting_41 : decode cX2_changeSetting 41 = .ok (.bipush (-2), 2) := by decide +kernel
theorem dX2_changeSetting_43 : decode cX2_changeSetting 43 = .ok (.ireturn, 1) := by decide +kernel
theorem dX2_changeSetting_44 : decode cX2_changeSetting 44 = .ok (.aload_n 0, 1) := by decide +kernel
theorem dX2_changeSetting_45 : decode cX2_changeSetting 45 = .ok (.getfield 14, 3) := by decide +kernel
theorem dX2_changeSetting_48 : decode cX2_changeSetting 48 = .ok (.iload_n 1, 1) := by decide +kernel
theorem dX2_changeSetting_49 : decode cX2_changeSetting 49 = .ok (.invokevirtual 84, 3) := by decide +kernel
theorem dX2_changeSetting_52 : decode cX2_changeSetting 52 = .ok (.istore_n 3, 1) := by decide +kernel
theorem dX2_changeSetting_53 : decode cX2_changeSetting 53 = .ok (.aload_n 0, 1) := by decide +kernel
theorem dX2_changeSetting_54 : decode cX2_changeSetting 54 = .ok (.getfield 14, 3) := by decide +kernel
theorem dX2_changeSetting_57 : decode cX2_changeSetting 57 = .ok (.iload_n 1, 1) := by decide +kernel
theorem dX2_changeSetting_58 : decode cX2_changeSetting 58 = .ok (.iload_n 2, 1) := by decide +kernel
theorem dX2_changeSetting_59 : decode cX2_changeSetting 59 = .ok (.invokevirtual 48, 3) := by decide +kernel
theorem dX2_changeSetting_62 : decode cX2_changeSetting 62 = .ok (.iload_n 3, 1) := by decide +kernel
theorem dX2_changeSetting_63 : decode cX2_changeSetting 63 = .ok (.ireturn, 1) := by decide +kernel
set_option maxRecDepth 20000 in
theorem ggX2_changeLoudness_X7_isSeat : GoodIn wsX2_changeLoudness wsX7_isSeat := goodIn_r _ [4] (by decide +kernel) (by decide +kernel)
set_option maxRecDepth 20000 in
theorem gX2_changeLoudness_X7_isSeat_n88 : GoodIn wsX2_changeLoudness (wsX7_isSeat) := ggX2_changeLoudness_X7_isSeat
set_option maxRecDepth 20000 in
theorem ggX2_changeLoudness_X5_at : GoodIn wsX2_changeLoudness wsX5_at := goodIn_r _ [9, 10, 34] (by decide +kernel) (by decide +kernel)
set_option maxRecDepth 20000 in
theorem gX2_changeLoudness_X5_at : GoodIn wsX2_changeLoudness (wsV RX2 84 RX5 yX5_at wsX5_at) := goodIn_app (goodIn_of _ (by decide +kernel)) ggX2_changeLoudness_X5_at
set_option maxRecDepth 20000 in
theorem ggX2_changeLoudness_X5_store : GoodIn wsX2_changeLoudness wsX5_store := goodIn_r _ [14, 10, 34] (by decide +kernel) (by decide +kernel)
set_option maxRecDepth 20000 in
theorem gX2_changeLoudness_X5_store : GoodIn wsX2_changeLoudness (wsV RX2 48 RX5 yX5_store wsX5_store) := goodIn_app (goodIn_of _ (by decide +kernel)) ggX2_changeLoudness_X5_store
theorem dX2_changeLoudness_0 : decode cX2_changeLoudness 0 = .ok (.iload_n 1, 1) := by decide +kernel
theorem dX2_changeLoudness_1 : decode cX2_changeLoudness 1 = .ok (.invokestatic 88, 3) := by decide +kernel
theorem dX2_changeLoudness_4 : decode cX2_changeLoudness 4 = .ok (.ifCond .ne 5, 3) := by decide +kernel
theorem dX2_changeLoudness_7 : decode cX2_changeLoudness 7 = .ok (.iconst (-1), 1) := by decide +kernel
theorem dX2_changeLoudness_8 : decode cX2_changeLoudness 8 = .ok (.ireturn, 1) := by decide +kernel
theorem dX2_changeLoudness_9 : decode cX2_changeLoudness 9 = .ok (.iload_n 2, 1) := by decide +kernel
theorem dX2_changeLoudness_10 : decode cX2_changeLoudness 10 = .ok (.iconst 1, 1) := by decide +kernel
theorem dX2_changeLoudness_11 : decode cX2_changeLoudness 11 = .ok (.if_icmp .lt 9, 3) := by decide +kernel
theorem dX2_changeLoudness_14 : decode cX2_changeLoudness 14 = .ok (.iload_n 2, 1) := by decide +kernel
theorem dX2_changeLoudness_15 : decode cX2_changeLoudness 15 = .ok (.bipush 9, 2) := by decide +kernel
theorem dX2_changeLoudness_17 : decode cX2_changeLoudness 17 = .ok (.if_icmp .le 6, 3) := by decide +kernel
theorem dX2_changeLoudness_20 : decode cX2_changeLoudness 20 = .ok (.bipush (-2), 2) := by decide +kernel
theorem dX2_changeLoudness_22 : decode cX2_changeLoudness 22 = .ok (.ireturn, 1) := by decide +kernel
theorem dX2_changeLoudness_23 : decode cX2_changeLoudness 23 = .ok (.aload_n 0, 1) := by decide +kernel
theorem dX2_changeLoudness_24 : decode cX2_changeLoudness 24 = .ok (.getfield 23, 3) := by decide +kernel
theorem dX2_changeLoudness_27 : decode cX2_changeLoudness 27 = .ok (.getfield 92, 3) := by decide +kernel
theorem dX2_changeLoudness_30 : decode cX2_changeLoudness 30 = .ok (.iload_n 1, 1) := by decide +kernel
theorem dX2_changeLoudness_31 : decode cX2_changeLoudness 31 = .ok (.invokevirtual 84, 3) := by decide +kernel
theorem dX2_changeLoudness_34 : decode cX2_changeLoudness 34 = .ok (.istore_n 3, 1) := by decide +kernel
theorem dX2_changeLoudness_35 : decode cX2_changeLoudness 35 = .ok (.aload_n 0, 1) := by decide +kernel
theorem dX2_changeLoudness_36 : decode cX2_changeLoudness 36 = .ok (.getfield 23, 3) := by decide +kernel
theorem dX2_changeLoudness_39 : decode cX2_changeLoudness 39 = .ok (.getfield 92, 3) := by decide +kernel
theorem dX2_changeLoudness_42 : decode cX2_changeLoudness 42 = .ok (.iload_n 1, 1) := by decide +kernel
theorem dX2_changeLoudness_43 : decode cX2_changeLoudness 43 = .ok (.iload_n 2, 1) := by decide +kernel
theorem dX2_changeLoudness_44 : decode cX2_changeLoudness 44 = .ok (.invokevirtual 48, 3) := by decide +kernel
theorem dX2_changeLoudness_47 : decode cX2_changeLoudness 47 = .ok (.iload_n 3, 1) := by decide +kernel
theorem dX2_changeLoudness_48 : decode cX2_changeLoudness 48 = .ok (.ireturn, 1) := by decide +kernel
set_option maxRecDepth 20000 in
theorem ggX2_switchPay_X7_isSeat : GoodIn wsX2_switchPay wsX7_isSeat := goodIn_r _ [4] (by decide +kernel) (by decide +kernel)
set_option maxRecDepth 20000 in
theorem gX2_switchPay_X7_isSeat_n88 : GoodIn wsX2_switchPay (wsX7_isSeat) := ggX2_switchPay_X7_isSeat
theorem dX2_switchPay_0 : decode cX2_switchPay 0 = .ok (.iload_n 1, 1) := by decide +kernel
theorem dX2_switchPay_1 : decode cX2_switchPay 1 = .ok (.invokestatic 88, 3) := by decide +kernel
theorem dX2_switchPay_4 : decode cX2_switchPay 4 = .ok (.ifCond .ne 5, 3) := by decide +kernel
theorem dX2_switchPay_7 : decode cX2_switchPay 7 = .ok (.iconst (-1), 1) := by decide +kernel
theorem dX2_switchPay_8 : decode cX2_switchPay 8 = .ok (.ireturn, 1) := by decide +kernel
theorem dX2_switchPay_9 : decode cX2_switchPay 9 = .ok (.aload_n 0, 1) := by decide +kernel
theorem dX2_switchPay_10 : decode cX2_switchPay 10 = .ok (.getfield 23, 3) := by decide +kernel
theorem dX2_switchPay_13 : decode cX2_switchPay 13 = .ok (.dup, 1) := by decide +kernel
theorem dX2_switchPay_14 : decode cX2_switchPay 14 = .ok (.getfield 95, 3) := by decide +kernel
theorem dX2_switchPay_17 : decode cX2_switchPay 17 = .ok (.iconst 1, 1) := by decide +kernel
theorem dX2_switchPay_18 : decode cX2_switchPay 18 = .ok (.iload_n 1, 1) := by decide +kernel
theorem dX2_switchPay_19 : decode cX2_switchPay 19 = .ok (.ishl, 1) := by decide +kernel
theorem dX2_switchPay_20 : decode cX2_switchPay 20 = .ok (.ixor, 1) := by decide +kernel
theorem dX2_switchPay_21 : decode cX2_switchPay 21 = .ok (.putfield 95, 3) := by decide +kernel
theorem dX2_switchPay_24 : decode cX2_switchPay 24 = .ok (.aload_n 0, 1) := by decide +kernel
theorem dX2_switchPay_25 : decode cX2_switchPay 25 = .ok (.getfield 23, 3) := by decide +kernel
theorem dX2_switchPay_28 : decode cX2_switchPay 28 = .ok (.getfield 95, 3) := by decide +kernel
theorem dX2_switchPay_31 : decode cX2_switchPay 31 = .ok (.ireturn, 1) := by decide +kernel
set_option maxRecDepth 20000 in
theorem ggX2_endPiece_X7_isPerformer : GoodIn wsX2_endPiece wsX7_isPerformer := goodIn_r _ [4] (by decide +kernel) (by decide +kernel)
set_option maxRecDepth 20000 in
theorem gX2_endPiece_X7_isPerformer_n98 : GoodIn wsX2_endPiece (wsX7_isPerformer) := ggX2_endPiece_X7_isPerformer
set_option maxRecDepth 20000 in
theorem ggX2_endPiece_X2_beginApplause : GoodIn wsX2_endPiece wsX2_beginApplause := goodIn_r _ [9, 10, 11, 1, 12, 13, 14, 15, 16, 17, 18, 19, 20, 21, 22, 23, 24, 25, 26, 27, 28, 29, 30, 31, 32, 33, 34, 35, 36, 37, 38, 39, 40, 41, 42, 43, 44, 45, 46, 47, 48, 49, 50, 51, 52, 53] (by decide +kernel) (by decide +kernel)
set_option maxRecDepth 20000 in
theorem gX2_endPiece_X2_beginApplause : GoodIn wsX2_endPiece (wsV RX2 101 RX2 yX2_beginApplause wsX2_beginApplause) := goodIn_app (goodIn_of _ (by decide +kernel)) ggX2_endPiece_X2_beginApplause
theorem dX2_endPiece_0 : decode cX2_endPiece 0 = .ok (.iload_n 1, 1) := by decide +kernel
theorem dX2_endPiece_1 : decode cX2_endPiece 1 = .ok (.invokestatic 98, 3) := by decide +kernel
theorem dX2_endPiece_4 : decode cX2_endPiece 4 = .ok (.ifCond .ne 5, 3) := by decide +kernel
theorem dX2_endPiece_7 : decode cX2_endPiece 7 = .ok (.iconst (-1), 1) := by decide +kernel
theorem dX2_endPiece_8 : decode cX2_endPiece 8 = .ok (.ireturn, 1) := by decide +kernel
theorem dX2_endPiece_9 : decode cX2_endPiece 9 = .ok (.aload_n 0, 1) := by decide +kernel
theorem dX2_endPiece_10 : decode cX2_endPiece 10 = .ok (.getfield 62, 3) := by decide +kernel
theorem dX2_endPiece_13 : decode cX2_endPiece 13 = .ok (.istore_n 2, 1) := by decide +kernel
theorem dX2_endPiece_14 : decode cX2_endPiece 14 = .ok (.aload_n 0, 1) := by decide +kernel
theorem dX2_endPiece_15 : decode cX2_endPiece 15 = .ok (.iload_n 1, 1) := by decide +kernel
theorem dX2_endPiece_16 : decode cX2_endPiece 16 = .ok (.invokevirtual 101, 3) := by decide +kernel
theorem dX2_endPiece_19 : decode cX2_endPiece 19 = .ok (.iload_n 2, 1) := by decide +kernel
theorem dX2_endPiece_20 : decode cX2_endPiece 20 = .ok (.ireturn, 1) := by decide +kernel
set_option maxRecDepth 20000 in
theorem ggX2_beginApplause_X5_add : GoodIn wsX2_beginApplause wsX5_add := goodIn_r _ [12, 13, 37] (by decide +kernel) (by decide +kernel)
set_option maxRecDepth 20000 in
theorem gX2_beginApplause_X5_add : GoodIn wsX2_beginApplause (wsV RX2 107 RX5 yX5_add wsX5_add) := goodIn_app (goodIn_of _ (by decide +kernel)) ggX2_beginApplause_X5_add
set_option maxRecDepth 20000 in
theorem ggX2_beginApplause_X6_beginPiece : GoodIn wsX2_beginApplause wsX6_beginPiece := goodIn_r _ [18, 19, 38, 39, 40, 41, 42, 43, 44, 45] (by decide +kernel) (by decide +kernel)
set_option maxRecDepth 20000 in
theorem gX2_beginApplause_X6_beginPiece : GoodIn wsX2_beginApplause (wsV RX2 110 RX6 yX6_beginPiece wsX6_beginPiece) := goodIn_app (goodIn_of _ (by decide +kernel)) ggX2_beginApplause_X6_beginPiece
theorem dX2_beginApplause_0 : decode cX2_beginApplause 0 = .ok (.aload_n 0, 1) := by decide +kernel
theorem dX2_beginApplause_1 : decode cX2_beginApplause 1 = .ok (.getfield 30, 3) := by decide +kernel
theorem dX2_beginApplause_4 : decode cX2_beginApplause 4 = .ok (.getfield 104, 3) := by decide +kernel
theorem dX2_beginApplause_7 : decode cX2_beginApplause 7 = .ok (.iload_n 1, 1) := by decide +kernel
theorem dX2_beginApplause_8 : decode cX2_beginApplause 8 = .ok (.iconst 1, 1) := by decide +kernel
theorem dX2_beginApplause_9 : decode cX2_beginApplause 9 = .ok (.invokevirtual 107, 3) := by decide +kernel
theorem dX2_beginApplause_12 : decode cX2_beginApplause 12 = .ok (.aload_n 0, 1) := by decide +kernel
theorem dX2_beginApplause_13 : decode cX2_beginApplause 13 = .ok (.getfield 23, 3) := by decide +kernel
theorem dX2_beginApplause_16 : decode cX2_beginApplause 16 = .ok (.invokevirtual 110, 3) := by decide +kernel
theorem dX2_beginApplause_19 : decode cX2_beginApplause 19 = .ok (.aload_n 0, 1) := by decide +kernel
theorem dX2_beginApplause_20 : decode cX2_beginApplause 20 = .ok (.iconst 0, 1) := by decide +kernel
theorem dX2_beginApplause_21 : decode cX2_beginApplause 21 = .ok (.putfield 62, 3) := by decide +kernel
theorem dX2_beginApplause_24 : decode cX2_beginApplause 24 = .ok (.aload_n 0, 1) := by decide +kernel
theorem dX2_beginApplause_25 : decode cX2_beginApplause 25 = .ok (.iload_n 1, 1) := by decide +kernel
theorem dX2_beginApplause_26 : decode cX2_beginApplause 26 = .ok (.putfield 40, 3) := by decide +kernel
theorem dX2_beginApplause_29 : decode cX2_beginApplause 29 = .ok (.aload_n 0, 1) := by decide +kernel
theorem dX2_beginApplause_30 : decode cX2_beginApplause 30 = .ok (.aload_n 0, 1) := by decide +kernel
theorem dX2_beginApplause_31 : decode cX2_beginApplause 31 = .ok (.getfield 65, 3) := by decide +kernel
theorem dX2_beginApplause_34 : decode cX2_beginApplause 34 = .ok (.putfield 71, 3) := by decide +kernel
theorem dX2_beginApplause_37 : decode cX2_beginApplause 37 = .ok (.aload_n 0, 1) := by decide +kernel
theorem dX2_beginApplause_38 : decode cX2_beginApplause 38 = .ok (.iconst 0, 1) := by decide +kernel
theorem dX2_beginApplause_39 : decode cX2_beginApplause 39 = .ok (.putfield 74, 3) := by decide +kernel
theorem dX2_beginApplause_42 : decode cX2_beginApplause 42 = .ok (.return_, 1) := by decide +kernel
set_option maxRecDepth 20000 in
theorem ggX2_takeClap_X7_isSeat : GoodIn wsX2_takeClap wsX7_isSeat := goodIn_r _ [15] (by decide +kernel) (by decide +kernel)
set_option maxRecDepth 20000 in
theorem gX2_takeClap_X7_isSeat_n88 : GoodIn wsX2_takeClap (wsX7_isSeat) := ggX2_takeClap_X7_isSeat
set_option maxRecDepth 20000 in
theorem ggX2_takeClap_X5_at : GoodIn wsX2_takeClap wsX5_at := goodIn_r _ [20, 21, 83] (by decide +kernel) (by decide +kernel)
set_option maxRecDepth 20000 in
theorem gX2_takeClap_X5_at : GoodIn wsX2_takeClap (wsV RX2 84 RX5 yX5_at wsX5_at) := goodIn_app (goodIn_of _ (by decide +kernel)) ggX2_takeClap_X5_at
set_option maxRecDepth 20000 in
theorem ggX2_takeClap_X6_addClap : GoodIn wsX2_takeClap wsX6_addClap := goodIn_r _ [26, 27, 28, 29, 30, 31, 32, 33, 34, 35, 25, 36, 37, 38, 39, 19, 40, 21, 41, 17, 18, 20, 42, 43, 44, 45, 75, 76, 77, 78, 79, 80, 81, 82, 83] (by decide +kernel) (by decide +kernel)
set_option maxRecDepth 20000 in
theorem gX2_takeClap_X6_addClap : GoodIn wsX2_takeClap (wsV RX2 113 RX6 yX6_addClap wsX6_addClap) := goodIn_app (goodIn_of _ (by decide +kernel)) ggX2_takeClap_X6_addClap
set_option maxRecDepth 20000 in
theorem ggX2_takeClap_X5_add : GoodIn wsX2_takeClap wsX5_add := goodIn_r _ [40, 21, 83] (by decide +kernel) (by decide +kernel)
set_option maxRecDepth 20000 in
theorem gX2_takeClap_X5_add : GoodIn wsX2_takeClap (wsV RX2 107 RX5 yX5_add wsX5_add) := goodIn_app (goodIn_of _ (by decide +kernel)) ggX2_takeClap_X5_add
set_option maxRecDepth 20000 in
theorem ggX2_takeClap_X2_bringEncore : GoodIn wsX2_takeClap wsX2_bringEncore := goodIn_r _ [51, 12, 52, 1, 3, 6, 53, 54, 55, 56, 57, 58, 59, 60, 61, 62, 38, 39, 19, 40, 21, 63, 43, 44, 45, 46, 64, 65, 66, 67, 68, 69, 70, 71, 72, 73, 74, 84, 85, 86, 87, 88, 89, 83] (by decide +kernel) (by decide +kernel)
set_option maxRecDepth 20000 in
theorem gX2_takeClap_X2_bringEncore : GoodIn wsX2_takeClap (wsV RX2 123 RX2 yX2_bringEncore wsX2_bringEncore) := goodIn_app (goodIn_of _ (by decide +kernel)) ggX2_takeClap_X2_bringEncore
theorem dX2_takeClap_0 : decode cX2_takeClap 0 = .ok (.iload_n 1, 1) := by decide +kernel
theorem dX2_takeClap_1 : decode cX2_takeClap 1 = .ok (.invokestatic 88, 3) := by decide +kernel
theorem dX2_takeClap_4 : decode cX2_takeClap 4 = .ok (.ifCond .ne 5, 3) := by decide +kernel
theorem dX2_takeClap_7 : decode cX2_takeClap 7 = .ok (.iconst (-1), 1) := by decide +kernel
theorem dX2_takeClap_8 : decode cX2_takeClap 8 = .ok (.ireturn, 1) := by decide +kernel
theorem dX2_takeClap_9 : decode cX2_takeClap 9 = .ok (.aload_n 0, 1) := by decide +kernel
theorem dX2_takeClap_10 : decode cX2_takeClap 10 = .ok (.getfield 40, 3) := by decide +kernel
theorem dX2_takeClap_13 : decode cX2_takeClap 13 = .ok (.bipush (-6), 2) := by decide +kernel
theorem dX2_takeClap_15 : decode cX2_takeClap 15 = .ok (.if_icmp .ne 6, 3) := by decide +kernel
theorem dX2_takeClap_18 : decode cX2_takeClap 18 = .ok (.bipush (-5), 2) := by decide +kernel
theorem dX2_takeClap_20 : decode cX2_takeClap 20 = .ok (.ireturn, 1) := by decide +kernel
theorem dX2_takeClap_21 : decode cX2_takeClap 21 = .ok (.aload_n 0, 1) := by decide +kernel
theorem dX2_takeClap_22 : decode cX2_takeClap 22 = .ok (.getfield 23, 3) := by decide +kernel
theorem dX2_takeClap_25 : decode cX2_takeClap 25 = .ok (.iload_n 1, 1) := by decide +kernel
theorem dX2_takeClap_26 : decode cX2_takeClap 26 = .ok (.aload_n 0, 1) := by decide +kernel
theorem dX2_takeClap_27 : decode cX2_takeClap 27 = .ok (.getfield 65, 3) := by decide +kernel
theorem dX2_takeClap_30 : decode cX2_takeClap 30 = .ok (.aload_n 0, 1) := by decide +kernel
theorem dX2_takeClap_31 : decode cX2_takeClap 31 = .ok (.getfield 71, 3) := by decide +kernel
theorem dX2_takeClap_34 : decode cX2_takeClap 34 = .ok (.isub, 1) := by decide +kernel
theorem dX2_takeClap_35 : decode cX2_takeClap 35 = .ok (.aload_n 0, 1) := by decide +kernel
theorem dX2_takeClap_36 : decode cX2_takeClap 36 = .ok (.getfield 14, 3) := by decide +kernel
theorem dX2_takeClap_39 : decode cX2_takeClap 39 = .ok (.iconst 3, 1) := by decide +kernel
theorem dX2_takeClap_40 : decode cX2_takeClap 40 = .ok (.invokevirtual 84, 3) := by decide +kernel
theorem dX2_takeClap_43 : decode cX2_takeClap 43 = .ok (.if_icmp .gt 7, 3) := by decide +kernel
theorem dX2_takeClap_46 : decode cX2_takeClap 46 = .ok (.iconst 1, 1) := by decide +kernel
theorem dX2_takeClap_47 : decode cX2_takeClap 47 = .ok (.goto 4, 3) := by decide +kernel
theorem dX2_takeClap_50 : decode cX2_takeClap 50 = .ok (.iconst 0, 1) := by decide +kernel
theorem dX2_takeClap_51 : decode cX2_takeClap 51 = .ok (.invokevirtual 113, 3) := by decide +kernel
theorem dX2_takeClap_54 : decode cX2_takeClap 54 = .ok (.aload_n 0, 1) := by decide +kernel
theorem dX2_takeClap_55 : decode cX2_takeClap 55 = .ok (.getfield 34, 3) := by decide +kernel
theorem dX2_takeClap_58 : decode cX2_takeClap 58 = .ok (.iconst 0, 1) := by decide +kernel
theorem dX2_takeClap_59 : decode cX2_takeClap 59 = .ok (.iconst 1, 1) := by decide +kernel
theorem dX2_takeClap_60 : decode cX2_takeClap 60 = .ok (.invokevirtual 107, 3) := by decide +kernel
theorem dX2_takeClap_63 : decode cX2_takeClap 63 = .ok (.aload_n 0, 1) := by decide +kernel
theorem dX2_takeClap_64 : decode cX2_takeClap 64 = .ok (.aload_n 0, 1) := by decide +kernel
theorem dX2_takeClap_65 : decode cX2_takeClap 65 = .ok (.getfield 62, 3) := by decide +kernel
theorem dX2_takeClap_68 : decode cX2_takeClap 68 = .ok (.bipush 10, 2) := by decide +kernel
theorem dX2_takeClap_70 : decode cX2_takeClap 70 = .ok (.aload_n 0, 1) := by decide +kernel
theorem dX2_takeClap_71 : decode cX2_takeClap 71 = .ok (.getfield 23, 3) := by decide +kernel
theorem dX2_takeClap_74 : decode cX2_takeClap 74 = .ok (.getfield 92, 3) := by decide +kernel
theorem dX2_takeClap_77 : decode cX2_takeClap 77 = .ok (.iload_n 1, 1) := by decide +kernel
theorem dX2_takeClap_78 : decode cX2_takeClap 78 = .ok (.invokevirtual 84, 3) := by decide +kernel
theorem dX2_takeClap_81 : decode cX2_takeClap 81 = .ok (.imul, 1) := by decide +kernel
theorem dX2_takeClap_82 : decode cX2_takeClap 82 = .ok (.iadd, 1) := by decide +kernel
theorem dX2_takeClap_83 : decode cX2_takeClap 83 = .ok (.sipush 9999, 3) := by decide +kernel
theorem dX2_takeClap_86 : decode cX2_takeClap 86 = .ok (.invokestatic 117, 3) := by decide +kernel
theorem dX2_takeClap_89 : decode cX2_takeClap 89 = .ok (.putfield 62, 3) := by decide +kernel
theorem dX2_takeClap_92 : decode cX2_takeClap 92 = .ok (.aload_n 0, 1) := by decide +kernel
theorem dX2_takeClap_93 : decode cX2_takeClap 93 = .ok (.getfield 62, 3) := by decide +kernel
theorem dX2_takeClap_96 : decode cX2_takeClap 96 = .ok (.aload_n 0, 1) := by decide +kernel
theorem dX2_takeClap_97 : decode cX2_takeClap 97 = .ok (.getfield 14, 3) := by decide +kernel
theorem dX2_takeClap_100 : decode cX2_takeClap 100 = .ok (.iconst 1, 1) := by decide +kernel
theorem dX2_takeClap_101 : decode cX2_takeClap 101 = .ok (.invokevirtual 84, 3) := by decide +kernel
theorem dX2_takeClap_104 : decode cX2_takeClap 104 = .ok (.if_icmp .lt 14, 3) := by decide +kernel
theorem dX2_takeClap_107 : decode cX2_takeClap 107 = .ok (.aload_n 0, 1) := by decide +kernel
theorem dX2_takeClap_108 : decode cX2_takeClap 108 = .ok (.getfield 74, 3) := by decide +kernel
theorem dX2_takeClap_111 : decode cX2_takeClap 111 = .ok (.ifCond .ne 7, 3) := by decide +kernel
theorem dX2_takeClap_114 : decode cX2_takeClap 114 = .ok (.aload_n 0, 1) := by decide +kernel
theorem dX2_takeClap_115 : decode cX2_takeClap 115 = .ok (.invokevirtual 123, 3) := by decide +kernel
theorem dX2_takeClap_118 : decode cX2_takeClap 118 = .ok (.aload_n 0, 1) := by decide +kernel
theorem dX2_takeClap_119 : decode cX2_takeClap 119 = .ok (.getfield 62, 3) := by decide +kernel
theorem dX2_takeClap_122 : decode cX2_takeClap 122 = .ok (.ireturn, 1) := by decide +kernel
set_option maxRecDepth 20000 in
theorem ggX2_bringEncore_X0_owe : GoodIn wsX2_bringEncore wsX0_owe := goodIn_r _ [10, 11, 12, 13, 14, 15, 16, 17, 18, 19, 20, 21, 22, 23, 24, 37, 38, 39, 40, 41, 42, 43] (by decide +kernel) (by decide +kernel)
set_option maxRecDepth 20000 in
theorem gX2_bringEncore_X0_owe : GoodIn wsX2_bringEncore (wsV RX2 126 RX0 yX0_owe wsX0_owe) := goodIn_app (goodIn_of _ (by decide +kernel)) ggX2_bringEncore_X0_owe
set_option maxRecDepth 20000 in
theorem ggX2_bringEncore_X5_add : GoodIn wsX2_bringEncore wsX5_add := goodIn_r _ [19, 20, 43] (by decide +kernel) (by decide +kernel)
set_option maxRecDepth 20000 in
theorem gX2_bringEncore_X5_add : GoodIn wsX2_bringEncore (wsV RX2 107 RX5 yX5_add wsX5_add) := goodIn_app (goodIn_of _ (by decide +kernel)) ggX2_bringEncore_X5_add
theorem dX2_bringEncore_0 : decode cX2_bringEncore 0 = .ok (.aload_n 0, 1) := by decide +kernel
theorem dX2_bringEncore_1 : decode cX2_bringEncore 1 = .ok (.iconst 1, 1) := by decide +kernel
theorem dX2_bringEncore_2 : decode cX2_bringEncore 2 = .ok (.putfield 74, 3) := by decide +kernel
theorem dX2_bringEncore_5 : decode cX2_bringEncore 5 = .ok (.aload_n 0, 1) := by decide +kernel
theorem dX2_bringEncore_6 : decode cX2_bringEncore 6 = .ok (.getfield 30, 3) := by decide +kernel
theorem dX2_bringEncore_9 : decode cX2_bringEncore 9 = .ok (.aload_n 0, 1) := by decide +kernel
theorem dX2_bringEncore_10 : decode cX2_bringEncore 10 = .ok (.getfield 40, 3) := by decide +kernel
theorem dX2_bringEncore_13 : decode cX2_bringEncore 13 = .ok (.aload_n 0, 1) := by decide +kernel
theorem dX2_bringEncore_14 : decode cX2_bringEncore 14 = .ok (.getfield 65, 3) := by decide +kernel
theorem dX2_bringEncore_17 : decode cX2_bringEncore 17 = .ok (.invokevirtual 126, 3) := by decide +kernel
theorem dX2_bringEncore_20 : decode cX2_bringEncore 20 = .ok (.ifCond .ne 12, 3) := by decide +kernel
theorem dX2_bringEncore_23 : decode cX2_bringEncore 23 = .ok (.aload_n 0, 1) := by decide +kernel
theorem dX2_bringEncore_24 : decode cX2_bringEncore 24 = .ok (.getfield 34, 3) := by decide +kernel
theorem dX2_bringEncore_27 : decode cX2_bringEncore 27 = .ok (.iconst 2, 1) := by decide +kernel
theorem dX2_bringEncore_28 : decode cX2_bringEncore 28 = .ok (.iconst 1, 1) := by decide +kernel
theorem dX2_bringEncore_29 : decode cX2_bringEncore 29 = .ok (.invokevirtual 107, 3) := by decide +kernel
theorem dX2_bringEncore_32 : decode cX2_bringEncore 32 = .ok (.return_, 1) := by decide +kernel
set_option maxRecDepth 20000 in
theorem ggX2_letPass_X5_at : GoodIn wsX2_letPass wsX5_at := goodIn_r _ [11, 12, 50] (by decide +kernel) (by decide +kernel)
set_option maxRecDepth 20000 in
theorem gX2_letPass_X5_at : GoodIn wsX2_letPass (wsV RX2 84 RX5 yX5_at wsX5_at) := goodIn_app (goodIn_of _ (by decide +kernel)) ggX2_letPass_X5_at
set_option maxRecDepth 20000 in
theorem ggX2_letPass_X7_afterSecond : GoodIn wsX2_letPass wsX7_afterSecond := goodIn_r _ [15, 16, 17, 18, 19] (by decide +kernel) (by decide +kernel)
set_option maxRecDepth 20000 in
theorem gX2_letPass_X7_afterSecond_n131 : GoodIn wsX2_letPass (wsX7_afterSecond) := ggX2_letPass_X7_afterSecond
set_option maxRecDepth 20000 in
theorem ggX2_letPass_X0_lapseSince : GoodIn wsX2_letPass wsX0_lapseSince := goodIn_r _ [24, 25, 26, 27, 28, 29, 8, 9, 10, 11, 12, 30, 31, 32, 33, 34, 35, 36, 37, 51, 52, 53, 54, 55, 56, 50] (by decide +kernel) (by decide +kernel)
set_option maxRecDepth 20000 in
theorem gX2_letPass_X0_lapseSince : GoodIn wsX2_letPass (wsV RX2 134 RX0 yX0_lapseSince wsX0_lapseSince) := goodIn_app (goodIn_of _ (by decide +kernel)) ggX2_letPass_X0_lapseSince
set_option maxRecDepth 20000 in
theorem ggX2_letPass_X5_add : GoodIn wsX2_letPass wsX5_add := goodIn_r _ [33, 12, 50] (by decide +kernel) (by decide +kernel)
set_option maxRecDepth 20000 in
theorem gX2_letPass_X5_add : GoodIn wsX2_letPass (wsV RX2 107 RX5 yX5_add wsX5_add) := goodIn_app (goodIn_of _ (by decide +kernel)) ggX2_letPass_X5_add
theorem dX2_letPass_0 : decode cX2_letPass 0 = .ok (.iload_n 1, 1) := by decide +kernel
theorem dX2_letPass_1 : decode cX2_letPass 1 = .ok (.iconst 1, 1) := by decide +kernel
theorem dX2_letPass_2 : decode cX2_letPass 2 = .ok (.if_icmp .lt 9, 3) := by decide +kernel
theorem dX2_letPass_5 : decode cX2_letPass 5 = .ok (.iload_n 1, 1) := by decide +kernel
theorem dX2_letPass_6 : decode cX2_letPass 6 = .ok (.bipush 99, 2) := by decide +kernel
theorem dX2_letPass_8 : decode cX2_letPass 8 = .ok (.if_icmp .le 6, 3) := by decide +kernel
theorem dX2_letPass_11 : decode cX2_letPass 11 = .ok (.bipush (-2), 2) := by decide +kernel
theorem dX2_letPass_13 : decode cX2_letPass 13 = .ok (.ireturn, 1) := by decide +kernel
theorem dX2_letPass_14 : decode cX2_letPass 14 = .ok (.aload_n 0, 1) := by decide +kernel
theorem dX2_letPass_15 : decode cX2_letPass 15 = .ok (.getfield 65, 3) := by decide +kernel
theorem dX2_letPass_18 : decode cX2_letPass 18 = .ok (.ldc 130, 2) := by decide +kernel
theorem dX2_letPass_20 : decode cX2_letPass 20 = .ok (.iload_n 1, 1) := by decide +kernel
theorem dX2_letPass_21 : decode cX2_letPass 21 = .ok (.isub, 1) := by decide +kernel
theorem dX2_letPass_22 : decode cX2_letPass 22 = .ok (.if_icmp .le 6, 3) := by decide +kernel
theorem dX2_letPass_25 : decode cX2_letPass 25 = .ok (.bipush (-5), 2) := by decide +kernel
theorem dX2_letPass_27 : decode cX2_letPass 27 = .ok (.ireturn, 1) := by decide +kernel
theorem dX2_letPass_28 : decode cX2_letPass 28 = .ok (.iconst 0, 1) := by decide +kernel
theorem dX2_letPass_29 : decode cX2_letPass 29 = .ok (.istore_n 2, 1) := by decide +kernel
theorem dX2_letPass_30 : decode cX2_letPass 30 = .ok (.iload_n 2, 1) := by decide +kernel
theorem dX2_letPass_31 : decode cX2_letPass 31 = .ok (.iload_n 1, 1) := by decide +kernel
theorem dX2_letPass_32 : decode cX2_letPass 32 = .ok (.if_icmp .ge 66, 3) := by decide +kernel
theorem dX2_letPass_35 : decode cX2_letPass 35 = .ok (.aload_n 0, 1) := by decide +kernel
theorem dX2_letPass_36 : decode cX2_letPass 36 = .ok (.aload_n 0, 1) := by decide +kernel
theorem dX2_letPass_37 : decode cX2_letPass 37 = .ok (.getfield 62, 3) := by decide +kernel
theorem dX2_letPass_40 : decode cX2_letPass 40 = .ok (.aload_n 0, 1) := by decide +kernel
theorem dX2_letPass_41 : decode cX2_letPass 41 = .ok (.getfield 14, 3) := by decide +kernel
theorem dX2_letPass_44 : decode cX2_letPass 44 = .ok (.iconst 0, 1) := by decide +kernel
theorem dX2_letPass_45 : decode cX2_letPass 45 = .ok (.invokevirtual 84, 3) := by decide +kernel
theorem dX2_letPass_48 : decode cX2_letPass 48 = .ok (.invokestatic 131, 3) := by decide +kernel
theorem dX2_letPass_51 : decode cX2_letPass 51 = .ok (.putfield 62, 3) := by decide +kernel
theorem dX2_letPass_54 : decode cX2_letPass 54 = .ok (.aload_n 0, 1) := by decide +kernel
theorem dX2_letPass_55 : decode cX2_letPass 55 = .ok (.dup, 1) := by decide +kernel
theorem dX2_letPass_56 : decode cX2_letPass 56 = .ok (.getfield 65, 3) := by decide +kernel
theorem dX2_letPass_59 : decode cX2_letPass 59 = .ok (.iconst 1, 1) := by decide +kernel
theorem dX2_letPass_60 : decode cX2_letPass 60 = .ok (.iadd, 1) := by decide +kernel
theorem dX2_letPass_61 : decode cX2_letPass 61 = .ok (.putfield 65, 3) := by decide +kernel
theorem dX2_letPass_64 : decode cX2_letPass 64 = .ok (.aload_n 0, 1) := by decide +kernel
theorem dX2_letPass_65 : decode cX2_letPass 65 = .ok (.getfield 34, 3) := by decide +kernel
theorem dX2_letPass_68 : decode cX2_letPass 68 = .ok (.iconst 2, 1) := by decide +kernel
theorem dX2_letPass_69 : decode cX2_letPass 69 = .ok (.aload_n 0, 1) := by decide +kernel
theorem dX2_letPass_70 : decode cX2_letPass 70 = .ok (.getfield 30, 3) := by decide +kernel
theorem dX2_letPass_73 : decode cX2_letPass 73 = .ok (.aload_n 0, 1) := by decide +kernel
theorem dX2_letPass_74 : decode cX2_letPass 74 = .ok (.getfield 65, 3) := by decide +kernel
theorem dX2_letPass_77 : decode cX2_letPass 77 = .ok (.aload_n 0, 1) := by decide +kernel
theorem dX2_letPass_78 : decode cX2_letPass 78 = .ok (.getfield 14, 3) := by decide +kernel
theorem dX2_letPass_81 : decode cX2_letPass 81 = .ok (.iconst 2, 1) := by decide +kernel
theorem dX2_letPass_82 : decode cX2_letPass 82 = .ok (.invokevirtual 84, 3) := by decide +kernel
theorem dX2_letPass_85 : decode cX2_letPass 85 = .ok (.isub, 1) := by decide +kernel
theorem dX2_letPass_86 : decode cX2_letPass 86 = .ok (.invokevirtual 134, 3) := by decide +kernel
theorem dX2_letPass_89 : decode cX2_letPass 89 = .ok (.invokevirtual 107, 3) := by decide +kernel
theorem dX2_letPass_92 : decode cX2_letPass 92 = .ok (.iinc 2 1, 3) := by decide +kernel
theorem dX2_letPass_95 : decode cX2_letPass 95 = .ok (.goto (-65), 3) := by decide +kernel
theorem dX2_letPass_98 : decode cX2_letPass 98 = .ok (.aload_n 0, 1) := by decide +kernel
theorem dX2_letPass_99 : decode cX2_letPass 99 = .ok (.getfield 62, 3) := by decide +kernel
theorem dX2_letPass_102 : decode cX2_letPass 102 = .ok (.ireturn, 1) := by decide +kernel
set_option maxRecDepth 20000 in
theorem ggX2_playEncore_X7_isPerformer : GoodIn wsX2_playEncore wsX7_isPerformer := goodIn_r _ [5] (by decide +kernel) (by decide +kernel)
set_option maxRecDepth 20000 in
theorem gX2_playEncore_X7_isPerformer_n98 : GoodIn wsX2_playEncore (wsX7_isPerformer) := ggX2_playEncore_X7_isPerformer
set_option maxRecDepth 20000 in
theorem ggX2_playEncore_X0_playEarliestOf : GoodIn wsX2_playEncore wsX0_playEarliestOf := goodIn_r _ [10, 11, 12, 13, 14, 15, 16, 17, 9, 18, 19, 20, 21, 22, 23, 24, 25, 26, 27, 28, 29, 30, 31, 32, 66, 67, 68, 69, 70, 71, 72] (by decide +kernel) (by decide +kernel)
set_option maxRecDepth 20000 in
theorem gX2_playEncore_X0_playEarliestOf : GoodIn wsX2_playEncore (wsV RX2 137 RX0 yX0_playEarliestOf wsX0_playEarliestOf) := goodIn_app (goodIn_of _ (by decide +kernel)) ggX2_playEncore_X0_playEarliestOf
set_option maxRecDepth 20000 in
theorem ggX2_playEncore_X5_add : GoodIn wsX2_playEncore wsX5_add := goodIn_r _ [32, 24, 72] (by decide +kernel) (by decide +kernel)
set_option maxRecDepth 20000 in
theorem gX2_playEncore_X5_add : GoodIn wsX2_playEncore (wsV RX2 107 RX5 yX5_add wsX5_add) := goodIn_app (goodIn_of _ (by decide +kernel)) ggX2_playEncore_X5_add
set_option maxRecDepth 20000 in
theorem ggX2_playEncore_X2_beginApplause : GoodIn wsX2_playEncore wsX2_beginApplause := goodIn_r _ [38, 1, 39, 40, 41, 42, 43, 44, 33, 30, 31, 22, 32, 24, 45, 46, 47, 48, 49, 50, 55, 56, 57, 58, 59, 60, 61, 62, 63, 64, 65, 66, 67, 68, 69, 70, 71, 72, 73, 74, 75, 76, 77, 78, 79, 80] (by decide +kernel) (by decide +kernel)
set_option maxRecDepth 20000 in
theorem gX2_playEncore_X2_beginApplause : GoodIn wsX2_playEncore (wsV RX2 101 RX2 yX2_beginApplause wsX2_beginApplause) := goodIn_app (goodIn_of _ (by decide +kernel)) ggX2_playEncore_X2_beginApplause
set_option maxRecDepth 20000 in
theorem ggX2_playEncore_X0_owedBy : GoodIn wsX2_playEncore wsX0_owedBy := goodIn_r _ [54, 11, 12, 19, 20, 21, 22, 23, 24, 66, 67, 68, 69, 70, 71, 72] (by decide +kernel) (by decide +kernel)
set_option maxRecDepth 20000 in
theorem gX2_playEncore_X0_owedBy : GoodIn wsX2_playEncore (wsV RX2 140 RX0 yX0_owedBy wsX0_owedBy) := goodIn_app (goodIn_of _ (by decide +kernel)) ggX2_playEncore_X0_owedBy
theorem dX2_playEncore_0 : decode cX2_playEncore 0 = .ok (.iload_n 1, 1) := by decide +kernel
theorem dX2_playEncore_1 : decode cX2_playEncore 1 = .ok (.invokestatic 98, 3) := by decide +kernel
theorem dX2_playEncore_4 : decode cX2_playEncore 4 = .ok (.ifCond .ne 5, 3) := by decide +kernel
theorem dX2_playEncore_7 : decode cX2_playEncore 7 = .ok (.iconst (-1), 1) := by decide +kernel
theorem dX2_playEncore_8 : decode cX2_playEncore 8 = .ok (.ireturn, 1) := by decide +kernel
theorem dX2_playEncore_9 : decode cX2_playEncore 9 = .ok (.aload_n 0, 1) := by decide +kernel
theorem dX2_playEncore_10 : decode cX2_playEncore 10 = .ok (.getfield 30, 3) := by decide +kernel
theorem dX2_playEncore_13 : decode cX2_playEncore 13 = .ok (.iload_n 1, 1) := by decide +kernel
theorem dX2_playEncore_14 : decode cX2_playEncore 14 = .ok (.invokevirtual 137, 3) := by decide +kernel
theorem dX2_playEncore_17 : decode cX2_playEncore 17 = .ok (.ifCond .ne 6, 3) := by decide +kernel
theorem dX2_playEncore_20 : decode cX2_playEncore 20 = .ok (.bipush (-5), 2) := by decide +kernel
theorem dX2_playEncore_22 : decode cX2_playEncore 22 = .ok (.ireturn, 1) := by decide +kernel
theorem dX2_playEncore_23 : decode cX2_playEncore 23 = .ok (.aload_n 0, 1) := by decide +kernel
theorem dX2_playEncore_24 : decode cX2_playEncore 24 = .ok (.getfield 34, 3) := by decide +kernel
theorem dX2_playEncore_27 : decode cX2_playEncore 27 = .ok (.iconst 1, 1) := by decide +kernel
theorem dX2_playEncore_28 : decode cX2_playEncore 28 = .ok (.iconst 1, 1) := by decide +kernel
theorem dX2_playEncore_29 : decode cX2_playEncore 29 = .ok (.invokevirtual 107, 3) := by decide +kernel
theorem dX2_playEncore_32 : decode cX2_playEncore 32 = .ok (.aload_n 0, 1) := by decide +kernel
theorem dX2_playEncore_33 : decode cX2_playEncore 33 = .ok (.iload_n 1, 1) := by decide +kernel
theorem dX2_playEncore_34 : decode cX2_playEncore 34 = .ok (.invokevirtual 101, 3) := by decide +kernel
theorem dX2_playEncore_37 : decode cX2_playEncore 37 = .ok (.aload_n 0, 1) := by decide +kernel
theorem dX2_playEncore_38 : decode cX2_playEncore 38 = .ok (.getfield 30, 3) := by decide +kernel
theorem dX2_playEncore_41 : decode cX2_playEncore 41 = .ok (.iload_n 1, 1) := by decide +kernel
theorem dX2_playEncore_42 : decode cX2_playEncore 42 = .ok (.invokevirtual 140, 3) := by decide +kernel
theorem dX2_playEncore_45 : decode cX2_playEncore 45 = .ok (.ireturn, 1) := by decide +kernel
set_option maxRecDepth 20000 in
theorem ggX2_takeCurtain_X5_at : GoodIn wsX2_takeCurtain wsX5_at := goodIn_r _ [8, 9, 25] (by decide +kernel) (by decide +kernel)
set_option maxRecDepth 20000 in
theorem gX2_takeCurtain_X5_at : GoodIn wsX2_takeCurtain (wsV RX2 84 RX5 yX5_at wsX5_at) := goodIn_app (goodIn_of _ (by decide +kernel)) ggX2_takeCurtain_X5_at
set_option maxRecDepth 20000 in
theorem ggX2_takeCurtain_X5_add : GoodIn wsX2_takeCurtain wsX5_add := goodIn_r _ [13, 9, 25] (by decide +kernel) (by decide +kernel)
set_option maxRecDepth 20000 in
theorem gX2_takeCurtain_X5_add : GoodIn wsX2_takeCurtain (wsV RX2 107 RX5 yX5_add wsX5_add) := goodIn_app (goodIn_of _ (by decide +kernel)) ggX2_takeCurtain_X5_add
theorem dX2_takeCurtain_0 : decode cX2_takeCurtain 0 = .ok (.aload_n 0, 1) := by decide +kernel
theorem dX2_takeCurtain_1 : decode cX2_takeCurtain 1 = .ok (.getfield 62, 3) := by decide +kernel
theorem dX2_takeCurtain_4 : decode cX2_takeCurtain 4 = .ok (.aload_n 0, 1) := by decide +kernel
theorem dX2_takeCurtain_5 : decode cX2_takeCurtain 5 = .ok (.getfield 14, 3) := by decide +kernel
theorem dX2_takeCurtain_8 : decode cX2_takeCurtain 8 = .ok (.iconst 5, 1) := by decide +kernel
theorem dX2_takeCurtain_9 : decode cX2_takeCurtain 9 = .ok (.invokevirtual 84, 3) := by decide +kernel
theorem dX2_takeCurtain_12 : decode cX2_takeCurtain 12 = .ok (.if_icmp .ge 6, 3) := by decide +kernel
theorem dX2_takeCurtain_15 : decode cX2_takeCurtain 15 = .ok (.bipush (-5), 2) := by decide +kernel
theorem dX2_takeCurtain_17 : decode cX2_takeCurtain 17 = .ok (.ireturn, 1) := by decide +kernel
theorem dX2_takeCurtain_18 : decode cX2_takeCurtain 18 = .ok (.aload_n 0, 1) := by decide +kernel
theorem dX2_takeCurtain_19 : decode cX2_takeCurtain 19 = .ok (.dup, 1) := by decide +kernel
theorem dX2_takeCurtain_20 : decode cX2_takeCurtain 20 = .ok (.getfield 62, 3) := by decide +kernel
theorem dX2_takeCurtain_23 : decode cX2_takeCurtain 23 = .ok (.iconst 2, 1) := by decide +kernel
theorem dX2_takeCurtain_24 : decode cX2_takeCurtain 24 = .ok (.idiv, 1) := by decide +kernel
theorem dX2_takeCurtain_25 : decode cX2_takeCurtain 25 = .ok (.putfield 62, 3) := by decide +kernel
theorem dX2_takeCurtain_28 : decode cX2_takeCurtain 28 = .ok (.aload_n 0, 1) := by decide +kernel
theorem dX2_takeCurtain_29 : decode cX2_takeCurtain 29 = .ok (.getfield 34, 3) := by decide +kernel
theorem dX2_takeCurtain_32 : decode cX2_takeCurtain 32 = .ok (.iconst 3, 1) := by decide +kernel
theorem dX2_takeCurtain_33 : decode cX2_takeCurtain 33 = .ok (.iconst 1, 1) := by decide +kernel
theorem dX2_takeCurtain_34 : decode cX2_takeCurtain 34 = .ok (.invokevirtual 107, 3) := by decide +kernel
theorem dX2_takeCurtain_37 : decode cX2_takeCurtain 37 = .ok (.aload_n 0, 1) := by decide +kernel
theorem dX2_takeCurtain_38 : decode cX2_takeCurtain 38 = .ok (.getfield 62, 3) := by decide +kernel
theorem dX2_takeCurtain_41 : decode cX2_takeCurtain 41 = .ok (.ireturn, 1) := by decide +kernel
set_option maxRecDepth 20000 in
theorem ggX2_endNight_X0_lapseSince : GoodIn wsX2_endNight wsX0_lapseSince := goodIn_r _ [13, 14, 15, 16, 17, 18, 19, 20, 21, 22, 23, 24, 25, 26, 27, 28, 29, 30, 31, 63, 64, 65, 66, 67, 68, 69] (by decide +kernel) (by decide +kernel)
set_option maxRecDepth 20000 in
theorem gX2_endNight_X0_lapseSince : GoodIn wsX2_endNight (wsV RX2 134 RX0 yX0_lapseSince wsX0_lapseSince) := goodIn_app (goodIn_of _ (by decide +kernel)) ggX2_endNight_X0_lapseSince
set_option maxRecDepth 20000 in
theorem ggX2_endNight_X5_add : GoodIn wsX2_endNight wsX5_add := goodIn_r _ [27, 23, 69] (by decide +kernel) (by decide +kernel)
set_option maxRecDepth 20000 in
theorem gX2_endNight_X5_add : GoodIn wsX2_endNight (wsV RX2 107 RX5 yX5_add wsX5_add) := goodIn_app (goodIn_of _ (by decide +kernel)) ggX2_endNight_X5_add
set_option maxRecDepth 20000 in
theorem ggX2_endNight_X2_recordPlace : GoodIn wsX2_endNight wsX2_recordPlace := goodIn_r _ [36] (by decide +kernel) (by decide +kernel)
set_option maxRecDepth 20000 in
theorem gX2_endNight_X2_recordPlace : GoodIn wsX2_endNight (va_wsS RX2 143 yX2_recordPlace wsX2_recordPlace) := goodIn_app (goodIn_of _ (by decide +kernel)) ggX2_endNight_X2_recordPlace
set_option maxRecDepth 20000 in
theorem ggX2_endNight_X5_at : GoodIn wsX2_endNight wsX5_at := goodIn_r _ [22, 23, 69] (by decide +kernel) (by decide +kernel)
set_option maxRecDepth 20000 in
theorem gX2_endNight_X5_at : GoodIn wsX2_endNight (wsV RX2 84 RX5 yX5_at wsX5_at) := goodIn_app (goodIn_of _ (by decide +kernel)) ggX2_endNight_X5_at
set_option maxRecDepth 20000 in
theorem ggX2_endNight_X5_store : GoodIn wsX2_endNight wsX5_store := goodIn_r _ [31, 23, 69] (by decide +kernel) (by decide +kernel)
set_option maxRecDepth 20000 in
theorem gX2_endNight_X5_store : GoodIn wsX2_endNight (wsV RX2 48 RX5 yX5_store wsX5_store) := goodIn_app (goodIn_of _ (by decide +kernel)) ggX2_endNight_X5_store
set_option maxRecDepth 20000 in
theorem ggX2_endNight_X5_fill : GoodIn wsX2_endNight wsX5_fill := goodIn_r _ [42, 23, 69] (by decide +kernel) (by decide +kernel)
set_option maxRecDepth 20000 in
theorem gX2_endNight_X5_fill : GoodIn wsX2_endNight (wsV RX2 146 RX5 yX5_fill wsX5_fill) := goodIn_app (goodIn_of _ (by decide +kernel)) ggX2_endNight_X5_fill
set_option maxRecDepth 20000 in
theorem ggX2_endNight_X6_beginNight : GoodIn wsX2_endNight wsX6_beginNight := goodIn_r _ [47, 48, 49, 50, 51, 40, 41, 21, 42, 23, 70, 71, 72, 73, 74, 75, 76, 77, 69] (by decide +kernel) (by decide +kernel)
set_option maxRecDepth 20000 in
theorem gX2_endNight_X6_beginNight : GoodIn wsX2_endNight (wsV RX2 149 RX6 yX6_beginNight wsX6_beginNight) := goodIn_app (goodIn_of _ (by decide +kernel)) ggX2_endNight_X6_beginNight
theorem dX2_endNight_0 : decode cX2_endNight 0 = .ok (.aload_n 0, 1) := by decide +kernel
theorem dX2_endNight_1 : decode cX2_endNight 1 = .ok (.getfield 68, 3) := by decide +kernel
theorem dX2_endNight_4 : decode cX2_endNight 4 = .ok (.bipush 99, 2) := by decide +kernel
theorem dX2_endNight_6 : decode cX2_endNight 6 = .ok (.if_icmp .lt 6, 3) := by decide +kernel
theorem dX2_endNight_9 : decode cX2_endNight 9 = .ok (.bipush (-5), 2) := by decide +kernel
theorem dX2_endNight_11 : decode cX2_endNight 11 = .ok (.ireturn, 1) := by decide +kernel
theorem dX2_endNight_12 : decode cX2_endNight 12 = .ok (.aload_n 0, 1) := by decide +kernel
theorem dX2_endNight_13 : decode cX2_endNight 13 = .ok (.getfield 30, 3) := by decide +kernel
theorem dX2_endNight_16 : decode cX2_endNight 16 = .ok (.aload_n 0, 1) := by decide +kernel
theorem dX2_endNight_17 : decode cX2_endNight 17 = .ok (.getfield 65, 3) := by decide +kernel
theorem dX2_endNight_20 : decode cX2_endNight 20 = .ok (.invokevirtual 134, 3) := by decide +kernel
theorem dX2_endNight_23 : decode cX2_endNight 23 = .ok (.istore_n 1, 1) := by decide +kernel
theorem dX2_endNight_24 : decode cX2_endNight 24 = .ok (.aload_n 0, 1) := by decide +kernel
theorem dX2_endNight_25 : decode cX2_endNight 25 = .ok (.getfield 34, 3) := by decide +kernel
theorem dX2_endNight_28 : decode cX2_endNight 28 = .ok (.iconst 2, 1) := by decide +kernel
theorem dX2_endNight_29 : decode cX2_endNight 29 = .ok (.iload_n 1, 1) := by decide +kernel
theorem dX2_endNight_30 : decode cX2_endNight 30 = .ok (.invokevirtual 107, 3) := by decide +kernel
theorem dX2_endNight_33 : decode cX2_endNight 33 = .ok (.iconst 0, 1) := by decide +kernel
theorem dX2_endNight_34 : decode cX2_endNight 34 = .ok (.istore_n 2, 1) := by decide +kernel
theorem dX2_endNight_35 : decode cX2_endNight 35 = .ok (.iload_n 2, 1) := by decide +kernel
theorem dX2_endNight_36 : decode cX2_endNight 36 = .ok (.iconst 4, 1) := by decide +kernel
theorem dX2_endNight_37 : decode cX2_endNight 37 = .ok (.if_icmp .ge 32, 3) := by decide +kernel
theorem dX2_endNight_40 : decode cX2_endNight 40 = .ok (.aload_n 0, 1) := by decide +kernel
theorem dX2_endNight_41 : decode cX2_endNight 41 = .ok (.getfield 37, 3) := by decide +kernel
theorem dX2_endNight_44 : decode cX2_endNight 44 = .ok (.aload_n 0, 1) := by decide +kernel
theorem dX2_endNight_45 : decode cX2_endNight 45 = .ok (.getfield 68, 3) := by decide +kernel
theorem dX2_endNight_48 : decode cX2_endNight 48 = .ok (.iload_n 2, 1) := by decide +kernel
theorem dX2_endNight_49 : decode cX2_endNight 49 = .ok (.invokestatic 143, 3) := by decide +kernel
theorem dX2_endNight_52 : decode cX2_endNight 52 = .ok (.aload_n 0, 1) := by decide +kernel
theorem dX2_endNight_53 : decode cX2_endNight 53 = .ok (.getfield 34, 3) := by decide +kernel
theorem dX2_endNight_56 : decode cX2_endNight 56 = .ok (.iload_n 2, 1) := by decide +kernel
theorem dX2_endNight_57 : decode cX2_endNight 57 = .ok (.invokevirtual 84, 3) := by decide +kernel
theorem dX2_endNight_60 : decode cX2_endNight 60 = .ok (.invokevirtual 48, 3) := by decide +kernel
theorem dX2_endNight_63 : decode cX2_endNight 63 = .ok (.iinc 2 1, 3) := by decide +kernel
theorem dX2_endNight_66 : decode cX2_endNight 66 = .ok (.goto (-31), 3) := by decide +kernel
theorem dX2_endNight_69 : decode cX2_endNight 69 = .ok (.aload_n 0, 1) := by decide +kernel
theorem dX2_endNight_70 : decode cX2_endNight 70 = .ok (.dup, 1) := by decide +kernel
theorem dX2_endNight_71 : decode cX2_endNight 71 = .ok (.getfield 68, 3) := by decide +kernel
theorem dX2_endNight_74 : decode cX2_endNight 74 = .ok (.iconst 1, 1) := by decide +kernel
theorem dX2_endNight_75 : decode cX2_endNight 75 = .ok (.iadd, 1) := by decide +kernel
theorem dX2_endNight_76 : decode cX2_endNight 76 = .ok (.putfield 68, 3) := by decide +kernel
theorem dX2_endNight_79 : decode cX2_endNight 79 = .ok (.aload_n 0, 1) := by decide +kernel
theorem dX2_endNight_80 : decode cX2_endNight 80 = .ok (.getfield 34, 3) := by decide +kernel
theorem dX2_endNight_83 : decode cX2_endNight 83 = .ok (.iconst 0, 1) := by decide +kernel
theorem dX2_endNight_84 : decode cX2_endNight 84 = .ok (.invokevirtual 146, 3) := by decide +kernel
theorem dX2_endNight_87 : decode cX2_endNight 87 = .ok (.aload_n 0, 1) := by decide +kernel
theorem dX2_endNight_88 : decode cX2_endNight 88 = .ok (.getfield 23, 3) := by decide +kernel
theorem dX2_endNight_91 : decode cX2_endNight 91 = .ok (.invokevirtual 149, 3) := by decide +kernel
theorem dX2_endNight_94 : decode cX2_endNight 94 = .ok (.aload_n 0, 1) := by decide +kernel
theorem dX2_endNight_95 : decode cX2_endNight 95 = .ok (.iconst 0, 1) := by decide +kernel
theorem dX2_endNight_96 : decode cX2_endNight 96 = .ok (.putfield 62, 3) := by decide +kernel
theorem dX2_endNight_99 : decode cX2_endNight 99 = .ok (.aload_n 0, 1) := by decide +kernel
theorem dX2_endNight_100 : decode cX2_endNight 100 = .ok (.bipush (-6), 2) := by decide +kernel
theorem dX2_endNight_102 : decode cX2_endNight 102 = .ok (.putfield 40, 3) := by decide +kernel
theorem dX2_endNight_105 : decode cX2_endNight 105 = .ok (.iload_n 1, 1) := by decide +kernel
theorem dX2_endNight_106 : decode cX2_endNight 106 = .ok (.ireturn, 1) := by decide +kernel
theorem dX2_recordPlace_0 : decode cX2_recordPlace 0 = .ok (.iload_n 0, 1) := by decide +kernel
theorem dX2_recordPlace_1 : decode cX2_recordPlace 1 = .ok (.bipush 6, 2) := by decide +kernel
theorem dX2_recordPlace_3 : decode cX2_recordPlace 3 = .ok (.irem, 1) := by decide +kernel
theorem dX2_recordPlace_4 : decode cX2_recordPlace 4 = .ok (.iconst 4, 1) := by decide +kernel
theorem dX2_recordPlace_5 : decode cX2_recordPlace 5 = .ok (.imul, 1) := by decide +kernel
theorem dX2_recordPlace_6 : decode cX2_recordPlace 6 = .ok (.iload_n 1, 1) := by decide +kernel
theorem dX2_recordPlace_7 : decode cX2_recordPlace 7 = .ok (.iadd, 1) := by decide +kernel
theorem dX2_recordPlace_8 : decode cX2_recordPlace 8 = .ok (.ireturn, 1) := by decide +kernel
set_option maxRecDepth 20000 in
theorem ggX2_aboutSeat_X7_isSeat : GoodIn wsX2_aboutSeat wsX7_isSeat := goodIn_r _ [5] (by decide +kernel) (by decide +kernel)
set_option maxRecDepth 20000 in
theorem gX2_aboutSeat_X7_isSeat_n88 : GoodIn wsX2_aboutSeat (wsX7_isSeat) := ggX2_aboutSeat_X7_isSeat
set_option maxRecDepth 20000 in
theorem ggX2_aboutSeat_X5_at : GoodIn wsX2_aboutSeat wsX5_at := goodIn_r _ [10, 11, 37] (by decide +kernel) (by decide +kernel)
set_option maxRecDepth 20000 in
theorem gX2_aboutSeat_X5_at : GoodIn wsX2_aboutSeat (wsV RX2 84 RX5 yX5_at wsX5_at) := goodIn_app (goodIn_of _ (by decide +kernel)) ggX2_aboutSeat_X5_at
set_option maxRecDepth 20000 in
theorem ggX2_aboutSeat_X6_hasClapped : GoodIn wsX2_aboutSeat wsX6_hasClapped := goodIn_r _ [16, 17, 29, 30, 31, 32, 33, 34, 35, 36] (by decide +kernel) (by decide +kernel)
set_option maxRecDepth 20000 in
theorem gX2_aboutSeat_X6_hasClapped : GoodIn wsX2_aboutSeat (wsV RX2 164 RX6 yX6_hasClapped wsX6_hasClapped) := goodIn_app (goodIn_of _ (by decide +kernel)) ggX2_aboutSeat_X6_hasClapped
theorem dX2_aboutSeat_0 : decode cX2_aboutSeat 0 = .ok (.iload_n 1, 1) := by decide +kernel
theorem dX2_aboutSeat_1 : decode cX2_aboutSeat 1 = .ok (.invokestatic 88, 3) := by decide +kernel
theorem dX2_aboutSeat_4 : decode cX2_aboutSeat 4 = .ok (.ifCond .ne 5, 3) := by decide +kernel
theorem dX2_aboutSeat_7 : decode cX2_aboutSeat 7 = .ok (.iconst (-1), 1) := by decide +kernel
theorem dX2_aboutSeat_8 : decode cX2_aboutSeat 8 = .ok (.ireturn, 1) := by decide +kernel
theorem dX2_aboutSeat_9 : decode cX2_aboutSeat 9 = .ok (.iload_n 2, 1) := by decide +kernel
theorem dX2_aboutSeat_10 : decode cX2_aboutSeat 10 = .ok (.tableswitch 147 0 6 #[42, 54, 66, 94, 106, 118, 135], 42) := by decide +kernel
theorem dX2_aboutSeat_52 : decode cX2_aboutSeat 52 = .ok (.aload_n 0, 1) := by decide +kernel
theorem dX2_aboutSeat_53 : decode cX2_aboutSeat 53 = .ok (.getfield 23, 3) := by decide +kernel
theorem dX2_aboutSeat_56 : decode cX2_aboutSeat 56 = .ok (.getfield 92, 3) := by decide +kernel
theorem dX2_aboutSeat_59 : decode cX2_aboutSeat 59 = .ok (.iload_n 1, 1) := by decide +kernel
theorem dX2_aboutSeat_60 : decode cX2_aboutSeat 60 = .ok (.invokevirtual 84, 3) := by decide +kernel
theorem dX2_aboutSeat_63 : decode cX2_aboutSeat 63 = .ok (.ireturn, 1) := by decide +kernel
theorem dX2_aboutSeat_64 : decode cX2_aboutSeat 64 = .ok (.aload_n 0, 1) := by decide +kernel
theorem dX2_aboutSeat_65 : decode cX2_aboutSeat 65 = .ok (.getfield 23, 3) := by decide +kernel
theorem dX2_aboutSeat_68 : decode cX2_aboutSeat 68 = .ok (.getfield 95, 3) := by decide +kernel
theorem dX2_aboutSeat_71 : decode cX2_aboutSeat 71 = .ok (.iload_n 1, 1) := by decide +kernel
theorem dX2_aboutSeat_72 : decode cX2_aboutSeat 72 = .ok (.ishr, 1) := by decide +kernel
theorem dX2_aboutSeat_73 : decode cX2_aboutSeat 73 = .ok (.iconst 1, 1) := by decide +kernel
theorem dX2_aboutSeat_74 : decode cX2_aboutSeat 74 = .ok (.iand, 1) := by decide +kernel
theorem dX2_aboutSeat_75 : decode cX2_aboutSeat 75 = .ok (.ireturn, 1) := by decide +kernel
theorem dX2_aboutSeat_76 : decode cX2_aboutSeat 76 = .ok (.aload_n 0, 1) := by decide +kernel
theorem dX2_aboutSeat_77 : decode cX2_aboutSeat 77 = .ok (.getfield 23, 3) := by decide +kernel
theorem dX2_aboutSeat_80 : decode cX2_aboutSeat 80 = .ok (.getfield 158, 3) := by decide +kernel
theorem dX2_aboutSeat_83 : decode cX2_aboutSeat 83 = .ok (.iload_n 1, 1) := by decide +kernel
theorem dX2_aboutSeat_84 : decode cX2_aboutSeat 84 = .ok (.invokevirtual 84, 3) := by decide +kernel
theorem dX2_aboutSeat_87 : decode cX2_aboutSeat 87 = .ok (.aload_n 0, 1) := by decide +kernel
theorem dX2_aboutSeat_88 : decode cX2_aboutSeat 88 = .ok (.getfield 14, 3) := by decide +kernel
theorem dX2_aboutSeat_91 : decode cX2_aboutSeat 91 = .ok (.iconst 4, 1) := by decide +kernel
theorem dX2_aboutSeat_92 : decode cX2_aboutSeat 92 = .ok (.invokevirtual 84, 3) := by decide +kernel
theorem dX2_aboutSeat_95 : decode cX2_aboutSeat 95 = .ok (.if_icmp .lt 7, 3) := by decide +kernel
theorem dX2_aboutSeat_98 : decode cX2_aboutSeat 98 = .ok (.iconst 1, 1) := by decide +kernel
theorem dX2_aboutSeat_99 : decode cX2_aboutSeat 99 = .ok (.goto 4, 3) := by decide +kernel
theorem dX2_aboutSeat_102 : decode cX2_aboutSeat 102 = .ok (.iconst 0, 1) := by decide +kernel
theorem dX2_aboutSeat_103 : decode cX2_aboutSeat 103 = .ok (.ireturn, 1) := by decide +kernel
theorem dX2_aboutSeat_104 : decode cX2_aboutSeat 104 = .ok (.aload_n 0, 1) := by decide +kernel
theorem dX2_aboutSeat_105 : decode cX2_aboutSeat 105 = .ok (.getfield 23, 3) := by decide +kernel
theorem dX2_aboutSeat_108 : decode cX2_aboutSeat 108 = .ok (.getfield 158, 3) := by decide +kernel
theorem dX2_aboutSeat_111 : decode cX2_aboutSeat 111 = .ok (.iload_n 1, 1) := by decide +kernel
theorem dX2_aboutSeat_112 : decode cX2_aboutSeat 112 = .ok (.invokevirtual 84, 3) := by decide +kernel
theorem dX2_aboutSeat_115 : decode cX2_aboutSeat 115 = .ok (.ireturn, 1) := by decide +kernel
theorem dX2_aboutSeat_116 : decode cX2_aboutSeat 116 = .ok (.aload_n 0, 1) := by decide +kernel
theorem dX2_aboutSeat_117 : decode cX2_aboutSeat 117 = .ok (.getfield 23, 3) := by decide +kernel
theorem dX2_aboutSeat_120 : decode cX2_aboutSeat 120 = .ok (.getfield 161, 3) := by decide +kernel
theorem dX2_aboutSeat_123 : decode cX2_aboutSeat 123 = .ok (.iload_n 1, 1) := by decide +kernel
theorem dX2_aboutSeat_124 : decode cX2_aboutSeat 124 = .ok (.invokevirtual 84, 3) := by decide +kernel
theorem dX2_aboutSeat_127 : decode cX2_aboutSeat 127 = .ok (.ireturn, 1) := by decide +kernel
theorem dX2_aboutSeat_128 : decode cX2_aboutSeat 128 = .ok (.aload_n 0, 1) := by decide +kernel
theorem dX2_aboutSeat_129 : decode cX2_aboutSeat 129 = .ok (.getfield 23, 3) := by decide +kernel
theorem dX2_aboutSeat_132 : decode cX2_aboutSeat 132 = .ok (.iload_n 1, 1) := by decide +kernel
theorem dX2_aboutSeat_133 : decode cX2_aboutSeat 133 = .ok (.invokevirtual 164, 3) := by decide +kernel
theorem dX2_aboutSeat_136 : decode cX2_aboutSeat 136 = .ok (.ifCond .eq 7, 3) := by decide +kernel
theorem dX2_aboutSeat_139 : decode cX2_aboutSeat 139 = .ok (.iconst 1, 1) := by decide +kernel
theorem dX2_aboutSeat_140 : decode cX2_aboutSeat 140 = .ok (.goto 4, 3) := by decide +kernel
theorem dX2_aboutSeat_143 : decode cX2_aboutSeat 143 = .ok (.iconst 0, 1) := by decide +kernel
theorem dX2_aboutSeat_144 : decode cX2_aboutSeat 144 = .ok (.ireturn, 1) := by decide +kernel
theorem dX2_aboutSeat_145 : decode cX2_aboutSeat 145 = .ok (.aload_n 0, 1) := by decide +kernel
theorem dX2_aboutSeat_146 : decode cX2_aboutSeat 146 = .ok (.getfield 23, 3) := by decide +kernel
theorem dX2_aboutSeat_149 : decode cX2_aboutSeat 149 = .ok (.getfield 167, 3) := by decide +kernel
theorem dX2_aboutSeat_152 : decode cX2_aboutSeat 152 = .ok (.iload_n 1, 1) := by decide +kernel
theorem dX2_aboutSeat_153 : decode cX2_aboutSeat 153 = .ok (.invokevirtual 84, 3) := by decide +kernel
theorem dX2_aboutSeat_156 : decode cX2_aboutSeat 156 = .ok (.ireturn, 1) := by decide +kernel
theorem dX2_aboutSeat_157 : decode cX2_aboutSeat 157 = .ok (.bipush (-2), 2) := by decide +kernel
theorem dX2_aboutSeat_159 : decode cX2_aboutSeat 159 = .ok (.ireturn, 1) := by decide +kernel
set_option maxRecDepth 20000 in
theorem ggX2_suspectedNow_X5_at : GoodIn wsX2_suspectedNow wsX5_at := goodIn_r _ [7, 8, 27] (by decide +kernel) (by decide +kernel)
set_option maxRecDepth 20000 in
theorem gX2_suspectedNow_X5_at : GoodIn wsX2_suspectedNow (wsV RX2 84 RX5 yX5_at wsX5_at) := goodIn_app (goodIn_of _ (by decide +kernel)) ggX2_suspectedNow_X5_at
set_option maxRecDepth 20000 in
theorem ggX2_suspectedNow_X6_suspected : GoodIn wsX2_suspectedNow wsX6_suspected := goodIn_r _ [13, 14, 15, 4, 5, 6, 7, 8, 28, 29, 30, 31, 32, 33, 34, 35, 27] (by decide +kernel) (by decide +kernel)
set_option maxRecDepth 20000 in
theorem gX2_suspectedNow_X6_suspected : GoodIn wsX2_suspectedNow (wsV RX2 170 RX6 yX6_suspected wsX6_suspected) := goodIn_app (goodIn_of _ (by decide +kernel)) ggX2_suspectedNow_X6_suspected
theorem dX2_suspectedNow_0 : decode cX2_suspectedNow 0 = .ok (.aload_n 0, 1) := by decide +kernel
theorem dX2_suspectedNow_1 : decode cX2_suspectedNow 1 = .ok (.getfield 23, 3) := by decide +kernel
theorem dX2_suspectedNow_4 : decode cX2_suspectedNow 4 = .ok (.aload_n 0, 1) := by decide +kernel
theorem dX2_suspectedNow_5 : decode cX2_suspectedNow 5 = .ok (.getfield 14, 3) := by decide +kernel
theorem dX2_suspectedNow_8 : decode cX2_suspectedNow 8 = .ok (.iconst 4, 1) := by decide +kernel
theorem dX2_suspectedNow_9 : decode cX2_suspectedNow 9 = .ok (.invokevirtual 84, 3) := by decide +kernel
theorem dX2_suspectedNow_12 : decode cX2_suspectedNow 12 = .ok (.invokevirtual 170, 3) := by decide +kernel
theorem dX2_suspectedNow_15 : decode cX2_suspectedNow 15 = .ok (.ireturn, 1) := by decide +kernel
set_option maxRecDepth 20000 in
theorem ggX2_recordOf_X2_recordPlace : GoodIn wsX2_recordOf wsX2_recordPlace := goodIn_r _ [10] (by decide +kernel) (by decide +kernel)
set_option maxRecDepth 20000 in
theorem gX2_recordOf_X2_recordPlace : GoodIn wsX2_recordOf (va_wsS RX2 143 yX2_recordPlace wsX2_recordPlace) := goodIn_app (goodIn_of _ (by decide +kernel)) ggX2_recordOf_X2_recordPlace
set_option maxRecDepth 20000 in
theorem ggX2_recordOf_X5_at : GoodIn wsX2_recordOf wsX5_at := goodIn_r _ [15, 16, 28] (by decide +kernel) (by decide +kernel)
set_option maxRecDepth 20000 in
theorem gX2_recordOf_X5_at : GoodIn wsX2_recordOf (wsV RX2 84 RX5 yX5_at wsX5_at) := goodIn_app (goodIn_of _ (by decide +kernel)) ggX2_recordOf_X5_at
theorem dX2_recordOf_0 : decode cX2_recordOf 0 = .ok (.iload_n 1, 1) := by decide +kernel
theorem dX2_recordOf_1 : decode cX2_recordOf 1 = .ok (.ifCond .lt 16, 3) := by decide +kernel
theorem dX2_recordOf_4 : decode cX2_recordOf 4 = .ok (.iload_n 1, 1) := by decide +kernel
theorem dX2_recordOf_5 : decode cX2_recordOf 5 = .ok (.aload_n 0, 1) := by decide +kernel
theorem dX2_recordOf_6 : decode cX2_recordOf 6 = .ok (.getfield 68, 3) := by decide +kernel
theorem dX2_recordOf_9 : decode cX2_recordOf 9 = .ok (.bipush 6, 2) := by decide +kernel
theorem dX2_recordOf_11 : decode cX2_recordOf 11 = .ok (.invokestatic 117, 3) := by decide +kernel
theorem dX2_recordOf_14 : decode cX2_recordOf 14 = .ok (.if_icmp .lt 5, 3) := by decide +kernel
theorem dX2_recordOf_17 : decode cX2_recordOf 17 = .ok (.iconst (-1), 1) := by decide +kernel
theorem dX2_recordOf_18 : decode cX2_recordOf 18 = .ok (.ireturn, 1) := by decide +kernel
theorem dX2_recordOf_19 : decode cX2_recordOf 19 = .ok (.iload_n 2, 1) := by decide +kernel
theorem dX2_recordOf_20 : decode cX2_recordOf 20 = .ok (.ifCond .lt 8, 3) := by decide +kernel
theorem dX2_recordOf_23 : decode cX2_recordOf 23 = .ok (.iload_n 2, 1) := by decide +kernel
theorem dX2_recordOf_24 : decode cX2_recordOf 24 = .ok (.iconst 4, 1) := by decide +kernel
theorem dX2_recordOf_25 : decode cX2_recordOf 25 = .ok (.if_icmp .lt 6, 3) := by decide +kernel
theorem dX2_recordOf_28 : decode cX2_recordOf 28 = .ok (.bipush (-2), 2) := by decide +kernel
theorem dX2_recordOf_30 : decode cX2_recordOf 30 = .ok (.ireturn, 1) := by decide +kernel
theorem dX2_recordOf_31 : decode cX2_recordOf 31 = .ok (.aload_n 0, 1) := by decide +kernel
theorem dX2_recordOf_32 : decode cX2_recordOf 32 = .ok (.getfield 37, 3) := by decide +kernel
theorem dX2_recordOf_35 : decode cX2_recordOf 35 = .ok (.aload_n 0, 1) := by decide +kernel
theorem dX2_recordOf_36 : decode cX2_recordOf 36 = .ok (.getfield 68, 3) := by decide +kernel
theorem dX2_recordOf_39 : decode cX2_recordOf 39 = .ok (.iconst 1, 1) := by decide +kernel
theorem dX2_recordOf_40 : decode cX2_recordOf 40 = .ok (.isub, 1) := by decide +kernel
theorem dX2_recordOf_41 : decode cX2_recordOf 41 = .ok (.iload_n 1, 1) := by decide +kernel
theorem dX2_recordOf_42 : decode cX2_recordOf 42 = .ok (.isub, 1) := by decide +kernel
theorem dX2_recordOf_43 : decode cX2_recordOf 43 = .ok (.iload_n 2, 1) := by decide +kernel
theorem dX2_recordOf_44 : decode cX2_recordOf 44 = .ok (.invokestatic 143, 3) := by decide +kernel
theorem dX2_recordOf_47 : decode cX2_recordOf 47 = .ok (.invokevirtual 84, 3) := by decide +kernel
theorem dX2_recordOf_50 : decode cX2_recordOf 50 = .ok (.ireturn, 1) := by decide +kernel
set_option maxRecDepth 20000 in
theorem ggX2_numberOf_X5_at : GoodIn wsX2_numberOf wsX5_at := goodIn_r _ [14, 15, 57] (by decide +kernel) (by decide +kernel)
set_option maxRecDepth 20000 in
theorem gX2_numberOf_X5_at : GoodIn wsX2_numberOf (wsV RX2 84 RX5 yX5_at wsX5_at) := goodIn_app (goodIn_of _ (by decide +kernel)) ggX2_numberOf_X5_at
set_option maxRecDepth 20000 in
theorem ggX2_numberOf_X5_sum : GoodIn wsX2_numberOf wsX5_sum := goodIn_r _ [19, 15, 57] (by decide +kernel) (by decide +kernel)
set_option maxRecDepth 20000 in
theorem gX2_numberOf_X5_sum : GoodIn wsX2_numberOf (wsV RX2 179 RX5 yX5_sum wsX5_sum) := goodIn_app (goodIn_of _ (by decide +kernel)) ggX2_numberOf_X5_sum
set_option maxRecDepth 20000 in
theorem ggX2_numberOf_X2_suspectedNow : GoodIn wsX2_numberOf wsX2_suspectedNow := goodIn_r _ [24, 8, 9, 10, 11, 12, 13, 14, 15, 25, 26, 27, 28, 29, 30, 31, 32, 33, 34, 35, 36, 37, 38, 39, 40, 41, 42, 57, 49, 50, 51, 52, 53, 54, 55, 56] (by decide +kernel) (by decide +kernel)
set_option maxRecDepth 20000 in
theorem gX2_numberOf_X2_suspectedNow : GoodIn wsX2_numberOf (wsV RX2 186 RX2 yX2_suspectedNow wsX2_suspectedNow) := goodIn_app (goodIn_of _ (by decide +kernel)) ggX2_numberOf_X2_suspectedNow
theorem dX2_numberOf_0 : decode cX2_numberOf 0 = .ok (.iload_n 1, 1) := by decide +kernel
theorem dX2_numberOf_1 : decode cX2_numberOf 1 = .ok (.tableswitch 185 0 12 #[67, 72, 77, 82, 91, 99, 110, 121, 130, 154, 159, 167, 172], 67) := by decide +kernel
theorem dX2_numberOf_68 : decode cX2_numberOf 68 = .ok (.aload_n 0, 1) := by decide +kernel
theorem dX2_numberOf_69 : decode cX2_numberOf 69 = .ok (.getfield 62, 3) := by decide +kernel
theorem dX2_numberOf_72 : decode cX2_numberOf 72 = .ok (.ireturn, 1) := by decide +kernel
theorem dX2_numberOf_73 : decode cX2_numberOf 73 = .ok (.aload_n 0, 1) := by decide +kernel
theorem dX2_numberOf_74 : decode cX2_numberOf 74 = .ok (.getfield 65, 3) := by decide +kernel
theorem dX2_numberOf_77 : decode cX2_numberOf 77 = .ok (.ireturn, 1) := by decide +kernel
theorem dX2_numberOf_78 : decode cX2_numberOf 78 = .ok (.aload_n 0, 1) := by decide +kernel
theorem dX2_numberOf_79 : decode cX2_numberOf 79 = .ok (.getfield 68, 3) := by decide +kernel
theorem dX2_numberOf_82 : decode cX2_numberOf 82 = .ok (.ireturn, 1) := by decide +kernel
theorem dX2_numberOf_83 : decode cX2_numberOf 83 = .ok (.aload_n 0, 1) := by decide +kernel
theorem dX2_numberOf_84 : decode cX2_numberOf 84 = .ok (.getfield 34, 3) := by decide +kernel
theorem dX2_numberOf_87 : decode cX2_numberOf 87 = .ok (.iconst 0, 1) := by decide +kernel
theorem dX2_numberOf_88 : decode cX2_numberOf 88 = .ok (.invokevirtual 84, 3) := by decide +kernel
theorem dX2_numberOf_91 : decode cX2_numberOf 91 = .ok (.ireturn, 1) := by decide +kernel
theorem dX2_numberOf_92 : decode cX2_numberOf 92 = .ok (.aload_n 0, 1) := by decide +kernel
theorem dX2_numberOf_93 : decode cX2_numberOf 93 = .ok (.getfield 30, 3) := by decide +kernel
theorem dX2_numberOf_96 : decode cX2_numberOf 96 = .ok (.getfield 173, 3) := by decide +kernel
theorem dX2_numberOf_99 : decode cX2_numberOf 99 = .ok (.ireturn, 1) := by decide +kernel
theorem dX2_numberOf_100 : decode cX2_numberOf 100 = .ok (.aload_n 0, 1) := by decide +kernel
theorem dX2_numberOf_101 : decode cX2_numberOf 101 = .ok (.getfield 30, 3) := by decide +kernel
theorem dX2_numberOf_104 : decode cX2_numberOf 104 = .ok (.getfield 176, 3) := by decide +kernel
theorem dX2_numberOf_107 : decode cX2_numberOf 107 = .ok (.invokevirtual 179, 3) := by decide +kernel
theorem dX2_numberOf_110 : decode cX2_numberOf 110 = .ok (.ireturn, 1) := by decide +kernel
theorem dX2_numberOf_111 : decode cX2_numberOf 111 = .ok (.aload_n 0, 1) := by decide +kernel
theorem dX2_numberOf_112 : decode cX2_numberOf 112 = .ok (.getfield 30, 3) := by decide +kernel
theorem dX2_numberOf_115 : decode cX2_numberOf 115 = .ok (.getfield 183, 3) := by decide +kernel
theorem dX2_numberOf_118 : decode cX2_numberOf 118 = .ok (.invokevirtual 179, 3) := by decide +kernel
theorem dX2_numberOf_121 : decode cX2_numberOf 121 = .ok (.ireturn, 1) := by decide +kernel
theorem dX2_numberOf_122 : decode cX2_numberOf 122 = .ok (.aload_n 0, 1) := by decide +kernel
theorem dX2_numberOf_123 : decode cX2_numberOf 123 = .ok (.getfield 34, 3) := by decide +kernel
theorem dX2_numberOf_126 : decode cX2_numberOf 126 = .ok (.iconst 3, 1) := by decide +kernel
theorem dX2_numberOf_127 : decode cX2_numberOf 127 = .ok (.invokevirtual 84, 3) := by decide +kernel
theorem dX2_numberOf_130 : decode cX2_numberOf 130 = .ok (.ireturn, 1) := by decide +kernel
theorem dX2_numberOf_131 : decode cX2_numberOf 131 = .ok (.aload_n 0, 1) := by decide +kernel
theorem dX2_numberOf_132 : decode cX2_numberOf 132 = .ok (.getfield 40, 3) := by decide +kernel
theorem dX2_numberOf_135 : decode cX2_numberOf 135 = .ok (.bipush (-6), 2) := by decide +kernel
theorem dX2_numberOf_137 : decode cX2_numberOf 137 = .ok (.if_icmp .ne 8, 3) := by decide +kernel
theorem dX2_numberOf_140 : decode cX2_numberOf 140 = .ok (.bipush (-6), 2) := by decide +kernel
theorem dX2_numberOf_142 : decode cX2_numberOf 142 = .ok (.goto 12, 3) := by decide +kernel
theorem dX2_numberOf_145 : decode cX2_numberOf 145 = .ok (.aload_n 0, 1) := by decide +kernel
theorem dX2_numberOf_146 : decode cX2_numberOf 146 = .ok (.getfield 65, 3) := by decide +kernel
theorem dX2_numberOf_149 : decode cX2_numberOf 149 = .ok (.aload_n 0, 1) := by decide +kernel
theorem dX2_numberOf_150 : decode cX2_numberOf 150 = .ok (.getfield 71, 3) := by decide +kernel
theorem dX2_numberOf_153 : decode cX2_numberOf 153 = .ok (.isub, 1) := by decide +kernel
theorem dX2_numberOf_154 : decode cX2_numberOf 154 = .ok (.ireturn, 1) := by decide +kernel
theorem dX2_numberOf_155 : decode cX2_numberOf 155 = .ok (.aload_n 0, 1) := by decide +kernel
theorem dX2_numberOf_156 : decode cX2_numberOf 156 = .ok (.getfield 40, 3) := by decide +kernel
theorem dX2_numberOf_159 : decode cX2_numberOf 159 = .ok (.ireturn, 1) := by decide +kernel
theorem dX2_numberOf_160 : decode cX2_numberOf 160 = .ok (.aload_n 0, 1) := by decide +kernel
theorem dX2_numberOf_161 : decode cX2_numberOf 161 = .ok (.getfield 23, 3) := by decide +kernel
theorem dX2_numberOf_164 : decode cX2_numberOf 164 = .ok (.getfield 95, 3) := by decide +kernel
theorem dX2_numberOf_167 : decode cX2_numberOf 167 = .ok (.ireturn, 1) := by decide +kernel
theorem dX2_numberOf_168 : decode cX2_numberOf 168 = .ok (.aload_n 0, 1) := by decide +kernel
theorem dX2_numberOf_169 : decode cX2_numberOf 169 = .ok (.invokevirtual 186, 3) := by decide +kernel
theorem dX2_numberOf_172 : decode cX2_numberOf 172 = .ok (.ireturn, 1) := by decide +kernel
theorem dX2_numberOf_173 : decode cX2_numberOf 173 = .ok (.aload_n 0, 1) := by decide +kernel
theorem dX2_numberOf_174 : decode cX2_numberOf 174 = .ok (.getfield 23, 3) := by decide +kernel
theorem dX2_numberOf_177 : decode cX2_numberOf 177 = .ok (.getfield 95, 3) := by decide +kernel
theorem dX2_numberOf_180 : decode cX2_numberOf 180 = .ok (.aload_n 0, 1) := by decide +kernel
theorem dX2_numberOf_181 : decode cX2_numberOf 181 = .ok (.invokevirtual 186, 3) := by decide +kernel
theorem dX2_numberOf_184 : decode cX2_numberOf 184 = .ok (.iand, 1) := by decide +kernel
theorem dX2_numberOf_185 : decode cX2_numberOf 185 = .ok (.ireturn, 1) := by decide +kernel
theorem dX2_numberOf_186 : decode cX2_numberOf 186 = .ok (.iload_n 1, 1) := by decide +kernel
theorem dX2_numberOf_187 : decode cX2_numberOf 187 = .ok (.bipush 13, 2) := by decide +kernel
theorem dX2_numberOf_189 : decode cX2_numberOf 189 = .ok (.if_icmp .lt 23, 3) := by decide +kernel
theorem dX2_numberOf_192 : decode cX2_numberOf 192 = .ok (.iload_n 1, 1) := by decide +kernel
theorem dX2_numberOf_193 : decode cX2_numberOf 193 = .ok (.bipush 19, 2) := by decide +kernel
theorem dX2_numberOf_195 : decode cX2_numberOf 195 = .ok (.if_icmp .ge 17, 3) := by decide +kernel
theorem dX2_numberOf_198 : decode cX2_numberOf 198 = .ok (.aload_n 0, 1) := by decide +kernel
theorem dX2_numberOf_199 : decode cX2_numberOf 199 = .ok (.getfield 14, 3) := by decide +kernel
theorem dX2_numberOf_202 : decode cX2_numberOf 202 = .ok (.iload_n 1, 1) := by decide +kernel
theorem dX2_numberOf_203 : decode cX2_numberOf 203 = .ok (.bipush 13, 2) := by decide +kernel
theorem dX2_numberOf_205 : decode cX2_numberOf 205 = .ok (.isub, 1) := by decide +kernel
theorem dX2_numberOf_206 : decode cX2_numberOf 206 = .ok (.invokevirtual 84, 3) := by decide +kernel
theorem dX2_numberOf_209 : decode cX2_numberOf 209 = .ok (.goto 5, 3) := by decide +kernel
theorem dX2_numberOf_212 : decode cX2_numberOf 212 = .ok (.bipush (-2), 2) := by decide +kernel
theorem dX2_numberOf_214 : decode cX2_numberOf 214 = .ok (.ireturn, 1) := by decide +kernel
set_option maxRecDepth 20000 in
theorem ggX2_secondsUntil_X5_at : GoodIn wsX2_secondsUntil wsX5_at := goodIn_r _ [7, 8, 27] (by decide +kernel) (by decide +kernel)
set_option maxRecDepth 20000 in
theorem gX2_secondsUntil_X5_at : GoodIn wsX2_secondsUntil (wsV RX2 84 RX5 yX5_at wsX5_at) := goodIn_app (goodIn_of _ (by decide +kernel)) ggX2_secondsUntil_X5_at
set_option maxRecDepth 20000 in
theorem ggX2_secondsUntil_X7_afterSecond : GoodIn wsX2_secondsUntil wsX7_afterSecond := goodIn_r _ [11, 12, 13, 14, 15] (by decide +kernel) (by decide +kernel)
set_option maxRecDepth 20000 in
theorem gX2_secondsUntil_X7_afterSecond_n131 : GoodIn wsX2_secondsUntil (wsX7_afterSecond) := ggX2_secondsUntil_X7_afterSecond
theorem dX2_secondsUntil_0 : decode cX2_secondsUntil 0 = .ok (.iload_n 1, 1) := by decide +kernel
theorem dX2_secondsUntil_1 : decode cX2_secondsUntil 1 = .ok (.ifCond .lt 10, 3) := by decide +kernel
theorem dX2_secondsUntil_4 : decode cX2_secondsUntil 4 = .ok (.iload_n 1, 1) := by decide +kernel
theorem dX2_secondsUntil_5 : decode cX2_secondsUntil 5 = .ok (.sipush 9999, 3) := by decide +kernel
theorem dX2_secondsUntil_8 : decode cX2_secondsUntil 8 = .ok (.if_icmp .le 6, 3) := by decide +kernel
theorem dX2_secondsUntil_11 : decode cX2_secondsUntil 11 = .ok (.bipush (-2), 2) := by decide +kernel
theorem dX2_secondsUntil_13 : decode cX2_secondsUntil 13 = .ok (.ireturn, 1) := by decide +kernel
theorem dX2_secondsUntil_14 : decode cX2_secondsUntil 14 = .ok (.aload_n 0, 1) := by decide +kernel
theorem dX2_secondsUntil_15 : decode cX2_secondsUntil 15 = .ok (.getfield 62, 3) := by decide +kernel
theorem dX2_secondsUntil_18 : decode cX2_secondsUntil 18 = .ok (.istore_n 2, 1) := by decide +kernel
theorem dX2_secondsUntil_19 : decode cX2_secondsUntil 19 = .ok (.iconst 0, 1) := by decide +kernel
theorem dX2_secondsUntil_20 : decode cX2_secondsUntil 20 = .ok (.istore_n 3, 1) := by decide +kernel
theorem dX2_secondsUntil_21 : decode cX2_secondsUntil 21 = .ok (.iload_n 2, 1) := by decide +kernel
theorem dX2_secondsUntil_22 : decode cX2_secondsUntil 22 = .ok (.iload_n 1, 1) := by decide +kernel
theorem dX2_secondsUntil_23 : decode cX2_secondsUntil 23 = .ok (.if_icmp .le 29, 3) := by decide +kernel
theorem dX2_secondsUntil_26 : decode cX2_secondsUntil 26 = .ok (.iload_n 3, 1) := by decide +kernel
theorem dX2_secondsUntil_27 : decode cX2_secondsUntil 27 = .ok (.sipush 9999, 3) := by decide +kernel
theorem dX2_secondsUntil_30 : decode cX2_secondsUntil 30 = .ok (.if_icmp .ge 22, 3) := by decide +kernel
theorem dX2_secondsUntil_33 : decode cX2_secondsUntil 33 = .ok (.iload_n 2, 1) := by decide +kernel
theorem dX2_secondsUntil_34 : decode cX2_secondsUntil 34 = .ok (.aload_n 0, 1) := by decide +kernel
theorem dX2_secondsUntil_35 : decode cX2_secondsUntil 35 = .ok (.getfield 14, 3) := by decide +kernel
theorem dX2_secondsUntil_38 : decode cX2_secondsUntil 38 = .ok (.iconst 0, 1) := by decide +kernel
theorem dX2_secondsUntil_39 : decode cX2_secondsUntil 39 = .ok (.invokevirtual 84, 3) := by decide +kernel
theorem dX2_secondsUntil_42 : decode cX2_secondsUntil 42 = .ok (.invokestatic 131, 3) := by decide +kernel
theorem dX2_secondsUntil_45 : decode cX2_secondsUntil 45 = .ok (.istore_n 2, 1) := by decide +kernel
theorem dX2_secondsUntil_46 : decode cX2_secondsUntil 46 = .ok (.iinc 3 1, 3) := by decide +kernel
theorem dX2_secondsUntil_49 : decode cX2_secondsUntil 49 = .ok (.goto (-28), 3) := by decide +kernel
theorem dX2_secondsUntil_52 : decode cX2_secondsUntil 52 = .ok (.iload_n 3, 1) := by decide +kernel
theorem dX2_secondsUntil_53 : decode cX2_secondsUntil 53 = .ok (.ireturn, 1) := by decide +kernel
set_option maxRecDepth 20000 in
theorem ggX2_clapsUntilEncore_X7_isSeat : GoodIn wsX2_clapsUntilEncore wsX7_isSeat := goodIn_r _ [8] (by decide +kernel) (by decide +kernel)
set_option maxRecDepth 20000 in
theorem gX2_clapsUntilEncore_X7_isSeat_n88 : GoodIn wsX2_clapsUntilEncore (wsX7_isSeat) := ggX2_clapsUntilEncore_X7_isSeat
set_option maxRecDepth 20000 in
theorem ggX2_clapsUntilEncore_X5_at : GoodIn wsX2_clapsUntilEncore wsX5_at := goodIn_r _ [13, 14, 34] (by decide +kernel) (by decide +kernel)
set_option maxRecDepth 20000 in
theorem gX2_clapsUntilEncore_X5_at : GoodIn wsX2_clapsUntilEncore (wsV RX2 84 RX5 yX5_at wsX5_at) := goodIn_app (goodIn_of _ (by decide +kernel)) ggX2_clapsUntilEncore_X5_at
theorem dX2_clapsUntilEncore_0 : decode cX2_clapsUntilEncore 0 = .ok (.iload_n 1, 1) := by decide +kernel
theorem dX2_clapsUntilEncore_1 : decode cX2_clapsUntilEncore 1 = .ok (.invokestatic 88, 3) := by decide +kernel
theorem dX2_clapsUntilEncore_4 : decode cX2_clapsUntilEncore 4 = .ok (.ifCond .ne 5, 3) := by decide +kernel
theorem dX2_clapsUntilEncore_7 : decode cX2_clapsUntilEncore 7 = .ok (.iconst (-1), 1) := by decide +kernel
theorem dX2_clapsUntilEncore_8 : decode cX2_clapsUntilEncore 8 = .ok (.ireturn, 1) := by decide +kernel
theorem dX2_clapsUntilEncore_9 : decode cX2_clapsUntilEncore 9 = .ok (.aload_n 0, 1) := by decide +kernel
theorem dX2_clapsUntilEncore_10 : decode cX2_clapsUntilEncore 10 = .ok (.getfield 40, 3) := by decide +kernel
theorem dX2_clapsUntilEncore_13 : decode cX2_clapsUntilEncore 13 = .ok (.bipush (-6), 2) := by decide +kernel
theorem dX2_clapsUntilEncore_15 : decode cX2_clapsUntilEncore 15 = .ok (.if_icmp .eq 10, 3) := by decide +kernel
theorem dX2_clapsUntilEncore_18 : decode cX2_clapsUntilEncore 18 = .ok (.aload_n 0, 1) := by decide +kernel
theorem dX2_clapsUntilEncore_19 : decode cX2_clapsUntilEncore 19 = .ok (.getfield 74, 3) := by decide +kernel
theorem dX2_clapsUntilEncore_22 : decode cX2_clapsUntilEncore 22 = .ok (.ifCond .eq 6, 3) := by decide +kernel
theorem dX2_clapsUntilEncore_25 : decode cX2_clapsUntilEncore 25 = .ok (.bipush (-5), 2) := by decide +kernel
theorem dX2_clapsUntilEncore_27 : decode cX2_clapsUntilEncore 27 = .ok (.ireturn, 1) := by decide +kernel
theorem dX2_clapsUntilEncore_28 : decode cX2_clapsUntilEncore 28 = .ok (.bipush 10, 2) := by decide +kernel
theorem dX2_clapsUntilEncore_30 : decode cX2_clapsUntilEncore 30 = .ok (.aload_n 0, 1) := by decide +kernel
theorem dX2_clapsUntilEncore_31 : decode cX2_clapsUntilEncore 31 = .ok (.getfield 23, 3) := by decide +kernel
theorem dX2_clapsUntilEncore_34 : decode cX2_clapsUntilEncore 34 = .ok (.getfield 92, 3) := by decide +kernel
theorem dX2_clapsUntilEncore_37 : decode cX2_clapsUntilEncore 37 = .ok (.iload_n 1, 1) := by decide +kernel
theorem dX2_clapsUntilEncore_38 : decode cX2_clapsUntilEncore 38 = .ok (.invokevirtual 84, 3) := by decide +kernel
theorem dX2_clapsUntilEncore_41 : decode cX2_clapsUntilEncore 41 = .ok (.imul, 1) := by decide +kernel
theorem dX2_clapsUntilEncore_42 : decode cX2_clapsUntilEncore 42 = .ok (.istore_n 2, 1) := by decide +kernel
theorem dX2_clapsUntilEncore_43 : decode cX2_clapsUntilEncore 43 = .ok (.aload_n 0, 1) := by decide +kernel
theorem dX2_clapsUntilEncore_44 : decode cX2_clapsUntilEncore 44 = .ok (.getfield 14, 3) := by decide +kernel
theorem dX2_clapsUntilEncore_47 : decode cX2_clapsUntilEncore 47 = .ok (.iconst 1, 1) := by decide +kernel
theorem dX2_clapsUntilEncore_48 : decode cX2_clapsUntilEncore 48 = .ok (.invokevirtual 84, 3) := by decide +kernel
theorem dX2_clapsUntilEncore_51 : decode cX2_clapsUntilEncore 51 = .ok (.aload_n 0, 1) := by decide +kernel
theorem dX2_clapsUntilEncore_52 : decode cX2_clapsUntilEncore 52 = .ok (.getfield 62, 3) := by decide +kernel
theorem dX2_clapsUntilEncore_55 : decode cX2_clapsUntilEncore 55 = .ok (.isub, 1) := by decide +kernel
theorem dX2_clapsUntilEncore_56 : decode cX2_clapsUntilEncore 56 = .ok (.istore_n 3, 1) := by decide +kernel
theorem dX2_clapsUntilEncore_57 : decode cX2_clapsUntilEncore 57 = .ok (.iload_n 2, 1) := by decide +kernel
theorem dX2_clapsUntilEncore_58 : decode cX2_clapsUntilEncore 58 = .ok (.ifCond .le 7, 3) := by decide +kernel
theorem dX2_clapsUntilEncore_61 : decode cX2_clapsUntilEncore 61 = .ok (.iload_n 3, 1) := by decide +kernel
theorem dX2_clapsUntilEncore_62 : decode cX2_clapsUntilEncore 62 = .ok (.ifCond .gt 7, 3) := by decide +kernel
theorem dX2_clapsUntilEncore_65 : decode cX2_clapsUntilEncore 65 = .ok (.iconst 1, 1) := by decide +kernel
theorem dX2_clapsUntilEncore_66 : decode cX2_clapsUntilEncore 66 = .ok (.goto 10, 3) := by decide +kernel
theorem dX2_clapsUntilEncore_69 : decode cX2_clapsUntilEncore 69 = .ok (.iload_n 3, 1) := by decide +kernel
theorem dX2_clapsUntilEncore_70 : decode cX2_clapsUntilEncore 70 = .ok (.iload_n 2, 1) := by decide +kernel
theorem dX2_clapsUntilEncore_71 : decode cX2_clapsUntilEncore 71 = .ok (.iadd, 1) := by decide +kernel
theorem dX2_clapsUntilEncore_72 : decode cX2_clapsUntilEncore 72 = .ok (.iconst 1, 1) := by decide +kernel
theorem dX2_clapsUntilEncore_73 : decode cX2_clapsUntilEncore 73 = .ok (.isub, 1) := by decide +kernel
theorem dX2_clapsUntilEncore_74 : decode cX2_clapsUntilEncore 74 = .ok (.iload_n 2, 1) := by decide +kernel
theorem dX2_clapsUntilEncore_75 : decode cX2_clapsUntilEncore 75 = .ok (.idiv, 1) := by decide +kernel
theorem dX2_clapsUntilEncore_76 : decode cX2_clapsUntilEncore 76 = .ok (.ireturn, 1) := by decide +kernel
set_option maxRecDepth 20000 in
theorem ggX2_secondsUntilLapse_X7_isPerformer : GoodIn wsX2_secondsUntilLapse wsX7_isPerformer := goodIn_r _ [10] (by decide +kernel) (by decide +kernel)
set_option maxRecDepth 20000 in
theorem gX2_secondsUntilLapse_X7_isPerformer_n98 : GoodIn wsX2_secondsUntilLapse (wsX7_isPerformer) := ggX2_secondsUntilLapse_X7_isPerformer
set_option maxRecDepth 20000 in
theorem ggX2_secondsUntilLapse_X0_earliestOf : GoodIn wsX2_secondsUntilLapse wsX0_earliestOf := goodIn_r _ [15, 16, 17, 18, 19, 20, 21, 22, 23, 36, 37, 38, 39, 40, 41, 42] (by decide +kernel) (by decide +kernel)
set_option maxRecDepth 20000 in
theorem gX2_secondsUntilLapse_X0_earliestOf : GoodIn wsX2_secondsUntilLapse (wsV RX2 189 RX0 yX0_earliestOf wsX0_earliestOf) := goodIn_app (goodIn_of _ (by decide +kernel)) ggX2_secondsUntilLapse_X0_earliestOf
set_option maxRecDepth 20000 in
theorem ggX2_secondsUntilLapse_X5_at : GoodIn wsX2_secondsUntilLapse wsX5_at := goodIn_r _ [22, 23, 42] (by decide +kernel) (by decide +kernel)
set_option maxRecDepth 20000 in
theorem gX2_secondsUntilLapse_X5_at : GoodIn wsX2_secondsUntilLapse (wsV RX2 84 RX5 yX5_at wsX5_at) := goodIn_app (goodIn_of _ (by decide +kernel)) ggX2_secondsUntilLapse_X5_at
theorem dX2_secondsUntilLapse_0 : decode cX2_secondsUntilLapse 0 = .ok (.iload_n 1, 1) := by decide +kernel
theorem dX2_secondsUntilLapse_1 : decode cX2_secondsUntilLapse 1 = .ok (.invokestatic 98, 3) := by decide +kernel
theorem dX2_secondsUntilLapse_4 : decode cX2_secondsUntilLapse 4 = .ok (.ifCond .ne 5, 3) := by decide +kernel
theorem dX2_secondsUntilLapse_7 : decode cX2_secondsUntilLapse 7 = .ok (.iconst (-1), 1) := by decide +kernel
theorem dX2_secondsUntilLapse_8 : decode cX2_secondsUntilLapse 8 = .ok (.ireturn, 1) := by decide +kernel
theorem dX2_secondsUntilLapse_9 : decode cX2_secondsUntilLapse 9 = .ok (.aload_n 0, 1) := by decide +kernel
theorem dX2_secondsUntilLapse_10 : decode cX2_secondsUntilLapse 10 = .ok (.getfield 30, 3) := by decide +kernel
theorem dX2_secondsUntilLapse_13 : decode cX2_secondsUntilLapse 13 = .ok (.iload_n 1, 1) := by decide +kernel
theorem dX2_secondsUntilLapse_14 : decode cX2_secondsUntilLapse 14 = .ok (.invokevirtual 189, 3) := by decide +kernel
theorem dX2_secondsUntilLapse_17 : decode cX2_secondsUntilLapse 17 = .ok (.istore_n 2, 1) := by decide +kernel
theorem dX2_secondsUntilLapse_18 : decode cX2_secondsUntilLapse 18 = .ok (.iload_n 2, 1) := by decide +kernel
theorem dX2_secondsUntilLapse_19 : decode cX2_secondsUntilLapse 19 = .ok (.bipush (-6), 2) := by decide +kernel
theorem dX2_secondsUntilLapse_21 : decode cX2_secondsUntilLapse 21 = .ok (.if_icmp .ne 6, 3) := by decide +kernel
theorem dX2_secondsUntilLapse_24 : decode cX2_secondsUntilLapse 24 = .ok (.bipush (-6), 2) := by decide +kernel
theorem dX2_secondsUntilLapse_26 : decode cX2_secondsUntilLapse 26 = .ok (.ireturn, 1) := by decide +kernel
theorem dX2_secondsUntilLapse_27 : decode cX2_secondsUntilLapse 27 = .ok (.aload_n 0, 1) := by decide +kernel
theorem dX2_secondsUntilLapse_28 : decode cX2_secondsUntilLapse 28 = .ok (.getfield 65, 3) := by decide +kernel
theorem dX2_secondsUntilLapse_31 : decode cX2_secondsUntilLapse 31 = .ok (.aload_n 0, 1) := by decide +kernel
theorem dX2_secondsUntilLapse_32 : decode cX2_secondsUntilLapse 32 = .ok (.getfield 30, 3) := by decide +kernel
theorem dX2_secondsUntilLapse_35 : decode cX2_secondsUntilLapse 35 = .ok (.getfield 192, 3) := by decide +kernel
theorem dX2_secondsUntilLapse_38 : decode cX2_secondsUntilLapse 38 = .ok (.iload_n 2, 1) := by decide +kernel
theorem dX2_secondsUntilLapse_39 : decode cX2_secondsUntilLapse 39 = .ok (.invokevirtual 84, 3) := by decide +kernel
theorem dX2_secondsUntilLapse_42 : decode cX2_secondsUntilLapse 42 = .ok (.isub, 1) := by decide +kernel
theorem dX2_secondsUntilLapse_43 : decode cX2_secondsUntilLapse 43 = .ok (.istore_n 3, 1) := by decide +kernel
theorem dX2_secondsUntilLapse_44 : decode cX2_secondsUntilLapse 44 = .ok (.aload_n 0, 1) := by decide +kernel
theorem dX2_secondsUntilLapse_45 : decode cX2_secondsUntilLapse 45 = .ok (.getfield 14, 3) := by decide +kernel
theorem dX2_secondsUntilLapse_48 : decode cX2_secondsUntilLapse 48 = .ok (.iconst 2, 1) := by decide +kernel
theorem dX2_secondsUntilLapse_49 : decode cX2_secondsUntilLapse 49 = .ok (.invokevirtual 84, 3) := by decide +kernel
theorem dX2_secondsUntilLapse_52 : decode cX2_secondsUntilLapse 52 = .ok (.iload_n 3, 1) := by decide +kernel
theorem dX2_secondsUntilLapse_53 : decode cX2_secondsUntilLapse 53 = .ok (.isub, 1) := by decide +kernel
theorem dX2_secondsUntilLapse_54 : decode cX2_secondsUntilLapse 54 = .ok (.iconst 1, 1) := by decide +kernel
theorem dX2_secondsUntilLapse_55 : decode cX2_secondsUntilLapse 55 = .ok (.invokestatic 195, 3) := by decide +kernel
theorem dX2_secondsUntilLapse_58 : decode cX2_secondsUntilLapse 58 = .ok (.ireturn, 1) := by decide +kernel
set_option maxRecDepth 20000 in
theorem ggX2_curtainsLeft_X5_at : GoodIn wsX2_curtainsLeft wsX5_at := goodIn_r _ [7, 8, 20] (by decide +kernel) (by decide +kernel)
set_option maxRecDepth 20000 in
theorem gX2_curtainsLeft_X5_at : GoodIn wsX2_curtainsLeft (wsV RX2 84 RX5 yX5_at wsX5_at) := goodIn_app (goodIn_of _ (by decide +kernel)) ggX2_curtainsLeft_X5_at
theorem dX2_curtainsLeft_0 : decode cX2_curtainsLeft 0 = .ok (.aload_n 0, 1) := by decide +kernel
theorem dX2_curtainsLeft_1 : decode cX2_curtainsLeft 1 = .ok (.getfield 62, 3) := by decide +kernel
theorem dX2_curtainsLeft_4 : decode cX2_curtainsLeft 4 = .ok (.istore_n 1, 1) := by decide +kernel
theorem dX2_curtainsLeft_5 : decode cX2_curtainsLeft 5 = .ok (.iconst 0, 1) := by decide +kernel
theorem dX2_curtainsLeft_6 : decode cX2_curtainsLeft 6 = .ok (.istore_n 2, 1) := by decide +kernel
theorem dX2_curtainsLeft_7 : decode cX2_curtainsLeft 7 = .ok (.iload_n 1, 1) := by decide +kernel
theorem dX2_curtainsLeft_8 : decode cX2_curtainsLeft 8 = .ok (.ifCond .le 25, 3) := by decide +kernel
theorem dX2_curtainsLeft_11 : decode cX2_curtainsLeft 11 = .ok (.iload_n 1, 1) := by decide +kernel
theorem dX2_curtainsLeft_12 : decode cX2_curtainsLeft 12 = .ok (.aload_n 0, 1) := by decide +kernel
theorem dX2_curtainsLeft_13 : decode cX2_curtainsLeft 13 = .ok (.getfield 14, 3) := by decide +kernel
theorem dX2_curtainsLeft_16 : decode cX2_curtainsLeft 16 = .ok (.iconst 5, 1) := by decide +kernel
theorem dX2_curtainsLeft_17 : decode cX2_curtainsLeft 17 = .ok (.invokevirtual 84, 3) := by decide +kernel
theorem dX2_curtainsLeft_20 : decode cX2_curtainsLeft 20 = .ok (.if_icmp .lt 13, 3) := by decide +kernel
theorem dX2_curtainsLeft_23 : decode cX2_curtainsLeft 23 = .ok (.iload_n 1, 1) := by decide +kernel
theorem dX2_curtainsLeft_24 : decode cX2_curtainsLeft 24 = .ok (.iconst 2, 1) := by decide +kernel
theorem dX2_curtainsLeft_25 : decode cX2_curtainsLeft 25 = .ok (.idiv, 1) := by decide +kernel
theorem dX2_curtainsLeft_26 : decode cX2_curtainsLeft 26 = .ok (.istore_n 1, 1) := by decide +kernel
theorem dX2_curtainsLeft_27 : decode cX2_curtainsLeft 27 = .ok (.iinc 2 1, 3) := by decide +kernel
theorem dX2_curtainsLeft_30 : decode cX2_curtainsLeft 30 = .ok (.goto (-23), 3) := by decide +kernel
theorem dX2_curtainsLeft_33 : decode cX2_curtainsLeft 33 = .ok (.iload_n 2, 1) := by decide +kernel
theorem dX2_curtainsLeft_34 : decode cX2_curtainsLeft 34 = .ok (.ireturn, 1) := by decide +kernel
theorem dX3_init_0 : decode cX3_init 0 = .ok (.aload_n 0, 1) := by decide +kernel
theorem dX3_init_1 : decode cX3_init 1 = .ok (.invokespecial 3, 3) := by decide +kernel
theorem dX3_init_4 : decode cX3_init 4 = .ok (.aload_n 0, 1) := by decide +kernel
theorem dX3_init_5 : decode cX3_init 5 = .ok (.aload_n 1, 1) := by decide +kernel
theorem dX3_init_6 : decode cX3_init 6 = .ok (.putfield 9, 3) := by decide +kernel
theorem dX3_init_9 : decode cX3_init 9 = .ok (.return_, 1) := by decide +kernel
theorem dX4_init_0 : decode cX4_init 0 = .ok (.aload_n 0, 1) := by decide +kernel
theorem dX4_init_1 : decode cX4_init 1 = .ok (.invokespecial 3, 3) := by decide +kernel
theorem dX4_init_4 : decode cX4_init 4 = .ok (.aload_n 0, 1) := by decide +kernel
theorem dX4_init_5 : decode cX4_init 5 = .ok (.bipush 80, 2) := by decide +kernel
theorem dX4_init_7 : decode cX4_init 7 = .ok (.newarray .int, 2) := by decide +kernel
theorem dX4_init_9 : decode cX4_init 9 = .ok (.putfield 9, 3) := by decide +kernel
theorem dX4_init_12 : decode cX4_init 12 = .ok (.return_, 1) := by decide +kernel
theorem dX4_length_0 : decode cX4_length 0 = .ok (.aload_n 0, 1) := by decide +kernel
theorem dX4_length_1 : decode cX4_length 1 = .ok (.getfield 15, 3) := by decide +kernel
theorem dX4_length_4 : decode cX4_length 4 = .ok (.ireturn, 1) := by decide +kernel
theorem dX5_init_0 : decode cX5_init 0 = .ok (.aload_n 0, 1) := by decide +kernel
theorem dX5_init_1 : decode cX5_init 1 = .ok (.invokespecial 1, 3) := by decide +kernel
theorem dX5_init_4 : decode cX5_init 4 = .ok (.aload_n 0, 1) := by decide +kernel
theorem dX5_init_5 : decode cX5_init 5 = .ok (.iload_n 1, 1) := by decide +kernel
theorem dX5_init_6 : decode cX5_init 6 = .ok (.iconst 0, 1) := by decide +kernel
theorem dX5_init_7 : decode cX5_init 7 = .ok (.invokestatic 7, 3) := by decide +kernel
theorem dX5_init_10 : decode cX5_init 10 = .ok (.newarray .int, 2) := by decide +kernel
theorem dX5_init_12 : decode cX5_init 12 = .ok (.putfield 13, 3) := by decide +kernel
theorem dX5_init_15 : decode cX5_init 15 = .ok (.return_, 1) := by decide +kernel
theorem dX5_at_0 : decode cX5_at 0 = .ok (.iload_n 1, 1) := by decide +kernel
theorem dX5_at_1 : decode cX5_at 1 = .ok (.ifCond .lt 21, 3) := by decide +kernel
theorem dX5_at_4 : decode cX5_at 4 = .ok (.iload_n 1, 1) := by decide +kernel
theorem dX5_at_5 : decode cX5_at 5 = .ok (.aload_n 0, 1) := by decide +kernel
theorem dX5_at_6 : decode cX5_at 6 = .ok (.getfield 13, 3) := by decide +kernel
theorem dX5_at_9 : decode cX5_at 9 = .ok (.arraylength, 1) := by decide +kernel
theorem dX5_at_10 : decode cX5_at 10 = .ok (.if_icmp .ge 12, 3) := by decide +kernel
theorem dX5_at_13 : decode cX5_at 13 = .ok (.aload_n 0, 1) := by decide +kernel
theorem dX5_at_14 : decode cX5_at 14 = .ok (.getfield 13, 3) := by decide +kernel
theorem dX5_at_17 : decode cX5_at 17 = .ok (.iload_n 1, 1) := by decide +kernel
theorem dX5_at_18 : decode cX5_at 18 = .ok (.iaload, 1) := by decide +kernel
theorem dX5_at_19 : decode cX5_at 19 = .ok (.goto 4, 3) := by decide +kernel
theorem dX5_at_22 : decode cX5_at 22 = .ok (.iconst 0, 1) := by decide +kernel
theorem dX5_at_23 : decode cX5_at 23 = .ok (.ireturn, 1) := by decide +kernel
theorem dX5_store_0 : decode cX5_store 0 = .ok (.iload_n 1, 1) := by decide +kernel
theorem dX5_store_1 : decode cX5_store 1 = .ok (.ifCond .lt 19, 3) := by decide +kernel
theorem dX5_store_4 : decode cX5_store 4 = .ok (.iload_n 1, 1) := by decide +kernel
theorem dX5_store_5 : decode cX5_store 5 = .ok (.aload_n 0, 1) := by decide +kernel
theorem dX5_store_6 : decode cX5_store 6 = .ok (.getfield 13, 3) := by decide +kernel
theorem dX5_store_9 : decode cX5_store 9 = .ok (.arraylength, 1) := by decide +kernel
theorem dX5_store_10 : decode cX5_store 10 = .ok (.if_icmp .ge 10, 3) := by decide +kernel
theorem dX5_store_13 : decode cX5_store 13 = .ok (.aload_n 0, 1) := by decide +kernel
theorem dX5_store_14 : decode cX5_store 14 = .ok (.getfield 13, 3) := by decide +kernel
theorem dX5_store_17 : decode cX5_store 17 = .ok (.iload_n 1, 1) := by decide +kernel
theorem dX5_store_18 : decode cX5_store 18 = .ok (.iload_n 2, 1) := by decide +kernel
theorem dX5_store_19 : decode cX5_store 19 = .ok (.iastore, 1) := by decide +kernel
theorem dX5_store_20 : decode cX5_store 20 = .ok (.return_, 1) := by decide +kernel
theorem dX5_add_0 : decode cX5_add 0 = .ok (.iload_n 1, 1) := by decide +kernel
theorem dX5_add_1 : decode cX5_add 1 = .ok (.ifCond .lt 22, 3) := by decide +kernel
theorem dX5_add_4 : decode cX5_add 4 = .ok (.iload_n 1, 1) := by decide +kernel
theorem dX5_add_5 : decode cX5_add 5 = .ok (.aload_n 0, 1) := by decide +kernel
theorem dX5_add_6 : decode cX5_add 6 = .ok (.getfield 13, 3) := by decide +kernel
theorem dX5_add_9 : decode cX5_add 9 = .ok (.arraylength, 1) := by decide +kernel
theorem dX5_add_10 : decode cX5_add 10 = .ok (.if_icmp .ge 13, 3) := by decide +kernel
theorem dX5_add_13 : decode cX5_add 13 = .ok (.aload_n 0, 1) := by decide +kernel
theorem dX5_add_14 : decode cX5_add 14 = .ok (.getfield 13, 3) := by decide +kernel
theorem dX5_add_17 : decode cX5_add 17 = .ok (.iload_n 1, 1) := by decide +kernel
theorem dX5_add_18 : decode cX5_add 18 = .ok (.dup2, 1) := by decide +kernel
theorem dX5_add_19 : decode cX5_add 19 = .ok (.iaload, 1) := by decide +kernel
theorem dX5_add_20 : decode cX5_add 20 = .ok (.iload_n 2, 1) := by decide +kernel
theorem dX5_add_21 : decode cX5_add 21 = .ok (.iadd, 1) := by decide +kernel
theorem dX5_add_22 : decode cX5_add 22 = .ok (.iastore, 1) := by decide +kernel
theorem dX5_add_23 : decode cX5_add 23 = .ok (.return_, 1) := by decide +kernel
theorem dX5_fill_0 : decode cX5_fill 0 = .ok (.iconst 0, 1) := by decide +kernel
theorem dX5_fill_1 : decode cX5_fill 1 = .ok (.istore_n 2, 1) := by decide +kernel
theorem dX5_fill_2 : decode cX5_fill 2 = .ok (.iload_n 2, 1) := by decide +kernel
theorem dX5_fill_3 : decode cX5_fill 3 = .ok (.aload_n 0, 1) := by decide +kernel
theorem dX5_fill_4 : decode cX5_fill 4 = .ok (.getfield 13, 3) := by decide +kernel
theorem dX5_fill_7 : decode cX5_fill 7 = .ok (.arraylength, 1) := by decide +kernel
theorem dX5_fill_8 : decode cX5_fill 8 = .ok (.if_icmp .ge 16, 3) := by decide +kernel
theorem dX5_fill_11 : decode cX5_fill 11 = .ok (.aload_n 0, 1) := by decide +kernel
theorem dX5_fill_12 : decode cX5_fill 12 = .ok (.getfield 13, 3) := by decide +kernel
theorem dX5_fill_15 : decode cX5_fill 15 = .ok (.iload_n 2, 1) := by decide +kernel
theorem dX5_fill_16 : decode cX5_fill 16 = .ok (.iload_n 1, 1) := by decide +kernel
theorem dX5_fill_17 : decode cX5_fill 17 = .ok (.iastore, 1) := by decide +kernel
theorem dX5_fill_18 : decode cX5_fill 18 = .ok (.iinc 2 1, 3) := by decide +kernel
theorem dX5_fill_21 : decode cX5_fill 21 = .ok (.goto (-19), 3) := by decide +kernel
theorem dX5_fill_24 : decode cX5_fill 24 = .ok (.return_, 1) := by decide +kernel
theorem dX5_sum_0 : decode cX5_sum 0 = .ok (.iconst 0, 1) := by decide +kernel
theorem dX5_sum_1 : decode cX5_sum 1 = .ok (.istore_n 1, 1) := by decide +kernel
theorem dX5_sum_2 : decode cX5_sum 2 = .ok (.iconst 0, 1) := by decide +kernel
theorem dX5_sum_3 : decode cX5_sum 3 = .ok (.istore_n 2, 1) := by decide +kernel
theorem dX5_sum_4 : decode cX5_sum 4 = .ok (.iload_n 2, 1) := by decide +kernel
theorem dX5_sum_5 : decode cX5_sum 5 = .ok (.aload_n 0, 1) := by decide +kernel
theorem dX5_sum_6 : decode cX5_sum 6 = .ok (.getfield 13, 3) := by decide +kernel
theorem dX5_sum_9 : decode cX5_sum 9 = .ok (.arraylength, 1) := by decide +kernel
theorem dX5_sum_10 : decode cX5_sum 10 = .ok (.if_icmp .ge 18, 3) := by decide +kernel
theorem dX5_sum_13 : decode cX5_sum 13 = .ok (.iload_n 1, 1) := by decide +kernel
theorem dX5_sum_14 : decode cX5_sum 14 = .ok (.aload_n 0, 1) := by decide +kernel
theorem dX5_sum_15 : decode cX5_sum 15 = .ok (.getfield 13, 3) := by decide +kernel
theorem dX5_sum_18 : decode cX5_sum 18 = .ok (.iload_n 2, 1) := by decide +kernel
theorem dX5_sum_19 : decode cX5_sum 19 = .ok (.iaload, 1) := by decide +kernel
theorem dX5_sum_20 : decode cX5_sum 20 = .ok (.iadd, 1) := by decide +kernel
theorem dX5_sum_21 : decode cX5_sum 21 = .ok (.istore_n 1, 1) := by decide +kernel
theorem dX5_sum_22 : decode cX5_sum 22 = .ok (.iinc 2 1, 3) := by decide +kernel
theorem dX5_sum_25 : decode cX5_sum 25 = .ok (.goto (-21), 3) := by decide +kernel
theorem dX5_sum_28 : decode cX5_sum 28 = .ok (.iload_n 1, 1) := by decide +kernel
theorem dX5_sum_29 : decode cX5_sum 29 = .ok (.ireturn, 1) := by decide +kernel
theorem dX5_copyFrom_0 : decode cX5_copyFrom 0 = .ok (.aload_n 1, 1) := by decide +kernel
theorem dX5_copyFrom_1 : decode cX5_copyFrom 1 = .ok (.getfield 13, 3) := by decide +kernel
theorem dX5_copyFrom_4 : decode cX5_copyFrom 4 = .ok (.iconst 0, 1) := by decide +kernel
theorem dX5_copyFrom_5 : decode cX5_copyFrom 5 = .ok (.aload_n 0, 1) := by decide +kernel
theorem dX5_copyFrom_6 : decode cX5_copyFrom 6 = .ok (.getfield 13, 3) := by decide +kernel
theorem dX5_copyFrom_9 : decode cX5_copyFrom 9 = .ok (.iconst 0, 1) := by decide +kernel
theorem dX5_copyFrom_10 : decode cX5_copyFrom 10 = .ok (.aload_n 0, 1) := by decide +kernel
theorem dX5_copyFrom_11 : decode cX5_copyFrom 11 = .ok (.getfield 13, 3) := by decide +kernel
theorem dX5_copyFrom_14 : decode cX5_copyFrom 14 = .ok (.arraylength, 1) := by decide +kernel
theorem dX5_copyFrom_15 : decode cX5_copyFrom 15 = .ok (.aload_n 1, 1) := by decide +kernel
theorem dX5_copyFrom_16 : decode cX5_copyFrom 16 = .ok (.getfield 13, 3) := by decide +kernel
theorem dX5_copyFrom_19 : decode cX5_copyFrom 19 = .ok (.arraylength, 1) := by decide +kernel
theorem dX5_copyFrom_20 : decode cX5_copyFrom 20 = .ok (.invokestatic 19, 3) := by decide +kernel
theorem dX5_copyFrom_23 : decode cX5_copyFrom 23 = .ok (.invokestatic 22, 3) := by decide +kernel
theorem dX5_copyFrom_26 : decode cX5_copyFrom 26 = .ok (.return_, 1) := by decide +kernel
set_option maxRecDepth 20000 in
theorem ggX6_init_X5_init : GoodIn wsX6_init wsX5_init := goodIn_r _ [14, 15, 2, 3, 16, 17, 18, 19, 20, 21, 26] (by decide +kernel) (by decide +kernel)
set_option maxRecDepth 20000 in
theorem gX6_init_X5_init : GoodIn wsX6_init (wsX5_init) := ggX6_init_X5_init
set_option maxRecDepth 20000 in
theorem ggX6_init_X5_fill : GoodIn wsX6_init wsX5_fill := goodIn_r _ [25, 21, 26] (by decide +kernel) (by decide +kernel)
set_option maxRecDepth 20000 in
theorem gX6_init_X5_fill : GoodIn wsX6_init (wsV RX6 32 RX5 yX5_fill wsX5_fill) := goodIn_app (goodIn_of _ (by decide +kernel)) ggX6_init_X5_fill
theorem dX6_init_0 : decode cX6_init 0 = .ok (.aload_n 0, 1) := by decide +kernel
theorem dX6_init_1 : decode cX6_init 1 = .ok (.invokespecial 3, 3) := by decide +kernel
theorem dX6_init_4 : decode cX6_init 4 = .ok (.aload_n 0, 1) := by decide +kernel
theorem dX6_init_5 : decode cX6_init 5 = .ok (.new 9, 3) := by decide +kernel
theorem dX6_init_8 : decode cX6_init 8 = .ok (.dup, 1) := by decide +kernel
theorem dX6_init_9 : decode cX6_init 9 = .ok (.bipush 30, 2) := by decide +kernel
theorem dX6_init_11 : decode cX6_init 11 = .ok (.invokespecial 11, 3) := by decide +kernel
theorem dX6_init_14 : decode cX6_init 14 = .ok (.putfield 14, 3) := by decide +kernel
theorem dX6_init_17 : decode cX6_init 17 = .ok (.aload_n 0, 1) := by decide +kernel
theorem dX6_init_18 : decode cX6_init 18 = .ok (.new 9, 3) := by decide +kernel
theorem dX6_init_21 : decode cX6_init 21 = .ok (.dup, 1) := by decide +kernel
theorem dX6_init_22 : decode cX6_init 22 = .ok (.bipush 30, 2) := by decide +kernel
theorem dX6_init_24 : decode cX6_init 24 = .ok (.invokespecial 11, 3) := by decide +kernel
theorem dX6_init_27 : decode cX6_init 27 = .ok (.putfield 20, 3) := by decide +kernel
theorem dX6_init_30 : decode cX6_init 30 = .ok (.aload_n 0, 1) := by decide +kernel
theorem dX6_init_31 : decode cX6_init 31 = .ok (.new 9, 3) := by decide +kernel
theorem dX6_init_34 : decode cX6_init 34 = .ok (.dup, 1) := by decide +kernel
theorem dX6_init_35 : decode cX6_init 35 = .ok (.bipush 30, 2) := by decide +kernel
theorem dX6_init_37 : decode cX6_init 37 = .ok (.invokespecial 11, 3) := by decide +kernel
theorem dX6_init_40 : decode cX6_init 40 = .ok (.putfield 23, 3) := by decide +kernel
theorem dX6_init_43 : decode cX6_init 43 = .ok (.aload_n 0, 1) := by decide +kernel
theorem dX6_init_44 : decode cX6_init 44 = .ok (.new 9, 3) := by decide +kernel
theorem dX6_init_47 : decode cX6_init 47 = .ok (.dup, 1) := by decide +kernel
theorem dX6_init_48 : decode cX6_init 48 = .ok (.bipush 30, 2) := by decide +kernel
theorem dX6_init_50 : decode cX6_init 50 = .ok (.invokespecial 11, 3) := by decide +kernel
theorem dX6_init_53 : decode cX6_init 53 = .ok (.putfield 26, 3) := by decide +kernel
theorem dX6_init_56 : decode cX6_init 56 = .ok (.aload_n 0, 1) := by decide +kernel
theorem dX6_init_57 : decode cX6_init 57 = .ok (.new 9, 3) := by decide +kernel
theorem dX6_init_60 : decode cX6_init 60 = .ok (.dup, 1) := by decide +kernel
theorem dX6_init_61 : decode cX6_init 61 = .ok (.bipush 30, 2) := by decide +kernel
theorem dX6_init_63 : decode cX6_init 63 = .ok (.invokespecial 11, 3) := by decide +kernel
theorem dX6_init_66 : decode cX6_init 66 = .ok (.putfield 29, 3) := by decide +kernel
theorem dX6_init_69 : decode cX6_init 69 = .ok (.aload_n 0, 1) := by decide +kernel
theorem dX6_init_70 : decode cX6_init 70 = .ok (.getfield 14, 3) := by decide +kernel
theorem dX6_init_73 : decode cX6_init 73 = .ok (.iconst 3, 1) := by decide +kernel
theorem dX6_init_74 : decode cX6_init 74 = .ok (.invokevirtual 32, 3) := by decide +kernel
theorem dX6_init_77 : decode cX6_init 77 = .ok (.return_, 1) := by decide +kernel
set_option maxRecDepth 20000 in
theorem ggX6_copyFrom_X5_copyFrom : GoodIn wsX6_copyFrom wsX5_copyFrom := goodIn_r _ [13, 14, 15, 16, 17, 18, 19, 20, 21, 22, 31] (by decide +kernel) (by decide +kernel)
set_option maxRecDepth 20000 in
theorem gX6_copyFrom_X5_copyFrom : GoodIn wsX6_copyFrom (wsV RX6 35 RX5 yX5_copyFrom wsX5_copyFrom) := goodIn_app (goodIn_of _ (by decide +kernel)) ggX6_copyFrom_X5_copyFrom
theorem dX6_copyFrom_0 : decode cX6_copyFrom 0 = .ok (.aload_n 0, 1) := by decide +kernel
theorem dX6_copyFrom_1 : decode cX6_copyFrom 1 = .ok (.getfield 14, 3) := by decide +kernel
theorem dX6_copyFrom_4 : decode cX6_copyFrom 4 = .ok (.aload_n 1, 1) := by decide +kernel
theorem dX6_copyFrom_5 : decode cX6_copyFrom 5 = .ok (.getfield 14, 3) := by decide +kernel
theorem dX6_copyFrom_8 : decode cX6_copyFrom 8 = .ok (.invokevirtual 35, 3) := by decide +kernel
theorem dX6_copyFrom_11 : decode cX6_copyFrom 11 = .ok (.aload_n 0, 1) := by decide +kernel
theorem dX6_copyFrom_12 : decode cX6_copyFrom 12 = .ok (.getfield 20, 3) := by decide +kernel
theorem dX6_copyFrom_15 : decode cX6_copyFrom 15 = .ok (.aload_n 1, 1) := by decide +kernel
theorem dX6_copyFrom_16 : decode cX6_copyFrom 16 = .ok (.getfield 20, 3) := by decide +kernel
theorem dX6_copyFrom_19 : decode cX6_copyFrom 19 = .ok (.invokevirtual 35, 3) := by decide +kernel
theorem dX6_copyFrom_22 : decode cX6_copyFrom 22 = .ok (.aload_n 0, 1) := by decide +kernel
theorem dX6_copyFrom_23 : decode cX6_copyFrom 23 = .ok (.getfield 23, 3) := by decide +kernel
theorem dX6_copyFrom_26 : decode cX6_copyFrom 26 = .ok (.aload_n 1, 1) := by decide +kernel
theorem dX6_copyFrom_27 : decode cX6_copyFrom 27 = .ok (.getfield 23, 3) := by decide +kernel
theorem dX6_copyFrom_30 : decode cX6_copyFrom 30 = .ok (.invokevirtual 35, 3) := by decide +kernel
theorem dX6_copyFrom_33 : decode cX6_copyFrom 33 = .ok (.aload_n 0, 1) := by decide +kernel
theorem dX6_copyFrom_34 : decode cX6_copyFrom 34 = .ok (.getfield 26, 3) := by decide +kernel
theorem dX6_copyFrom_37 : decode cX6_copyFrom 37 = .ok (.aload_n 1, 1) := by decide +kernel
theorem dX6_copyFrom_38 : decode cX6_copyFrom 38 = .ok (.getfield 26, 3) := by decide +kernel
theorem dX6_copyFrom_41 : decode cX6_copyFrom 41 = .ok (.invokevirtual 35, 3) := by decide +kernel
theorem dX6_copyFrom_44 : decode cX6_copyFrom 44 = .ok (.aload_n 0, 1) := by decide +kernel
theorem dX6_copyFrom_45 : decode cX6_copyFrom 45 = .ok (.getfield 29, 3) := by decide +kernel
theorem dX6_copyFrom_48 : decode cX6_copyFrom 48 = .ok (.aload_n 1, 1) := by decide +kernel
theorem dX6_copyFrom_49 : decode cX6_copyFrom 49 = .ok (.getfield 29, 3) := by decide +kernel
theorem dX6_copyFrom_52 : decode cX6_copyFrom 52 = .ok (.invokevirtual 35, 3) := by decide +kernel
theorem dX6_copyFrom_55 : decode cX6_copyFrom 55 = .ok (.aload_n 0, 1) := by decide +kernel
theorem dX6_copyFrom_56 : decode cX6_copyFrom 56 = .ok (.aload_n 1, 1) := by decide +kernel
theorem dX6_copyFrom_57 : decode cX6_copyFrom 57 = .ok (.getfield 39, 3) := by decide +kernel
theorem dX6_copyFrom_60 : decode cX6_copyFrom 60 = .ok (.putfield 39, 3) := by decide +kernel
theorem dX6_copyFrom_63 : decode cX6_copyFrom 63 = .ok (.aload_n 0, 1) := by decide +kernel
theorem dX6_copyFrom_64 : decode cX6_copyFrom 64 = .ok (.aload_n 1, 1) := by decide +kernel
theorem dX6_copyFrom_65 : decode cX6_copyFrom 65 = .ok (.getfield 43, 3) := by decide +kernel
theorem dX6_copyFrom_68 : decode cX6_copyFrom 68 = .ok (.putfield 43, 3) := by decide +kernel
theorem dX6_copyFrom_71 : decode cX6_copyFrom 71 = .ok (.aload_n 0, 1) := by decide +kernel
theorem dX6_copyFrom_72 : decode cX6_copyFrom 72 = .ok (.aload_n 1, 1) := by decide +kernel
theorem dX6_copyFrom_73 : decode cX6_copyFrom 73 = .ok (.getfield 46, 3) := by decide +kernel
theorem dX6_copyFrom_76 : decode cX6_copyFrom 76 = .ok (.putfield 46, 3) := by decide +kernel
theorem dX6_copyFrom_79 : decode cX6_copyFrom 79 = .ok (.return_, 1) := by decide +kernel
theorem dX6_hasClapped_0 : decode cX6_hasClapped 0 = .ok (.aload_n 0, 1) := by decide +kernel
theorem dX6_hasClapped_1 : decode cX6_hasClapped 1 = .ok (.getfield 46, 3) := by decide +kernel
theorem dX6_hasClapped_4 : decode cX6_hasClapped 4 = .ok (.iload_n 1, 1) := by decide +kernel
theorem dX6_hasClapped_5 : decode cX6_hasClapped 5 = .ok (.ishr, 1) := by decide +kernel
theorem dX6_hasClapped_6 : decode cX6_hasClapped 6 = .ok (.iconst 1, 1) := by decide +kernel
theorem dX6_hasClapped_7 : decode cX6_hasClapped 7 = .ok (.iand, 1) := by decide +kernel
theorem dX6_hasClapped_8 : decode cX6_hasClapped 8 = .ok (.iconst 1, 1) := by decide +kernel
theorem dX6_hasClapped_9 : decode cX6_hasClapped 9 = .ok (.if_icmp .ne 7, 3) := by decide +kernel
theorem dX6_hasClapped_12 : decode cX6_hasClapped 12 = .ok (.iconst 1, 1) := by decide +kernel
theorem dX6_hasClapped_13 : decode cX6_hasClapped 13 = .ok (.goto 4, 3) := by decide +kernel
theorem dX6_hasClapped_16 : decode cX6_hasClapped 16 = .ok (.iconst 0, 1) := by decide +kernel
theorem dX6_hasClapped_17 : decode cX6_hasClapped 17 = .ok (.ireturn, 1) := by decide +kernel
theorem dX6_beginPiece_0 : decode cX6_beginPiece 0 = .ok (.aload_n 0, 1) := by decide +kernel
theorem dX6_beginPiece_1 : decode cX6_beginPiece 1 = .ok (.iconst 0, 1) := by decide +kernel
theorem dX6_beginPiece_2 : decode cX6_beginPiece 2 = .ok (.putfield 46, 3) := by decide +kernel
theorem dX6_beginPiece_5 : decode cX6_beginPiece 5 = .ok (.return_, 1) := by decide +kernel
set_option maxRecDepth 20000 in
theorem ggX6_beginNight_X5_fill : GoodIn wsX6_beginNight wsX5_fill := goodIn_r _ [8, 9, 18] (by decide +kernel) (by decide +kernel)
set_option maxRecDepth 20000 in
theorem gX6_beginNight_X5_fill : GoodIn wsX6_beginNight (wsV RX6 32 RX5 yX5_fill wsX5_fill) := goodIn_app (goodIn_of _ (by decide +kernel)) ggX6_beginNight_X5_fill
theorem dX6_beginNight_0 : decode cX6_beginNight 0 = .ok (.aload_n 0, 1) := by decide +kernel
theorem dX6_beginNight_1 : decode cX6_beginNight 1 = .ok (.iconst 0, 1) := by decide +kernel
theorem dX6_beginNight_2 : decode cX6_beginNight 2 = .ok (.putfield 46, 3) := by decide +kernel
theorem dX6_beginNight_5 : decode cX6_beginNight 5 = .ok (.aload_n 0, 1) := by decide +kernel
theorem dX6_beginNight_6 : decode cX6_beginNight 6 = .ok (.getfield 23, 3) := by decide +kernel
theorem dX6_beginNight_9 : decode cX6_beginNight 9 = .ok (.iconst 0, 1) := by decide +kernel
theorem dX6_beginNight_10 : decode cX6_beginNight 10 = .ok (.invokevirtual 32, 3) := by decide +kernel
theorem dX6_beginNight_13 : decode cX6_beginNight 13 = .ok (.aload_n 0, 1) := by decide +kernel
theorem dX6_beginNight_14 : decode cX6_beginNight 14 = .ok (.iconst 0, 1) := by decide +kernel
theorem dX6_beginNight_15 : decode cX6_beginNight 15 = .ok (.putfield 39, 3) := by decide +kernel
theorem dX6_beginNight_18 : decode cX6_beginNight 18 = .ok (.return_, 1) := by decide +kernel
set_option maxRecDepth 20000 in
theorem ggX6_addClap_X6_hasClapped : GoodIn wsX6_addClap wsX6_hasClapped := goodIn_r _ [11, 5, 26, 27, 28, 29, 30, 31, 32, 33] (by decide +kernel) (by decide +kernel)
set_option maxRecDepth 20000 in
theorem gX6_addClap_X6_hasClapped : GoodIn wsX6_addClap (wsV RX6 49 RX6 yX6_hasClapped wsX6_hasClapped) := goodIn_app (goodIn_of _ (by decide +kernel)) ggX6_addClap_X6_hasClapped
set_option maxRecDepth 20000 in
theorem ggX6_addClap_X5_add : GoodIn wsX6_addClap wsX5_add := goodIn_r _ [16, 17, 34] (by decide +kernel) (by decide +kernel)
set_option maxRecDepth 20000 in
theorem gX6_addClap_X5_add : GoodIn wsX6_addClap (wsV RX6 53 RX5 yX5_add wsX5_add) := goodIn_app (goodIn_of _ (by decide +kernel)) ggX6_addClap_X5_add
set_option maxRecDepth 20000 in
theorem ggX6_addClap_X5_at : GoodIn wsX6_addClap wsX5_at := goodIn_r _ [21, 17, 34] (by decide +kernel) (by decide +kernel)
set_option maxRecDepth 20000 in
theorem gX6_addClap_X5_at : GoodIn wsX6_addClap (wsV RX6 57 RX5 yX5_at wsX5_at) := goodIn_app (goodIn_of _ (by decide +kernel)) ggX6_addClap_X5_at
set_option maxRecDepth 20000 in
theorem ggX6_addClap_X5_store : GoodIn wsX6_addClap wsX5_store := goodIn_r _ [25, 17, 34] (by decide +kernel) (by decide +kernel)
set_option maxRecDepth 20000 in
theorem gX6_addClap_X5_store : GoodIn wsX6_addClap (wsV RX6 61 RX5 yX5_store wsX5_store) := goodIn_app (goodIn_of _ (by decide +kernel)) ggX6_addClap_X5_store
theorem dX6_addClap_0 : decode cX6_addClap 0 = .ok (.iload_n 2, 1) := by decide +kernel
theorem dX6_addClap_1 : decode cX6_addClap 1 = .ok (.ifCond .eq 20, 3) := by decide +kernel
theorem dX6_addClap_4 : decode cX6_addClap 4 = .ok (.aload_n 0, 1) := by decide +kernel
theorem dX6_addClap_5 : decode cX6_addClap 5 = .ok (.iload_n 1, 1) := by decide +kernel
theorem dX6_addClap_6 : decode cX6_addClap 6 = .ok (.invokevirtual 49, 3) := by decide +kernel
theorem dX6_addClap_9 : decode cX6_addClap 9 = .ok (.ifCond .ne 12, 3) := by decide +kernel
theorem dX6_addClap_12 : decode cX6_addClap 12 = .ok (.aload_n 0, 1) := by decide +kernel
theorem dX6_addClap_13 : decode cX6_addClap 13 = .ok (.getfield 20, 3) := by decide +kernel
theorem dX6_addClap_16 : decode cX6_addClap 16 = .ok (.iload_n 1, 1) := by decide +kernel
theorem dX6_addClap_17 : decode cX6_addClap 17 = .ok (.iconst 1, 1) := by decide +kernel
theorem dX6_addClap_18 : decode cX6_addClap 18 = .ok (.invokevirtual 53, 3) := by decide +kernel
theorem dX6_addClap_21 : decode cX6_addClap 21 = .ok (.aload_n 0, 1) := by decide +kernel
theorem dX6_addClap_22 : decode cX6_addClap 22 = .ok (.getfield 23, 3) := by decide +kernel
theorem dX6_addClap_25 : decode cX6_addClap 25 = .ok (.iload_n 1, 1) := by decide +kernel
theorem dX6_addClap_26 : decode cX6_addClap 26 = .ok (.invokevirtual 57, 3) := by decide +kernel
theorem dX6_addClap_29 : decode cX6_addClap 29 = .ok (.ifCond .ne 25, 3) := by decide +kernel
theorem dX6_addClap_32 : decode cX6_addClap 32 = .ok (.aload_n 0, 1) := by decide +kernel
theorem dX6_addClap_33 : decode cX6_addClap 33 = .ok (.getfield 29, 3) := by decide +kernel
theorem dX6_addClap_36 : decode cX6_addClap 36 = .ok (.aload_n 0, 1) := by decide +kernel
theorem dX6_addClap_37 : decode cX6_addClap 37 = .ok (.getfield 39, 3) := by decide +kernel
theorem dX6_addClap_40 : decode cX6_addClap 40 = .ok (.iload_n 1, 1) := by decide +kernel
theorem dX6_addClap_41 : decode cX6_addClap 41 = .ok (.invokevirtual 61, 3) := by decide +kernel
theorem dX6_addClap_44 : decode cX6_addClap 44 = .ok (.aload_n 0, 1) := by decide +kernel
theorem dX6_addClap_45 : decode cX6_addClap 45 = .ok (.dup, 1) := by decide +kernel
theorem dX6_addClap_46 : decode cX6_addClap 46 = .ok (.getfield 39, 3) := by decide +kernel
theorem dX6_addClap_49 : decode cX6_addClap 49 = .ok (.iconst 1, 1) := by decide +kernel
theorem dX6_addClap_50 : decode cX6_addClap 50 = .ok (.iadd, 1) := by decide +kernel
theorem dX6_addClap_51 : decode cX6_addClap 51 = .ok (.putfield 39, 3) := by decide +kernel
theorem dX6_addClap_54 : decode cX6_addClap 54 = .ok (.aload_n 0, 1) := by decide +kernel
theorem dX6_addClap_55 : decode cX6_addClap 55 = .ok (.dup, 1) := by decide +kernel
theorem dX6_addClap_56 : decode cX6_addClap 56 = .ok (.getfield 46, 3) := by decide +kernel
theorem dX6_addClap_59 : decode cX6_addClap 59 = .ok (.iconst 1, 1) := by decide +kernel
theorem dX6_addClap_60 : decode cX6_addClap 60 = .ok (.iload_n 1, 1) := by decide +kernel
theorem dX6_addClap_61 : decode cX6_addClap 61 = .ok (.ishl, 1) := by decide +kernel
theorem dX6_addClap_62 : decode cX6_addClap 62 = .ok (.ior, 1) := by decide +kernel
theorem dX6_addClap_63 : decode cX6_addClap 63 = .ok (.putfield 46, 3) := by decide +kernel
theorem dX6_addClap_66 : decode cX6_addClap 66 = .ok (.aload_n 0, 1) := by decide +kernel
theorem dX6_addClap_67 : decode cX6_addClap 67 = .ok (.getfield 23, 3) := by decide +kernel
theorem dX6_addClap_70 : decode cX6_addClap 70 = .ok (.iload_n 1, 1) := by decide +kernel
theorem dX6_addClap_71 : decode cX6_addClap 71 = .ok (.iconst 1, 1) := by decide +kernel
theorem dX6_addClap_72 : decode cX6_addClap 72 = .ok (.invokevirtual 53, 3) := by decide +kernel
theorem dX6_addClap_75 : decode cX6_addClap 75 = .ok (.aload_n 0, 1) := by decide +kernel
theorem dX6_addClap_76 : decode cX6_addClap 76 = .ok (.getfield 26, 3) := by decide +kernel
theorem dX6_addClap_79 : decode cX6_addClap 79 = .ok (.iload_n 1, 1) := by decide +kernel
theorem dX6_addClap_80 : decode cX6_addClap 80 = .ok (.iconst 1, 1) := by decide +kernel
theorem dX6_addClap_81 : decode cX6_addClap 81 = .ok (.invokevirtual 53, 3) := by decide +kernel
theorem dX6_addClap_84 : decode cX6_addClap 84 = .ok (.return_, 1) := by decide +kernel
set_option maxRecDepth 20000 in
theorem ggX6_suspected_X5_at : GoodIn wsX6_suspected wsX5_at := goodIn_r _ [6, 7, 16] (by decide +kernel) (by decide +kernel)
set_option maxRecDepth 20000 in
theorem gX6_suspected_X5_at : GoodIn wsX6_suspected (wsV RX6 57 RX5 yX5_at wsX5_at) := goodIn_app (goodIn_of _ (by decide +kernel)) ggX6_suspected_X5_at
theorem dX6_suspected_0 : decode cX6_suspected 0 = .ok (.iconst 0, 1) := by decide +kernel
theorem dX6_suspected_1 : decode cX6_suspected 1 = .ok (.istore_n 2, 1) := by decide +kernel
theorem dX6_suspected_2 : decode cX6_suspected 2 = .ok (.iconst 0, 1) := by decide +kernel
theorem dX6_suspected_3 : decode cX6_suspected 3 = .ok (.istore_n 3, 1) := by decide +kernel
theorem dX6_suspected_4 : decode cX6_suspected 4 = .ok (.iload_n 3, 1) := by decide +kernel
theorem dX6_suspected_5 : decode cX6_suspected 5 = .ok (.bipush 30, 2) := by decide +kernel
theorem dX6_suspected_7 : decode cX6_suspected 7 = .ok (.if_icmp .ge 27, 3) := by decide +kernel
theorem dX6_suspected_10 : decode cX6_suspected 10 = .ok (.aload_n 0, 1) := by decide +kernel
theorem dX6_suspected_11 : decode cX6_suspected 11 = .ok (.getfield 20, 3) := by decide +kernel
theorem dX6_suspected_14 : decode cX6_suspected 14 = .ok (.iload_n 3, 1) := by decide +kernel
theorem dX6_suspected_15 : decode cX6_suspected 15 = .ok (.invokevirtual 57, 3) := by decide +kernel
theorem dX6_suspected_18 : decode cX6_suspected 18 = .ok (.iload_n 1, 1) := by decide +kernel
theorem dX6_suspected_19 : decode cX6_suspected 19 = .ok (.if_icmp .lt 9, 3) := by decide +kernel
theorem dX6_suspected_22 : decode cX6_suspected 22 = .ok (.iload_n 2, 1) := by decide +kernel
theorem dX6_suspected_23 : decode cX6_suspected 23 = .ok (.iconst 1, 1) := by decide +kernel
theorem dX6_suspected_24 : decode cX6_suspected 24 = .ok (.iload_n 3, 1) := by decide +kernel
theorem dX6_suspected_25 : decode cX6_suspected 25 = .ok (.ishl, 1) := by decide +kernel
theorem dX6_suspected_26 : decode cX6_suspected 26 = .ok (.ior, 1) := by decide +kernel
theorem dX6_suspected_27 : decode cX6_suspected 27 = .ok (.istore_n 2, 1) := by decide +kernel
theorem dX6_suspected_28 : decode cX6_suspected 28 = .ok (.iinc 3 1, 3) := by decide +kernel
theorem dX6_suspected_31 : decode cX6_suspected 31 = .ok (.goto (-27), 3) := by decide +kernel
theorem dX6_suspected_34 : decode cX6_suspected 34 = .ok (.iload_n 2, 1) := by decide +kernel
theorem dX6_suspected_35 : decode cX6_suspected 35 = .ok (.ireturn, 1) := by decide +kernel
set_option maxRecDepth 20000 in
theorem ggX6_clapperAt_X5_at : GoodIn wsX6_clapperAt wsX5_at := goodIn_r _ [7, 8, 17] (by decide +kernel) (by decide +kernel)
set_option maxRecDepth 20000 in
theorem gX6_clapperAt_X5_at : GoodIn wsX6_clapperAt (wsV RX6 57 RX5 yX5_at wsX5_at) := goodIn_app (goodIn_of _ (by decide +kernel)) ggX6_clapperAt_X5_at
theorem dX6_clapperAt_0 : decode cX6_clapperAt 0 = .ok (.iload_n 1, 1) := by decide +kernel
theorem dX6_clapperAt_1 : decode cX6_clapperAt 1 = .ok (.ifCond .lt 22, 3) := by decide +kernel
theorem dX6_clapperAt_4 : decode cX6_clapperAt 4 = .ok (.iload_n 1, 1) := by decide +kernel
theorem dX6_clapperAt_5 : decode cX6_clapperAt 5 = .ok (.aload_n 0, 1) := by decide +kernel
theorem dX6_clapperAt_6 : decode cX6_clapperAt 6 = .ok (.getfield 39, 3) := by decide +kernel
theorem dX6_clapperAt_9 : decode cX6_clapperAt 9 = .ok (.if_icmp .ge 14, 3) := by decide +kernel
theorem dX6_clapperAt_12 : decode cX6_clapperAt 12 = .ok (.aload_n 0, 1) := by decide +kernel
theorem dX6_clapperAt_13 : decode cX6_clapperAt 13 = .ok (.getfield 29, 3) := by decide +kernel
theorem dX6_clapperAt_16 : decode cX6_clapperAt 16 = .ok (.iload_n 1, 1) := by decide +kernel
theorem dX6_clapperAt_17 : decode cX6_clapperAt 17 = .ok (.invokevirtual 57, 3) := by decide +kernel
theorem dX6_clapperAt_20 : decode cX6_clapperAt 20 = .ok (.goto 4, 3) := by decide +kernel
theorem dX6_clapperAt_23 : decode cX6_clapperAt 23 = .ok (.iconst (-1), 1) := by decide +kernel
theorem dX6_clapperAt_24 : decode cX6_clapperAt 24 = .ok (.ireturn, 1) := by decide +kernel
set_option maxRecDepth 20000 in
theorem ggX7_init_X2_init : GoodIn wsX7_init wsX2_init := goodIn_r _ [23, 24, 2, 3, 25, 26, 27, 28, 29, 30, 31, 32, 33, 34, 35, 36, 37, 38, 39, 40, 41, 42, 43, 44, 45, 46, 47, 48, 49, 50, 51, 52, 53, 54, 55, 56, 57, 58, 59, 60, 61, 62, 63, 64, 65, 66, 67, 68, 69, 70, 71, 72, 73, 74, 75, 76, 77, 78, 121, 95, 96, 97, 98, 99, 100, 101, 102, 103, 104, 105, 122, 123, 124, 125, 126, 127, 128, 129, 130, 131, 132, 133, 134, 135] (by decide +kernel) (by decide +kernel)
set_option maxRecDepth 20000 in
theorem gX7_init_X2_init : GoodIn wsX7_init (wsX2_init) := ggX7_init_X2_init
set_option maxRecDepth 20000 in
theorem ggX7_init_X1_init : GoodIn wsX7_init wsX1_init := goodIn_r _ [81, 82, 2, 3, 83, 84, 5, 6, 85, 22, 23, 24, 25, 26, 27, 28, 29, 30, 31, 32, 33, 34, 35, 36, 37, 38, 39, 40, 41, 42, 43, 44, 45, 46, 47, 48, 49, 50, 51, 52, 53, 54, 55, 56, 57, 58, 59, 60, 61, 62, 63, 64, 65, 66, 67, 68, 69, 70, 71, 72, 73, 74, 75, 76, 77, 78, 111, 112, 113, 95, 96, 97, 98, 99, 100, 101, 102, 103, 104, 105, 121, 122, 123, 124, 125, 126, 127, 128, 129, 130, 131, 132, 133, 134, 135] (by decide +kernel) (by decide +kernel)
set_option maxRecDepth 20000 in
theorem gX7_init_X1_init : GoodIn wsX7_init (wsX1_init) := ggX7_init_X1_init
set_option maxRecDepth 20000 in
theorem ggX7_init_X4_init : GoodIn wsX7_init wsX4_init := goodIn_r _ [87, 88, 2, 3, 48, 89, 114, 115] (by decide +kernel) (by decide +kernel)
set_option maxRecDepth 20000 in
theorem gX7_init_X4_init_n29 : GoodIn wsX7_init (wsX4_init) := ggX7_init_X4_init
set_option maxRecDepth 20000 in
theorem ggX7_init_X3_init : GoodIn wsX7_init wsX3_init := goodIn_r _ [92, 93, 2, 3, 94, 116, 117, 118, 119, 120] (by decide +kernel) (by decide +kernel)
set_option maxRecDepth 20000 in
theorem gX7_init_X3_init : GoodIn wsX7_init (wsX3_init) := ggX7_init_X3_init
theorem dX7_init_0 : decode cX7_init 0 = .ok (.aload_n 0, 1) := by decide +kernel
theorem dX7_init_1 : decode cX7_init 1 = .ok (.invokespecial 1, 3) := by decide +kernel
theorem dX7_init_4 : decode cX7_init 4 = .ok (.aload_n 0, 1) := by decide +kernel
theorem dX7_init_5 : decode cX7_init 5 = .ok (.new 7, 3) := by decide +kernel
theorem dX7_init_8 : decode cX7_init 8 = .ok (.dup, 1) := by decide +kernel
theorem dX7_init_9 : decode cX7_init 9 = .ok (.invokespecial 9, 3) := by decide +kernel
theorem dX7_init_12 : decode cX7_init 12 = .ok (.putfield 10, 3) := by decide +kernel
theorem dX7_init_15 : decode cX7_init 15 = .ok (.aload_n 0, 1) := by decide +kernel
theorem dX7_init_16 : decode cX7_init 16 = .ok (.new 16, 3) := by decide +kernel
theorem dX7_init_19 : decode cX7_init 19 = .ok (.dup, 1) := by decide +kernel
theorem dX7_init_20 : decode cX7_init 20 = .ok (.invokespecial 18, 3) := by decide +kernel
theorem dX7_init_23 : decode cX7_init 23 = .ok (.putfield 19, 3) := by decide +kernel
theorem dX7_init_26 : decode cX7_init 26 = .ok (.aload_n 0, 1) := by decide +kernel
theorem dX7_init_27 : decode cX7_init 27 = .ok (.iconst 2, 1) := by decide +kernel
theorem dX7_init_28 : decode cX7_init 28 = .ok (.anewarray 7, 3) := by decide +kernel
theorem dX7_init_31 : decode cX7_init 31 = .ok (.putfield 23, 3) := by decide +kernel
theorem dX7_init_34 : decode cX7_init 34 = .ok (.aload_n 0, 1) := by decide +kernel
theorem dX7_init_35 : decode cX7_init 35 = .ok (.new 27, 3) := by decide +kernel
theorem dX7_init_38 : decode cX7_init 38 = .ok (.dup, 1) := by decide +kernel
theorem dX7_init_39 : decode cX7_init 39 = .ok (.invokespecial 29, 3) := by decide +kernel
theorem dX7_init_42 : decode cX7_init 42 = .ok (.putfield 30, 3) := by decide +kernel
theorem dX7_init_45 : decode cX7_init 45 = .ok (.aload_n 0, 1) := by decide +kernel
theorem dX7_init_46 : decode cX7_init 46 = .ok (.new 34, 3) := by decide +kernel
theorem dX7_init_49 : decode cX7_init 49 = .ok (.dup, 1) := by decide +kernel
theorem dX7_init_50 : decode cX7_init 50 = .ok (.aload_n 0, 1) := by decide +kernel
theorem dX7_init_51 : decode cX7_init 51 = .ok (.getfield 30, 3) := by decide +kernel
theorem dX7_init_54 : decode cX7_init 54 = .ok (.invokespecial 36, 3) := by decide +kernel
theorem dX7_init_57 : decode cX7_init 57 = .ok (.putfield 39, 3) := by decide +kernel
theorem dX7_init_60 : decode cX7_init 60 = .ok (.return_, 1) := by decide +kernel
set_option maxRecDepth 20000 in
theorem ggX7_set_X1_setAside : GoodIn wsX7_set wsX1_setAside := goodIn_r _ [7, 8, 9, 10, 11, 6, 12, 13, 14, 15, 16, 17, 18, 19, 20, 21, 22, 23, 24, 25, 26, 27, 28, 29, 30, 31, 32, 33, 34, 35, 36, 37, 38, 39, 40, 41, 42, 43, 44, 45, 46, 47, 48, 49, 50, 51, 52, 53, 54, 55, 56, 57, 58, 59, 60, 61, 62, 63, 64, 65, 66, 67, 68, 69, 93, 94, 95, 96, 97, 98, 99, 100, 101, 102, 103, 104, 105, 106, 107, 108, 109, 110, 111, 112, 113, 114, 115, 116, 117, 118, 119, 120, 121] (by decide +kernel) (by decide +kernel)
set_option maxRecDepth 20000 in
theorem gX7_set_X1_setAside : GoodIn wsX7_set (wsV RX7 43 RX1 yX1_setAside wsX1_setAside) := goodIn_app (goodIn_of _ (by decide +kernel)) ggX7_set_X1_setAside
set_option maxRecDepth 20000 in
theorem ggX7_set_X2_changeSetting : GoodIn wsX7_set wsX2_changeSetting := goodIn_r _ [73, 19, 74, 75, 76, 33, 77, 35, 78, 79, 80, 81, 96, 97, 98, 99, 100, 101, 102, 103, 104, 105, 106, 107] (by decide +kernel) (by decide +kernel)
set_option maxRecDepth 20000 in
theorem gX7_set_X2_changeSetting : GoodIn wsX7_set (wsV RX7 47 RX2 yX2_changeSetting wsX2_changeSetting) := goodIn_app (goodIn_of _ (by decide +kernel)) ggX7_set_X2_changeSetting
set_option maxRecDepth 20000 in
theorem ggX7_set_X1_keepUnlessError : GoodIn wsX7_set wsX1_keepUnlessError := goodIn_r _ [85, 8, 86, 87, 37, 38, 39, 93, 94, 95] (by decide +kernel) (by decide +kernel)
set_option maxRecDepth 20000 in
theorem gX7_set_X1_keepUnlessError : GoodIn wsX7_set (wsV RX7 51 RX1 yX1_keepUnlessError wsX1_keepUnlessError) := goodIn_app (goodIn_of _ (by decide +kernel)) ggX7_set_X1_keepUnlessError
theorem dX7_set_0 : decode cX7_set 0 = .ok (.aload_n 0, 1) := by decide +kernel
theorem dX7_set_1 : decode cX7_set 1 = .ok (.getfield 19, 3) := by decide +kernel
theorem dX7_set_4 : decode cX7_set 4 = .ok (.aload_n 0, 1) := by decide +kernel
theorem dX7_set_5 : decode cX7_set 5 = .ok (.getfield 10, 3) := by decide +kernel
theorem dX7_set_8 : decode cX7_set 8 = .ok (.invokevirtual 43, 3) := by decide +kernel
theorem dX7_set_11 : decode cX7_set 11 = .ok (.aload_n 0, 1) := by decide +kernel
theorem dX7_set_12 : decode cX7_set 12 = .ok (.getfield 19, 3) := by decide +kernel
theorem dX7_set_15 : decode cX7_set 15 = .ok (.aload_n 0, 1) := by decide +kernel
theorem dX7_set_16 : decode cX7_set 16 = .ok (.getfield 10, 3) := by decide +kernel
theorem dX7_set_19 : decode cX7_set 19 = .ok (.iload_n 1, 1) := by decide +kernel
theorem dX7_set_20 : decode cX7_set 20 = .ok (.iload_n 2, 1) := by decide +kernel
theorem dX7_set_21 : decode cX7_set 21 = .ok (.invokevirtual 47, 3) := by decide +kernel
theorem dX7_set_24 : decode cX7_set 24 = .ok (.invokevirtual 51, 3) := by decide +kernel
theorem dX7_set_27 : decode cX7_set 27 = .ok (.ireturn, 1) := by decide +kernel
set_option maxRecDepth 20000 in
theorem ggX7_loud_X1_setAside : GoodIn wsX7_loud wsX1_setAside := goodIn_r _ [7, 8, 9, 10, 11, 6, 12, 13, 14, 15, 16, 17, 18, 19, 20, 21, 22, 23, 24, 25, 26, 27, 28, 29, 30, 31, 32, 33, 34, 35, 36, 37, 38, 39, 40, 41, 42, 43, 44, 45, 46, 47, 48, 49, 50, 51, 52, 53, 54, 55, 56, 57, 58, 59, 60, 61, 62, 63, 64, 65, 66, 67, 68, 69, 96, 97, 98, 99, 100, 101, 102, 103, 104, 105, 106, 107, 108, 109, 110, 111, 112, 113, 114, 115, 116, 117, 118, 119, 120, 121, 122, 123, 124] (by decide +kernel) (by decide +kernel)
set_option maxRecDepth 20000 in
theorem gX7_loud_X1_setAside : GoodIn wsX7_loud (wsV RX7 43 RX1 yX1_setAside wsX1_setAside) := goodIn_app (goodIn_of _ (by decide +kernel)) ggX7_loud_X1_setAside
set_option maxRecDepth 20000 in
theorem ggX7_loud_X2_changeLoudness : GoodIn wsX7_loud wsX2_changeLoudness := goodIn_r _ [73, 20, 74, 75, 76, 77, 78, 79, 33, 80, 35, 81, 82, 83, 84, 99, 100, 101, 102, 103, 104, 105, 106, 107, 108, 109, 111, 112, 113, 114, 115, 116, 117, 118, 110] (by decide +kernel) (by decide +kernel)
set_option maxRecDepth 20000 in
theorem gX7_loud_X2_changeLoudness : GoodIn wsX7_loud (wsV RX7 55 RX2 yX2_changeLoudness wsX2_changeLoudness) := goodIn_app (goodIn_of _ (by decide +kernel)) ggX7_loud_X2_changeLoudness
set_option maxRecDepth 20000 in
theorem ggX7_loud_X1_keepUnlessError : GoodIn wsX7_loud wsX1_keepUnlessError := goodIn_r _ [88, 8, 89, 90, 37, 38, 39, 96, 97, 98] (by decide +kernel) (by decide +kernel)
set_option maxRecDepth 20000 in
theorem gX7_loud_X1_keepUnlessError : GoodIn wsX7_loud (wsV RX7 51 RX1 yX1_keepUnlessError wsX1_keepUnlessError) := goodIn_app (goodIn_of _ (by decide +kernel)) ggX7_loud_X1_keepUnlessError
theorem dX7_loud_0 : decode cX7_loud 0 = .ok (.aload_n 0, 1) := by decide +kernel
theorem dX7_loud_1 : decode cX7_loud 1 = .ok (.getfield 19, 3) := by decide +kernel
theorem dX7_loud_4 : decode cX7_loud 4 = .ok (.aload_n 0, 1) := by decide +kernel
theorem dX7_loud_5 : decode cX7_loud 5 = .ok (.getfield 10, 3) := by decide +kernel
theorem dX7_loud_8 : decode cX7_loud 8 = .ok (.invokevirtual 43, 3) := by decide +kernel
theorem dX7_loud_11 : decode cX7_loud 11 = .ok (.aload_n 0, 1) := by decide +kernel
theorem dX7_loud_12 : decode cX7_loud 12 = .ok (.getfield 19, 3) := by decide +kernel
theorem dX7_loud_15 : decode cX7_loud 15 = .ok (.aload_n 0, 1) := by decide +kernel
theorem dX7_loud_16 : decode cX7_loud 16 = .ok (.getfield 10, 3) := by decide +kernel
theorem dX7_loud_19 : decode cX7_loud 19 = .ok (.iload_n 1, 1) := by decide +kernel
theorem dX7_loud_20 : decode cX7_loud 20 = .ok (.iload_n 2, 1) := by decide +kernel
theorem dX7_loud_21 : decode cX7_loud 21 = .ok (.invokevirtual 55, 3) := by decide +kernel
theorem dX7_loud_24 : decode cX7_loud 24 = .ok (.invokevirtual 51, 3) := by decide +kernel
theorem dX7_loud_27 : decode cX7_loud 27 = .ok (.ireturn, 1) := by decide +kernel
set_option maxRecDepth 20000 in
theorem ggX7_pay_X1_setAside : GoodIn wsX7_pay wsX1_setAside := goodIn_r _ [7, 8, 9, 10, 11, 6, 12, 13, 14, 15, 16, 17, 18, 19, 20, 21, 22, 23, 24, 25, 26, 27, 28, 29, 30, 31, 32, 33, 34, 35, 36, 37, 38, 39, 40, 41, 42, 43, 44, 45, 46, 47, 48, 49, 50, 51, 52, 53, 54, 55, 56, 57, 58, 59, 60, 61, 62, 63, 64, 65, 66, 67, 68, 69, 88, 89, 90, 91, 92, 93, 94, 95, 96, 97, 98, 99, 100, 101, 102, 103, 104, 105, 106, 107, 108, 109, 110, 111, 112, 113, 114, 115, 116] (by decide +kernel) (by decide +kernel)
set_option maxRecDepth 20000 in
theorem gX7_pay_X1_setAside : GoodIn wsX7_pay (wsV RX7 43 RX1 yX1_setAside wsX1_setAside) := goodIn_app (goodIn_of _ (by decide +kernel)) ggX7_pay_X1_setAside
set_option maxRecDepth 20000 in
theorem ggX7_pay_X2_switchPay : GoodIn wsX7_pay wsX2_switchPay := goodIn_r _ [73, 20, 74, 75, 76, 91, 92, 93, 94, 95, 96, 97, 98, 99, 100, 101, 103, 104, 105, 106, 107, 108, 109, 110] (by decide +kernel) (by decide +kernel)
set_option maxRecDepth 20000 in
theorem gX7_pay_X2_switchPay : GoodIn wsX7_pay (wsV RX7 58 RX2 yX2_switchPay wsX2_switchPay) := goodIn_app (goodIn_of _ (by decide +kernel)) ggX7_pay_X2_switchPay
set_option maxRecDepth 20000 in
theorem ggX7_pay_X1_keepUnlessError : GoodIn wsX7_pay wsX1_keepUnlessError := goodIn_r _ [80, 8, 81, 82, 37, 38, 39, 88, 89, 90] (by decide +kernel) (by decide +kernel)
set_option maxRecDepth 20000 in
theorem gX7_pay_X1_keepUnlessError : GoodIn wsX7_pay (wsV RX7 51 RX1 yX1_keepUnlessError wsX1_keepUnlessError) := goodIn_app (goodIn_of _ (by decide +kernel)) ggX7_pay_X1_keepUnlessError
theorem dX7_pay_0 : decode cX7_pay 0 = .ok (.aload_n 0, 1) := by decide +kernel
theorem dX7_pay_1 : decode cX7_pay 1 = .ok (.getfield 19, 3) := by decide +kernel
theorem dX7_pay_4 : decode cX7_pay 4 = .ok (.aload_n 0, 1) := by decide +kernel
theorem dX7_pay_5 : decode cX7_pay 5 = .ok (.getfield 10, 3) := by decide +kernel
theorem dX7_pay_8 : decode cX7_pay 8 = .ok (.invokevirtual 43, 3) := by decide +kernel
theorem dX7_pay_11 : decode cX7_pay 11 = .ok (.aload_n 0, 1) := by decide +kernel
theorem dX7_pay_12 : decode cX7_pay 12 = .ok (.getfield 19, 3) := by decide +kernel
theorem dX7_pay_15 : decode cX7_pay 15 = .ok (.aload_n 0, 1) := by decide +kernel
theorem dX7_pay_16 : decode cX7_pay 16 = .ok (.getfield 10, 3) := by decide +kernel
theorem dX7_pay_19 : decode cX7_pay 19 = .ok (.iload_n 1, 1) := by decide +kernel
theorem dX7_pay_20 : decode cX7_pay 20 = .ok (.invokevirtual 58, 3) := by decide +kernel
theorem dX7_pay_23 : decode cX7_pay 23 = .ok (.invokevirtual 51, 3) := by decide +kernel
theorem dX7_pay_26 : decode cX7_pay 26 = .ok (.ireturn, 1) := by decide +kernel
set_option maxRecDepth 20000 in
theorem ggX7_ends_X1_setAside : GoodIn wsX7_ends wsX1_setAside := goodIn_r _ [7, 8, 9, 10, 11, 6, 12, 13, 14, 15, 16, 17, 18, 19, 20, 21, 22, 23, 24, 25, 26, 27, 28, 29, 30, 31, 32, 33, 34, 35, 36, 37, 38, 39, 40, 41, 42, 43, 44, 45, 46, 47, 48, 49, 50, 51, 52, 53, 54, 55, 56, 57, 58, 59, 60, 61, 62, 63, 64, 65, 66, 67, 68, 69, 100, 101, 102, 103, 104, 105, 106, 107, 108, 109, 110, 111, 112, 113, 114, 115, 116, 117, 118, 119, 120, 121, 122, 123, 124, 125, 126, 127, 128] (by decide +kernel) (by decide +kernel)
set_option maxRecDepth 20000 in
theorem gX7_ends_X1_setAside : GoodIn wsX7_ends (wsV RX7 43 RX1 yX1_setAside wsX1_setAside) := goodIn_app (goodIn_of _ (by decide +kernel)) ggX7_ends_X1_setAside
set_option maxRecDepth 20000 in
theorem ggX7_ends_X2_endPiece : GoodIn wsX7_ends wsX2_endPiece := goodIn_r _ [73, 24, 74, 75, 76, 77, 78, 79, 17, 80, 21, 20, 27, 25, 28, 29, 81, 82, 83, 33, 84, 35, 85, 86, 87, 47, 88, 56, 103, 104, 105, 106, 107, 108, 109, 110, 111, 112, 113, 123, 124, 125, 126, 127, 128, 114, 115, 116, 117, 118, 119, 120, 121, 122] (by decide +kernel) (by decide +kernel)
set_option maxRecDepth 20000 in
theorem gX7_ends_X2_endPiece : GoodIn wsX7_ends (wsV RX7 61 RX2 yX2_endPiece wsX2_endPiece) := goodIn_app (goodIn_of _ (by decide +kernel)) ggX7_ends_X2_endPiece
set_option maxRecDepth 20000 in
theorem ggX7_ends_X1_keepUnlessError : GoodIn wsX7_ends wsX1_keepUnlessError := goodIn_r _ [92, 8, 93, 94, 37, 38, 39, 100, 101, 102] (by decide +kernel) (by decide +kernel)
set_option maxRecDepth 20000 in
theorem gX7_ends_X1_keepUnlessError : GoodIn wsX7_ends (wsV RX7 51 RX1 yX1_keepUnlessError wsX1_keepUnlessError) := goodIn_app (goodIn_of _ (by decide +kernel)) ggX7_ends_X1_keepUnlessError
theorem dX7_ends_0 : decode cX7_ends 0 = .ok (.aload_n 0, 1) := by decide +kernel
theorem dX7_ends_1 : decode cX7_ends 1 = .ok (.getfield 19, 3) := by decide +kernel
theorem dX7_ends_4 : decode cX7_ends 4 = .ok (.aload_n 0, 1) := by decide +kernel
theorem dX7_ends_5 : decode cX7_ends 5 = .ok (.getfield 10, 3) := by decide +kernel
theorem dX7_ends_8 : decode cX7_ends 8 = .ok (.invokevirtual 43, 3) := by decide +kernel
theorem dX7_ends_11 : decode cX7_ends 11 = .ok (.aload_n 0, 1) := by decide +kernel
theorem dX7_ends_12 : decode cX7_ends 12 = .ok (.getfield 19, 3) := by decide +kernel
theorem dX7_ends_15 : decode cX7_ends 15 = .ok (.aload_n 0, 1) := by decide +kernel
theorem dX7_ends_16 : decode cX7_ends 16 = .ok (.getfield 10, 3) := by decide +kernel
theorem dX7_ends_19 : decode cX7_ends 19 = .ok (.iload_n 1, 1) := by decide +kernel
theorem dX7_ends_20 : decode cX7_ends 20 = .ok (.invokevirtual 61, 3) := by decide +kernel
theorem dX7_ends_23 : decode cX7_ends 23 = .ok (.invokevirtual 51, 3) := by decide +kernel
theorem dX7_ends_26 : decode cX7_ends 26 = .ok (.ireturn, 1) := by decide +kernel
set_option maxRecDepth 20000 in
theorem ggX7_clap_X1_setAside : GoodIn wsX7_clap wsX1_setAside := goodIn_r _ [7, 8, 9, 10, 11, 6, 12, 13, 14, 15, 16, 17, 18, 19, 20, 21, 22, 23, 24, 25, 26, 27, 28, 29, 30, 31, 32, 33, 34, 35, 36, 37, 38, 39, 40, 41, 42, 43, 44, 45, 46, 47, 48, 49, 50, 51, 52, 53, 54, 55, 56, 57, 58, 59, 60, 61, 62, 63, 64, 65, 66, 67, 68, 69, 121, 122, 123, 124, 125, 126, 127, 128, 129, 130, 131, 132, 133, 134, 135, 136, 137, 138, 139, 140, 141, 142, 143, 144, 145, 146, 147, 148, 149] (by decide +kernel) (by decide +kernel)
set_option maxRecDepth 20000 in
theorem gX7_clap_X1_setAside : GoodIn wsX7_clap (wsV RX7 43 RX1 yX1_setAside wsX1_setAside) := goodIn_app (goodIn_of _ (by decide +kernel)) ggX7_clap_X1_setAside
set_option maxRecDepth 20000 in
theorem ggX7_clap_X2_takeClap : GoodIn wsX7_clap wsX2_takeClap := goodIn_r _ [73, 27, 20, 25, 28, 19, 22, 24, 74, 37, 38, 39, 29, 75, 76, 77, 78, 79, 80, 33, 81, 35, 82, 83, 84, 47, 85, 50, 51, 53, 54, 56, 52, 86, 87, 88, 89, 90, 91, 92, 93, 94, 95, 96, 97, 98, 99, 100, 101, 102, 17, 103, 21, 104, 105, 106, 61, 107, 68, 66, 63, 64, 108, 109, 124, 125, 126, 127, 128, 129, 130, 131, 132, 133, 134, 136, 137, 138, 139, 140, 141, 142, 143, 135, 144, 145, 146, 147, 148, 149] (by decide +kernel) (by decide +kernel)
set_option maxRecDepth 20000 in
theorem gX7_clap_X2_takeClap : GoodIn wsX7_clap (wsV RX7 64 RX2 yX2_takeClap wsX2_takeClap) := goodIn_app (goodIn_of _ (by decide +kernel)) ggX7_clap_X2_takeClap
set_option maxRecDepth 20000 in
theorem ggX7_clap_X1_keepUnlessError : GoodIn wsX7_clap wsX1_keepUnlessError := goodIn_r _ [113, 8, 114, 115, 37, 38, 39, 121, 122, 123] (by decide +kernel) (by decide +kernel)
set_option maxRecDepth 20000 in
theorem gX7_clap_X1_keepUnlessError : GoodIn wsX7_clap (wsV RX7 51 RX1 yX1_keepUnlessError wsX1_keepUnlessError) := goodIn_app (goodIn_of _ (by decide +kernel)) ggX7_clap_X1_keepUnlessError
theorem dX7_clap_0 : decode cX7_clap 0 = .ok (.aload_n 0, 1) := by decide +kernel
theorem dX7_clap_1 : decode cX7_clap 1 = .ok (.getfield 19, 3) := by decide +kernel
theorem dX7_clap_4 : decode cX7_clap 4 = .ok (.aload_n 0, 1) := by decide +kernel
theorem dX7_clap_5 : decode cX7_clap 5 = .ok (.getfield 10, 3) := by decide +kernel
theorem dX7_clap_8 : decode cX7_clap 8 = .ok (.invokevirtual 43, 3) := by decide +kernel
theorem dX7_clap_11 : decode cX7_clap 11 = .ok (.aload_n 0, 1) := by decide +kernel
theorem dX7_clap_12 : decode cX7_clap 12 = .ok (.getfield 19, 3) := by decide +kernel
theorem dX7_clap_15 : decode cX7_clap 15 = .ok (.aload_n 0, 1) := by decide +kernel
theorem dX7_clap_16 : decode cX7_clap 16 = .ok (.getfield 10, 3) := by decide +kernel
theorem dX7_clap_19 : decode cX7_clap 19 = .ok (.iload_n 1, 1) := by decide +kernel
theorem dX7_clap_20 : decode cX7_clap 20 = .ok (.invokevirtual 64, 3) := by decide +kernel
theorem dX7_clap_23 : decode cX7_clap 23 = .ok (.invokevirtual 51, 3) := by decide +kernel
theorem dX7_clap_26 : decode cX7_clap 26 = .ok (.ireturn, 1) := by decide +kernel
set_option maxRecDepth 20000 in
theorem ggX7_pass_X1_setAside : GoodIn wsX7_pass wsX1_setAside := goodIn_r _ [7, 8, 9, 10, 11, 6, 12, 13, 14, 15, 16, 17, 18, 19, 20, 21, 22, 23, 24, 25, 26, 27, 28, 29, 30, 31, 32, 33, 34, 35, 36, 37, 38, 39, 40, 41, 42, 43, 44, 45, 46, 47, 48, 49, 50, 51, 52, 53, 54, 55, 56, 57, 58, 59, 60, 61, 62, 63, 64, 65, 66, 67, 68, 69, 110, 111, 112, 113, 114, 115, 116, 117, 118, 119, 120, 121, 122, 123, 124, 125, 126, 127, 128, 129, 130, 131, 132, 133, 134, 135, 136, 137, 138] (by decide +kernel) (by decide +kernel)
set_option maxRecDepth 20000 in
theorem gX7_pass_X1_setAside : GoodIn wsX7_pass (wsV RX7 43 RX1 yX1_setAside wsX1_setAside) := goodIn_app (goodIn_of _ (by decide +kernel)) ggX7_pass_X1_setAside
set_option maxRecDepth 20000 in
theorem ggX7_pass_X2_letPass : GoodIn wsX7_pass wsX2_letPass := goodIn_r _ [73, 25, 74, 24, 19, 22, 21, 75, 76, 77, 33, 78, 35, 79, 80, 81, 82, 83, 38, 84, 85, 86, 87, 61, 88, 68, 64, 66, 63, 89, 90, 91, 92, 93, 94, 95, 96, 97, 98, 113, 114, 115, 116, 117, 118, 119, 120, 121, 122, 123, 124, 133, 134, 135, 136, 137, 138] (by decide +kernel) (by decide +kernel)
set_option maxRecDepth 20000 in
theorem gX7_pass_X2_letPass : GoodIn wsX7_pass (wsV RX7 67 RX2 yX2_letPass wsX2_letPass) := goodIn_app (goodIn_of _ (by decide +kernel)) ggX7_pass_X2_letPass
set_option maxRecDepth 20000 in
theorem ggX7_pass_X1_keepUnlessError : GoodIn wsX7_pass wsX1_keepUnlessError := goodIn_r _ [102, 8, 103, 104, 37, 38, 39, 110, 111, 112] (by decide +kernel) (by decide +kernel)
set_option maxRecDepth 20000 in
theorem gX7_pass_X1_keepUnlessError : GoodIn wsX7_pass (wsV RX7 51 RX1 yX1_keepUnlessError wsX1_keepUnlessError) := goodIn_app (goodIn_of _ (by decide +kernel)) ggX7_pass_X1_keepUnlessError
theorem dX7_pass_0 : decode cX7_pass 0 = .ok (.aload_n 0, 1) := by decide +kernel
theorem dX7_pass_1 : decode cX7_pass 1 = .ok (.getfield 19, 3) := by decide +kernel
theorem dX7_pass_4 : decode cX7_pass 4 = .ok (.aload_n 0, 1) := by decide +kernel
theorem dX7_pass_5 : decode cX7_pass 5 = .ok (.getfield 10, 3) := by decide +kernel
theorem dX7_pass_8 : decode cX7_pass 8 = .ok (.invokevirtual 43, 3) := by decide +kernel
theorem dX7_pass_11 : decode cX7_pass 11 = .ok (.aload_n 0, 1) := by decide +kernel
theorem dX7_pass_12 : decode cX7_pass 12 = .ok (.getfield 19, 3) := by decide +kernel
theorem dX7_pass_15 : decode cX7_pass 15 = .ok (.aload_n 0, 1) := by decide +kernel
theorem dX7_pass_16 : decode cX7_pass 16 = .ok (.getfield 10, 3) := by decide +kernel
theorem dX7_pass_19 : decode cX7_pass 19 = .ok (.iload_n 1, 1) := by decide +kernel
theorem dX7_pass_20 : decode cX7_pass 20 = .ok (.invokevirtual 67, 3) := by decide +kernel
theorem dX7_pass_23 : decode cX7_pass 23 = .ok (.invokevirtual 51, 3) := by decide +kernel
theorem dX7_pass_26 : decode cX7_pass 26 = .ok (.ireturn, 1) := by decide +kernel
set_option maxRecDepth 20000 in
theorem ggX7_play_X1_setAside : GoodIn wsX7_play wsX1_setAside := goodIn_r _ [7, 8, 9, 10, 11, 6, 12, 13, 14, 15, 16, 17, 18, 19, 20, 21, 22, 23, 24, 25, 26, 27, 28, 29, 30, 31, 32, 33, 34, 35, 36, 37, 38, 39, 40, 41, 42, 43, 44, 45, 46, 47, 48, 49, 50, 51, 52, 53, 54, 55, 56, 57, 58, 59, 60, 61, 62, 63, 64, 65, 66, 67, 68, 69, 121, 122, 123, 124, 125, 126, 127, 128, 129, 130, 131, 132, 133, 134, 135, 136, 137, 138, 139, 140, 141, 142, 143, 144, 145, 146, 147, 148, 149] (by decide +kernel) (by decide +kernel)
set_option maxRecDepth 20000 in
theorem gX7_play_X1_setAside : GoodIn wsX7_play (wsV RX7 43 RX1 yX1_setAside wsX1_setAside) := goodIn_app (goodIn_of _ (by decide +kernel)) ggX7_play_X1_setAside
set_option maxRecDepth 20000 in
theorem ggX7_play_X2_playEncore : GoodIn wsX7_play wsX2_playEncore := goodIn_r _ [73, 21, 22, 74, 75, 76, 77, 78, 79, 61, 80, 68, 63, 64, 65, 81, 82, 83, 84, 85, 86, 87, 33, 88, 35, 89, 90, 91, 92, 93, 94, 95, 96, 97, 98, 99, 100, 17, 101, 20, 24, 27, 25, 28, 29, 102, 103, 104, 47, 105, 56, 106, 107, 108, 109, 124, 125, 126, 127, 128, 129, 130, 131, 132, 133, 134, 144, 145, 146, 147, 148, 149, 135, 136, 137, 138, 139, 140, 141, 142, 143] (by decide +kernel) (by decide +kernel)
set_option maxRecDepth 20000 in
theorem gX7_play_X2_playEncore : GoodIn wsX7_play (wsV RX7 70 RX2 yX2_playEncore wsX2_playEncore) := goodIn_app (goodIn_of _ (by decide +kernel)) ggX7_play_X2_playEncore
set_option maxRecDepth 20000 in
theorem ggX7_play_X1_keepUnlessError : GoodIn wsX7_play wsX1_keepUnlessError := goodIn_r _ [113, 8, 114, 115, 37, 38, 39, 121, 122, 123] (by decide +kernel) (by decide +kernel)
set_option maxRecDepth 20000 in
theorem gX7_play_X1_keepUnlessError : GoodIn wsX7_play (wsV RX7 51 RX1 yX1_keepUnlessError wsX1_keepUnlessError) := goodIn_app (goodIn_of _ (by decide +kernel)) ggX7_play_X1_keepUnlessError
theorem dX7_play_0 : decode cX7_play 0 = .ok (.aload_n 0, 1) := by decide +kernel
theorem dX7_play_1 : decode cX7_play 1 = .ok (.getfield 19, 3) := by decide +kernel
theorem dX7_play_4 : decode cX7_play 4 = .ok (.aload_n 0, 1) := by decide +kernel
theorem dX7_play_5 : decode cX7_play 5 = .ok (.getfield 10, 3) := by decide +kernel
theorem dX7_play_8 : decode cX7_play 8 = .ok (.invokevirtual 43, 3) := by decide +kernel
theorem dX7_play_11 : decode cX7_play 11 = .ok (.aload_n 0, 1) := by decide +kernel
theorem dX7_play_12 : decode cX7_play 12 = .ok (.getfield 19, 3) := by decide +kernel
theorem dX7_play_15 : decode cX7_play 15 = .ok (.aload_n 0, 1) := by decide +kernel
theorem dX7_play_16 : decode cX7_play 16 = .ok (.getfield 10, 3) := by decide +kernel
theorem dX7_play_19 : decode cX7_play 19 = .ok (.iload_n 1, 1) := by decide +kernel
theorem dX7_play_20 : decode cX7_play 20 = .ok (.invokevirtual 70, 3) := by decide +kernel
theorem dX7_play_23 : decode cX7_play 23 = .ok (.invokevirtual 51, 3) := by decide +kernel
theorem dX7_play_26 : decode cX7_play 26 = .ok (.ireturn, 1) := by decide +kernel
set_option maxRecDepth 20000 in
theorem ggX7_call_X1_setAside : GoodIn wsX7_call wsX1_setAside := goodIn_r _ [7, 8, 9, 10, 11, 6, 12, 13, 14, 15, 16, 17, 18, 19, 20, 21, 22, 23, 24, 25, 26, 27, 28, 29, 30, 31, 32, 33, 34, 35, 36, 37, 38, 39, 40, 41, 42, 43, 44, 45, 46, 47, 48, 49, 50, 51, 52, 53, 54, 55, 56, 57, 58, 59, 60, 61, 62, 63, 64, 65, 66, 67, 68, 69, 93, 94, 95, 96, 97, 98, 99, 100, 101, 102, 103, 104, 105, 106, 107, 108, 109, 110, 111, 112, 113, 114, 115, 116, 117, 118, 119, 120, 121] (by decide +kernel) (by decide +kernel)
set_option maxRecDepth 20000 in
theorem gX7_call_X1_setAside : GoodIn wsX7_call (wsV RX7 43 RX1 yX1_setAside wsX1_setAside) := goodIn_app (goodIn_of _ (by decide +kernel)) ggX7_call_X1_setAside
set_option maxRecDepth 20000 in
theorem ggX7_call_X2_takeCurtain : GoodIn wsX7_call wsX2_takeCurtain := goodIn_r _ [73, 24, 19, 22, 74, 75, 76, 33, 77, 35, 78, 79, 80, 81, 96, 97, 98, 99, 100, 101, 102, 103, 104, 105, 106, 107] (by decide +kernel) (by decide +kernel)
set_option maxRecDepth 20000 in
theorem gX7_call_X2_takeCurtain : GoodIn wsX7_call (wsV RX7 73 RX2 yX2_takeCurtain wsX2_takeCurtain) := goodIn_app (goodIn_of _ (by decide +kernel)) ggX7_call_X2_takeCurtain
set_option maxRecDepth 20000 in
theorem ggX7_call_X1_keepUnlessError : GoodIn wsX7_call wsX1_keepUnlessError := goodIn_r _ [85, 8, 86, 87, 37, 38, 39, 93, 94, 95] (by decide +kernel) (by decide +kernel)
set_option maxRecDepth 20000 in
theorem gX7_call_X1_keepUnlessError : GoodIn wsX7_call (wsV RX7 51 RX1 yX1_keepUnlessError wsX1_keepUnlessError) := goodIn_app (goodIn_of _ (by decide +kernel)) ggX7_call_X1_keepUnlessError
theorem dX7_call_0 : decode cX7_call 0 = .ok (.aload_n 0, 1) := by decide +kernel
theorem dX7_call_1 : decode cX7_call 1 = .ok (.getfield 19, 3) := by decide +kernel
theorem dX7_call_4 : decode cX7_call 4 = .ok (.aload_n 0, 1) := by decide +kernel
theorem dX7_call_5 : decode cX7_call 5 = .ok (.getfield 10, 3) := by decide +kernel
theorem dX7_call_8 : decode cX7_call 8 = .ok (.invokevirtual 43, 3) := by decide +kernel
theorem dX7_call_11 : decode cX7_call 11 = .ok (.aload_n 0, 1) := by decide +kernel
theorem dX7_call_12 : decode cX7_call 12 = .ok (.getfield 19, 3) := by decide +kernel
theorem dX7_call_15 : decode cX7_call 15 = .ok (.aload_n 0, 1) := by decide +kernel
theorem dX7_call_16 : decode cX7_call 16 = .ok (.getfield 10, 3) := by decide +kernel
theorem dX7_call_19 : decode cX7_call 19 = .ok (.invokevirtual 73, 3) := by decide +kernel
theorem dX7_call_22 : decode cX7_call 22 = .ok (.invokevirtual 51, 3) := by decide +kernel
theorem dX7_call_25 : decode cX7_call 25 = .ok (.ireturn, 1) := by decide +kernel
set_option maxRecDepth 20000 in
theorem ggX7_night_X1_setAside : GoodIn wsX7_night wsX1_setAside := goodIn_r _ [7, 8, 9, 10, 11, 6, 12, 13, 14, 15, 16, 17, 18, 19, 20, 21, 22, 23, 24, 25, 26, 27, 28, 29, 30, 31, 32, 33, 34, 35, 36, 37, 38, 39, 40, 41, 42, 43, 44, 45, 46, 47, 48, 49, 50, 51, 52, 53, 54, 55, 56, 57, 58, 59, 60, 61, 62, 63, 64, 65, 66, 67, 68, 69, 116, 117, 118, 119, 120, 121, 122, 123, 124, 125, 126, 127, 128, 129, 130, 131, 132, 133, 134, 135, 136, 137, 138, 139, 140, 141, 142, 143, 144] (by decide +kernel) (by decide +kernel)
set_option maxRecDepth 20000 in
theorem gX7_night_X1_setAside : GoodIn wsX7_night (wsV RX7 43 RX1 yX1_setAside wsX1_setAside) := goodIn_app (goodIn_of _ (by decide +kernel)) ggX7_night_X1_setAside
set_option maxRecDepth 20000 in
theorem ggX7_night_X2_endNight : GoodIn wsX7_night wsX2_endNight := goodIn_r _ [73, 26, 21, 25, 22, 23, 20, 24, 27, 74, 75, 76, 61, 77, 68, 64, 66, 63, 78, 79, 80, 33, 81, 35, 82, 83, 84, 85, 86, 87, 88, 89, 90, 91, 92, 17, 93, 94, 95, 96, 97, 98, 99, 100, 101, 102, 47, 103, 56, 51, 54, 104, 119, 120, 121, 122, 123, 124, 125, 126, 127, 128, 129, 139, 140, 141, 142, 143, 144, 130, 131, 132, 133, 134, 135, 136, 137, 138] (by decide +kernel) (by decide +kernel)
set_option maxRecDepth 20000 in
theorem gX7_night_X2_endNight : GoodIn wsX7_night (wsV RX7 77 RX2 yX2_endNight wsX2_endNight) := goodIn_app (goodIn_of _ (by decide +kernel)) ggX7_night_X2_endNight
set_option maxRecDepth 20000 in
theorem ggX7_night_X1_keepUnlessError : GoodIn wsX7_night wsX1_keepUnlessError := goodIn_r _ [108, 8, 109, 110, 37, 38, 39, 116, 117, 118] (by decide +kernel) (by decide +kernel)
set_option maxRecDepth 20000 in
theorem gX7_night_X1_keepUnlessError : GoodIn wsX7_night (wsV RX7 51 RX1 yX1_keepUnlessError wsX1_keepUnlessError) := goodIn_app (goodIn_of _ (by decide +kernel)) ggX7_night_X1_keepUnlessError
theorem dX7_night_0 : decode cX7_night 0 = .ok (.aload_n 0, 1) := by decide +kernel
theorem dX7_night_1 : decode cX7_night 1 = .ok (.getfield 19, 3) := by decide +kernel
theorem dX7_night_4 : decode cX7_night 4 = .ok (.aload_n 0, 1) := by decide +kernel
theorem dX7_night_5 : decode cX7_night 5 = .ok (.getfield 10, 3) := by decide +kernel
theorem dX7_night_8 : decode cX7_night 8 = .ok (.invokevirtual 43, 3) := by decide +kernel
theorem dX7_night_11 : decode cX7_night 11 = .ok (.aload_n 0, 1) := by decide +kernel
theorem dX7_night_12 : decode cX7_night 12 = .ok (.getfield 19, 3) := by decide +kernel
theorem dX7_night_15 : decode cX7_night 15 = .ok (.aload_n 0, 1) := by decide +kernel
theorem dX7_night_16 : decode cX7_night 16 = .ok (.getfield 10, 3) := by decide +kernel
theorem dX7_night_19 : decode cX7_night 19 = .ok (.invokevirtual 77, 3) := by decide +kernel
theorem dX7_night_22 : decode cX7_night 22 = .ok (.invokevirtual 51, 3) := by decide +kernel
theorem dX7_night_25 : decode cX7_night 25 = .ok (.ireturn, 1) := by decide +kernel
set_option maxRecDepth 20000 in
theorem ggX7_of_X2_aboutSeat : GoodIn wsX7_of wsX2_aboutSeat := goodIn_r _ [6, 7, 8, 9, 10, 11, 12, 13, 14, 15, 16, 17, 18, 19, 20, 21, 22, 23, 29, 30, 31, 32, 33, 34, 35, 36, 37, 38, 39, 40, 41, 42, 43, 44, 45, 46, 47, 48] (by decide +kernel) (by decide +kernel)
set_option maxRecDepth 20000 in
theorem gX7_of_X2_aboutSeat : GoodIn wsX7_of (wsV RX7 89 RX2 yX2_aboutSeat wsX2_aboutSeat) := goodIn_app (goodIn_of _ (by decide +kernel)) ggX7_of_X2_aboutSeat
theorem dX7_of_0 : decode cX7_of 0 = .ok (.aload_n 0, 1) := by decide +kernel
theorem dX7_of_1 : decode cX7_of 1 = .ok (.getfield 10, 3) := by decide +kernel
theorem dX7_of_4 : decode cX7_of 4 = .ok (.iload_n 1, 1) := by decide +kernel
theorem dX7_of_5 : decode cX7_of 5 = .ok (.iload_n 2, 1) := by decide +kernel
theorem dX7_of_6 : decode cX7_of 6 = .ok (.invokevirtual 89, 3) := by decide +kernel
theorem dX7_of_9 : decode cX7_of 9 = .ok (.ireturn, 1) := by decide +kernel
set_option maxRecDepth 20000 in
theorem ggX7_performer_X0_aboutPerformer : GoodIn wsX7_performer wsX0_aboutPerformer := goodIn_r _ [6, 7, 8, 9, 10, 11, 12, 13, 14, 15, 5, 16, 17, 18, 19, 20, 21, 22, 23, 24, 41, 42, 43, 44, 45, 46, 47] (by decide +kernel) (by decide +kernel)
set_option maxRecDepth 20000 in
theorem gX7_performer_X0_aboutPerformer : GoodIn wsX7_performer (wsV RX7 96 RX0 yX0_aboutPerformer wsX0_aboutPerformer) := goodIn_app (goodIn_of _ (by decide +kernel)) ggX7_performer_X0_aboutPerformer
theorem dX7_performer_0 : decode cX7_performer 0 = .ok (.aload_n 0, 1) := by decide +kernel
theorem dX7_performer_1 : decode cX7_performer 1 = .ok (.getfield 10, 3) := by decide +kernel
theorem dX7_performer_4 : decode cX7_performer 4 = .ok (.getfield 92, 3) := by decide +kernel
theorem dX7_performer_7 : decode cX7_performer 7 = .ok (.iload_n 1, 1) := by decide +kernel
theorem dX7_performer_8 : decode cX7_performer 8 = .ok (.iload_n 2, 1) := by decide +kernel
theorem dX7_performer_9 : decode cX7_performer 9 = .ok (.invokevirtual 96, 3) := by decide +kernel
theorem dX7_performer_12 : decode cX7_performer 12 = .ok (.ireturn, 1) := by decide +kernel
set_option maxRecDepth 20000 in
theorem ggX7_owed_X0_aboutOwed : GoodIn wsX7_owed wsX0_aboutOwed := goodIn_r _ [6, 7, 8, 9, 10, 11, 12, 13, 14, 15, 32, 33, 34, 35, 36, 37, 38] (by decide +kernel) (by decide +kernel)
set_option maxRecDepth 20000 in
theorem gX7_owed_X0_aboutOwed : GoodIn wsX7_owed (wsV RX7 105 RX0 yX0_aboutOwed wsX0_aboutOwed) := goodIn_app (goodIn_of _ (by decide +kernel)) ggX7_owed_X0_aboutOwed
theorem dX7_owed_0 : decode cX7_owed 0 = .ok (.aload_n 0, 1) := by decide +kernel
theorem dX7_owed_1 : decode cX7_owed 1 = .ok (.getfield 10, 3) := by decide +kernel
theorem dX7_owed_4 : decode cX7_owed 4 = .ok (.getfield 92, 3) := by decide +kernel
theorem dX7_owed_7 : decode cX7_owed 7 = .ok (.iload_n 1, 1) := by decide +kernel
theorem dX7_owed_8 : decode cX7_owed 8 = .ok (.iload_n 2, 1) := by decide +kernel
theorem dX7_owed_9 : decode cX7_owed 9 = .ok (.aload_n 0, 1) := by decide +kernel
theorem dX7_owed_10 : decode cX7_owed 10 = .ok (.getfield 10, 3) := by decide +kernel
theorem dX7_owed_13 : decode cX7_owed 13 = .ok (.getfield 101, 3) := by decide +kernel
theorem dX7_owed_16 : decode cX7_owed 16 = .ok (.invokevirtual 105, 3) := by decide +kernel
theorem dX7_owed_19 : decode cX7_owed 19 = .ok (.ireturn, 1) := by decide +kernel
set_option maxRecDepth 20000 in
theorem ggX7_clapper_X6_clapperAt : GoodIn wsX7_clapper wsX6_clapperAt := goodIn_r _ [6, 7, 8, 9, 10, 11, 12, 13, 14, 31, 32, 33, 34, 35, 36, 37, 38, 39] (by decide +kernel) (by decide +kernel)
set_option maxRecDepth 20000 in
theorem gX7_clapper_X6_clapperAt : GoodIn wsX7_clapper (wsV RX7 113 RX6 yX6_clapperAt wsX6_clapperAt) := goodIn_app (goodIn_of _ (by decide +kernel)) ggX7_clapper_X6_clapperAt
theorem dX7_clapper_0 : decode cX7_clapper 0 = .ok (.aload_n 0, 1) := by decide +kernel
theorem dX7_clapper_1 : decode cX7_clapper 1 = .ok (.getfield 10, 3) := by decide +kernel
theorem dX7_clapper_4 : decode cX7_clapper 4 = .ok (.getfield 109, 3) := by decide +kernel
theorem dX7_clapper_7 : decode cX7_clapper 7 = .ok (.iload_n 1, 1) := by decide +kernel
theorem dX7_clapper_8 : decode cX7_clapper 8 = .ok (.invokevirtual 113, 3) := by decide +kernel
theorem dX7_clapper_11 : decode cX7_clapper 11 = .ok (.ireturn, 1) := by decide +kernel
set_option maxRecDepth 20000 in
theorem ggX7_record_X2_recordOf : GoodIn wsX7_record wsX2_recordOf := goodIn_r _ [6, 7, 8, 9, 10, 11, 12, 13, 14, 5, 15, 16, 17, 18, 19, 20, 21, 27, 28, 29, 30, 31, 32, 33, 34, 35, 36, 37, 38] (by decide +kernel) (by decide +kernel)
set_option maxRecDepth 20000 in
theorem gX7_record_X2_recordOf : GoodIn wsX7_record (wsV RX7 118 RX2 yX2_recordOf wsX2_recordOf) := goodIn_app (goodIn_of _ (by decide +kernel)) ggX7_record_X2_recordOf
theorem dX7_record_0 : decode cX7_record 0 = .ok (.aload_n 0, 1) := by decide +kernel
theorem dX7_record_1 : decode cX7_record 1 = .ok (.getfield 10, 3) := by decide +kernel
theorem dX7_record_4 : decode cX7_record 4 = .ok (.iload_n 1, 1) := by decide +kernel
theorem dX7_record_5 : decode cX7_record 5 = .ok (.iload_n 2, 1) := by decide +kernel
theorem dX7_record_6 : decode cX7_record 6 = .ok (.invokevirtual 118, 3) := by decide +kernel
theorem dX7_record_9 : decode cX7_record 9 = .ok (.ireturn, 1) := by decide +kernel
set_option maxRecDepth 20000 in
theorem ggX7_count_X4_length : GoodIn wsX7_count wsX4_length := goodIn_r _ [8, 9, 56, 57] (by decide +kernel) (by decide +kernel)
set_option maxRecDepth 20000 in
theorem gX7_count_X4_length : GoodIn wsX7_count (wsV RX7 86 RX4 yX4_length wsX4_length) := goodIn_app (goodIn_of _ (by decide +kernel)) ggX7_count_X4_length
set_option maxRecDepth 20000 in
theorem ggX7_count_X1_kept : GoodIn wsX7_count wsX1_kept := goodIn_r _ [14, 15, 58, 59, 60] (by decide +kernel) (by decide +kernel)
set_option maxRecDepth 20000 in
theorem gX7_count_X1_kept : GoodIn wsX7_count (wsV RX7 128 RX1 yX1_kept wsX1_kept) := goodIn_app (goodIn_of _ (by decide +kernel)) ggX7_count_X1_kept
set_option maxRecDepth 20000 in
theorem ggX7_count_X2_numberOf : GoodIn wsX7_count wsX2_numberOf := goodIn_r _ [20, 21, 22, 23, 24, 25, 26, 27, 28, 29, 30, 31, 32, 33, 34, 35, 36, 37, 38, 39, 40, 41, 42, 19, 43, 44, 45, 46, 47, 48, 49, 50, 61, 62, 63, 64, 65, 66, 67, 68, 69, 70, 71, 72, 73, 74, 75, 76, 77, 78, 79, 80, 81, 82, 83, 84, 85, 86] (by decide +kernel) (by decide +kernel)
set_option maxRecDepth 20000 in
theorem gX7_count_X2_numberOf : GoodIn wsX7_count (wsV RX7 131 RX2 yX2_numberOf wsX2_numberOf) := goodIn_app (goodIn_of _ (by decide +kernel)) ggX7_count_X2_numberOf
theorem dX7_count_0 : decode cX7_count 0 = .ok (.iload_n 1, 1) := by decide +kernel
theorem dX7_count_1 : decode cX7_count 1 = .ok (.lookupswitch 43 #[(19, 27), (20, 35)], 27) := by decide +kernel
theorem dX7_count_28 : decode cX7_count 28 = .ok (.aload_n 0, 1) := by decide +kernel
theorem dX7_count_29 : decode cX7_count 29 = .ok (.getfield 30, 3) := by decide +kernel
theorem dX7_count_32 : decode cX7_count 32 = .ok (.invokevirtual 86, 3) := by decide +kernel
theorem dX7_count_35 : decode cX7_count 35 = .ok (.ireturn, 1) := by decide +kernel
theorem dX7_count_36 : decode cX7_count 36 = .ok (.aload_n 0, 1) := by decide +kernel
theorem dX7_count_37 : decode cX7_count 37 = .ok (.getfield 19, 3) := by decide +kernel
theorem dX7_count_40 : decode cX7_count 40 = .ok (.invokevirtual 128, 3) := by decide +kernel
theorem dX7_count_43 : decode cX7_count 43 = .ok (.ireturn, 1) := by decide +kernel
theorem dX7_count_44 : decode cX7_count 44 = .ok (.aload_n 0, 1) := by decide +kernel
theorem dX7_count_45 : decode cX7_count 45 = .ok (.getfield 10, 3) := by decide +kernel
theorem dX7_count_48 : decode cX7_count 48 = .ok (.iload_n 1, 1) := by decide +kernel
theorem dX7_count_49 : decode cX7_count 49 = .ok (.invokevirtual 131, 3) := by decide +kernel
theorem dX7_count_52 : decode cX7_count 52 = .ok (.ireturn, 1) := by decide +kernel
set_option maxRecDepth 20000 in
theorem ggX7_quietIn_X2_secondsUntil : GoodIn wsX7_quietIn wsX2_secondsUntil := goodIn_r _ [6, 7, 8, 9, 10, 11, 12, 13, 14, 15, 16, 17, 18, 19, 20, 21, 27, 28, 29, 30, 31, 32, 33, 34, 35, 36, 37, 38] (by decide +kernel) (by decide +kernel)
set_option maxRecDepth 20000 in
theorem gX7_quietIn_X2_secondsUntil : GoodIn wsX7_quietIn (wsV RX7 134 RX2 yX2_secondsUntil wsX2_secondsUntil) := goodIn_app (goodIn_of _ (by decide +kernel)) ggX7_quietIn_X2_secondsUntil
theorem dX7_quietIn_0 : decode cX7_quietIn 0 = .ok (.aload_n 0, 1) := by decide +kernel
theorem dX7_quietIn_1 : decode cX7_quietIn 1 = .ok (.getfield 10, 3) := by decide +kernel
theorem dX7_quietIn_4 : decode cX7_quietIn 4 = .ok (.iload_n 1, 1) := by decide +kernel
theorem dX7_quietIn_5 : decode cX7_quietIn 5 = .ok (.invokevirtual 134, 3) := by decide +kernel
theorem dX7_quietIn_8 : decode cX7_quietIn 8 = .ok (.ireturn, 1) := by decide +kernel
set_option maxRecDepth 20000 in
theorem ggX7_clapsFor_X2_clapsUntilEncore : GoodIn wsX7_clapsFor wsX2_clapsUntilEncore := goodIn_r _ [6, 7, 8, 9, 10, 11, 12, 13, 14, 15, 16, 17, 18, 19, 20, 26, 27, 28, 29, 30, 31, 32, 33, 34, 35, 36, 37, 38, 39, 40, 41, 42, 43, 44, 45] (by decide +kernel) (by decide +kernel)
set_option maxRecDepth 20000 in
theorem gX7_clapsFor_X2_clapsUntilEncore : GoodIn wsX7_clapsFor (wsV RX7 137 RX2 yX2_clapsUntilEncore wsX2_clapsUntilEncore) := goodIn_app (goodIn_of _ (by decide +kernel)) ggX7_clapsFor_X2_clapsUntilEncore
theorem dX7_clapsFor_0 : decode cX7_clapsFor 0 = .ok (.aload_n 0, 1) := by decide +kernel
theorem dX7_clapsFor_1 : decode cX7_clapsFor 1 = .ok (.getfield 10, 3) := by decide +kernel
theorem dX7_clapsFor_4 : decode cX7_clapsFor 4 = .ok (.iload_n 1, 1) := by decide +kernel
theorem dX7_clapsFor_5 : decode cX7_clapsFor 5 = .ok (.invokevirtual 137, 3) := by decide +kernel
theorem dX7_clapsFor_8 : decode cX7_clapsFor 8 = .ok (.ireturn, 1) := by decide +kernel
set_option maxRecDepth 20000 in
theorem ggX7_lapsesIn_X2_secondsUntilLapse : GoodIn wsX7_lapsesIn wsX2_secondsUntilLapse := goodIn_r _ [6, 7, 8, 9, 10, 11, 12, 13, 14, 15, 16, 17, 18, 19, 20, 21, 22, 23, 24, 25, 26, 27, 28, 29, 30, 36, 37, 38, 39, 40, 41, 42, 43, 44, 45, 46, 47, 48, 49, 50, 51, 52, 53] (by decide +kernel) (by decide +kernel)
set_option maxRecDepth 20000 in
theorem gX7_lapsesIn_X2_secondsUntilLapse : GoodIn wsX7_lapsesIn (wsV RX7 140 RX2 yX2_secondsUntilLapse wsX2_secondsUntilLapse) := goodIn_app (goodIn_of _ (by decide +kernel)) ggX7_lapsesIn_X2_secondsUntilLapse
theorem dX7_lapsesIn_0 : decode cX7_lapsesIn 0 = .ok (.aload_n 0, 1) := by decide +kernel
theorem dX7_lapsesIn_1 : decode cX7_lapsesIn 1 = .ok (.getfield 10, 3) := by decide +kernel
theorem dX7_lapsesIn_4 : decode cX7_lapsesIn 4 = .ok (.iload_n 1, 1) := by decide +kernel
theorem dX7_lapsesIn_5 : decode cX7_lapsesIn 5 = .ok (.invokevirtual 140, 3) := by decide +kernel
theorem dX7_lapsesIn_8 : decode cX7_lapsesIn 8 = .ok (.ireturn, 1) := by decide +kernel
set_option maxRecDepth 20000 in
theorem ggX7_calls_X2_curtainsLeft : GoodIn wsX7_calls wsX2_curtainsLeft := goodIn_r _ [6, 7, 8, 9, 10, 11, 12, 13, 14, 20, 21, 22, 23, 24, 25, 26, 27, 28, 29, 30, 31] (by decide +kernel) (by decide +kernel)
set_option maxRecDepth 20000 in
theorem gX7_calls_X2_curtainsLeft : GoodIn wsX7_calls (wsV RX7 143 RX2 yX2_curtainsLeft wsX2_curtainsLeft) := goodIn_app (goodIn_of _ (by decide +kernel)) ggX7_calls_X2_curtainsLeft
theorem dX7_calls_0 : decode cX7_calls 0 = .ok (.aload_n 0, 1) := by decide +kernel
theorem dX7_calls_1 : decode cX7_calls 1 = .ok (.getfield 10, 3) := by decide +kernel
theorem dX7_calls_4 : decode cX7_calls 4 = .ok (.invokevirtual 143, 3) := by decide +kernel
theorem dX7_calls_7 : decode cX7_calls 7 = .ok (.ireturn, 1) := by decide +kernel
set_option maxRecDepth 20000 in
theorem ggX7_ifFound_X6_suspected : GoodIn wsX7_ifFound wsX6_suspected := goodIn_r _ [8, 9, 10, 11, 12, 13, 14, 15, 32, 33, 34, 35, 36, 37, 38, 39, 40] (by decide +kernel) (by decide +kernel)
set_option maxRecDepth 20000 in
theorem gX7_ifFound_X6_suspected : GoodIn wsX7_ifFound (wsV RX7 153 RX6 yX6_suspected wsX6_suspected) := goodIn_app (goodIn_of _ (by decide +kernel)) ggX7_ifFound_X6_suspected
theorem dX7_ifFound_0 : decode cX7_ifFound 0 = .ok (.iload_n 1, 1) := by decide +kernel
theorem dX7_ifFound_1 : decode cX7_ifFound 1 = .ok (.getstatic 146, 3) := by decide +kernel
theorem dX7_ifFound_4 : decode cX7_ifFound 4 = .ok (.iconst 4, 1) := by decide +kernel
theorem dX7_ifFound_5 : decode cX7_ifFound 5 = .ok (.iaload, 1) := by decide +kernel
theorem dX7_ifFound_6 : decode cX7_ifFound 6 = .ok (.if_icmp .lt 12, 3) := by decide +kernel
theorem dX7_ifFound_9 : decode cX7_ifFound 9 = .ok (.iload_n 1, 1) := by decide +kernel
theorem dX7_ifFound_10 : decode cX7_ifFound 10 = .ok (.getstatic 150, 3) := by decide +kernel
theorem dX7_ifFound_13 : decode cX7_ifFound 13 = .ok (.iconst 4, 1) := by decide +kernel
theorem dX7_ifFound_14 : decode cX7_ifFound 14 = .ok (.iaload, 1) := by decide +kernel
theorem dX7_ifFound_15 : decode cX7_ifFound 15 = .ok (.if_icmp .le 6, 3) := by decide +kernel
theorem dX7_ifFound_18 : decode cX7_ifFound 18 = .ok (.bipush (-2), 2) := by decide +kernel
theorem dX7_ifFound_20 : decode cX7_ifFound 20 = .ok (.ireturn, 1) := by decide +kernel
theorem dX7_ifFound_21 : decode cX7_ifFound 21 = .ok (.aload_n 0, 1) := by decide +kernel
theorem dX7_ifFound_22 : decode cX7_ifFound 22 = .ok (.getfield 10, 3) := by decide +kernel
theorem dX7_ifFound_25 : decode cX7_ifFound 25 = .ok (.getfield 109, 3) := by decide +kernel
theorem dX7_ifFound_28 : decode cX7_ifFound 28 = .ok (.iload_n 1, 1) := by decide +kernel
theorem dX7_ifFound_29 : decode cX7_ifFound 29 = .ok (.invokevirtual 153, 3) := by decide +kernel
theorem dX7_ifFound_32 : decode cX7_ifFound 32 = .ok (.ireturn, 1) := by decide +kernel
set_option maxRecDepth 20000 in
theorem ggX7_undo_X1_takeBack : GoodIn wsX7_undo wsX1_takeBack := goodIn_r _ [7, 8, 9, 10, 11, 12, 6, 13, 14, 15, 16, 17, 18, 19, 20, 21, 22, 23, 24, 25, 26, 27, 28, 29, 30, 31, 32, 33, 34, 35, 36, 37, 38, 39, 40, 41, 42, 43, 44, 45, 46, 47, 48, 49, 50, 51, 52, 53, 54, 55, 56, 57, 58, 59, 60, 61, 62, 63, 64, 65, 66, 67, 68, 69, 70, 76, 77, 78, 79, 80, 81, 82, 83, 84, 85, 86, 87, 88, 89, 90, 91, 92, 93, 94, 95, 96, 97, 98, 99, 100, 101, 102, 103, 104] (by decide +kernel) (by decide +kernel)
set_option maxRecDepth 20000 in
theorem gX7_undo_X1_takeBack : GoodIn wsX7_undo (wsV RX7 167 RX1 yX1_takeBack wsX1_takeBack) := goodIn_app (goodIn_of _ (by decide +kernel)) ggX7_undo_X1_takeBack
theorem dX7_undo_0 : decode cX7_undo 0 = .ok (.aload_n 0, 1) := by decide +kernel
theorem dX7_undo_1 : decode cX7_undo 1 = .ok (.getfield 19, 3) := by decide +kernel
theorem dX7_undo_4 : decode cX7_undo 4 = .ok (.aload_n 0, 1) := by decide +kernel
theorem dX7_undo_5 : decode cX7_undo 5 = .ok (.getfield 10, 3) := by decide +kernel
theorem dX7_undo_8 : decode cX7_undo 8 = .ok (.invokevirtual 167, 3) := by decide +kernel
theorem dX7_undo_11 : decode cX7_undo 11 = .ok (.ireturn, 1) := by decide +kernel
theorem dX7_isSeat_0 : decode cX7_isSeat 0 = .ok (.iload_n 0, 1) := by decide +kernel
theorem dX7_isSeat_1 : decode cX7_isSeat 1 = .ok (.ifCond .lt 13, 3) := by decide +kernel
theorem dX7_isSeat_4 : decode cX7_isSeat 4 = .ok (.iload_n 0, 1) := by decide +kernel
theorem dX7_isSeat_5 : decode cX7_isSeat 5 = .ok (.bipush 30, 2) := by decide +kernel
theorem dX7_isSeat_7 : decode cX7_isSeat 7 = .ok (.if_icmp .ge 7, 3) := by decide +kernel
theorem dX7_isSeat_10 : decode cX7_isSeat 10 = .ok (.iconst 1, 1) := by decide +kernel
theorem dX7_isSeat_11 : decode cX7_isSeat 11 = .ok (.goto 4, 3) := by decide +kernel
theorem dX7_isSeat_14 : decode cX7_isSeat 14 = .ok (.iconst 0, 1) := by decide +kernel
theorem dX7_isSeat_15 : decode cX7_isSeat 15 = .ok (.ireturn, 1) := by decide +kernel
theorem dX7_isPerformer_0 : decode cX7_isPerformer 0 = .ok (.iload_n 0, 1) := by decide +kernel
theorem dX7_isPerformer_1 : decode cX7_isPerformer 1 = .ok (.ifCond .lt 13, 3) := by decide +kernel
theorem dX7_isPerformer_4 : decode cX7_isPerformer 4 = .ok (.iload_n 0, 1) := by decide +kernel
theorem dX7_isPerformer_5 : decode cX7_isPerformer 5 = .ok (.bipush 6, 2) := by decide +kernel
theorem dX7_isPerformer_7 : decode cX7_isPerformer 7 = .ok (.if_icmp .ge 7, 3) := by decide +kernel
theorem dX7_isPerformer_10 : decode cX7_isPerformer 10 = .ok (.iconst 1, 1) := by decide +kernel
theorem dX7_isPerformer_11 : decode cX7_isPerformer 11 = .ok (.goto 4, 3) := by decide +kernel
theorem dX7_isPerformer_14 : decode cX7_isPerformer 14 = .ok (.iconst 0, 1) := by decide +kernel
theorem dX7_isPerformer_15 : decode cX7_isPerformer 15 = .ok (.ireturn, 1) := by decide +kernel
theorem dX7_afterSecond_0 : decode cX7_afterSecond 0 = .ok (.iload_n 0, 1) := by decide +kernel
theorem dX7_afterSecond_1 : decode cX7_afterSecond 1 = .ok (.ifCond .gt 7, 3) := by decide +kernel
theorem dX7_afterSecond_4 : decode cX7_afterSecond 4 = .ok (.iconst 0, 1) := by decide +kernel
theorem dX7_afterSecond_5 : decode cX7_afterSecond 5 = .ok (.goto 15, 3) := by decide +kernel
theorem dX7_afterSecond_8 : decode cX7_afterSecond 8 = .ok (.iload_n 0, 1) := by decide +kernel
theorem dX7_afterSecond_9 : decode cX7_afterSecond 9 = .ok (.iload_n 0, 1) := by decide +kernel
theorem dX7_afterSecond_10 : decode cX7_afterSecond 10 = .ok (.iload_n 1, 1) := by decide +kernel
theorem dX7_afterSecond_11 : decode cX7_afterSecond 11 = .ok (.imul, 1) := by decide +kernel
theorem dX7_afterSecond_12 : decode cX7_afterSecond 12 = .ok (.bipush 100, 2) := by decide +kernel
theorem dX7_afterSecond_14 : decode cX7_afterSecond 14 = .ok (.idiv, 1) := by decide +kernel
theorem dX7_afterSecond_15 : decode cX7_afterSecond 15 = .ok (.iconst 1, 1) := by decide +kernel
theorem dX7_afterSecond_16 : decode cX7_afterSecond 16 = .ok (.invokestatic 176, 3) := by decide +kernel
theorem dX7_afterSecond_19 : decode cX7_afterSecond 19 = .ok (.isub, 1) := by decide +kernel
theorem dX7_afterSecond_20 : decode cX7_afterSecond 20 = .ok (.ireturn, 1) := by decide +kernel
theorem dJ9_max_7cf53_0 : decode cJ9_max_7cf53 0 = .ok (.iload_n 0, 1) := by decide +kernel
theorem dJ9_max_7cf53_1 : decode cJ9_max_7cf53 1 = .ok (.iload_n 1, 1) := by decide +kernel
theorem dJ9_max_7cf53_2 : decode cJ9_max_7cf53 2 = .ok (.if_icmp .lt 7, 3) := by decide +kernel
theorem dJ9_max_7cf53_5 : decode cJ9_max_7cf53 5 = .ok (.iload_n 0, 1) := by decide +kernel
theorem dJ9_max_7cf53_6 : decode cJ9_max_7cf53 6 = .ok (.goto 4, 3) := by decide +kernel
theorem dJ9_max_7cf53_9 : decode cJ9_max_7cf53 9 = .ok (.iload_n 1, 1) := by decide +kernel
theorem dJ9_max_7cf53_10 : decode cJ9_max_7cf53 10 = .ok (.ireturn, 1) := by decide +kernel
theorem dJ9_min_7cf53_0 : decode cJ9_min_7cf53 0 = .ok (.iload_n 0, 1) := by decide +kernel
theorem dJ9_min_7cf53_1 : decode cJ9_min_7cf53 1 = .ok (.iload_n 1, 1) := by decide +kernel
theorem dJ9_min_7cf53_2 : decode cJ9_min_7cf53 2 = .ok (.if_icmp .gt 7, 3) := by decide +kernel
theorem dJ9_min_7cf53_5 : decode cJ9_min_7cf53 5 = .ok (.iload_n 0, 1) := by decide +kernel
theorem dJ9_min_7cf53_6 : decode cJ9_min_7cf53 6 = .ok (.goto 4, 3) := by decide +kernel
theorem dJ9_min_7cf53_9 : decode cJ9_min_7cf53 9 = .ok (.iload_n 1, 1) := by decide +kernel
theorem dJ9_min_7cf53_10 : decode cJ9_min_7cf53 10 = .ok (.ireturn, 1) := by decide +kernel
end
section
theorem dL_cell_0 : decode cL_cell 0 = .ok (.iload_n 1, 1) := by decide +kernel
theorem dL_cell_1 : decode cL_cell 1 = .ok (.aload_n 0, 1) := by decide +kernel
theorem dL_cell_2 : decode cL_cell 2 = .ok (.arraylength, 1) := by decide +kernel
theorem dL_cell_3 : decode cL_cell 3 = .ok (.if_icmp .ge 9, 3) := by decide +kernel
theorem dL_cell_6 : decode cL_cell 6 = .ok (.aload_n 0, 1) := by decide +kernel
theorem dL_cell_7 : decode cL_cell 7 = .ok (.iload_n 1, 1) := by decide +kernel
theorem dL_cell_8 : decode cL_cell 8 = .ok (.iaload, 1) := by decide +kernel
theorem dL_cell_9 : decode cL_cell 9 = .ok (.goto 13, 3) := by decide +kernel
theorem dL_cell_12 : decode cL_cell 12 = .ok (.ldc 7, 2) := by decide +kernel
theorem dL_cell_14 : decode cL_cell 14 = .ok (.iload_n 1, 1) := by decide +kernel
theorem dL_cell_15 : decode cL_cell 15 = .ok (.bipush 9, 2) := by decide +kernel
theorem dL_cell_17 : decode cL_cell 17 = .ok (.iadd, 1) := by decide +kernel
theorem dL_cell_18 : decode cL_cell 18 = .ok (.imul, 1) := by decide +kernel
theorem dL_cell_19 : decode cL_cell 19 = .ok (.ldc 8, 2) := by decide +kernel
theorem dL_cell_21 : decode cL_cell 21 = .ok (.iadd, 1) := by decide +kernel
theorem dL_cell_22 : decode cL_cell 22 = .ok (.ireturn, 1) := by decide +kernel
theorem dL_low_0 : decode cL_low 0 = .ok (.iload_n 0, 1) := by decide +kernel
theorem dL_low_1 : decode cL_low 1 = .ok (.ldc 9, 2) := by decide +kernel
theorem dL_low_3 : decode cL_low 3 = .ok (.iand, 1) := by decide +kernel
theorem dL_low_4 : decode cL_low 4 = .ok (.iload_n 1, 1) := by decide +kernel
theorem dL_low_5 : decode cL_low 5 = .ok (.irem, 1) := by decide +kernel
theorem dL_low_6 : decode cL_low 6 = .ok (.ireturn, 1) := by decide +kernel
theorem dL_ends_0 : decode cL_ends 0 = .ok (.aload_n 1, 1) := by decide +kernel
theorem dL_ends_1 : decode cL_ends 1 = .ok (.bipush 6, 2) := by decide +kernel
theorem dL_ends_3 : decode cL_ends 3 = .ok (.iaload, 1) := by decide +kernel
theorem dL_ends_4 : decode cL_ends 4 = .ok (.istore 4, 2) := by decide +kernel
theorem dL_ends_6 : decode cL_ends 6 = .ok (.aload_n 1, 1) := by decide +kernel
theorem dL_ends_7 : decode cL_ends 7 = .ok (.bipush 6, 2) := by decide +kernel
theorem dL_ends_9 : decode cL_ends 9 = .ok (.iconst 0, 1) := by decide +kernel
theorem dL_ends_10 : decode cL_ends 10 = .ok (.iastore, 1) := by decide +kernel
theorem dL_ends_11 : decode cL_ends 11 = .ok (.aload_n 1, 1) := by decide +kernel
theorem dL_ends_12 : decode cL_ends 12 = .ok (.bipush 13, 2) := by decide +kernel
theorem dL_ends_14 : decode cL_ends 14 = .ok (.aload_n 1, 1) := by decide +kernel
theorem dL_ends_15 : decode cL_ends 15 = .ok (.bipush 7, 2) := by decide +kernel
theorem dL_ends_17 : decode cL_ends 17 = .ok (.iaload, 1) := by decide +kernel
theorem dL_ends_18 : decode cL_ends 18 = .ok (.iastore, 1) := by decide +kernel
theorem dL_ends_19 : decode cL_ends 19 = .ok (.aload_n 1, 1) := by decide +kernel
theorem dL_ends_20 : decode cL_ends 20 = .ok (.bipush 14, 2) := by decide +kernel
theorem dL_ends_22 : decode cL_ends 22 = .ok (.iload_n 0, 1) := by decide +kernel
theorem dL_ends_23 : decode cL_ends 23 = .ok (.iastore, 1) := by decide +kernel
theorem dL_ends_24 : decode cL_ends 24 = .ok (.aload_n 1, 1) := by decide +kernel
theorem dL_ends_25 : decode cL_ends 25 = .ok (.bipush 15, 2) := by decide +kernel
theorem dL_ends_27 : decode cL_ends 27 = .ok (.iconst 0, 1) := by decide +kernel
theorem dL_ends_28 : decode cL_ends 28 = .ok (.iastore, 1) := by decide +kernel
theorem dL_ends_29 : decode cL_ends 29 = .ok (.aload_n 3, 1) := by decide +kernel
theorem dL_ends_30 : decode cL_ends 30 = .ok (.iconst 3, 1) := by decide +kernel
theorem dL_ends_31 : decode cL_ends 31 = .ok (.iload_n 0, 1) := by decide +kernel
theorem dL_ends_32 : decode cL_ends 32 = .ok (.imul, 1) := by decide +kernel
theorem dL_ends_33 : decode cL_ends 33 = .ok (.iconst 2, 1) := by decide +kernel
theorem dL_ends_34 : decode cL_ends 34 = .ok (.iadd, 1) := by decide +kernel
theorem dL_ends_35 : decode cL_ends 35 = .ok (.dup2, 1) := by decide +kernel
theorem dL_ends_36 : decode cL_ends 36 = .ok (.iaload, 1) := by decide +kernel
theorem dL_ends_37 : decode cL_ends 37 = .ok (.iconst 1, 1) := by decide +kernel
theorem dL_ends_38 : decode cL_ends 38 = .ok (.iadd, 1) := by decide +kernel
theorem dL_ends_39 : decode cL_ends 39 = .ok (.iastore, 1) := by decide +kernel
theorem dL_ends_40 : decode cL_ends 40 = .ok (.iconst 0, 1) := by decide +kernel
theorem dL_ends_41 : decode cL_ends 41 = .ok (.istore 5, 2) := by decide +kernel
theorem dL_ends_43 : decode cL_ends 43 = .ok (.iload 5, 2) := by decide +kernel
theorem dL_ends_45 : decode cL_ends 45 = .ok (.bipush 30, 2) := by decide +kernel
theorem dL_ends_47 : decode cL_ends 47 = .ok (.if_icmp .ge 18, 3) := by decide +kernel
theorem dL_ends_50 : decode cL_ends 50 = .ok (.aload_n 2, 1) := by decide +kernel
theorem dL_ends_51 : decode cL_ends 51 = .ok (.iload 5, 2) := by decide +kernel
theorem dL_ends_53 : decode cL_ends 53 = .ok (.dup2, 1) := by decide +kernel
theorem dL_ends_54 : decode cL_ends 54 = .ok (.iaload, 1) := by decide +kernel
theorem dL_ends_55 : decode cL_ends 55 = .ok (.bipush 31, 2) := by decide +kernel
theorem dL_ends_57 : decode cL_ends 57 = .ok (.iand, 1) := by decide +kernel
theorem dL_ends_58 : decode cL_ends 58 = .ok (.iastore, 1) := by decide +kernel
theorem dL_ends_59 : decode cL_ends 59 = .ok (.iinc 5 1, 3) := by decide +kernel
theorem dL_ends_62 : decode cL_ends 62 = .ok (.goto (-19), 3) := by decide +kernel
theorem dL_ends_65 : decode cL_ends 65 = .ok (.iload 4, 2) := by decide +kernel
theorem dL_ends_67 : decode cL_ends 67 = .ok (.ireturn, 1) := by decide +kernel
theorem dL_lapses_0 : decode cL_lapses 0 = .ok (.aload_n 2, 1) := by decide +kernel
theorem dL_lapses_1 : decode cL_lapses 1 = .ok (.iconst 3, 1) := by decide +kernel
theorem dL_lapses_2 : decode cL_lapses 2 = .ok (.iload_n 0, 1) := by decide +kernel
theorem dL_lapses_3 : decode cL_lapses 3 = .ok (.imul, 1) := by decide +kernel
theorem dL_lapses_4 : decode cL_lapses 4 = .ok (.iconst 1, 1) := by decide +kernel
theorem dL_lapses_5 : decode cL_lapses 5 = .ok (.iadd, 1) := by decide +kernel
theorem dL_lapses_6 : decode cL_lapses 6 = .ok (.dup2, 1) := by decide +kernel
theorem dL_lapses_7 : decode cL_lapses 7 = .ok (.iaload, 1) := by decide +kernel
theorem dL_lapses_8 : decode cL_lapses 8 = .ok (.iconst 1, 1) := by decide +kernel
theorem dL_lapses_9 : decode cL_lapses 9 = .ok (.iadd, 1) := by decide +kernel
theorem dL_lapses_10 : decode cL_lapses 10 = .ok (.iastore, 1) := by decide +kernel
theorem dL_lapses_11 : decode cL_lapses 11 = .ok (.aload_n 1, 1) := by decide +kernel
theorem dL_lapses_12 : decode cL_lapses 12 = .ok (.bipush 11, 2) := by decide +kernel
theorem dL_lapses_14 : decode cL_lapses 14 = .ok (.dup2, 1) := by decide +kernel
theorem dL_lapses_15 : decode cL_lapses 15 = .ok (.iaload, 1) := by decide +kernel
theorem dL_lapses_16 : decode cL_lapses 16 = .ok (.iconst 1, 1) := by decide +kernel
theorem dL_lapses_17 : decode cL_lapses 17 = .ok (.iadd, 1) := by decide +kernel
theorem dL_lapses_18 : decode cL_lapses 18 = .ok (.iastore, 1) := by decide +kernel
theorem dL_lapses_19 : decode cL_lapses 19 = .ok (.return_, 1) := by decide +kernel
theorem dL_drops_0 : decode cL_drops 0 = .ok (.aload_n 1, 1) := by decide +kernel
theorem dL_drops_1 : decode cL_drops 1 = .ok (.bipush 16, 2) := by decide +kernel
theorem dL_drops_3 : decode cL_drops 3 = .ok (.dup2, 1) := by decide +kernel
theorem dL_drops_4 : decode cL_drops 4 = .ok (.iaload, 1) := by decide +kernel
theorem dL_drops_5 : decode cL_drops 5 = .ok (.iconst 1, 1) := by decide +kernel
theorem dL_drops_6 : decode cL_drops 6 = .ok (.isub, 1) := by decide +kernel
theorem dL_drops_7 : decode cL_drops 7 = .ok (.iastore, 1) := by decide +kernel
theorem dL_drops_8 : decode cL_drops 8 = .ok (.iconst 2, 1) := by decide +kernel
theorem dL_drops_9 : decode cL_drops 9 = .ok (.iload_n 0, 1) := by decide +kernel
theorem dL_drops_10 : decode cL_drops 10 = .ok (.imul, 1) := by decide +kernel
theorem dL_drops_11 : decode cL_drops 11 = .ok (.istore_n 3, 1) := by decide +kernel
theorem dL_drops_12 : decode cL_drops 12 = .ok (.iload_n 3, 1) := by decide +kernel
theorem dL_drops_13 : decode cL_drops 13 = .ok (.iconst 2, 1) := by decide +kernel
theorem dL_drops_14 : decode cL_drops 14 = .ok (.aload_n 1, 1) := by decide +kernel
theorem dL_drops_15 : decode cL_drops 15 = .ok (.bipush 16, 2) := by decide +kernel
theorem dL_drops_17 : decode cL_drops 17 = .ok (.iaload, 1) := by decide +kernel
theorem dL_drops_18 : decode cL_drops 18 = .ok (.imul, 1) := by decide +kernel
theorem dL_drops_19 : decode cL_drops 19 = .ok (.if_icmp .ge 17, 3) := by decide +kernel
theorem dL_drops_22 : decode cL_drops 22 = .ok (.aload_n 2, 1) := by decide +kernel
theorem dL_drops_23 : decode cL_drops 23 = .ok (.iload_n 3, 1) := by decide +kernel
theorem dL_drops_24 : decode cL_drops 24 = .ok (.aload_n 2, 1) := by decide +kernel
theorem dL_drops_25 : decode cL_drops 25 = .ok (.iload_n 3, 1) := by decide +kernel
theorem dL_drops_26 : decode cL_drops 26 = .ok (.iconst 2, 1) := by decide +kernel
theorem dL_drops_27 : decode cL_drops 27 = .ok (.iadd, 1) := by decide +kernel
theorem dL_drops_28 : decode cL_drops 28 = .ok (.iaload, 1) := by decide +kernel
theorem dL_drops_29 : decode cL_drops 29 = .ok (.iastore, 1) := by decide +kernel
theorem dL_drops_30 : decode cL_drops 30 = .ok (.iinc 3 1, 3) := by decide +kernel
theorem dL_drops_33 : decode cL_drops 33 = .ok (.goto (-21), 3) := by decide +kernel
theorem dL_drops_36 : decode cL_drops 36 = .ok (.return_, 1) := by decide +kernel
set_option maxRecDepth 20000 in
theorem ggL_claps_L_lapses : GoodIn wsL_claps wsL_lapses := goodIn_r _ [4] (by decide +kernel) (by decide +kernel)
set_option maxRecDepth 20000 in
theorem gL_claps_L_lapses : GoodIn wsL_claps (va_wsS RL 10 yL_lapses wsL_lapses) := goodIn_app (goodIn_of _ (by decide +kernel)) ggL_claps_L_lapses
theorem dL_claps_0 : decode cL_claps 0 = .ok (.aload_n 1, 1) := by decide +kernel
theorem dL_claps_1 : decode cL_claps 1 = .ok (.bipush 13, 2) := by decide +kernel
theorem dL_claps_3 : decode cL_claps 3 = .ok (.iaload, 1) := by decide +kernel
theorem dL_claps_4 : decode cL_claps 4 = .ok (.ifCond .ge 6, 3) := by decide +kernel
theorem dL_claps_7 : decode cL_claps 7 = .ok (.bipush (-5), 2) := by decide +kernel
theorem dL_claps_9 : decode cL_claps 9 = .ok (.ireturn, 1) := by decide +kernel
theorem dL_claps_10 : decode cL_claps 10 = .ok (.aload_n 1, 1) := by decide +kernel
theorem dL_claps_11 : decode cL_claps 11 = .ok (.bipush 6, 2) := by decide +kernel
theorem dL_claps_13 : decode cL_claps 13 = .ok (.iaload, 1) := by decide +kernel
theorem dL_claps_14 : decode cL_claps 14 = .ok (.bipush 10, 2) := by decide +kernel
theorem dL_claps_16 : decode cL_claps 16 = .ok (.aload_n 2, 1) := by decide +kernel
theorem dL_claps_17 : decode cL_claps 17 = .ok (.iload_n 0, 1) := by decide +kernel
theorem dL_claps_18 : decode cL_claps 18 = .ok (.iaload, 1) := by decide +kernel
theorem dL_claps_19 : decode cL_claps 19 = .ok (.bipush 15, 2) := by decide +kernel
theorem dL_claps_21 : decode cL_claps 21 = .ok (.iand, 1) := by decide +kernel
theorem dL_claps_22 : decode cL_claps 22 = .ok (.imul, 1) := by decide +kernel
theorem dL_claps_23 : decode cL_claps 23 = .ok (.iadd, 1) := by decide +kernel
theorem dL_claps_24 : decode cL_claps 24 = .ok (.istore 9, 2) := by decide +kernel
theorem dL_claps_26 : decode cL_claps 26 = .ok (.aload_n 1, 1) := by decide +kernel
theorem dL_claps_27 : decode cL_claps 27 = .ok (.bipush 6, 2) := by decide +kernel
theorem dL_claps_29 : decode cL_claps 29 = .ok (.iload 9, 2) := by decide +kernel
theorem dL_claps_31 : decode cL_claps 31 = .ok (.sipush 9999, 3) := by decide +kernel
theorem dL_claps_34 : decode cL_claps 34 = .ok (.if_icmp .le 9, 3) := by decide +kernel
theorem dL_claps_37 : decode cL_claps 37 = .ok (.sipush 9999, 3) := by decide +kernel
theorem dL_claps_40 : decode cL_claps 40 = .ok (.goto 5, 3) := by decide +kernel
theorem dL_claps_43 : decode cL_claps 43 = .ok (.iload 9, 2) := by decide +kernel
theorem dL_claps_45 : decode cL_claps 45 = .ok (.iastore, 1) := by decide +kernel
theorem dL_claps_46 : decode cL_claps 46 = .ok (.aload_n 3, 1) := by decide +kernel
theorem dL_claps_47 : decode cL_claps 47 = .ok (.iload_n 0, 1) := by decide +kernel
theorem dL_claps_48 : decode cL_claps 48 = .ok (.dup2, 1) := by decide +kernel
theorem dL_claps_49 : decode cL_claps 49 = .ok (.iaload, 1) := by decide +kernel
theorem dL_claps_50 : decode cL_claps 50 = .ok (.aload_n 2, 1) := by decide +kernel
theorem dL_claps_51 : decode cL_claps 51 = .ok (.iload_n 0, 1) := by decide +kernel
theorem dL_claps_52 : decode cL_claps 52 = .ok (.iaload, 1) := by decide +kernel
theorem dL_claps_53 : decode cL_claps 53 = .ok (.bipush 32, 2) := by decide +kernel
theorem dL_claps_55 : decode cL_claps 55 = .ok (.if_icmp .ge 22, 3) := by decide +kernel
theorem dL_claps_58 : decode cL_claps 58 = .ok (.aload_n 1, 1) := by decide +kernel
theorem dL_claps_59 : decode cL_claps 59 = .ok (.bipush 7, 2) := by decide +kernel
theorem dL_claps_61 : decode cL_claps 61 = .ok (.iaload, 1) := by decide +kernel
theorem dL_claps_62 : decode cL_claps 62 = .ok (.aload_n 1, 1) := by decide +kernel
theorem dL_claps_63 : decode cL_claps 63 = .ok (.bipush 13, 2) := by decide +kernel
theorem dL_claps_65 : decode cL_claps 65 = .ok (.iaload, 1) := by decide +kernel
theorem dL_claps_66 : decode cL_claps 66 = .ok (.isub, 1) := by decide +kernel
theorem dL_claps_67 : decode cL_claps 67 = .ok (.aload_n 1, 1) := by decide +kernel
theorem dL_claps_68 : decode cL_claps 68 = .ok (.iconst 3, 1) := by decide +kernel
theorem dL_claps_69 : decode cL_claps 69 = .ok (.iaload, 1) := by decide +kernel
theorem dL_claps_70 : decode cL_claps 70 = .ok (.if_icmp .gt 7, 3) := by decide +kernel
theorem dL_claps_73 : decode cL_claps 73 = .ok (.iconst 1, 1) := by decide +kernel
theorem dL_claps_74 : decode cL_claps 74 = .ok (.goto 4, 3) := by decide +kernel
theorem dL_claps_77 : decode cL_claps 77 = .ok (.iconst 0, 1) := by decide +kernel
theorem dL_claps_78 : decode cL_claps 78 = .ok (.iadd, 1) := by decide +kernel
theorem dL_claps_79 : decode cL_claps 79 = .ok (.iastore, 1) := by decide +kernel
theorem dL_claps_80 : decode cL_claps 80 = .ok (.aload_n 2, 1) := by decide +kernel
theorem dL_claps_81 : decode cL_claps 81 = .ok (.iload_n 0, 1) := by decide +kernel
theorem dL_claps_82 : decode cL_claps 82 = .ok (.dup2, 1) := by decide +kernel
theorem dL_claps_83 : decode cL_claps 83 = .ok (.iaload, 1) := by decide +kernel
theorem dL_claps_84 : decode cL_claps 84 = .ok (.bipush 32, 2) := by decide +kernel
theorem dL_claps_86 : decode cL_claps 86 = .ok (.ior, 1) := by decide +kernel
theorem dL_claps_87 : decode cL_claps 87 = .ok (.iastore, 1) := by decide +kernel
theorem dL_claps_88 : decode cL_claps 88 = .ok (.aload 4, 2) := by decide +kernel
theorem dL_claps_90 : decode cL_claps 90 = .ok (.iload_n 0, 1) := by decide +kernel
theorem dL_claps_91 : decode cL_claps 91 = .ok (.iaload, 1) := by decide +kernel
theorem dL_claps_92 : decode cL_claps 92 = .ok (.ifCond .ne 19, 3) := by decide +kernel
theorem dL_claps_95 : decode cL_claps 95 = .ok (.aload 8, 2) := by decide +kernel
theorem dL_claps_97 : decode cL_claps 97 = .ok (.aload_n 1, 1) := by decide +kernel
theorem dL_claps_98 : decode cL_claps 98 = .ok (.bipush 17, 2) := by decide +kernel
theorem dL_claps_100 : decode cL_claps 100 = .ok (.iaload, 1) := by decide +kernel
theorem dL_claps_101 : decode cL_claps 101 = .ok (.iload_n 0, 1) := by decide +kernel
theorem dL_claps_102 : decode cL_claps 102 = .ok (.iastore, 1) := by decide +kernel
theorem dL_claps_103 : decode cL_claps 103 = .ok (.aload_n 1, 1) := by decide +kernel
theorem dL_claps_104 : decode cL_claps 104 = .ok (.bipush 17, 2) := by decide +kernel
theorem dL_claps_106 : decode cL_claps 106 = .ok (.dup2, 1) := by decide +kernel
theorem dL_claps_107 : decode cL_claps 107 = .ok (.iaload, 1) := by decide +kernel
theorem dL_claps_108 : decode cL_claps 108 = .ok (.iconst 1, 1) := by decide +kernel
theorem dL_claps_109 : decode cL_claps 109 = .ok (.iadd, 1) := by decide +kernel
theorem dL_claps_110 : decode cL_claps 110 = .ok (.iastore, 1) := by decide +kernel
theorem dL_claps_111 : decode cL_claps 111 = .ok (.aload 4, 2) := by decide +kernel
theorem dL_claps_113 : decode cL_claps 113 = .ok (.iload_n 0, 1) := by decide +kernel
theorem dL_claps_114 : decode cL_claps 114 = .ok (.dup2, 1) := by decide +kernel
theorem dL_claps_115 : decode cL_claps 115 = .ok (.iaload, 1) := by decide +kernel
theorem dL_claps_116 : decode cL_claps 116 = .ok (.iconst 1, 1) := by decide +kernel
theorem dL_claps_117 : decode cL_claps 117 = .ok (.iadd, 1) := by decide +kernel
theorem dL_claps_118 : decode cL_claps 118 = .ok (.iastore, 1) := by decide +kernel
theorem dL_claps_119 : decode cL_claps 119 = .ok (.aload 5, 2) := by decide +kernel
theorem dL_claps_121 : decode cL_claps 121 = .ok (.iload_n 0, 1) := by decide +kernel
theorem dL_claps_122 : decode cL_claps 122 = .ok (.dup2, 1) := by decide +kernel
theorem dL_claps_123 : decode cL_claps 123 = .ok (.iaload, 1) := by decide +kernel
theorem dL_claps_124 : decode cL_claps 124 = .ok (.iconst 1, 1) := by decide +kernel
theorem dL_claps_125 : decode cL_claps 125 = .ok (.iadd, 1) := by decide +kernel
theorem dL_claps_126 : decode cL_claps 126 = .ok (.iastore, 1) := by decide +kernel
theorem dL_claps_127 : decode cL_claps 127 = .ok (.aload_n 1, 1) := by decide +kernel
theorem dL_claps_128 : decode cL_claps 128 = .ok (.bipush 9, 2) := by decide +kernel
theorem dL_claps_130 : decode cL_claps 130 = .ok (.dup2, 1) := by decide +kernel
theorem dL_claps_131 : decode cL_claps 131 = .ok (.iaload, 1) := by decide +kernel
theorem dL_claps_132 : decode cL_claps 132 = .ok (.iconst 1, 1) := by decide +kernel
theorem dL_claps_133 : decode cL_claps 133 = .ok (.iadd, 1) := by decide +kernel
theorem dL_claps_134 : decode cL_claps 134 = .ok (.iastore, 1) := by decide +kernel
theorem dL_claps_135 : decode cL_claps 135 = .ok (.aload_n 1, 1) := by decide +kernel
theorem dL_claps_136 : decode cL_claps 136 = .ok (.bipush 6, 2) := by decide +kernel
theorem dL_claps_138 : decode cL_claps 138 = .ok (.iaload, 1) := by decide +kernel
theorem dL_claps_139 : decode cL_claps 139 = .ok (.aload_n 1, 1) := by decide +kernel
theorem dL_claps_140 : decode cL_claps 140 = .ok (.iconst 1, 1) := by decide +kernel
theorem dL_claps_141 : decode cL_claps 141 = .ok (.iaload, 1) := by decide +kernel
theorem dL_claps_142 : decode cL_claps 142 = .ok (.if_icmp .lt 73, 3) := by decide +kernel
theorem dL_claps_145 : decode cL_claps 145 = .ok (.aload_n 1, 1) := by decide +kernel
theorem dL_claps_146 : decode cL_claps 146 = .ok (.bipush 15, 2) := by decide +kernel
theorem dL_claps_148 : decode cL_claps 148 = .ok (.iaload, 1) := by decide +kernel
theorem dL_claps_149 : decode cL_claps 149 = .ok (.ifCond .ne 66, 3) := by decide +kernel
theorem dL_claps_152 : decode cL_claps 152 = .ok (.aload_n 1, 1) := by decide +kernel
theorem dL_claps_153 : decode cL_claps 153 = .ok (.bipush 15, 2) := by decide +kernel
theorem dL_claps_155 : decode cL_claps 155 = .ok (.iconst 1, 1) := by decide +kernel
theorem dL_claps_156 : decode cL_claps 156 = .ok (.iastore, 1) := by decide +kernel
theorem dL_claps_157 : decode cL_claps 157 = .ok (.aload_n 1, 1) := by decide +kernel
theorem dL_claps_158 : decode cL_claps 158 = .ok (.bipush 16, 2) := by decide +kernel
theorem dL_claps_160 : decode cL_claps 160 = .ok (.iaload, 1) := by decide +kernel
theorem dL_claps_161 : decode cL_claps 161 = .ok (.bipush 8, 2) := by decide +kernel
theorem dL_claps_163 : decode cL_claps 163 = .ok (.if_icmp .ne 16, 3) := by decide +kernel
theorem dL_claps_166 : decode cL_claps 166 = .ok (.aload_n 1, 1) := by decide +kernel
theorem dL_claps_167 : decode cL_claps 167 = .ok (.bipush 14, 2) := by decide +kernel
theorem dL_claps_169 : decode cL_claps 169 = .ok (.iaload, 1) := by decide +kernel
theorem dL_claps_170 : decode cL_claps 170 = .ok (.aload_n 1, 1) := by decide +kernel
theorem dL_claps_171 : decode cL_claps 171 = .ok (.aload 6, 2) := by decide +kernel
theorem dL_claps_173 : decode cL_claps 173 = .ok (.invokestatic 10, 3) := by decide +kernel
theorem dL_claps_176 : decode cL_claps 176 = .ok (.goto 39, 3) := by decide +kernel
theorem dL_claps_179 : decode cL_claps 179 = .ok (.aload 7, 2) := by decide +kernel
theorem dL_claps_181 : decode cL_claps 181 = .ok (.iconst 2, 1) := by decide +kernel
theorem dL_claps_182 : decode cL_claps 182 = .ok (.aload_n 1, 1) := by decide +kernel
theorem dL_claps_183 : decode cL_claps 183 = .ok (.bipush 16, 2) := by decide +kernel
theorem dL_claps_185 : decode cL_claps 185 = .ok (.iaload, 1) := by decide +kernel
theorem dL_claps_186 : decode cL_claps 186 = .ok (.imul, 1) := by decide +kernel
theorem dL_claps_187 : decode cL_claps 187 = .ok (.aload_n 1, 1) := by decide +kernel
theorem dL_claps_188 : decode cL_claps 188 = .ok (.bipush 14, 2) := by decide +kernel
theorem dL_claps_190 : decode cL_claps 190 = .ok (.iaload, 1) := by decide +kernel
theorem dL_claps_191 : decode cL_claps 191 = .ok (.iastore, 1) := by decide +kernel
theorem dL_claps_192 : decode cL_claps 192 = .ok (.aload 7, 2) := by decide +kernel
theorem dL_claps_194 : decode cL_claps 194 = .ok (.iconst 2, 1) := by decide +kernel
theorem dL_claps_195 : decode cL_claps 195 = .ok (.aload_n 1, 1) := by decide +kernel
theorem dL_claps_196 : decode cL_claps 196 = .ok (.bipush 16, 2) := by decide +kernel
theorem dL_claps_198 : decode cL_claps 198 = .ok (.iaload, 1) := by decide +kernel
theorem dL_claps_199 : decode cL_claps 199 = .ok (.imul, 1) := by decide +kernel
theorem dL_claps_200 : decode cL_claps 200 = .ok (.iconst 1, 1) := by decide +kernel
theorem dL_claps_201 : decode cL_claps 201 = .ok (.iadd, 1) := by decide +kernel
theorem dL_claps_202 : decode cL_claps 202 = .ok (.aload_n 1, 1) := by decide +kernel
theorem dL_claps_203 : decode cL_claps 203 = .ok (.bipush 7, 2) := by decide +kernel
theorem dL_claps_205 : decode cL_claps 205 = .ok (.iaload, 1) := by decide +kernel
theorem dL_claps_206 : decode cL_claps 206 = .ok (.iastore, 1) := by decide +kernel
theorem dL_claps_207 : decode cL_claps 207 = .ok (.aload_n 1, 1) := by decide +kernel
theorem dL_claps_208 : decode cL_claps 208 = .ok (.bipush 16, 2) := by decide +kernel
theorem dL_claps_210 : decode cL_claps 210 = .ok (.dup2, 1) := by decide +kernel
theorem dL_claps_211 : decode cL_claps 211 = .ok (.iaload, 1) := by decide +kernel
theorem dL_claps_212 : decode cL_claps 212 = .ok (.iconst 1, 1) := by decide +kernel
theorem dL_claps_213 : decode cL_claps 213 = .ok (.iadd, 1) := by decide +kernel
theorem dL_claps_214 : decode cL_claps 214 = .ok (.iastore, 1) := by decide +kernel
theorem dL_claps_215 : decode cL_claps 215 = .ok (.aload_n 1, 1) := by decide +kernel
theorem dL_claps_216 : decode cL_claps 216 = .ok (.bipush 6, 2) := by decide +kernel
theorem dL_claps_218 : decode cL_claps 218 = .ok (.iaload, 1) := by decide +kernel
theorem dL_claps_219 : decode cL_claps 219 = .ok (.ireturn, 1) := by decide +kernel
theorem dL_less_0 : decode cL_less 0 = .ok (.iload_n 0, 1) := by decide +kernel
theorem dL_less_1 : decode cL_less 1 = .ok (.aload_n 1, 1) := by decide +kernel
theorem dL_less_2 : decode cL_less 2 = .ok (.iconst 0, 1) := by decide +kernel
theorem dL_less_3 : decode cL_less 3 = .ok (.iaload, 1) := by decide +kernel
theorem dL_less_4 : decode cL_less 4 = .ok (.imul, 1) := by decide +kernel
theorem dL_less_5 : decode cL_less 5 = .ok (.bipush 100, 2) := by decide +kernel
theorem dL_less_7 : decode cL_less 7 = .ok (.idiv, 1) := by decide +kernel
theorem dL_less_8 : decode cL_less 8 = .ok (.istore_n 2, 1) := by decide +kernel
theorem dL_less_9 : decode cL_less 9 = .ok (.iload_n 2, 1) := by decide +kernel
theorem dL_less_10 : decode cL_less 10 = .ok (.ifCond .le 9, 3) := by decide +kernel
theorem dL_less_13 : decode cL_less 13 = .ok (.iload_n 0, 1) := by decide +kernel
theorem dL_less_14 : decode cL_less 14 = .ok (.iload_n 2, 1) := by decide +kernel
theorem dL_less_15 : decode cL_less 15 = .ok (.isub, 1) := by decide +kernel
theorem dL_less_16 : decode cL_less 16 = .ok (.goto 14, 3) := by decide +kernel
theorem dL_less_19 : decode cL_less 19 = .ok (.iload_n 0, 1) := by decide +kernel
theorem dL_less_20 : decode cL_less 20 = .ok (.ifCond .le 9, 3) := by decide +kernel
theorem dL_less_23 : decode cL_less 23 = .ok (.iload_n 0, 1) := by decide +kernel
theorem dL_less_24 : decode cL_less 24 = .ok (.iconst 1, 1) := by decide +kernel
theorem dL_less_25 : decode cL_less 25 = .ok (.isub, 1) := by decide +kernel
theorem dL_less_26 : decode cL_less 26 = .ok (.goto 4, 3) := by decide +kernel
theorem dL_less_29 : decode cL_less 29 = .ok (.iconst 0, 1) := by decide +kernel
theorem dL_less_30 : decode cL_less 30 = .ok (.ireturn, 1) := by decide +kernel
set_option maxRecDepth 20000 in
theorem ggL_second_L_less : GoodIn wsL_second wsL_less := goodIn_r _ [4] (by decide +kernel) (by decide +kernel)
set_option maxRecDepth 20000 in
theorem gL_second_L_less : GoodIn wsL_second (va_wsS RL 16 yL_less wsL_less) := goodIn_app (goodIn_of _ (by decide +kernel)) ggL_second_L_less
set_option maxRecDepth 20000 in
theorem ggL_second_L_lapses : GoodIn wsL_second wsL_lapses := goodIn_r _ [7] (by decide +kernel) (by decide +kernel)
set_option maxRecDepth 20000 in
theorem gL_second_L_lapses : GoodIn wsL_second (va_wsS RL 10 yL_lapses wsL_lapses) := goodIn_app (goodIn_of _ (by decide +kernel)) ggL_second_L_lapses
set_option maxRecDepth 20000 in
theorem ggL_second_L_drops : GoodIn wsL_second wsL_drops := goodIn_r _ [10] (by decide +kernel) (by decide +kernel)
set_option maxRecDepth 20000 in
theorem gL_second_L_drops : GoodIn wsL_second (va_wsS RL 20 yL_drops wsL_drops) := goodIn_app (goodIn_of _ (by decide +kernel)) ggL_second_L_drops
theorem dL_second_0 : decode cL_second 0 = .ok (.aload_n 0, 1) := by decide +kernel
theorem dL_second_1 : decode cL_second 1 = .ok (.bipush 6, 2) := by decide +kernel
theorem dL_second_3 : decode cL_second 3 = .ok (.aload_n 0, 1) := by decide +kernel
theorem dL_second_4 : decode cL_second 4 = .ok (.bipush 6, 2) := by decide +kernel
theorem dL_second_6 : decode cL_second 6 = .ok (.iaload, 1) := by decide +kernel
theorem dL_second_7 : decode cL_second 7 = .ok (.aload_n 0, 1) := by decide +kernel
theorem dL_second_8 : decode cL_second 8 = .ok (.invokestatic 16, 3) := by decide +kernel
theorem dL_second_11 : decode cL_second 11 = .ok (.iastore, 1) := by decide +kernel
theorem dL_second_12 : decode cL_second 12 = .ok (.aload_n 0, 1) := by decide +kernel
theorem dL_second_13 : decode cL_second 13 = .ok (.bipush 7, 2) := by decide +kernel
theorem dL_second_15 : decode cL_second 15 = .ok (.dup2, 1) := by decide +kernel
theorem dL_second_16 : decode cL_second 16 = .ok (.iaload, 1) := by decide +kernel
theorem dL_second_17 : decode cL_second 17 = .ok (.iconst 1, 1) := by decide +kernel
theorem dL_second_18 : decode cL_second 18 = .ok (.iadd, 1) := by decide +kernel
theorem dL_second_19 : decode cL_second 19 = .ok (.iastore, 1) := by decide +kernel
theorem dL_second_20 : decode cL_second 20 = .ok (.iconst 0, 1) := by decide +kernel
theorem dL_second_21 : decode cL_second 21 = .ok (.istore_n 3, 1) := by decide +kernel
theorem dL_second_22 : decode cL_second 22 = .ok (.iload_n 3, 1) := by decide +kernel
theorem dL_second_23 : decode cL_second 23 = .ok (.aload_n 0, 1) := by decide +kernel
theorem dL_second_24 : decode cL_second 24 = .ok (.bipush 16, 2) := by decide +kernel
theorem dL_second_26 : decode cL_second 26 = .ok (.iaload, 1) := by decide +kernel
theorem dL_second_27 : decode cL_second 27 = .ok (.if_icmp .ge 46, 3) := by decide +kernel
theorem dL_second_30 : decode cL_second 30 = .ok (.aload_n 0, 1) := by decide +kernel
theorem dL_second_31 : decode cL_second 31 = .ok (.bipush 7, 2) := by decide +kernel
theorem dL_second_33 : decode cL_second 33 = .ok (.iaload, 1) := by decide +kernel
theorem dL_second_34 : decode cL_second 34 = .ok (.aload_n 2, 1) := by decide +kernel
theorem dL_second_35 : decode cL_second 35 = .ok (.iconst 2, 1) := by decide +kernel
theorem dL_second_36 : decode cL_second 36 = .ok (.iload_n 3, 1) := by decide +kernel
theorem dL_second_37 : decode cL_second 37 = .ok (.imul, 1) := by decide +kernel
theorem dL_second_38 : decode cL_second 38 = .ok (.iconst 1, 1) := by decide +kernel
theorem dL_second_39 : decode cL_second 39 = .ok (.iadd, 1) := by decide +kernel
theorem dL_second_40 : decode cL_second 40 = .ok (.iaload, 1) := by decide +kernel
theorem dL_second_41 : decode cL_second 41 = .ok (.isub, 1) := by decide +kernel
theorem dL_second_42 : decode cL_second 42 = .ok (.aload_n 0, 1) := by decide +kernel
theorem dL_second_43 : decode cL_second 43 = .ok (.iconst 2, 1) := by decide +kernel
theorem dL_second_44 : decode cL_second 44 = .ok (.iaload, 1) := by decide +kernel
theorem dL_second_45 : decode cL_second 45 = .ok (.if_icmp .lt 22, 3) := by decide +kernel
theorem dL_second_48 : decode cL_second 48 = .ok (.aload_n 2, 1) := by decide +kernel
theorem dL_second_49 : decode cL_second 49 = .ok (.iconst 2, 1) := by decide +kernel
theorem dL_second_50 : decode cL_second 50 = .ok (.iload_n 3, 1) := by decide +kernel
theorem dL_second_51 : decode cL_second 51 = .ok (.imul, 1) := by decide +kernel
theorem dL_second_52 : decode cL_second 52 = .ok (.iaload, 1) := by decide +kernel
theorem dL_second_53 : decode cL_second 53 = .ok (.aload_n 0, 1) := by decide +kernel
theorem dL_second_54 : decode cL_second 54 = .ok (.aload_n 1, 1) := by decide +kernel
theorem dL_second_55 : decode cL_second 55 = .ok (.invokestatic 10, 3) := by decide +kernel
theorem dL_second_58 : decode cL_second 58 = .ok (.iload_n 3, 1) := by decide +kernel
theorem dL_second_59 : decode cL_second 59 = .ok (.aload_n 0, 1) := by decide +kernel
theorem dL_second_60 : decode cL_second 60 = .ok (.aload_n 2, 1) := by decide +kernel
theorem dL_second_61 : decode cL_second 61 = .ok (.invokestatic 20, 3) := by decide +kernel
theorem dL_second_64 : decode cL_second 64 = .ok (.goto (-42), 3) := by decide +kernel
theorem dL_second_67 : decode cL_second 67 = .ok (.iinc 3 1, 3) := by decide +kernel
theorem dL_second_70 : decode cL_second 70 = .ok (.goto (-48), 3) := by decide +kernel
theorem dL_second_73 : decode cL_second 73 = .ok (.return_, 1) := by decide +kernel
theorem dL_owes_0 : decode cL_owes 0 = .ok (.iconst 0, 1) := by decide +kernel
theorem dL_owes_1 : decode cL_owes 1 = .ok (.istore_n 3, 1) := by decide +kernel
theorem dL_owes_2 : decode cL_owes 2 = .ok (.iconst 0, 1) := by decide +kernel
theorem dL_owes_3 : decode cL_owes 3 = .ok (.istore 4, 2) := by decide +kernel
theorem dL_owes_5 : decode cL_owes 5 = .ok (.iload 4, 2) := by decide +kernel
theorem dL_owes_7 : decode cL_owes 7 = .ok (.aload_n 1, 1) := by decide +kernel
theorem dL_owes_8 : decode cL_owes 8 = .ok (.bipush 16, 2) := by decide +kernel
theorem dL_owes_10 : decode cL_owes 10 = .ok (.iaload, 1) := by decide +kernel
theorem dL_owes_11 : decode cL_owes 11 = .ok (.if_icmp .ge 27, 3) := by decide +kernel
theorem dL_owes_14 : decode cL_owes 14 = .ok (.iload_n 3, 1) := by decide +kernel
theorem dL_owes_15 : decode cL_owes 15 = .ok (.aload_n 2, 1) := by decide +kernel
theorem dL_owes_16 : decode cL_owes 16 = .ok (.iconst 2, 1) := by decide +kernel
theorem dL_owes_17 : decode cL_owes 17 = .ok (.iload 4, 2) := by decide +kernel
theorem dL_owes_19 : decode cL_owes 19 = .ok (.imul, 1) := by decide +kernel
theorem dL_owes_20 : decode cL_owes 20 = .ok (.iaload, 1) := by decide +kernel
theorem dL_owes_21 : decode cL_owes 21 = .ok (.iload_n 0, 1) := by decide +kernel
theorem dL_owes_22 : decode cL_owes 22 = .ok (.if_icmp .ne 7, 3) := by decide +kernel
theorem dL_owes_25 : decode cL_owes 25 = .ok (.iconst 1, 1) := by decide +kernel
theorem dL_owes_26 : decode cL_owes 26 = .ok (.goto 4, 3) := by decide +kernel
theorem dL_owes_29 : decode cL_owes 29 = .ok (.iconst 0, 1) := by decide +kernel
theorem dL_owes_30 : decode cL_owes 30 = .ok (.iadd, 1) := by decide +kernel
theorem dL_owes_31 : decode cL_owes 31 = .ok (.istore_n 3, 1) := by decide +kernel
theorem dL_owes_32 : decode cL_owes 32 = .ok (.iinc 4 1, 3) := by decide +kernel
theorem dL_owes_35 : decode cL_owes 35 = .ok (.goto (-30), 3) := by decide +kernel
theorem dL_owes_38 : decode cL_owes 38 = .ok (.iload_n 3, 1) := by decide +kernel
theorem dL_owes_39 : decode cL_owes 39 = .ok (.ireturn, 1) := by decide +kernel
theorem dL_earliest_0 : decode cL_earliest 0 = .ok (.iconst (-1), 1) := by decide +kernel
theorem dL_earliest_1 : decode cL_earliest 1 = .ok (.istore_n 3, 1) := by decide +kernel
theorem dL_earliest_2 : decode cL_earliest 2 = .ok (.aload_n 1, 1) := by decide +kernel
theorem dL_earliest_3 : decode cL_earliest 3 = .ok (.bipush 16, 2) := by decide +kernel
theorem dL_earliest_5 : decode cL_earliest 5 = .ok (.iaload, 1) := by decide +kernel
theorem dL_earliest_6 : decode cL_earliest 6 = .ok (.iconst 1, 1) := by decide +kernel
theorem dL_earliest_7 : decode cL_earliest 7 = .ok (.isub, 1) := by decide +kernel
theorem dL_earliest_8 : decode cL_earliest 8 = .ok (.istore 4, 2) := by decide +kernel
theorem dL_earliest_10 : decode cL_earliest 10 = .ok (.iload 4, 2) := by decide +kernel
theorem dL_earliest_12 : decode cL_earliest 12 = .ok (.ifCond .lt 26, 3) := by decide +kernel
theorem dL_earliest_15 : decode cL_earliest 15 = .ok (.aload_n 2, 1) := by decide +kernel
theorem dL_earliest_16 : decode cL_earliest 16 = .ok (.iconst 2, 1) := by decide +kernel
theorem dL_earliest_17 : decode cL_earliest 17 = .ok (.iload 4, 2) := by decide +kernel
theorem dL_earliest_19 : decode cL_earliest 19 = .ok (.imul, 1) := by decide +kernel
theorem dL_earliest_20 : decode cL_earliest 20 = .ok (.iaload, 1) := by decide +kernel
theorem dL_earliest_21 : decode cL_earliest 21 = .ok (.iload_n 0, 1) := by decide +kernel
theorem dL_earliest_22 : decode cL_earliest 22 = .ok (.if_icmp .ne 8, 3) := by decide +kernel
theorem dL_earliest_25 : decode cL_earliest 25 = .ok (.iload 4, 2) := by decide +kernel
theorem dL_earliest_27 : decode cL_earliest 27 = .ok (.goto 4, 3) := by decide +kernel
theorem dL_earliest_30 : decode cL_earliest 30 = .ok (.iload_n 3, 1) := by decide +kernel
theorem dL_earliest_31 : decode cL_earliest 31 = .ok (.istore_n 3, 1) := by decide +kernel
theorem dL_earliest_32 : decode cL_earliest 32 = .ok (.iinc 4 (-1), 3) := by decide +kernel
theorem dL_earliest_35 : decode cL_earliest 35 = .ok (.goto (-25), 3) := by decide +kernel
theorem dL_earliest_38 : decode cL_earliest 38 = .ok (.iload_n 3, 1) := by decide +kernel
theorem dL_earliest_39 : decode cL_earliest 39 = .ok (.ireturn, 1) := by decide +kernel
set_option maxRecDepth 20000 in
theorem ggL_plays_L_earliest : GoodIn wsL_plays wsL_earliest := goodIn_r _ [4] (by decide +kernel) (by decide +kernel)
set_option maxRecDepth 20000 in
theorem gL_plays_L_earliest : GoodIn wsL_plays (va_wsS RL 23 yL_earliest wsL_earliest) := goodIn_app (goodIn_of _ (by decide +kernel)) ggL_plays_L_earliest
set_option maxRecDepth 20000 in
theorem ggL_plays_L_drops : GoodIn wsL_plays wsL_drops := goodIn_r _ [7] (by decide +kernel) (by decide +kernel)
set_option maxRecDepth 20000 in
theorem gL_plays_L_drops : GoodIn wsL_plays (va_wsS RL 20 yL_drops wsL_drops) := goodIn_app (goodIn_of _ (by decide +kernel)) ggL_plays_L_drops
set_option maxRecDepth 20000 in
theorem ggL_plays_L_ends : GoodIn wsL_plays wsL_ends := goodIn_r _ [10] (by decide +kernel) (by decide +kernel)
set_option maxRecDepth 20000 in
theorem gL_plays_L_ends : GoodIn wsL_plays (va_wsS RL 27 yL_ends wsL_ends) := goodIn_app (goodIn_of _ (by decide +kernel)) ggL_plays_L_ends
set_option maxRecDepth 20000 in
theorem ggL_plays_L_owes : GoodIn wsL_plays wsL_owes := goodIn_r _ [13] (by decide +kernel) (by decide +kernel)
set_option maxRecDepth 20000 in
theorem gL_plays_L_owes : GoodIn wsL_plays (va_wsS RL 31 yL_owes wsL_owes) := goodIn_app (goodIn_of _ (by decide +kernel)) ggL_plays_L_owes
theorem dL_plays_0 : decode cL_plays 0 = .ok (.iload_n 0, 1) := by decide +kernel
theorem dL_plays_1 : decode cL_plays 1 = .ok (.aload_n 1, 1) := by decide +kernel
theorem dL_plays_2 : decode cL_plays 2 = .ok (.aload 4, 2) := by decide +kernel
theorem dL_plays_4 : decode cL_plays 4 = .ok (.invokestatic 23, 3) := by decide +kernel
theorem dL_plays_7 : decode cL_plays 7 = .ok (.istore 5, 2) := by decide +kernel
theorem dL_plays_9 : decode cL_plays 9 = .ok (.iload 5, 2) := by decide +kernel
theorem dL_plays_11 : decode cL_plays 11 = .ok (.ifCond .ge 6, 3) := by decide +kernel
theorem dL_plays_14 : decode cL_plays 14 = .ok (.bipush (-5), 2) := by decide +kernel
theorem dL_plays_16 : decode cL_plays 16 = .ok (.ireturn, 1) := by decide +kernel
theorem dL_plays_17 : decode cL_plays 17 = .ok (.iload 5, 2) := by decide +kernel
theorem dL_plays_19 : decode cL_plays 19 = .ok (.aload_n 1, 1) := by decide +kernel
theorem dL_plays_20 : decode cL_plays 20 = .ok (.aload 4, 2) := by decide +kernel
theorem dL_plays_22 : decode cL_plays 22 = .ok (.invokestatic 20, 3) := by decide +kernel
theorem dL_plays_25 : decode cL_plays 25 = .ok (.aload_n 3, 1) := by decide +kernel
theorem dL_plays_26 : decode cL_plays 26 = .ok (.iconst 3, 1) := by decide +kernel
theorem dL_plays_27 : decode cL_plays 27 = .ok (.iload_n 0, 1) := by decide +kernel
theorem dL_plays_28 : decode cL_plays 28 = .ok (.imul, 1) := by decide +kernel
theorem dL_plays_29 : decode cL_plays 29 = .ok (.dup2, 1) := by decide +kernel
theorem dL_plays_30 : decode cL_plays 30 = .ok (.iaload, 1) := by decide +kernel
theorem dL_plays_31 : decode cL_plays 31 = .ok (.iconst 1, 1) := by decide +kernel
theorem dL_plays_32 : decode cL_plays 32 = .ok (.iadd, 1) := by decide +kernel
theorem dL_plays_33 : decode cL_plays 33 = .ok (.iastore, 1) := by decide +kernel
theorem dL_plays_34 : decode cL_plays 34 = .ok (.aload_n 1, 1) := by decide +kernel
theorem dL_plays_35 : decode cL_plays 35 = .ok (.bipush 10, 2) := by decide +kernel
theorem dL_plays_37 : decode cL_plays 37 = .ok (.dup2, 1) := by decide +kernel
theorem dL_plays_38 : decode cL_plays 38 = .ok (.iaload, 1) := by decide +kernel
theorem dL_plays_39 : decode cL_plays 39 = .ok (.iconst 1, 1) := by decide +kernel
theorem dL_plays_40 : decode cL_plays 40 = .ok (.iadd, 1) := by decide +kernel
theorem dL_plays_41 : decode cL_plays 41 = .ok (.iastore, 1) := by decide +kernel
theorem dL_plays_42 : decode cL_plays 42 = .ok (.iload_n 0, 1) := by decide +kernel
theorem dL_plays_43 : decode cL_plays 43 = .ok (.aload_n 1, 1) := by decide +kernel
theorem dL_plays_44 : decode cL_plays 44 = .ok (.aload_n 2, 1) := by decide +kernel
theorem dL_plays_45 : decode cL_plays 45 = .ok (.aload_n 3, 1) := by decide +kernel
theorem dL_plays_46 : decode cL_plays 46 = .ok (.invokestatic 27, 3) := by decide +kernel
theorem dL_plays_49 : decode cL_plays 49 = .ok (.istore 6, 2) := by decide +kernel
theorem dL_plays_51 : decode cL_plays 51 = .ok (.iload 6, 2) := by decide +kernel
theorem dL_plays_53 : decode cL_plays 53 = .ok (.ifCond .ge 8, 3) := by decide +kernel
theorem dL_plays_56 : decode cL_plays 56 = .ok (.iload 6, 2) := by decide +kernel
theorem dL_plays_58 : decode cL_plays 58 = .ok (.goto 10, 3) := by decide +kernel
theorem dL_plays_61 : decode cL_plays 61 = .ok (.iload_n 0, 1) := by decide +kernel
theorem dL_plays_62 : decode cL_plays 62 = .ok (.aload_n 1, 1) := by decide +kernel
theorem dL_plays_63 : decode cL_plays 63 = .ok (.aload 4, 2) := by decide +kernel
theorem dL_plays_65 : decode cL_plays 65 = .ok (.invokestatic 31, 3) := by decide +kernel
theorem dL_plays_68 : decode cL_plays 68 = .ok (.ireturn, 1) := by decide +kernel
set_option maxRecDepth 20000 in
theorem ggL_nights_L_lapses : GoodIn wsL_nights wsL_lapses := goodIn_r _ [4] (by decide +kernel) (by decide +kernel)
set_option maxRecDepth 20000 in
theorem gL_nights_L_lapses : GoodIn wsL_nights (va_wsS RL 10 yL_lapses wsL_lapses) := goodIn_app (goodIn_of _ (by decide +kernel)) ggL_nights_L_lapses
theorem dL_nights_0 : decode cL_nights 0 = .ok (.aload_n 0, 1) := by decide +kernel
theorem dL_nights_1 : decode cL_nights 1 = .ok (.bipush 16, 2) := by decide +kernel
theorem dL_nights_3 : decode cL_nights 3 = .ok (.iaload, 1) := by decide +kernel
theorem dL_nights_4 : decode cL_nights 4 = .ok (.istore 6, 2) := by decide +kernel
theorem dL_nights_6 : decode cL_nights 6 = .ok (.iconst 0, 1) := by decide +kernel
theorem dL_nights_7 : decode cL_nights 7 = .ok (.istore 7, 2) := by decide +kernel
theorem dL_nights_9 : decode cL_nights 9 = .ok (.iload 7, 2) := by decide +kernel
theorem dL_nights_11 : decode cL_nights 11 = .ok (.iload 6, 2) := by decide +kernel
theorem dL_nights_13 : decode cL_nights 13 = .ok (.if_icmp .ge 21, 3) := by decide +kernel
theorem dL_nights_16 : decode cL_nights 16 = .ok (.aload 4, 2) := by decide +kernel
theorem dL_nights_18 : decode cL_nights 18 = .ok (.iconst 2, 1) := by decide +kernel
theorem dL_nights_19 : decode cL_nights 19 = .ok (.iload 7, 2) := by decide +kernel
theorem dL_nights_21 : decode cL_nights 21 = .ok (.imul, 1) := by decide +kernel
theorem dL_nights_22 : decode cL_nights 22 = .ok (.iaload, 1) := by decide +kernel
theorem dL_nights_23 : decode cL_nights 23 = .ok (.aload_n 0, 1) := by decide +kernel
theorem dL_nights_24 : decode cL_nights 24 = .ok (.aload_n 3, 1) := by decide +kernel
theorem dL_nights_25 : decode cL_nights 25 = .ok (.invokestatic 10, 3) := by decide +kernel
theorem dL_nights_28 : decode cL_nights 28 = .ok (.iinc 7 1, 3) := by decide +kernel
theorem dL_nights_31 : decode cL_nights 31 = .ok (.goto (-22), 3) := by decide +kernel
theorem dL_nights_34 : decode cL_nights 34 = .ok (.bipush 23, 2) := by decide +kernel
theorem dL_nights_36 : decode cL_nights 36 = .ok (.istore 7, 2) := by decide +kernel
theorem dL_nights_38 : decode cL_nights 38 = .ok (.iload 7, 2) := by decide +kernel
theorem dL_nights_40 : decode cL_nights 40 = .ok (.iconst 3, 1) := by decide +kernel
theorem dL_nights_41 : decode cL_nights 41 = .ok (.if_icmp .le 21, 3) := by decide +kernel
theorem dL_nights_44 : decode cL_nights 44 = .ok (.aload 5, 2) := by decide +kernel
theorem dL_nights_46 : decode cL_nights 46 = .ok (.iload 7, 2) := by decide +kernel
theorem dL_nights_48 : decode cL_nights 48 = .ok (.aload 5, 2) := by decide +kernel
theorem dL_nights_50 : decode cL_nights 50 = .ok (.iload 7, 2) := by decide +kernel
theorem dL_nights_52 : decode cL_nights 52 = .ok (.iconst 4, 1) := by decide +kernel
theorem dL_nights_53 : decode cL_nights 53 = .ok (.isub, 1) := by decide +kernel
theorem dL_nights_54 : decode cL_nights 54 = .ok (.iaload, 1) := by decide +kernel
theorem dL_nights_55 : decode cL_nights 55 = .ok (.iastore, 1) := by decide +kernel
theorem dL_nights_56 : decode cL_nights 56 = .ok (.iinc 7 (-1), 3) := by decide +kernel
theorem dL_nights_59 : decode cL_nights 59 = .ok (.goto (-21), 3) := by decide +kernel
theorem dL_nights_62 : decode cL_nights 62 = .ok (.iconst 0, 1) := by decide +kernel
theorem dL_nights_63 : decode cL_nights 63 = .ok (.istore 7, 2) := by decide +kernel
theorem dL_nights_65 : decode cL_nights 65 = .ok (.iload 7, 2) := by decide +kernel
theorem dL_nights_67 : decode cL_nights 67 = .ok (.iconst 4, 1) := by decide +kernel
theorem dL_nights_68 : decode cL_nights 68 = .ok (.if_icmp .ge 29, 3) := by decide +kernel
theorem dL_nights_71 : decode cL_nights 71 = .ok (.aload 5, 2) := by decide +kernel
theorem dL_nights_73 : decode cL_nights 73 = .ok (.iload 7, 2) := by decide +kernel
theorem dL_nights_75 : decode cL_nights 75 = .ok (.aload_n 0, 1) := by decide +kernel
theorem dL_nights_76 : decode cL_nights 76 = .ok (.bipush 9, 2) := by decide +kernel
theorem dL_nights_78 : decode cL_nights 78 = .ok (.iload 7, 2) := by decide +kernel
theorem dL_nights_80 : decode cL_nights 80 = .ok (.iadd, 1) := by decide +kernel
theorem dL_nights_81 : decode cL_nights 81 = .ok (.iaload, 1) := by decide +kernel
theorem dL_nights_82 : decode cL_nights 82 = .ok (.iastore, 1) := by decide +kernel
theorem dL_nights_83 : decode cL_nights 83 = .ok (.aload_n 0, 1) := by decide +kernel
theorem dL_nights_84 : decode cL_nights 84 = .ok (.bipush 9, 2) := by decide +kernel
theorem dL_nights_86 : decode cL_nights 86 = .ok (.iload 7, 2) := by decide +kernel
theorem dL_nights_88 : decode cL_nights 88 = .ok (.iadd, 1) := by decide +kernel
theorem dL_nights_89 : decode cL_nights 89 = .ok (.iconst 0, 1) := by decide +kernel
theorem dL_nights_90 : decode cL_nights 90 = .ok (.iastore, 1) := by decide +kernel
theorem dL_nights_91 : decode cL_nights 91 = .ok (.iinc 7 1, 3) := by decide +kernel
theorem dL_nights_94 : decode cL_nights 94 = .ok (.goto (-29), 3) := by decide +kernel
theorem dL_nights_97 : decode cL_nights 97 = .ok (.iconst 0, 1) := by decide +kernel
theorem dL_nights_98 : decode cL_nights 98 = .ok (.istore 7, 2) := by decide +kernel
theorem dL_nights_100 : decode cL_nights 100 = .ok (.iload 7, 2) := by decide +kernel
theorem dL_nights_102 : decode cL_nights 102 = .ok (.bipush 30, 2) := by decide +kernel
theorem dL_nights_104 : decode cL_nights 104 = .ok (.if_icmp .ge 23, 3) := by decide +kernel
theorem dL_nights_107 : decode cL_nights 107 = .ok (.aload_n 2, 1) := by decide +kernel
theorem dL_nights_108 : decode cL_nights 108 = .ok (.iload 7, 2) := by decide +kernel
theorem dL_nights_110 : decode cL_nights 110 = .ok (.iconst 0, 1) := by decide +kernel
theorem dL_nights_111 : decode cL_nights 111 = .ok (.iastore, 1) := by decide +kernel
theorem dL_nights_112 : decode cL_nights 112 = .ok (.aload_n 1, 1) := by decide +kernel
theorem dL_nights_113 : decode cL_nights 113 = .ok (.iload 7, 2) := by decide +kernel
theorem dL_nights_115 : decode cL_nights 115 = .ok (.dup2, 1) := by decide +kernel
theorem dL_nights_116 : decode cL_nights 116 = .ok (.iaload, 1) := by decide +kernel
theorem dL_nights_117 : decode cL_nights 117 = .ok (.bipush 31, 2) := by decide +kernel
theorem dL_nights_119 : decode cL_nights 119 = .ok (.iand, 1) := by decide +kernel
theorem dL_nights_120 : decode cL_nights 120 = .ok (.iastore, 1) := by decide +kernel
theorem dL_nights_121 : decode cL_nights 121 = .ok (.iinc 7 1, 3) := by decide +kernel
theorem dL_nights_124 : decode cL_nights 124 = .ok (.goto (-24), 3) := by decide +kernel
theorem dL_nights_127 : decode cL_nights 127 = .ok (.aload_n 0, 1) := by decide +kernel
theorem dL_nights_128 : decode cL_nights 128 = .ok (.bipush 6, 2) := by decide +kernel
theorem dL_nights_130 : decode cL_nights 130 = .ok (.iconst 0, 1) := by decide +kernel
theorem dL_nights_131 : decode cL_nights 131 = .ok (.iastore, 1) := by decide +kernel
theorem dL_nights_132 : decode cL_nights 132 = .ok (.aload_n 0, 1) := by decide +kernel
theorem dL_nights_133 : decode cL_nights 133 = .ok (.bipush 8, 2) := by decide +kernel
theorem dL_nights_135 : decode cL_nights 135 = .ok (.dup2, 1) := by decide +kernel
theorem dL_nights_136 : decode cL_nights 136 = .ok (.iaload, 1) := by decide +kernel
theorem dL_nights_137 : decode cL_nights 137 = .ok (.iconst 1, 1) := by decide +kernel
theorem dL_nights_138 : decode cL_nights 138 = .ok (.iadd, 1) := by decide +kernel
theorem dL_nights_139 : decode cL_nights 139 = .ok (.iastore, 1) := by decide +kernel
theorem dL_nights_140 : decode cL_nights 140 = .ok (.aload_n 0, 1) := by decide +kernel
theorem dL_nights_141 : decode cL_nights 141 = .ok (.bipush 13, 2) := by decide +kernel
theorem dL_nights_143 : decode cL_nights 143 = .ok (.iconst (-1), 1) := by decide +kernel
theorem dL_nights_144 : decode cL_nights 144 = .ok (.iastore, 1) := by decide +kernel
theorem dL_nights_145 : decode cL_nights 145 = .ok (.aload_n 0, 1) := by decide +kernel
theorem dL_nights_146 : decode cL_nights 146 = .ok (.bipush 16, 2) := by decide +kernel
theorem dL_nights_148 : decode cL_nights 148 = .ok (.iconst 0, 1) := by decide +kernel
theorem dL_nights_149 : decode cL_nights 149 = .ok (.iastore, 1) := by decide +kernel
theorem dL_nights_150 : decode cL_nights 150 = .ok (.aload_n 0, 1) := by decide +kernel
theorem dL_nights_151 : decode cL_nights 151 = .ok (.bipush 17, 2) := by decide +kernel
theorem dL_nights_153 : decode cL_nights 153 = .ok (.iconst 0, 1) := by decide +kernel
theorem dL_nights_154 : decode cL_nights 154 = .ok (.iastore, 1) := by decide +kernel
theorem dL_nights_155 : decode cL_nights 155 = .ok (.aload_n 0, 1) := by decide +kernel
theorem dL_nights_156 : decode cL_nights 156 = .ok (.bipush 18, 2) := by decide +kernel
theorem dL_nights_158 : decode cL_nights 158 = .ok (.dup2, 1) := by decide +kernel
theorem dL_nights_159 : decode cL_nights 159 = .ok (.iaload, 1) := by decide +kernel
theorem dL_nights_160 : decode cL_nights 160 = .ok (.aload_n 0, 1) := by decide +kernel
theorem dL_nights_161 : decode cL_nights 161 = .ok (.bipush 18, 2) := by decide +kernel
theorem dL_nights_163 : decode cL_nights 163 = .ok (.iaload, 1) := by decide +kernel
theorem dL_nights_164 : decode cL_nights 164 = .ok (.bipush 6, 2) := by decide +kernel
theorem dL_nights_166 : decode cL_nights 166 = .ok (.if_icmp .ge 7, 3) := by decide +kernel
theorem dL_nights_169 : decode cL_nights 169 = .ok (.iconst 1, 1) := by decide +kernel
theorem dL_nights_170 : decode cL_nights 170 = .ok (.goto 4, 3) := by decide +kernel
theorem dL_nights_173 : decode cL_nights 173 = .ok (.iconst 0, 1) := by decide +kernel
theorem dL_nights_174 : decode cL_nights 174 = .ok (.iadd, 1) := by decide +kernel
theorem dL_nights_175 : decode cL_nights 175 = .ok (.iastore, 1) := by decide +kernel
theorem dL_nights_176 : decode cL_nights 176 = .ok (.iload 6, 2) := by decide +kernel
theorem dL_nights_178 : decode cL_nights 178 = .ok (.ireturn, 1) := by decide +kernel
theorem dL_seats_0 : decode cL_seats 0 = .ok (.iconst 0, 1) := by decide +kernel
theorem dL_seats_1 : decode cL_seats 1 = .ok (.istore 4, 2) := by decide +kernel
theorem dL_seats_3 : decode cL_seats 3 = .ok (.iconst 0, 1) := by decide +kernel
theorem dL_seats_4 : decode cL_seats 4 = .ok (.istore 5, 2) := by decide +kernel
theorem dL_seats_6 : decode cL_seats 6 = .ok (.iload 5, 2) := by decide +kernel
theorem dL_seats_8 : decode cL_seats 8 = .ok (.bipush 30, 2) := by decide +kernel
theorem dL_seats_10 : decode cL_seats 10 = .ok (.if_icmp .ge 48, 3) := by decide +kernel
theorem dL_seats_13 : decode cL_seats 13 = .ok (.iload 4, 2) := by decide +kernel
theorem dL_seats_15 : decode cL_seats 15 = .ok (.iload_n 0, 1) := by decide +kernel
theorem dL_seats_16 : decode cL_seats 16 = .ok (.ifCond .eq 17, 3) := by decide +kernel
theorem dL_seats_19 : decode cL_seats 19 = .ok (.aload_n 2, 1) := by decide +kernel
theorem dL_seats_20 : decode cL_seats 20 = .ok (.iload 5, 2) := by decide +kernel
theorem dL_seats_22 : decode cL_seats 22 = .ok (.iaload, 1) := by decide +kernel
theorem dL_seats_23 : decode cL_seats 23 = .ok (.iconst 4, 1) := by decide +kernel
theorem dL_seats_24 : decode cL_seats 24 = .ok (.ishr, 1) := by decide +kernel
theorem dL_seats_25 : decode cL_seats 25 = .ok (.iconst 1, 1) := by decide +kernel
theorem dL_seats_26 : decode cL_seats 26 = .ok (.iand, 1) := by decide +kernel
theorem dL_seats_27 : decode cL_seats 27 = .ok (.iload 5, 2) := by decide +kernel
theorem dL_seats_29 : decode cL_seats 29 = .ok (.ishl, 1) := by decide +kernel
theorem dL_seats_30 : decode cL_seats 30 = .ok (.goto 19, 3) := by decide +kernel
theorem dL_seats_33 : decode cL_seats 33 = .ok (.aload_n 3, 1) := by decide +kernel
theorem dL_seats_34 : decode cL_seats 34 = .ok (.iload 5, 2) := by decide +kernel
theorem dL_seats_36 : decode cL_seats 36 = .ok (.iaload, 1) := by decide +kernel
theorem dL_seats_37 : decode cL_seats 37 = .ok (.iload_n 1, 1) := by decide +kernel
theorem dL_seats_38 : decode cL_seats 38 = .ok (.if_icmp .lt 10, 3) := by decide +kernel
theorem dL_seats_41 : decode cL_seats 41 = .ok (.iconst 1, 1) := by decide +kernel
theorem dL_seats_42 : decode cL_seats 42 = .ok (.iload 5, 2) := by decide +kernel
theorem dL_seats_44 : decode cL_seats 44 = .ok (.ishl, 1) := by decide +kernel
theorem dL_seats_45 : decode cL_seats 45 = .ok (.goto 4, 3) := by decide +kernel
theorem dL_seats_48 : decode cL_seats 48 = .ok (.iconst 0, 1) := by decide +kernel
theorem dL_seats_49 : decode cL_seats 49 = .ok (.ior, 1) := by decide +kernel
theorem dL_seats_50 : decode cL_seats 50 = .ok (.istore 4, 2) := by decide +kernel
theorem dL_seats_52 : decode cL_seats 52 = .ok (.iinc 5 1, 3) := by decide +kernel
theorem dL_seats_55 : decode cL_seats 55 = .ok (.goto (-49), 3) := by decide +kernel
theorem dL_seats_58 : decode cL_seats 58 = .ok (.iload 4, 2) := by decide +kernel
theorem dL_seats_60 : decode cL_seats 60 = .ok (.ireturn, 1) := by decide +kernel
set_option maxRecDepth 20000 in
theorem ggL_call_X7_clap : GoodIn wsL_call wsX7_clap := goodIn_r _ [5, 6, 7, 8, 9, 10, 11, 12, 13, 14, 15, 16, 17, 18, 19, 20, 21, 22, 23, 24, 25, 26, 27, 28, 29, 30, 31, 32, 33, 34, 35, 36, 37, 38, 39, 40, 41, 42, 43, 44, 45, 46, 47, 48, 49, 50, 51, 52, 53, 54, 55, 56, 57, 58, 59, 60, 61, 62, 63, 64, 65, 66, 67, 68, 69, 70, 71, 72, 73, 74, 75, 76, 77, 78, 79, 80, 4, 81, 82, 83, 84, 85, 86, 87, 88, 89, 90, 91, 92, 93, 94, 95, 96, 97, 98, 99, 100, 101, 102, 103, 104, 105, 106, 107, 108, 109, 110, 111, 112, 113, 114, 115, 116, 117, 118, 119, 230, 231, 232, 233, 234, 235, 236, 237, 238, 239, 240, 241, 242, 243, 244, 245, 246, 247, 248, 249, 250, 251, 252, 253, 254, 255, 256, 257, 258, 259, 260, 261, 262, 263] (by decide +kernel) (by decide +kernel)
set_option maxRecDepth 20000 in
theorem gL_call_X7_clap : GoodIn wsL_call (wsV RL 34 RX7 yX7_clap wsX7_clap) := goodIn_app (goodIn_of _ (by decide +kernel)) ggL_call_X7_clap
set_option maxRecDepth 20000 in
theorem ggL_call_X7_ends : GoodIn wsL_call wsX7_ends := goodIn_r _ [123, 6, 7, 8, 9, 10, 11, 12, 13, 14, 15, 16, 17, 18, 19, 20, 21, 22, 23, 24, 25, 26, 27, 28, 29, 30, 31, 32, 33, 34, 35, 36, 37, 38, 39, 40, 41, 42, 43, 44, 45, 46, 47, 48, 49, 50, 51, 52, 53, 54, 55, 56, 57, 58, 59, 60, 61, 62, 63, 64, 65, 66, 67, 68, 69, 70, 71, 72, 73, 74, 124, 125, 126, 127, 128, 4, 129, 130, 131, 132, 133, 103, 95, 96, 97, 134, 135, 136, 137, 114, 115, 116, 117, 118, 119, 230, 231, 232, 233, 234, 235, 236, 237, 238, 239, 240, 241, 242, 243, 244, 245, 246, 247, 248, 249, 250, 251, 252, 253, 254, 255, 256, 257, 258, 259, 260, 261, 262, 263] (by decide +kernel) (by decide +kernel)
set_option maxRecDepth 20000 in
theorem gL_call_X7_ends : GoodIn wsL_call (wsV RL 40 RX7 yX7_ends wsX7_ends) := goodIn_app (goodIn_of _ (by decide +kernel)) ggL_call_X7_ends
set_option maxRecDepth 20000 in
theorem ggL_call_X7_pass : GoodIn wsL_call wsX7_pass := goodIn_r _ [141, 6, 7, 8, 9, 10, 11, 12, 13, 14, 15, 16, 17, 18, 19, 20, 21, 22, 23, 24, 25, 26, 27, 28, 29, 30, 31, 32, 33, 34, 35, 36, 37, 38, 39, 40, 41, 42, 43, 44, 45, 46, 47, 48, 49, 50, 51, 52, 53, 54, 55, 56, 57, 58, 59, 60, 61, 62, 63, 64, 65, 66, 67, 68, 69, 70, 71, 72, 73, 74, 142, 143, 144, 145, 146, 82, 83, 84, 85, 147, 4, 148, 149, 150, 151, 152, 153, 154, 155, 156, 112, 95, 96, 97, 113, 100, 101, 102, 103, 114, 115, 116, 117, 118, 119, 230, 231, 232, 233, 234, 235, 236, 237, 238, 239, 240, 241, 242, 243, 244, 245, 246, 247, 248, 249, 250, 251, 252, 253, 254, 255, 256, 257, 258, 259, 260, 261, 262, 263] (by decide +kernel) (by decide +kernel)
set_option maxRecDepth 20000 in
theorem gL_call_X7_pass : GoodIn wsL_call (wsV RL 42 RX7 yX7_pass wsX7_pass) := goodIn_app (goodIn_of _ (by decide +kernel)) ggL_call_X7_pass
set_option maxRecDepth 20000 in
theorem ggL_call_X7_play : GoodIn wsL_call wsX7_play := goodIn_r _ [160, 6, 7, 8, 9, 10, 11, 12, 13, 14, 15, 16, 17, 18, 19, 20, 21, 22, 23, 24, 25, 26, 27, 28, 29, 30, 31, 32, 33, 34, 35, 36, 37, 38, 39, 40, 41, 42, 43, 44, 45, 46, 47, 48, 49, 50, 51, 52, 53, 54, 55, 56, 57, 58, 59, 60, 61, 62, 63, 64, 65, 66, 67, 68, 69, 70, 71, 72, 73, 74, 161, 162, 163, 164, 128, 4, 129, 165, 166, 167, 168, 169, 170, 171, 172, 156, 83, 84, 85, 113, 100, 101, 102, 112, 95, 96, 97, 103, 130, 131, 132, 133, 134, 135, 136, 137, 173, 174, 175, 176, 114, 115, 116, 117, 118, 119, 230, 231, 232, 233, 234, 235, 236, 237, 238, 239, 240, 241, 242, 243, 244, 245, 246, 247, 248, 249, 250, 251, 252, 253, 254, 255, 256, 257, 258, 259, 260, 261, 262, 263] (by decide +kernel) (by decide +kernel)
set_option maxRecDepth 20000 in
theorem gL_call_X7_play : GoodIn wsL_call (wsV RL 45 RX7 yX7_play wsX7_play) := goodIn_app (goodIn_of _ (by decide +kernel)) ggL_call_X7_play
set_option maxRecDepth 20000 in
theorem ggL_call_X7_call : GoodIn wsL_call wsX7_call := goodIn_r _ [180, 6, 7, 8, 9, 10, 11, 12, 13, 14, 15, 16, 17, 18, 19, 20, 21, 22, 23, 24, 25, 26, 27, 28, 29, 30, 31, 32, 33, 34, 35, 36, 37, 38, 39, 40, 41, 42, 43, 44, 45, 46, 47, 48, 49, 50, 51, 52, 53, 54, 55, 56, 57, 58, 59, 60, 61, 62, 63, 64, 65, 66, 67, 68, 69, 70, 71, 72, 73, 74, 181, 182, 183, 184, 82, 83, 84, 85, 103, 95, 96, 97, 114, 115, 116, 117, 118, 119, 230, 231, 232, 233, 234, 235, 236, 237, 238, 239, 240, 241, 242, 243, 244, 245, 246, 247, 248, 249, 250, 251, 252, 253, 254, 255, 256, 257, 258, 259, 260, 261, 262, 263] (by decide +kernel) (by decide +kernel)
set_option maxRecDepth 20000 in
theorem gL_call_X7_call : GoodIn wsL_call (wsV RL 48 RX7 yX7_call wsX7_call) := goodIn_app (goodIn_of _ (by decide +kernel)) ggL_call_X7_call
set_option maxRecDepth 20000 in
theorem ggL_call_X7_night : GoodIn wsL_call wsX7_night := goodIn_r _ [188, 6, 7, 8, 9, 10, 11, 12, 13, 14, 15, 16, 17, 18, 19, 20, 21, 22, 23, 24, 25, 26, 27, 28, 29, 30, 31, 32, 33, 34, 35, 36, 37, 38, 39, 40, 41, 42, 43, 44, 45, 46, 47, 48, 49, 50, 51, 52, 53, 54, 55, 56, 57, 58, 59, 60, 61, 62, 63, 64, 65, 66, 67, 68, 69, 70, 71, 72, 73, 74, 189, 190, 191, 192, 152, 153, 154, 155, 156, 83, 84, 85, 112, 95, 96, 97, 113, 100, 101, 102, 103, 193, 194, 195, 82, 196, 197, 198, 199, 200, 201, 202, 203, 204, 205, 114, 115, 116, 117, 118, 119, 230, 231, 232, 233, 234, 235, 236, 237, 238, 239, 240, 241, 242, 243, 244, 245, 246, 247, 248, 249, 250, 251, 252, 253, 254, 255, 256, 257, 258, 259, 260, 261, 262, 263] (by decide +kernel) (by decide +kernel)
set_option maxRecDepth 20000 in
theorem gL_call_X7_night : GoodIn wsL_call (wsV RL 52 RX7 yX7_night wsX7_night) := goodIn_app (goodIn_of _ (by decide +kernel)) ggL_call_X7_night
set_option maxRecDepth 20000 in
theorem ggL_call_X7_loud : GoodIn wsL_call wsX7_loud := goodIn_r _ [209, 6, 7, 8, 9, 10, 11, 12, 13, 14, 15, 16, 17, 18, 19, 20, 21, 22, 23, 24, 25, 26, 27, 28, 29, 30, 31, 32, 33, 34, 35, 36, 37, 38, 39, 40, 41, 42, 43, 44, 45, 46, 47, 48, 49, 50, 51, 52, 53, 54, 55, 56, 57, 58, 59, 60, 61, 62, 63, 64, 65, 66, 67, 68, 69, 70, 71, 72, 73, 74, 210, 211, 212, 213, 80, 4, 81, 82, 83, 84, 85, 196, 100, 101, 102, 114, 115, 116, 117, 118, 119, 230, 231, 232, 233, 234, 235, 236, 237, 238, 239, 240, 241, 242, 243, 244, 245, 246, 247, 248, 249, 250, 251, 252, 253, 254, 255, 256, 257, 258, 259, 260, 261, 262, 263] (by decide +kernel) (by decide +kernel)
set_option maxRecDepth 20000 in
theorem gL_call_X7_loud : GoodIn wsL_call (wsV RL 55 RX7 yX7_loud wsX7_loud) := goodIn_app (goodIn_of _ (by decide +kernel)) ggL_call_X7_loud
set_option maxRecDepth 20000 in
theorem ggL_call_X7_pay : GoodIn wsL_call wsX7_pay := goodIn_r _ [217, 6, 7, 8, 9, 10, 11, 12, 13, 14, 15, 16, 17, 18, 19, 20, 21, 22, 23, 24, 25, 26, 27, 28, 29, 30, 31, 32, 33, 34, 35, 36, 37, 38, 39, 40, 41, 42, 43, 44, 45, 46, 47, 48, 49, 50, 51, 52, 53, 54, 55, 56, 57, 58, 59, 60, 61, 62, 63, 64, 65, 66, 67, 68, 69, 70, 71, 72, 73, 74, 218, 219, 220, 221, 80, 4, 81, 114, 115, 116, 117, 118, 119, 230, 231, 232, 233, 234, 235, 236, 237, 238, 239, 240, 241, 242, 243, 244, 245, 246, 247, 248, 249, 250, 251, 252, 253, 254, 255, 256, 257, 258, 259, 260, 261, 262, 263] (by decide +kernel) (by decide +kernel)
set_option maxRecDepth 20000 in
theorem gL_call_X7_pay : GoodIn wsL_call (wsV RL 59 RX7 yX7_pay wsX7_pay) := goodIn_app (goodIn_of _ (by decide +kernel)) ggL_call_X7_pay
set_option maxRecDepth 20000 in
theorem ggL_call_X7_set : GoodIn wsL_call wsX7_set := goodIn_r _ [225, 6, 7, 8, 9, 10, 11, 12, 13, 14, 15, 16, 17, 18, 19, 20, 21, 22, 23, 24, 25, 26, 27, 28, 29, 30, 31, 32, 33, 34, 35, 36, 37, 38, 39, 40, 41, 42, 43, 44, 45, 46, 47, 48, 49, 50, 51, 52, 53, 54, 55, 56, 57, 58, 59, 60, 61, 62, 63, 64, 65, 66, 67, 68, 69, 70, 71, 72, 73, 74, 226, 227, 228, 229, 82, 83, 84, 85, 196, 100, 101, 102, 114, 115, 116, 117, 118, 119, 230, 231, 232, 233, 234, 235, 236, 237, 238, 239, 240, 241, 242, 243, 244, 245, 246, 247, 248, 249, 250, 251, 252, 253, 254, 255, 256, 257, 258, 259, 260, 261, 262, 263] (by decide +kernel) (by decide +kernel)
set_option maxRecDepth 20000 in
theorem gL_call_X7_set : GoodIn wsL_call (wsV RL 62 RX7 yX7_set wsX7_set) := goodIn_app (goodIn_of _ (by decide +kernel)) ggL_call_X7_set
theorem dL_call_0 : decode cL_call 0 = .ok (.iload_n 1, 1) := by decide +kernel
theorem dL_call_1 : decode cL_call 1 = .ok (.tableswitch 94 0 7 #[47, 53, 59, 65, 71, 76, 81, 88], 47) := by decide +kernel
theorem dL_call_48 : decode cL_call 48 = .ok (.aload_n 0, 1) := by decide +kernel
theorem dL_call_49 : decode cL_call 49 = .ok (.iload_n 2, 1) := by decide +kernel
theorem dL_call_50 : decode cL_call 50 = .ok (.invokevirtual 34, 3) := by decide +kernel
theorem dL_call_53 : decode cL_call 53 = .ok (.ireturn, 1) := by decide +kernel
theorem dL_call_54 : decode cL_call 54 = .ok (.aload_n 0, 1) := by decide +kernel
theorem dL_call_55 : decode cL_call 55 = .ok (.iload_n 2, 1) := by decide +kernel
theorem dL_call_56 : decode cL_call 56 = .ok (.invokevirtual 40, 3) := by decide +kernel
theorem dL_call_59 : decode cL_call 59 = .ok (.ireturn, 1) := by decide +kernel
theorem dL_call_60 : decode cL_call 60 = .ok (.aload_n 0, 1) := by decide +kernel
theorem dL_call_61 : decode cL_call 61 = .ok (.iload_n 2, 1) := by decide +kernel
theorem dL_call_62 : decode cL_call 62 = .ok (.invokevirtual 42, 3) := by decide +kernel
theorem dL_call_65 : decode cL_call 65 = .ok (.ireturn, 1) := by decide +kernel
theorem dL_call_66 : decode cL_call 66 = .ok (.aload_n 0, 1) := by decide +kernel
theorem dL_call_67 : decode cL_call 67 = .ok (.iload_n 2, 1) := by decide +kernel
theorem dL_call_68 : decode cL_call 68 = .ok (.invokevirtual 45, 3) := by decide +kernel
theorem dL_call_71 : decode cL_call 71 = .ok (.ireturn, 1) := by decide +kernel
theorem dL_call_72 : decode cL_call 72 = .ok (.aload_n 0, 1) := by decide +kernel
theorem dL_call_73 : decode cL_call 73 = .ok (.invokevirtual 48, 3) := by decide +kernel
theorem dL_call_76 : decode cL_call 76 = .ok (.ireturn, 1) := by decide +kernel
theorem dL_call_77 : decode cL_call 77 = .ok (.aload_n 0, 1) := by decide +kernel
theorem dL_call_78 : decode cL_call 78 = .ok (.invokevirtual 52, 3) := by decide +kernel
theorem dL_call_81 : decode cL_call 81 = .ok (.ireturn, 1) := by decide +kernel
theorem dL_call_82 : decode cL_call 82 = .ok (.aload_n 0, 1) := by decide +kernel
theorem dL_call_83 : decode cL_call 83 = .ok (.iload_n 2, 1) := by decide +kernel
theorem dL_call_84 : decode cL_call 84 = .ok (.iload_n 3, 1) := by decide +kernel
theorem dL_call_85 : decode cL_call 85 = .ok (.invokevirtual 55, 3) := by decide +kernel
theorem dL_call_88 : decode cL_call 88 = .ok (.ireturn, 1) := by decide +kernel
theorem dL_call_89 : decode cL_call 89 = .ok (.aload_n 0, 1) := by decide +kernel
theorem dL_call_90 : decode cL_call 90 = .ok (.iload_n 2, 1) := by decide +kernel
theorem dL_call_91 : decode cL_call 91 = .ok (.invokevirtual 59, 3) := by decide +kernel
theorem dL_call_94 : decode cL_call 94 = .ok (.ireturn, 1) := by decide +kernel
theorem dL_call_95 : decode cL_call 95 = .ok (.aload_n 0, 1) := by decide +kernel
theorem dL_call_96 : decode cL_call 96 = .ok (.iload_n 2, 1) := by decide +kernel
theorem dL_call_97 : decode cL_call 97 = .ok (.iload_n 3, 1) := by decide +kernel
theorem dL_call_98 : decode cL_call 98 = .ok (.invokevirtual 62, 3) := by decide +kernel
theorem dL_call_101 : decode cL_call 101 = .ok (.ireturn, 1) := by decide +kernel
set_option maxRecDepth 20000 in
theorem ggL_ofRest_L_seats : GoodIn wsL_ofRest wsL_seats := goodIn_r _ [4] (by decide +kernel) (by decide +kernel)
set_option maxRecDepth 20000 in
theorem gL_ofRest_L_seats : GoodIn wsL_ofRest (va_wsS RL 65 yL_seats wsL_seats) := goodIn_app (goodIn_of _ (by decide +kernel)) ggL_ofRest_L_seats
theorem dL_ofRest_0 : decode cL_ofRest 0 = .ok (.iload_n 0, 1) := by decide +kernel
theorem dL_ofRest_1 : decode cL_ofRest 1 = .ok (.iconst 4, 1) := by decide +kernel
theorem dL_ofRest_2 : decode cL_ofRest 2 = .ok (.if_icmp .ne 37, 3) := by decide +kernel
theorem dL_ofRest_5 : decode cL_ofRest 5 = .ok (.aload_n 3, 1) := by decide +kernel
theorem dL_ofRest_6 : decode cL_ofRest 6 = .ok (.bipush 6, 2) := by decide +kernel
theorem dL_ofRest_8 : decode cL_ofRest 8 = .ok (.iaload, 1) := by decide +kernel
theorem dL_ofRest_9 : decode cL_ofRest 9 = .ok (.aload_n 3, 1) := by decide +kernel
theorem dL_ofRest_10 : decode cL_ofRest 10 = .ok (.iconst 5, 1) := by decide +kernel
theorem dL_ofRest_11 : decode cL_ofRest 11 = .ok (.iaload, 1) := by decide +kernel
theorem dL_ofRest_12 : decode cL_ofRest 12 = .ok (.if_icmp .ge 6, 3) := by decide +kernel
theorem dL_ofRest_15 : decode cL_ofRest 15 = .ok (.bipush (-5), 2) := by decide +kernel
theorem dL_ofRest_17 : decode cL_ofRest 17 = .ok (.ireturn, 1) := by decide +kernel
theorem dL_ofRest_18 : decode cL_ofRest 18 = .ok (.aload_n 3, 1) := by decide +kernel
theorem dL_ofRest_19 : decode cL_ofRest 19 = .ok (.bipush 6, 2) := by decide +kernel
theorem dL_ofRest_21 : decode cL_ofRest 21 = .ok (.dup2, 1) := by decide +kernel
theorem dL_ofRest_22 : decode cL_ofRest 22 = .ok (.iaload, 1) := by decide +kernel
theorem dL_ofRest_23 : decode cL_ofRest 23 = .ok (.iconst 2, 1) := by decide +kernel
theorem dL_ofRest_24 : decode cL_ofRest 24 = .ok (.idiv, 1) := by decide +kernel
theorem dL_ofRest_25 : decode cL_ofRest 25 = .ok (.iastore, 1) := by decide +kernel
theorem dL_ofRest_26 : decode cL_ofRest 26 = .ok (.aload_n 3, 1) := by decide +kernel
theorem dL_ofRest_27 : decode cL_ofRest 27 = .ok (.bipush 12, 2) := by decide +kernel
theorem dL_ofRest_29 : decode cL_ofRest 29 = .ok (.dup2, 1) := by decide +kernel
theorem dL_ofRest_30 : decode cL_ofRest 30 = .ok (.iaload, 1) := by decide +kernel
theorem dL_ofRest_31 : decode cL_ofRest 31 = .ok (.iconst 1, 1) := by decide +kernel
theorem dL_ofRest_32 : decode cL_ofRest 32 = .ok (.iadd, 1) := by decide +kernel
theorem dL_ofRest_33 : decode cL_ofRest 33 = .ok (.iastore, 1) := by decide +kernel
theorem dL_ofRest_34 : decode cL_ofRest 34 = .ok (.aload_n 3, 1) := by decide +kernel
theorem dL_ofRest_35 : decode cL_ofRest 35 = .ok (.bipush 6, 2) := by decide +kernel
theorem dL_ofRest_37 : decode cL_ofRest 37 = .ok (.iaload, 1) := by decide +kernel
theorem dL_ofRest_38 : decode cL_ofRest 38 = .ok (.ireturn, 1) := by decide +kernel
theorem dL_ofRest_39 : decode cL_ofRest 39 = .ok (.iload_n 0, 1) := by decide +kernel
theorem dL_ofRest_40 : decode cL_ofRest 40 = .ok (.bipush 6, 2) := by decide +kernel
theorem dL_ofRest_42 : decode cL_ofRest 42 = .ok (.if_icmp .ne 13, 3) := by decide +kernel
theorem dL_ofRest_45 : decode cL_ofRest 45 = .ok (.aload 4, 2) := by decide +kernel
theorem dL_ofRest_47 : decode cL_ofRest 47 = .ok (.iload_n 1, 1) := by decide +kernel
theorem dL_ofRest_48 : decode cL_ofRest 48 = .ok (.iaload, 1) := by decide +kernel
theorem dL_ofRest_49 : decode cL_ofRest 49 = .ok (.bipush 15, 2) := by decide +kernel
theorem dL_ofRest_51 : decode cL_ofRest 51 = .ok (.iand, 1) := by decide +kernel
theorem dL_ofRest_52 : decode cL_ofRest 52 = .ok (.goto 9, 3) := by decide +kernel
theorem dL_ofRest_55 : decode cL_ofRest 55 = .ok (.aload_n 3, 1) := by decide +kernel
theorem dL_ofRest_56 : decode cL_ofRest 56 = .ok (.iload_n 1, 1) := by decide +kernel
theorem dL_ofRest_57 : decode cL_ofRest 57 = .ok (.bipush 6, 2) := by decide +kernel
theorem dL_ofRest_59 : decode cL_ofRest 59 = .ok (.irem, 1) := by decide +kernel
theorem dL_ofRest_60 : decode cL_ofRest 60 = .ok (.iaload, 1) := by decide +kernel
theorem dL_ofRest_61 : decode cL_ofRest 61 = .ok (.istore 6, 2) := by decide +kernel
theorem dL_ofRest_63 : decode cL_ofRest 63 = .ok (.iload_n 0, 1) := by decide +kernel
theorem dL_ofRest_64 : decode cL_ofRest 64 = .ok (.bipush 6, 2) := by decide +kernel
theorem dL_ofRest_66 : decode cL_ofRest 66 = .ok (.if_icmp .ne 19, 3) := by decide +kernel
theorem dL_ofRest_69 : decode cL_ofRest 69 = .ok (.aload 4, 2) := by decide +kernel
theorem dL_ofRest_71 : decode cL_ofRest 71 = .ok (.iload_n 1, 1) := by decide +kernel
theorem dL_ofRest_72 : decode cL_ofRest 72 = .ok (.aload 4, 2) := by decide +kernel
theorem dL_ofRest_74 : decode cL_ofRest 74 = .ok (.iload_n 1, 1) := by decide +kernel
theorem dL_ofRest_75 : decode cL_ofRest 75 = .ok (.iaload, 1) := by decide +kernel
theorem dL_ofRest_76 : decode cL_ofRest 76 = .ok (.iload 6, 2) := by decide +kernel
theorem dL_ofRest_78 : decode cL_ofRest 78 = .ok (.isub, 1) := by decide +kernel
theorem dL_ofRest_79 : decode cL_ofRest 79 = .ok (.iload_n 2, 1) := by decide +kernel
theorem dL_ofRest_80 : decode cL_ofRest 80 = .ok (.iadd, 1) := by decide +kernel
theorem dL_ofRest_81 : decode cL_ofRest 81 = .ok (.iastore, 1) := by decide +kernel
theorem dL_ofRest_82 : decode cL_ofRest 82 = .ok (.iload 6, 2) := by decide +kernel
theorem dL_ofRest_84 : decode cL_ofRest 84 = .ok (.ireturn, 1) := by decide +kernel
theorem dL_ofRest_85 : decode cL_ofRest 85 = .ok (.iload_n 0, 1) := by decide +kernel
theorem dL_ofRest_86 : decode cL_ofRest 86 = .ok (.bipush 7, 2) := by decide +kernel
theorem dL_ofRest_88 : decode cL_ofRest 88 = .ok (.if_icmp .ne 22, 3) := by decide +kernel
theorem dL_ofRest_91 : decode cL_ofRest 91 = .ok (.aload 4, 2) := by decide +kernel
theorem dL_ofRest_93 : decode cL_ofRest 93 = .ok (.iload_n 1, 1) := by decide +kernel
theorem dL_ofRest_94 : decode cL_ofRest 94 = .ok (.dup2, 1) := by decide +kernel
theorem dL_ofRest_95 : decode cL_ofRest 95 = .ok (.iaload, 1) := by decide +kernel
theorem dL_ofRest_96 : decode cL_ofRest 96 = .ok (.bipush 16, 2) := by decide +kernel
theorem dL_ofRest_98 : decode cL_ofRest 98 = .ok (.ixor, 1) := by decide +kernel
theorem dL_ofRest_99 : decode cL_ofRest 99 = .ok (.iastore, 1) := by decide +kernel
theorem dL_ofRest_100 : decode cL_ofRest 100 = .ok (.iconst 1, 1) := by decide +kernel
theorem dL_ofRest_101 : decode cL_ofRest 101 = .ok (.iconst 0, 1) := by decide +kernel
theorem dL_ofRest_102 : decode cL_ofRest 102 = .ok (.aload 4, 2) := by decide +kernel
theorem dL_ofRest_104 : decode cL_ofRest 104 = .ok (.aload 5, 2) := by decide +kernel
theorem dL_ofRest_106 : decode cL_ofRest 106 = .ok (.invokestatic 65, 3) := by decide +kernel
theorem dL_ofRest_109 : decode cL_ofRest 109 = .ok (.ireturn, 1) := by decide +kernel
theorem dL_ofRest_110 : decode cL_ofRest 110 = .ok (.aload_n 3, 1) := by decide +kernel
theorem dL_ofRest_111 : decode cL_ofRest 111 = .ok (.iload_n 1, 1) := by decide +kernel
theorem dL_ofRest_112 : decode cL_ofRest 112 = .ok (.iload_n 2, 1) := by decide +kernel
theorem dL_ofRest_113 : decode cL_ofRest 113 = .ok (.iastore, 1) := by decide +kernel
theorem dL_ofRest_114 : decode cL_ofRest 114 = .ok (.iload 6, 2) := by decide +kernel
theorem dL_ofRest_116 : decode cL_ofRest 116 = .ok (.ireturn, 1) := by decide +kernel
theorem dL_sum_0 : decode cL_sum 0 = .ok (.iconst 0, 1) := by decide +kernel
theorem dL_sum_1 : decode cL_sum 1 = .ok (.istore_n 2, 1) := by decide +kernel
theorem dL_sum_2 : decode cL_sum 2 = .ok (.iload_n 0, 1) := by decide +kernel
theorem dL_sum_3 : decode cL_sum 3 = .ok (.istore_n 3, 1) := by decide +kernel
theorem dL_sum_4 : decode cL_sum 4 = .ok (.iload_n 3, 1) := by decide +kernel
theorem dL_sum_5 : decode cL_sum 5 = .ok (.bipush 18, 2) := by decide +kernel
theorem dL_sum_7 : decode cL_sum 7 = .ok (.if_icmp .ge 15, 3) := by decide +kernel
theorem dL_sum_10 : decode cL_sum 10 = .ok (.iload_n 2, 1) := by decide +kernel
theorem dL_sum_11 : decode cL_sum 11 = .ok (.aload_n 1, 1) := by decide +kernel
theorem dL_sum_12 : decode cL_sum 12 = .ok (.iload_n 3, 1) := by decide +kernel
theorem dL_sum_13 : decode cL_sum 13 = .ok (.iaload, 1) := by decide +kernel
theorem dL_sum_14 : decode cL_sum 14 = .ok (.iadd, 1) := by decide +kernel
theorem dL_sum_15 : decode cL_sum 15 = .ok (.istore_n 2, 1) := by decide +kernel
theorem dL_sum_16 : decode cL_sum 16 = .ok (.iinc 3 3, 3) := by decide +kernel
theorem dL_sum_19 : decode cL_sum 19 = .ok (.goto (-15), 3) := by decide +kernel
theorem dL_sum_22 : decode cL_sum 22 = .ok (.iload_n 2, 1) := by decide +kernel
theorem dL_sum_23 : decode cL_sum 23 = .ok (.ireturn, 1) := by decide +kernel
set_option maxRecDepth 20000 in
theorem ggL_isSeat_X7_of : GoodIn wsL_isSeat wsX7_of := goodIn_r _ [5, 6, 7, 8, 9, 10, 11, 12, 13, 14, 4, 15, 16, 17, 18, 19, 20, 21, 22, 23, 24, 25, 26, 27, 50, 51, 52, 53, 54, 55, 56, 57, 58, 59, 60, 61, 62, 63, 64, 65, 66, 67, 68, 69, 70, 71, 72, 73, 74] (by decide +kernel) (by decide +kernel)
set_option maxRecDepth 20000 in
theorem gL_isSeat_X7_of : GoodIn wsL_isSeat (wsV RL 69 RX7 yX7_of wsX7_of) := goodIn_app (goodIn_of _ (by decide +kernel)) ggL_isSeat_X7_of
set_option maxRecDepth 20000 in
theorem ggL_isSeat_X7_clapsFor : GoodIn wsL_isSeat wsX7_clapsFor := goodIn_r _ [31, 6, 32, 33, 34, 10, 35, 36, 37, 12, 13, 38, 14, 4, 15, 16, 17, 18, 19, 20, 21, 50, 51, 52, 53, 54, 55, 56, 57, 58, 59, 60, 61, 62, 63, 64, 65, 66, 67, 68, 69, 70, 71, 72, 73, 74] (by decide +kernel) (by decide +kernel)
set_option maxRecDepth 20000 in
theorem gL_isSeat_X7_clapsFor : GoodIn wsL_isSeat (wsV RL 72 RX7 yX7_clapsFor wsX7_clapsFor) := goodIn_app (goodIn_of _ (by decide +kernel)) ggL_isSeat_X7_clapsFor
set_option maxRecDepth 20000 in
theorem ggL_isSeat_X7_clapper : GoodIn wsL_isSeat wsX7_clapper := goodIn_r _ [42, 6, 43, 44, 45, 25, 46, 47, 48, 49, 17, 18, 19, 20, 21, 50, 51, 52, 53, 54, 55, 56, 57, 58, 59, 60, 61, 62, 63, 64, 65, 66, 67, 68, 69, 70, 71, 72, 73, 74] (by decide +kernel) (by decide +kernel)
set_option maxRecDepth 20000 in
theorem gL_isSeat_X7_clapper : GoodIn wsL_isSeat (wsV RL 75 RX7 yX7_clapper wsX7_clapper) := goodIn_app (goodIn_of _ (by decide +kernel)) ggL_isSeat_X7_clapper
theorem dL_isSeat_0 : decode cL_isSeat 0 = .ok (.bipush 10, 2) := by decide +kernel
theorem dL_isSeat_2 : decode cL_isSeat 2 = .ok (.aload 4, 2) := by decide +kernel
theorem dL_isSeat_4 : decode cL_isSeat 4 = .ok (.iload_n 1, 1) := by decide +kernel
theorem dL_isSeat_5 : decode cL_isSeat 5 = .ok (.iaload, 1) := by decide +kernel
theorem dL_isSeat_6 : decode cL_isSeat 6 = .ok (.bipush 15, 2) := by decide +kernel
theorem dL_isSeat_8 : decode cL_isSeat 8 = .ok (.iand, 1) := by decide +kernel
theorem dL_isSeat_9 : decode cL_isSeat 9 = .ok (.imul, 1) := by decide +kernel
theorem dL_isSeat_10 : decode cL_isSeat 10 = .ok (.istore 9, 2) := by decide +kernel
theorem dL_isSeat_12 : decode cL_isSeat 12 = .ok (.aload_n 3, 1) := by decide +kernel
theorem dL_isSeat_13 : decode cL_isSeat 13 = .ok (.iconst 1, 1) := by decide +kernel
theorem dL_isSeat_14 : decode cL_isSeat 14 = .ok (.iaload, 1) := by decide +kernel
theorem dL_isSeat_15 : decode cL_isSeat 15 = .ok (.aload_n 3, 1) := by decide +kernel
theorem dL_isSeat_16 : decode cL_isSeat 16 = .ok (.bipush 6, 2) := by decide +kernel
theorem dL_isSeat_18 : decode cL_isSeat 18 = .ok (.iaload, 1) := by decide +kernel
theorem dL_isSeat_19 : decode cL_isSeat 19 = .ok (.isub, 1) := by decide +kernel
theorem dL_isSeat_20 : decode cL_isSeat 20 = .ok (.iload 9, 2) := by decide +kernel
theorem dL_isSeat_22 : decode cL_isSeat 22 = .ok (.iadd, 1) := by decide +kernel
theorem dL_isSeat_23 : decode cL_isSeat 23 = .ok (.iconst 1, 1) := by decide +kernel
theorem dL_isSeat_24 : decode cL_isSeat 24 = .ok (.isub, 1) := by decide +kernel
theorem dL_isSeat_25 : decode cL_isSeat 25 = .ok (.iload 9, 2) := by decide +kernel
theorem dL_isSeat_27 : decode cL_isSeat 27 = .ok (.idiv, 1) := by decide +kernel
theorem dL_isSeat_28 : decode cL_isSeat 28 = .ok (.istore 10, 2) := by decide +kernel
theorem dL_isSeat_30 : decode cL_isSeat 30 = .ok (.aload_n 3, 1) := by decide +kernel
theorem dL_isSeat_31 : decode cL_isSeat 31 = .ok (.bipush 13, 2) := by decide +kernel
theorem dL_isSeat_33 : decode cL_isSeat 33 = .ok (.iaload, 1) := by decide +kernel
theorem dL_isSeat_34 : decode cL_isSeat 34 = .ok (.ifCond .lt 14, 3) := by decide +kernel
theorem dL_isSeat_37 : decode cL_isSeat 37 = .ok (.aload_n 3, 1) := by decide +kernel
theorem dL_isSeat_38 : decode cL_isSeat 38 = .ok (.bipush 15, 2) := by decide +kernel
theorem dL_isSeat_40 : decode cL_isSeat 40 = .ok (.iaload, 1) := by decide +kernel
theorem dL_isSeat_41 : decode cL_isSeat 41 = .ok (.ifCond .ne 7, 3) := by decide +kernel
theorem dL_isSeat_44 : decode cL_isSeat 44 = .ok (.iconst 1, 1) := by decide +kernel
theorem dL_isSeat_45 : decode cL_isSeat 45 = .ok (.goto 4, 3) := by decide +kernel
theorem dL_isSeat_48 : decode cL_isSeat 48 = .ok (.iconst 0, 1) := by decide +kernel
theorem dL_isSeat_49 : decode cL_isSeat 49 = .ok (.istore 11, 2) := by decide +kernel
theorem dL_isSeat_51 : decode cL_isSeat 51 = .ok (.aload_n 0, 1) := by decide +kernel
theorem dL_isSeat_52 : decode cL_isSeat 52 = .ok (.iload_n 1, 1) := by decide +kernel
theorem dL_isSeat_53 : decode cL_isSeat 53 = .ok (.iconst 0, 1) := by decide +kernel
theorem dL_isSeat_54 : decode cL_isSeat 54 = .ok (.invokevirtual 69, 3) := by decide +kernel
theorem dL_isSeat_57 : decode cL_isSeat 57 = .ok (.aload 4, 2) := by decide +kernel
theorem dL_isSeat_59 : decode cL_isSeat 59 = .ok (.iload_n 1, 1) := by decide +kernel
theorem dL_isSeat_60 : decode cL_isSeat 60 = .ok (.iaload, 1) := by decide +kernel
theorem dL_isSeat_61 : decode cL_isSeat 61 = .ok (.bipush 15, 2) := by decide +kernel
theorem dL_isSeat_63 : decode cL_isSeat 63 = .ok (.iand, 1) := by decide +kernel
theorem dL_isSeat_64 : decode cL_isSeat 64 = .ok (.if_icmp .ne 103, 3) := by decide +kernel
theorem dL_isSeat_67 : decode cL_isSeat 67 = .ok (.aload_n 0, 1) := by decide +kernel
theorem dL_isSeat_68 : decode cL_isSeat 68 = .ok (.iload_n 1, 1) := by decide +kernel
theorem dL_isSeat_69 : decode cL_isSeat 69 = .ok (.iconst 1, 1) := by decide +kernel
theorem dL_isSeat_70 : decode cL_isSeat 70 = .ok (.invokevirtual 69, 3) := by decide +kernel
theorem dL_isSeat_73 : decode cL_isSeat 73 = .ok (.aload 4, 2) := by decide +kernel
theorem dL_isSeat_75 : decode cL_isSeat 75 = .ok (.iload_n 1, 1) := by decide +kernel
theorem dL_isSeat_76 : decode cL_isSeat 76 = .ok (.iaload, 1) := by decide +kernel
theorem dL_isSeat_77 : decode cL_isSeat 77 = .ok (.iconst 4, 1) := by decide +kernel
theorem dL_isSeat_78 : decode cL_isSeat 78 = .ok (.ishr, 1) := by decide +kernel
theorem dL_isSeat_79 : decode cL_isSeat 79 = .ok (.iconst 1, 1) := by decide +kernel
theorem dL_isSeat_80 : decode cL_isSeat 80 = .ok (.iand, 1) := by decide +kernel
theorem dL_isSeat_81 : decode cL_isSeat 81 = .ok (.if_icmp .ne 86, 3) := by decide +kernel
theorem dL_isSeat_84 : decode cL_isSeat 84 = .ok (.aload_n 0, 1) := by decide +kernel
theorem dL_isSeat_85 : decode cL_isSeat 85 = .ok (.iload_n 1, 1) := by decide +kernel
theorem dL_isSeat_86 : decode cL_isSeat 86 = .ok (.iconst 2, 1) := by decide +kernel
theorem dL_isSeat_87 : decode cL_isSeat 87 = .ok (.invokevirtual 69, 3) := by decide +kernel
theorem dL_isSeat_90 : decode cL_isSeat 90 = .ok (.aload 5, 2) := by decide +kernel
theorem dL_isSeat_92 : decode cL_isSeat 92 = .ok (.iload_n 1, 1) := by decide +kernel
theorem dL_isSeat_93 : decode cL_isSeat 93 = .ok (.iaload, 1) := by decide +kernel
theorem dL_isSeat_94 : decode cL_isSeat 94 = .ok (.aload_n 3, 1) := by decide +kernel
theorem dL_isSeat_95 : decode cL_isSeat 95 = .ok (.iconst 4, 1) := by decide +kernel
theorem dL_isSeat_96 : decode cL_isSeat 96 = .ok (.iaload, 1) := by decide +kernel
theorem dL_isSeat_97 : decode cL_isSeat 97 = .ok (.if_icmp .lt 7, 3) := by decide +kernel
theorem dL_isSeat_100 : decode cL_isSeat 100 = .ok (.iconst 1, 1) := by decide +kernel
theorem dL_isSeat_101 : decode cL_isSeat 101 = .ok (.goto 4, 3) := by decide +kernel
theorem dL_isSeat_104 : decode cL_isSeat 104 = .ok (.iconst 0, 1) := by decide +kernel
theorem dL_isSeat_105 : decode cL_isSeat 105 = .ok (.if_icmp .ne 62, 3) := by decide +kernel
theorem dL_isSeat_108 : decode cL_isSeat 108 = .ok (.aload_n 0, 1) := by decide +kernel
theorem dL_isSeat_109 : decode cL_isSeat 109 = .ok (.iload_n 1, 1) := by decide +kernel
theorem dL_isSeat_110 : decode cL_isSeat 110 = .ok (.iconst 3, 1) := by decide +kernel
theorem dL_isSeat_111 : decode cL_isSeat 111 = .ok (.invokevirtual 69, 3) := by decide +kernel
theorem dL_isSeat_114 : decode cL_isSeat 114 = .ok (.aload 5, 2) := by decide +kernel
theorem dL_isSeat_116 : decode cL_isSeat 116 = .ok (.iload_n 1, 1) := by decide +kernel
theorem dL_isSeat_117 : decode cL_isSeat 117 = .ok (.iaload, 1) := by decide +kernel
theorem dL_isSeat_118 : decode cL_isSeat 118 = .ok (.if_icmp .ne 49, 3) := by decide +kernel
theorem dL_isSeat_121 : decode cL_isSeat 121 = .ok (.aload_n 0, 1) := by decide +kernel
theorem dL_isSeat_122 : decode cL_isSeat 122 = .ok (.iload_n 1, 1) := by decide +kernel
theorem dL_isSeat_123 : decode cL_isSeat 123 = .ok (.iconst 4, 1) := by decide +kernel
theorem dL_isSeat_124 : decode cL_isSeat 124 = .ok (.invokevirtual 69, 3) := by decide +kernel
theorem dL_isSeat_127 : decode cL_isSeat 127 = .ok (.aload 6, 2) := by decide +kernel
theorem dL_isSeat_129 : decode cL_isSeat 129 = .ok (.iload_n 1, 1) := by decide +kernel
theorem dL_isSeat_130 : decode cL_isSeat 130 = .ok (.iaload, 1) := by decide +kernel
theorem dL_isSeat_131 : decode cL_isSeat 131 = .ok (.if_icmp .ne 36, 3) := by decide +kernel
theorem dL_isSeat_134 : decode cL_isSeat 134 = .ok (.aload_n 0, 1) := by decide +kernel
theorem dL_isSeat_135 : decode cL_isSeat 135 = .ok (.iload_n 1, 1) := by decide +kernel
theorem dL_isSeat_136 : decode cL_isSeat 136 = .ok (.iconst 5, 1) := by decide +kernel
theorem dL_isSeat_137 : decode cL_isSeat 137 = .ok (.invokevirtual 69, 3) := by decide +kernel
theorem dL_isSeat_140 : decode cL_isSeat 140 = .ok (.aload 4, 2) := by decide +kernel
theorem dL_isSeat_142 : decode cL_isSeat 142 = .ok (.iload_n 1, 1) := by decide +kernel
theorem dL_isSeat_143 : decode cL_isSeat 143 = .ok (.iaload, 1) := by decide +kernel
theorem dL_isSeat_144 : decode cL_isSeat 144 = .ok (.iconst 5, 1) := by decide +kernel
theorem dL_isSeat_145 : decode cL_isSeat 145 = .ok (.ishr, 1) := by decide +kernel
theorem dL_isSeat_146 : decode cL_isSeat 146 = .ok (.if_icmp .ne 21, 3) := by decide +kernel
theorem dL_isSeat_149 : decode cL_isSeat 149 = .ok (.aload_n 0, 1) := by decide +kernel
theorem dL_isSeat_150 : decode cL_isSeat 150 = .ok (.iload_n 1, 1) := by decide +kernel
theorem dL_isSeat_151 : decode cL_isSeat 151 = .ok (.bipush 6, 2) := by decide +kernel
theorem dL_isSeat_153 : decode cL_isSeat 153 = .ok (.invokevirtual 69, 3) := by decide +kernel
theorem dL_isSeat_156 : decode cL_isSeat 156 = .ok (.aload 7, 2) := by decide +kernel
theorem dL_isSeat_158 : decode cL_isSeat 158 = .ok (.iload_n 1, 1) := by decide +kernel
theorem dL_isSeat_159 : decode cL_isSeat 159 = .ok (.iaload, 1) := by decide +kernel
theorem dL_isSeat_160 : decode cL_isSeat 160 = .ok (.if_icmp .ne 7, 3) := by decide +kernel
theorem dL_isSeat_163 : decode cL_isSeat 163 = .ok (.iconst 1, 1) := by decide +kernel
theorem dL_isSeat_164 : decode cL_isSeat 164 = .ok (.goto 4, 3) := by decide +kernel
theorem dL_isSeat_167 : decode cL_isSeat 167 = .ok (.iconst 0, 1) := by decide +kernel
theorem dL_isSeat_168 : decode cL_isSeat 168 = .ok (.istore 12, 2) := by decide +kernel
theorem dL_isSeat_170 : decode cL_isSeat 170 = .ok (.iload 12, 2) := by decide +kernel
theorem dL_isSeat_172 : decode cL_isSeat 172 = .ok (.ifCond .eq 61, 3) := by decide +kernel
theorem dL_isSeat_175 : decode cL_isSeat 175 = .ok (.aload_n 0, 1) := by decide +kernel
theorem dL_isSeat_176 : decode cL_isSeat 176 = .ok (.iload_n 1, 1) := by decide +kernel
theorem dL_isSeat_177 : decode cL_isSeat 177 = .ok (.invokevirtual 72, 3) := by decide +kernel
theorem dL_isSeat_180 : decode cL_isSeat 180 = .ok (.iload 11, 2) := by decide +kernel
theorem dL_isSeat_182 : decode cL_isSeat 182 = .ok (.ifCond .ne 8, 3) := by decide +kernel
theorem dL_isSeat_185 : decode cL_isSeat 185 = .ok (.bipush (-5), 2) := by decide +kernel
theorem dL_isSeat_187 : decode cL_isSeat 187 = .ok (.goto 15, 3) := by decide +kernel
theorem dL_isSeat_190 : decode cL_isSeat 190 = .ok (.iload 10, 2) := by decide +kernel
theorem dL_isSeat_192 : decode cL_isSeat 192 = .ok (.iconst 1, 1) := by decide +kernel
theorem dL_isSeat_193 : decode cL_isSeat 193 = .ok (.if_icmp .ge 7, 3) := by decide +kernel
theorem dL_isSeat_196 : decode cL_isSeat 196 = .ok (.iconst 1, 1) := by decide +kernel
theorem dL_isSeat_197 : decode cL_isSeat 197 = .ok (.goto 5, 3) := by decide +kernel
theorem dL_isSeat_200 : decode cL_isSeat 200 = .ok (.iload 10, 2) := by decide +kernel
theorem dL_isSeat_202 : decode cL_isSeat 202 = .ok (.if_icmp .ne 31, 3) := by decide +kernel
theorem dL_isSeat_205 : decode cL_isSeat 205 = .ok (.aload_n 0, 1) := by decide +kernel
theorem dL_isSeat_206 : decode cL_isSeat 206 = .ok (.iload_n 2, 1) := by decide +kernel
theorem dL_isSeat_207 : decode cL_isSeat 207 = .ok (.invokevirtual 75, 3) := by decide +kernel
theorem dL_isSeat_210 : decode cL_isSeat 210 = .ok (.iload_n 2, 1) := by decide +kernel
theorem dL_isSeat_211 : decode cL_isSeat 211 = .ok (.aload_n 3, 1) := by decide +kernel
theorem dL_isSeat_212 : decode cL_isSeat 212 = .ok (.bipush 17, 2) := by decide +kernel
theorem dL_isSeat_214 : decode cL_isSeat 214 = .ok (.iaload, 1) := by decide +kernel
theorem dL_isSeat_215 : decode cL_isSeat 215 = .ok (.if_icmp .ge 10, 3) := by decide +kernel
theorem dL_isSeat_218 : decode cL_isSeat 218 = .ok (.aload 8, 2) := by decide +kernel
theorem dL_isSeat_220 : decode cL_isSeat 220 = .ok (.iload_n 2, 1) := by decide +kernel
theorem dL_isSeat_221 : decode cL_isSeat 221 = .ok (.iaload, 1) := by decide +kernel
theorem dL_isSeat_222 : decode cL_isSeat 222 = .ok (.goto 4, 3) := by decide +kernel
theorem dL_isSeat_225 : decode cL_isSeat 225 = .ok (.iconst (-1), 1) := by decide +kernel
theorem dL_isSeat_226 : decode cL_isSeat 226 = .ok (.if_icmp .ne 7, 3) := by decide +kernel
theorem dL_isSeat_229 : decode cL_isSeat 229 = .ok (.iconst 1, 1) := by decide +kernel
theorem dL_isSeat_230 : decode cL_isSeat 230 = .ok (.goto 4, 3) := by decide +kernel
theorem dL_isSeat_233 : decode cL_isSeat 233 = .ok (.iconst 0, 1) := by decide +kernel
theorem dL_isSeat_234 : decode cL_isSeat 234 = .ok (.ireturn, 1) := by decide +kernel
set_option maxRecDepth 20000 in
theorem ggL_isSo_X7_count : GoodIn wsL_isSo wsX7_count := goodIn_r _ [5, 6, 7, 8, 9, 10, 11, 12, 13, 14, 15, 16, 17, 18, 19, 20, 21, 22, 23, 24, 25, 26, 27, 28, 29, 30, 31, 32, 33, 34, 35, 36, 37, 38, 39, 40, 41, 42, 43, 44, 45, 46, 47, 48, 49, 50, 51, 52, 53, 54, 55, 200, 201, 202, 203, 204, 205, 206, 207, 208, 209, 210, 211, 212, 213, 214, 215, 216, 217, 218, 219, 220, 221, 222, 223, 224, 225, 226, 227, 228, 229, 230, 231, 232, 233, 234, 235] (by decide +kernel) (by decide +kernel)
set_option maxRecDepth 20000 in
theorem gL_isSo_X7_count : GoodIn wsL_isSo (wsV RL 78 RX7 yX7_count wsX7_count) := goodIn_app (goodIn_of _ (by decide +kernel)) ggL_isSo_X7_count
set_option maxRecDepth 20000 in
theorem ggL_isSo_L_sum : GoodIn wsL_isSo wsL_sum := goodIn_r _ [59] (by decide +kernel) (by decide +kernel)
set_option maxRecDepth 20000 in
theorem gL_isSo_L_sum : GoodIn wsL_isSo (va_wsS RL 81 yL_sum wsL_sum) := goodIn_app (goodIn_of _ (by decide +kernel)) ggL_isSo_L_sum
set_option maxRecDepth 20000 in
theorem ggL_isSo_L_seats : GoodIn wsL_isSo wsL_seats := goodIn_r _ [62] (by decide +kernel) (by decide +kernel)
set_option maxRecDepth 20000 in
theorem gL_isSo_L_seats : GoodIn wsL_isSo (va_wsS RL 65 yL_seats wsL_seats) := goodIn_app (goodIn_of _ (by decide +kernel)) ggL_isSo_L_seats
set_option maxRecDepth 20000 in
theorem ggL_isSo_L_low : GoodIn wsL_isSo wsL_low := goodIn_r _ [65, 66] (by decide +kernel) (by decide +kernel)
set_option maxRecDepth 20000 in
theorem gL_isSo_L_low : GoodIn wsL_isSo (va_wsS RL 84 yL_low wsL_low) := goodIn_app (goodIn_of _ (by decide +kernel)) ggL_isSo_L_low
set_option maxRecDepth 20000 in
theorem ggL_isSo_L_earliest : GoodIn wsL_isSo wsL_earliest := goodIn_r _ [69] (by decide +kernel) (by decide +kernel)
set_option maxRecDepth 20000 in
theorem gL_isSo_L_earliest : GoodIn wsL_isSo (va_wsS RL 23 yL_earliest wsL_earliest) := goodIn_app (goodIn_of _ (by decide +kernel)) ggL_isSo_L_earliest
set_option maxRecDepth 20000 in
theorem ggL_isSo_X7_performer : GoodIn wsL_isSo wsX7_performer := goodIn_r _ [73, 8, 74, 75, 76, 77, 78, 79, 80, 81, 82, 4, 83, 84, 85, 86, 87, 88, 89, 90, 36, 37, 38, 39, 40, 200, 201, 202, 203, 204, 210, 211, 212, 213, 214, 215, 216, 217, 218, 219, 220, 221, 222, 223, 224, 225, 226, 235] (by decide +kernel) (by decide +kernel)
set_option maxRecDepth 20000 in
theorem gL_isSo_X7_performer : GoodIn wsL_isSo (wsV RL 87 RX7 yX7_performer wsX7_performer) := goodIn_app (goodIn_of _ (by decide +kernel)) ggL_isSo_X7_performer
set_option maxRecDepth 20000 in
theorem ggL_isSo_L_owes : GoodIn wsL_isSo wsL_owes := goodIn_r _ [93] (by decide +kernel) (by decide +kernel)
set_option maxRecDepth 20000 in
theorem gL_isSo_L_owes : GoodIn wsL_isSo (va_wsS RL 31 yL_owes wsL_owes) := goodIn_app (goodIn_of _ (by decide +kernel)) ggL_isSo_L_owes
set_option maxRecDepth 20000 in
theorem ggL_isSo_X7_lapsesIn : GoodIn wsL_isSo wsX7_lapsesIn := goodIn_r _ [97, 8, 98, 99, 100, 24, 101, 30, 27, 34, 102, 103, 104, 105, 82, 4, 83, 106, 107, 108, 77, 109, 88, 89, 90, 36, 37, 38, 39, 40, 35, 200, 201, 202, 203, 204, 210, 211, 212, 213, 214, 215, 216, 217, 218, 219, 220, 221, 222, 223, 224, 225, 226, 235] (by decide +kernel) (by decide +kernel)
set_option maxRecDepth 20000 in
theorem gL_isSo_X7_lapsesIn : GoodIn wsL_isSo (wsV RL 90 RX7 yX7_lapsesIn wsX7_lapsesIn) := goodIn_app (goodIn_of _ (by decide +kernel)) ggL_isSo_X7_lapsesIn
set_option maxRecDepth 20000 in
theorem ggL_isSo_X7_owed : GoodIn wsL_isSo wsX7_owed := goodIn_r _ [113, 8, 114, 115, 116, 77, 117, 88, 89, 118, 90, 36, 37, 38, 39, 40, 200, 201, 202, 203, 204, 210, 211, 212, 213, 214, 215, 216, 217, 218, 219, 220, 221, 222, 223, 224, 225, 226, 235] (by decide +kernel) (by decide +kernel)
set_option maxRecDepth 20000 in
theorem gL_isSo_X7_owed : GoodIn wsL_isSo (wsV RL 93 RX7 yX7_owed wsX7_owed) := goodIn_app (goodIn_of _ (by decide +kernel)) ggL_isSo_X7_owed
set_option maxRecDepth 20000 in
theorem ggL_isSo_X7_record : GoodIn wsL_isSo wsX7_record := goodIn_r _ [122, 8, 123, 124, 125, 24, 126, 28, 127, 128, 104, 129, 130, 131, 132, 133, 35, 36, 37, 38, 39, 40, 200, 201, 202, 203, 204, 210, 211, 212, 213, 214, 215, 216, 217, 218, 219, 220, 235] (by decide +kernel) (by decide +kernel)
set_option maxRecDepth 20000 in
theorem gL_isSo_X7_record : GoodIn wsL_isSo (wsV RL 96 RX7 yX7_record wsX7_record) := goodIn_app (goodIn_of _ (by decide +kernel)) ggL_isSo_X7_record
set_option maxRecDepth 20000 in
theorem ggL_isSo_X7_ifFound : GoodIn wsL_isSo wsX7_ifFound := goodIn_r _ [137, 138, 139, 8, 140, 50, 51, 52, 53, 54, 55, 36, 37, 38, 39, 40, 200, 201, 202, 203, 204, 210, 211, 212, 213, 214, 215, 216, 217, 218, 219, 220, 227, 228, 229, 230, 231, 232, 233, 234, 235] (by decide +kernel) (by decide +kernel)
set_option maxRecDepth 20000 in
theorem gL_isSo_X7_ifFound : GoodIn wsL_isSo (wsV RL 99 RX7 yX7_ifFound wsX7_ifFound) := goodIn_app (goodIn_of _ (by decide +kernel)) ggL_isSo_X7_ifFound
set_option maxRecDepth 20000 in
theorem ggL_isSo_L_less : GoodIn wsL_isSo wsL_less := goodIn_r _ [143] (by decide +kernel) (by decide +kernel)
set_option maxRecDepth 20000 in
theorem gL_isSo_L_less : GoodIn wsL_isSo (va_wsS RL 16 yL_less wsL_less) := goodIn_app (goodIn_of _ (by decide +kernel)) ggL_isSo_L_less
set_option maxRecDepth 20000 in
theorem ggL_isSo_X7_quietIn : GoodIn wsL_isSo wsX7_quietIn := goodIn_r _ [147, 8, 148, 149, 150, 24, 151, 26, 34, 35, 36, 37, 38, 39, 40, 152, 4, 153, 154, 103, 104, 105, 200, 201, 202, 203, 204, 210, 211, 212, 213, 214, 215, 216, 217, 218, 219, 220, 235] (by decide +kernel) (by decide +kernel)
set_option maxRecDepth 20000 in
theorem gL_isSo_X7_quietIn : GoodIn wsL_isSo (wsV RL 102 RX7 yX7_quietIn wsX7_quietIn) := goodIn_app (goodIn_of _ (by decide +kernel)) ggL_isSo_X7_quietIn
set_option maxRecDepth 20000 in
theorem ggL_isSo_X7_calls : GoodIn wsL_isSo wsX7_calls := goodIn_r _ [158, 8, 159, 160, 161, 24, 162, 26, 34, 35, 36, 37, 38, 39, 40, 200, 201, 202, 203, 204, 210, 211, 212, 213, 214, 215, 216, 217, 218, 219, 220, 235] (by decide +kernel) (by decide +kernel)
set_option maxRecDepth 20000 in
theorem gL_isSo_X7_calls : GoodIn wsL_isSo (wsV RL 105 RX7 yX7_calls wsX7_calls) := goodIn_app (goodIn_of _ (by decide +kernel)) ggL_isSo_X7_calls
set_option maxRecDepth 20000 in
theorem ggL_isSo_L_isSeat : GoodIn wsL_isSo wsL_isSeat := goodIn_r _ [165, 166, 167, 168, 4, 169, 8, 170, 171, 172, 24, 173, 33, 34, 174, 175, 35, 36, 37, 38, 39, 40, 176, 177, 178, 52, 179, 180, 181, 182, 183, 184, 185, 186, 187, 188, 31, 189, 26, 190, 191, 192, 193, 194, 195, 196, 197, 198, 199, 55, 200, 201, 202, 203, 204, 210, 211, 212, 213, 214, 215, 216, 217, 218, 219, 220, 227, 228, 229, 230, 231, 232, 233, 234, 235] (by decide +kernel) (by decide +kernel)
set_option maxRecDepth 20000 in
theorem gL_isSo_L_isSeat : GoodIn wsL_isSo (va_wsS RL 108 yL_isSeat wsL_isSeat) := goodIn_app (goodIn_of _ (by decide +kernel)) ggL_isSo_L_isSeat
theorem dL_isSo_0 : decode cL_isSo 0 = .ok (.aload_n 2, 1) := by decide +kernel
theorem dL_isSo_1 : decode cL_isSo 1 = .ok (.bipush 13, 2) := by decide +kernel
theorem dL_isSo_3 : decode cL_isSo 3 = .ok (.iaload, 1) := by decide +kernel
theorem dL_isSo_4 : decode cL_isSo 4 = .ok (.ifCond .lt 7, 3) := by decide +kernel
theorem dL_isSo_7 : decode cL_isSo 7 = .ok (.iconst 1, 1) := by decide +kernel
theorem dL_isSo_8 : decode cL_isSo 8 = .ok (.goto 4, 3) := by decide +kernel
theorem dL_isSo_11 : decode cL_isSo 11 = .ok (.iconst 0, 1) := by decide +kernel
theorem dL_isSo_12 : decode cL_isSo 12 = .ok (.istore 11, 2) := by decide +kernel
theorem dL_isSo_14 : decode cL_isSo 14 = .ok (.aload_n 0, 1) := by decide +kernel
theorem dL_isSo_15 : decode cL_isSo 15 = .ok (.iconst 4, 1) := by decide +kernel
theorem dL_isSo_16 : decode cL_isSo 16 = .ok (.invokevirtual 78, 3) := by decide +kernel
theorem dL_isSo_19 : decode cL_isSo 19 = .ok (.aload_n 2, 1) := by decide +kernel
theorem dL_isSo_20 : decode cL_isSo 20 = .ok (.bipush 16, 2) := by decide +kernel
theorem dL_isSo_22 : decode cL_isSo 22 = .ok (.iaload, 1) := by decide +kernel
theorem dL_isSo_23 : decode cL_isSo 23 = .ok (.if_icmp .ne 164, 3) := by decide +kernel
theorem dL_isSo_26 : decode cL_isSo 26 = .ok (.aload_n 0, 1) := by decide +kernel
theorem dL_isSo_27 : decode cL_isSo 27 = .ok (.iconst 5, 1) := by decide +kernel
theorem dL_isSo_28 : decode cL_isSo 28 = .ok (.invokevirtual 78, 3) := by decide +kernel
theorem dL_isSo_31 : decode cL_isSo 31 = .ok (.iconst 0, 1) := by decide +kernel
theorem dL_isSo_32 : decode cL_isSo 32 = .ok (.aload 7, 2) := by decide +kernel
theorem dL_isSo_34 : decode cL_isSo 34 = .ok (.invokestatic 81, 3) := by decide +kernel
theorem dL_isSo_37 : decode cL_isSo 37 = .ok (.if_icmp .ne 150, 3) := by decide +kernel
theorem dL_isSo_40 : decode cL_isSo 40 = .ok (.aload_n 0, 1) := by decide +kernel
theorem dL_isSo_41 : decode cL_isSo 41 = .ok (.bipush 6, 2) := by decide +kernel
theorem dL_isSo_43 : decode cL_isSo 43 = .ok (.invokevirtual 78, 3) := by decide +kernel
theorem dL_isSo_46 : decode cL_isSo 46 = .ok (.iconst 1, 1) := by decide +kernel
theorem dL_isSo_47 : decode cL_isSo 47 = .ok (.aload 7, 2) := by decide +kernel
theorem dL_isSo_49 : decode cL_isSo 49 = .ok (.invokestatic 81, 3) := by decide +kernel
theorem dL_isSo_52 : decode cL_isSo 52 = .ok (.if_icmp .ne 135, 3) := by decide +kernel
theorem dL_isSo_55 : decode cL_isSo 55 = .ok (.aload_n 0, 1) := by decide +kernel
theorem dL_isSo_56 : decode cL_isSo 56 = .ok (.bipush 7, 2) := by decide +kernel
theorem dL_isSo_58 : decode cL_isSo 58 = .ok (.invokevirtual 78, 3) := by decide +kernel
theorem dL_isSo_61 : decode cL_isSo 61 = .ok (.aload_n 2, 1) := by decide +kernel
theorem dL_isSo_62 : decode cL_isSo 62 = .ok (.bipush 12, 2) := by decide +kernel
theorem dL_isSo_64 : decode cL_isSo 64 = .ok (.iaload, 1) := by decide +kernel
theorem dL_isSo_65 : decode cL_isSo 65 = .ok (.if_icmp .ne 122, 3) := by decide +kernel
theorem dL_isSo_68 : decode cL_isSo 68 = .ok (.aload_n 0, 1) := by decide +kernel
theorem dL_isSo_69 : decode cL_isSo 69 = .ok (.bipush 8, 2) := by decide +kernel
theorem dL_isSo_71 : decode cL_isSo 71 = .ok (.invokevirtual 78, 3) := by decide +kernel
theorem dL_isSo_74 : decode cL_isSo 74 = .ok (.iload 11, 2) := by decide +kernel
theorem dL_isSo_76 : decode cL_isSo 76 = .ok (.ifCond .eq 15, 3) := by decide +kernel
theorem dL_isSo_79 : decode cL_isSo 79 = .ok (.aload_n 2, 1) := by decide +kernel
theorem dL_isSo_80 : decode cL_isSo 80 = .ok (.bipush 7, 2) := by decide +kernel
theorem dL_isSo_82 : decode cL_isSo 82 = .ok (.iaload, 1) := by decide +kernel
theorem dL_isSo_83 : decode cL_isSo 83 = .ok (.aload_n 2, 1) := by decide +kernel
theorem dL_isSo_84 : decode cL_isSo 84 = .ok (.bipush 13, 2) := by decide +kernel
theorem dL_isSo_86 : decode cL_isSo 86 = .ok (.iaload, 1) := by decide +kernel
theorem dL_isSo_87 : decode cL_isSo 87 = .ok (.isub, 1) := by decide +kernel
theorem dL_isSo_88 : decode cL_isSo 88 = .ok (.goto 5, 3) := by decide +kernel
theorem dL_isSo_91 : decode cL_isSo 91 = .ok (.bipush (-6), 2) := by decide +kernel
theorem dL_isSo_93 : decode cL_isSo 93 = .ok (.if_icmp .ne 94, 3) := by decide +kernel
theorem dL_isSo_96 : decode cL_isSo 96 = .ok (.aload_n 0, 1) := by decide +kernel
theorem dL_isSo_97 : decode cL_isSo 97 = .ok (.bipush 9, 2) := by decide +kernel
theorem dL_isSo_99 : decode cL_isSo 99 = .ok (.invokevirtual 78, 3) := by decide +kernel
theorem dL_isSo_102 : decode cL_isSo 102 = .ok (.iload 11, 2) := by decide +kernel
theorem dL_isSo_104 : decode cL_isSo 104 = .ok (.ifCond .eq 10, 3) := by decide +kernel
theorem dL_isSo_107 : decode cL_isSo 107 = .ok (.aload_n 2, 1) := by decide +kernel
theorem dL_isSo_108 : decode cL_isSo 108 = .ok (.bipush 14, 2) := by decide +kernel
theorem dL_isSo_110 : decode cL_isSo 110 = .ok (.iaload, 1) := by decide +kernel
theorem dL_isSo_111 : decode cL_isSo 111 = .ok (.goto 5, 3) := by decide +kernel
theorem dL_isSo_114 : decode cL_isSo 114 = .ok (.bipush (-6), 2) := by decide +kernel
theorem dL_isSo_116 : decode cL_isSo 116 = .ok (.if_icmp .ne 71, 3) := by decide +kernel
theorem dL_isSo_119 : decode cL_isSo 119 = .ok (.aload_n 0, 1) := by decide +kernel
theorem dL_isSo_120 : decode cL_isSo 120 = .ok (.bipush 10, 2) := by decide +kernel
theorem dL_isSo_122 : decode cL_isSo 122 = .ok (.invokevirtual 78, 3) := by decide +kernel
theorem dL_isSo_125 : decode cL_isSo 125 = .ok (.iconst 1, 1) := by decide +kernel
theorem dL_isSo_126 : decode cL_isSo 126 = .ok (.iconst 0, 1) := by decide +kernel
theorem dL_isSo_127 : decode cL_isSo 127 = .ok (.aload_n 3, 1) := by decide +kernel
theorem dL_isSo_128 : decode cL_isSo 128 = .ok (.aload 4, 2) := by decide +kernel
theorem dL_isSo_130 : decode cL_isSo 130 = .ok (.invokestatic 65, 3) := by decide +kernel
theorem dL_isSo_133 : decode cL_isSo 133 = .ok (.if_icmp .ne 54, 3) := by decide +kernel
theorem dL_isSo_136 : decode cL_isSo 136 = .ok (.aload_n 0, 1) := by decide +kernel
theorem dL_isSo_137 : decode cL_isSo 137 = .ok (.bipush 11, 2) := by decide +kernel
theorem dL_isSo_139 : decode cL_isSo 139 = .ok (.invokevirtual 78, 3) := by decide +kernel
theorem dL_isSo_142 : decode cL_isSo 142 = .ok (.iconst 0, 1) := by decide +kernel
theorem dL_isSo_143 : decode cL_isSo 143 = .ok (.aload_n 2, 1) := by decide +kernel
theorem dL_isSo_144 : decode cL_isSo 144 = .ok (.iconst 4, 1) := by decide +kernel
theorem dL_isSo_145 : decode cL_isSo 145 = .ok (.iaload, 1) := by decide +kernel
theorem dL_isSo_146 : decode cL_isSo 146 = .ok (.aload_n 3, 1) := by decide +kernel
theorem dL_isSo_147 : decode cL_isSo 147 = .ok (.aload 4, 2) := by decide +kernel
theorem dL_isSo_149 : decode cL_isSo 149 = .ok (.invokestatic 65, 3) := by decide +kernel
theorem dL_isSo_152 : decode cL_isSo 152 = .ok (.if_icmp .ne 35, 3) := by decide +kernel
theorem dL_isSo_155 : decode cL_isSo 155 = .ok (.aload_n 0, 1) := by decide +kernel
theorem dL_isSo_156 : decode cL_isSo 156 = .ok (.bipush 12, 2) := by decide +kernel
theorem dL_isSo_158 : decode cL_isSo 158 = .ok (.invokevirtual 78, 3) := by decide +kernel
theorem dL_isSo_161 : decode cL_isSo 161 = .ok (.iconst 1, 1) := by decide +kernel
theorem dL_isSo_162 : decode cL_isSo 162 = .ok (.iconst 0, 1) := by decide +kernel
theorem dL_isSo_163 : decode cL_isSo 163 = .ok (.aload_n 3, 1) := by decide +kernel
theorem dL_isSo_164 : decode cL_isSo 164 = .ok (.aload 4, 2) := by decide +kernel
theorem dL_isSo_166 : decode cL_isSo 166 = .ok (.invokestatic 65, 3) := by decide +kernel
theorem dL_isSo_169 : decode cL_isSo 169 = .ok (.iconst 0, 1) := by decide +kernel
theorem dL_isSo_170 : decode cL_isSo 170 = .ok (.aload_n 2, 1) := by decide +kernel
theorem dL_isSo_171 : decode cL_isSo 171 = .ok (.iconst 4, 1) := by decide +kernel
theorem dL_isSo_172 : decode cL_isSo 172 = .ok (.iaload, 1) := by decide +kernel
theorem dL_isSo_173 : decode cL_isSo 173 = .ok (.aload_n 3, 1) := by decide +kernel
theorem dL_isSo_174 : decode cL_isSo 174 = .ok (.aload 4, 2) := by decide +kernel
theorem dL_isSo_176 : decode cL_isSo 176 = .ok (.invokestatic 65, 3) := by decide +kernel
theorem dL_isSo_179 : decode cL_isSo 179 = .ok (.iand, 1) := by decide +kernel
theorem dL_isSo_180 : decode cL_isSo 180 = .ok (.if_icmp .ne 7, 3) := by decide +kernel
theorem dL_isSo_183 : decode cL_isSo 183 = .ok (.iconst 1, 1) := by decide +kernel
theorem dL_isSo_184 : decode cL_isSo 184 = .ok (.goto 4, 3) := by decide +kernel
theorem dL_isSo_187 : decode cL_isSo 187 = .ok (.iconst 0, 1) := by decide +kernel
theorem dL_isSo_188 : decode cL_isSo 188 = .ok (.istore 12, 2) := by decide +kernel
theorem dL_isSo_190 : decode cL_isSo 190 = .ok (.iconst 0, 1) := by decide +kernel
theorem dL_isSo_191 : decode cL_isSo 191 = .ok (.istore 13, 2) := by decide +kernel
theorem dL_isSo_193 : decode cL_isSo 193 = .ok (.iload 13, 2) := by decide +kernel
theorem dL_isSo_195 : decode cL_isSo 195 = .ok (.iconst 4, 1) := by decide +kernel
theorem dL_isSo_196 : decode cL_isSo 196 = .ok (.if_icmp .ge 37, 3) := by decide +kernel
theorem dL_isSo_199 : decode cL_isSo 199 = .ok (.iload 12, 2) := by decide +kernel
theorem dL_isSo_201 : decode cL_isSo 201 = .ok (.ifCond .eq 23, 3) := by decide +kernel
theorem dL_isSo_204 : decode cL_isSo 204 = .ok (.aload_n 0, 1) := by decide +kernel
theorem dL_isSo_205 : decode cL_isSo 205 = .ok (.iload 13, 2) := by decide +kernel
theorem dL_isSo_207 : decode cL_isSo 207 = .ok (.invokevirtual 78, 3) := by decide +kernel
theorem dL_isSo_210 : decode cL_isSo 210 = .ok (.aload_n 2, 1) := by decide +kernel
theorem dL_isSo_211 : decode cL_isSo 211 = .ok (.bipush 6, 2) := by decide +kernel
theorem dL_isSo_213 : decode cL_isSo 213 = .ok (.iload 13, 2) := by decide +kernel
theorem dL_isSo_215 : decode cL_isSo 215 = .ok (.iadd, 1) := by decide +kernel
theorem dL_isSo_216 : decode cL_isSo 216 = .ok (.iaload, 1) := by decide +kernel
theorem dL_isSo_217 : decode cL_isSo 217 = .ok (.if_icmp .ne 7, 3) := by decide +kernel
theorem dL_isSo_220 : decode cL_isSo 220 = .ok (.iconst 1, 1) := by decide +kernel
theorem dL_isSo_221 : decode cL_isSo 221 = .ok (.goto 4, 3) := by decide +kernel
theorem dL_isSo_224 : decode cL_isSo 224 = .ok (.iconst 0, 1) := by decide +kernel
theorem dL_isSo_225 : decode cL_isSo 225 = .ok (.istore 12, 2) := by decide +kernel
theorem dL_isSo_227 : decode cL_isSo 227 = .ok (.iinc 13 1, 3) := by decide +kernel
theorem dL_isSo_230 : decode cL_isSo 230 = .ok (.goto (-37), 3) := by decide +kernel
theorem dL_isSo_233 : decode cL_isSo 233 = .ok (.iconst 0, 1) := by decide +kernel
theorem dL_isSo_234 : decode cL_isSo 234 = .ok (.istore 13, 2) := by decide +kernel
theorem dL_isSo_236 : decode cL_isSo 236 = .ok (.iload 13, 2) := by decide +kernel
theorem dL_isSo_238 : decode cL_isSo 238 = .ok (.bipush 6, 2) := by decide +kernel
theorem dL_isSo_240 : decode cL_isSo 240 = .ok (.if_icmp .ge 37, 3) := by decide +kernel
theorem dL_isSo_243 : decode cL_isSo 243 = .ok (.iload 12, 2) := by decide +kernel
theorem dL_isSo_245 : decode cL_isSo 245 = .ok (.ifCond .eq 23, 3) := by decide +kernel
theorem dL_isSo_248 : decode cL_isSo 248 = .ok (.aload_n 0, 1) := by decide +kernel
theorem dL_isSo_249 : decode cL_isSo 249 = .ok (.bipush 13, 2) := by decide +kernel
theorem dL_isSo_251 : decode cL_isSo 251 = .ok (.iload 13, 2) := by decide +kernel
theorem dL_isSo_253 : decode cL_isSo 253 = .ok (.iadd, 1) := by decide +kernel
theorem dL_isSo_254 : decode cL_isSo 254 = .ok (.invokevirtual 78, 3) := by decide +kernel
theorem dL_isSo_257 : decode cL_isSo 257 = .ok (.aload_n 2, 1) := by decide +kernel
theorem dL_isSo_258 : decode cL_isSo 258 = .ok (.iload 13, 2) := by decide +kernel
theorem dL_isSo_260 : decode cL_isSo 260 = .ok (.iaload, 1) := by decide +kernel
theorem dL_isSo_261 : decode cL_isSo 261 = .ok (.if_icmp .ne 7, 3) := by decide +kernel
theorem dL_isSo_264 : decode cL_isSo 264 = .ok (.iconst 1, 1) := by decide +kernel
theorem dL_isSo_265 : decode cL_isSo 265 = .ok (.goto 4, 3) := by decide +kernel
theorem dL_isSo_268 : decode cL_isSo 268 = .ok (.iconst 0, 1) := by decide +kernel
theorem dL_isSo_269 : decode cL_isSo 269 = .ok (.istore 12, 2) := by decide +kernel
theorem dL_isSo_271 : decode cL_isSo 271 = .ok (.iinc 13 1, 3) := by decide +kernel
theorem dL_isSo_274 : decode cL_isSo 274 = .ok (.goto (-38), 3) := by decide +kernel
theorem dL_isSo_277 : decode cL_isSo 277 = .ok (.iload_n 1, 1) := by decide +kernel
theorem dL_isSo_278 : decode cL_isSo 278 = .ok (.bipush 6, 2) := by decide +kernel
theorem dL_isSo_280 : decode cL_isSo 280 = .ok (.invokestatic 84, 3) := by decide +kernel
theorem dL_isSo_283 : decode cL_isSo 283 = .ok (.istore 13, 2) := by decide +kernel
theorem dL_isSo_285 : decode cL_isSo 285 = .ok (.iload_n 1, 1) := by decide +kernel
theorem dL_isSo_286 : decode cL_isSo 286 = .ok (.iconst 3, 1) := by decide +kernel
theorem dL_isSo_287 : decode cL_isSo 287 = .ok (.ishr, 1) := by decide +kernel
theorem dL_isSo_288 : decode cL_isSo 288 = .ok (.bipush 9, 2) := by decide +kernel
theorem dL_isSo_290 : decode cL_isSo 290 = .ok (.invokestatic 84, 3) := by decide +kernel
theorem dL_isSo_293 : decode cL_isSo 293 = .ok (.istore 14, 2) := by decide +kernel
theorem dL_isSo_295 : decode cL_isSo 295 = .ok (.iload 13, 2) := by decide +kernel
theorem dL_isSo_297 : decode cL_isSo 297 = .ok (.aload_n 2, 1) := by decide +kernel
theorem dL_isSo_298 : decode cL_isSo 298 = .ok (.aload 8, 2) := by decide +kernel
theorem dL_isSo_300 : decode cL_isSo 300 = .ok (.invokestatic 23, 3) := by decide +kernel
theorem dL_isSo_303 : decode cL_isSo 303 = .ok (.istore 15, 2) := by decide +kernel
theorem dL_isSo_305 : decode cL_isSo 305 = .ok (.iload 15, 2) := by decide +kernel
theorem dL_isSo_307 : decode cL_isSo 307 = .ok (.ifCond .ge 8, 3) := by decide +kernel
theorem dL_isSo_310 : decode cL_isSo 310 = .ok (.bipush (-6), 2) := by decide +kernel
theorem dL_isSo_312 : decode cL_isSo 312 = .ok (.goto 21, 3) := by decide +kernel
theorem dL_isSo_315 : decode cL_isSo 315 = .ok (.aload_n 2, 1) := by decide +kernel
theorem dL_isSo_316 : decode cL_isSo 316 = .ok (.iconst 2, 1) := by decide +kernel
theorem dL_isSo_317 : decode cL_isSo 317 = .ok (.iaload, 1) := by decide +kernel
theorem dL_isSo_318 : decode cL_isSo 318 = .ok (.aload_n 2, 1) := by decide +kernel
theorem dL_isSo_319 : decode cL_isSo 319 = .ok (.bipush 7, 2) := by decide +kernel
theorem dL_isSo_321 : decode cL_isSo 321 = .ok (.iaload, 1) := by decide +kernel
theorem dL_isSo_322 : decode cL_isSo 322 = .ok (.isub, 1) := by decide +kernel
theorem dL_isSo_323 : decode cL_isSo 323 = .ok (.aload 8, 2) := by decide +kernel
theorem dL_isSo_325 : decode cL_isSo 325 = .ok (.iconst 2, 1) := by decide +kernel
theorem dL_isSo_326 : decode cL_isSo 326 = .ok (.iload 15, 2) := by decide +kernel
theorem dL_isSo_328 : decode cL_isSo 328 = .ok (.imul, 1) := by decide +kernel
theorem dL_isSo_329 : decode cL_isSo 329 = .ok (.iconst 1, 1) := by decide +kernel
theorem dL_isSo_330 : decode cL_isSo 330 = .ok (.iadd, 1) := by decide +kernel
theorem dL_isSo_331 : decode cL_isSo 331 = .ok (.iaload, 1) := by decide +kernel
theorem dL_isSo_332 : decode cL_isSo 332 = .ok (.iadd, 1) := by decide +kernel
theorem dL_isSo_333 : decode cL_isSo 333 = .ok (.istore 16, 2) := by decide +kernel
theorem dL_isSo_335 : decode cL_isSo 335 = .ok (.iload 12, 2) := by decide +kernel
theorem dL_isSo_337 : decode cL_isSo 337 = .ok (.ifCond .eq 111, 3) := by decide +kernel
theorem dL_isSo_340 : decode cL_isSo 340 = .ok (.aload_n 0, 1) := by decide +kernel
theorem dL_isSo_341 : decode cL_isSo 341 = .ok (.iload 13, 2) := by decide +kernel
theorem dL_isSo_343 : decode cL_isSo 343 = .ok (.iconst 0, 1) := by decide +kernel
theorem dL_isSo_344 : decode cL_isSo 344 = .ok (.invokevirtual 87, 3) := by decide +kernel
theorem dL_isSo_347 : decode cL_isSo 347 = .ok (.iload 13, 2) := by decide +kernel
theorem dL_isSo_349 : decode cL_isSo 349 = .ok (.aload_n 2, 1) := by decide +kernel
theorem dL_isSo_350 : decode cL_isSo 350 = .ok (.aload 8, 2) := by decide +kernel
theorem dL_isSo_352 : decode cL_isSo 352 = .ok (.invokestatic 31, 3) := by decide +kernel
theorem dL_isSo_355 : decode cL_isSo 355 = .ok (.if_icmp .ne 93, 3) := by decide +kernel
theorem dL_isSo_358 : decode cL_isSo 358 = .ok (.aload_n 0, 1) := by decide +kernel
theorem dL_isSo_359 : decode cL_isSo 359 = .ok (.iload 13, 2) := by decide +kernel
theorem dL_isSo_361 : decode cL_isSo 361 = .ok (.iconst 1, 1) := by decide +kernel
theorem dL_isSo_362 : decode cL_isSo 362 = .ok (.invokevirtual 87, 3) := by decide +kernel
theorem dL_isSo_365 : decode cL_isSo 365 = .ok (.aload 7, 2) := by decide +kernel
theorem dL_isSo_367 : decode cL_isSo 367 = .ok (.iconst 3, 1) := by decide +kernel
theorem dL_isSo_368 : decode cL_isSo 368 = .ok (.iload 13, 2) := by decide +kernel
theorem dL_isSo_370 : decode cL_isSo 370 = .ok (.imul, 1) := by decide +kernel
theorem dL_isSo_371 : decode cL_isSo 371 = .ok (.iaload, 1) := by decide +kernel
theorem dL_isSo_372 : decode cL_isSo 372 = .ok (.if_icmp .ne 76, 3) := by decide +kernel
theorem dL_isSo_375 : decode cL_isSo 375 = .ok (.aload_n 0, 1) := by decide +kernel
theorem dL_isSo_376 : decode cL_isSo 376 = .ok (.iload 13, 2) := by decide +kernel
theorem dL_isSo_378 : decode cL_isSo 378 = .ok (.iconst 2, 1) := by decide +kernel
theorem dL_isSo_379 : decode cL_isSo 379 = .ok (.invokevirtual 87, 3) := by decide +kernel
theorem dL_isSo_382 : decode cL_isSo 382 = .ok (.aload 7, 2) := by decide +kernel
theorem dL_isSo_384 : decode cL_isSo 384 = .ok (.iconst 3, 1) := by decide +kernel
theorem dL_isSo_385 : decode cL_isSo 385 = .ok (.iload 13, 2) := by decide +kernel
theorem dL_isSo_387 : decode cL_isSo 387 = .ok (.imul, 1) := by decide +kernel
theorem dL_isSo_388 : decode cL_isSo 388 = .ok (.iconst 1, 1) := by decide +kernel
theorem dL_isSo_389 : decode cL_isSo 389 = .ok (.iadd, 1) := by decide +kernel
theorem dL_isSo_390 : decode cL_isSo 390 = .ok (.iaload, 1) := by decide +kernel
theorem dL_isSo_391 : decode cL_isSo 391 = .ok (.if_icmp .ne 57, 3) := by decide +kernel
theorem dL_isSo_394 : decode cL_isSo 394 = .ok (.aload_n 0, 1) := by decide +kernel
theorem dL_isSo_395 : decode cL_isSo 395 = .ok (.iload 13, 2) := by decide +kernel
theorem dL_isSo_397 : decode cL_isSo 397 = .ok (.iconst 3, 1) := by decide +kernel
theorem dL_isSo_398 : decode cL_isSo 398 = .ok (.invokevirtual 87, 3) := by decide +kernel
theorem dL_isSo_401 : decode cL_isSo 401 = .ok (.aload 7, 2) := by decide +kernel
theorem dL_isSo_403 : decode cL_isSo 403 = .ok (.iconst 3, 1) := by decide +kernel
theorem dL_isSo_404 : decode cL_isSo 404 = .ok (.iload 13, 2) := by decide +kernel
theorem dL_isSo_406 : decode cL_isSo 406 = .ok (.imul, 1) := by decide +kernel
theorem dL_isSo_407 : decode cL_isSo 407 = .ok (.iconst 2, 1) := by decide +kernel
theorem dL_isSo_408 : decode cL_isSo 408 = .ok (.iadd, 1) := by decide +kernel
theorem dL_isSo_409 : decode cL_isSo 409 = .ok (.iaload, 1) := by decide +kernel
theorem dL_isSo_410 : decode cL_isSo 410 = .ok (.if_icmp .ne 38, 3) := by decide +kernel
theorem dL_isSo_413 : decode cL_isSo 413 = .ok (.aload_n 0, 1) := by decide +kernel
theorem dL_isSo_414 : decode cL_isSo 414 = .ok (.iload 13, 2) := by decide +kernel
theorem dL_isSo_416 : decode cL_isSo 416 = .ok (.invokevirtual 90, 3) := by decide +kernel
theorem dL_isSo_419 : decode cL_isSo 419 = .ok (.iload 15, 2) := by decide +kernel
theorem dL_isSo_421 : decode cL_isSo 421 = .ok (.ifCond .ge 8, 3) := by decide +kernel
theorem dL_isSo_424 : decode cL_isSo 424 = .ok (.bipush (-6), 2) := by decide +kernel
theorem dL_isSo_426 : decode cL_isSo 426 = .ok (.goto 15, 3) := by decide +kernel
theorem dL_isSo_429 : decode cL_isSo 429 = .ok (.iload 16, 2) := by decide +kernel
theorem dL_isSo_431 : decode cL_isSo 431 = .ok (.iconst 1, 1) := by decide +kernel
theorem dL_isSo_432 : decode cL_isSo 432 = .ok (.if_icmp .ge 7, 3) := by decide +kernel
theorem dL_isSo_435 : decode cL_isSo 435 = .ok (.iconst 1, 1) := by decide +kernel
theorem dL_isSo_436 : decode cL_isSo 436 = .ok (.goto 5, 3) := by decide +kernel
theorem dL_isSo_439 : decode cL_isSo 439 = .ok (.iload 16, 2) := by decide +kernel
theorem dL_isSo_441 : decode cL_isSo 441 = .ok (.if_icmp .ne 7, 3) := by decide +kernel
theorem dL_isSo_444 : decode cL_isSo 444 = .ok (.iconst 1, 1) := by decide +kernel
theorem dL_isSo_445 : decode cL_isSo 445 = .ok (.goto 4, 3) := by decide +kernel
theorem dL_isSo_448 : decode cL_isSo 448 = .ok (.iconst 0, 1) := by decide +kernel
theorem dL_isSo_449 : decode cL_isSo 449 = .ok (.istore 12, 2) := by decide +kernel
theorem dL_isSo_451 : decode cL_isSo 451 = .ok (.iload 12, 2) := by decide +kernel
theorem dL_isSo_453 : decode cL_isSo 453 = .ok (.ifCond .eq 134, 3) := by decide +kernel
theorem dL_isSo_456 : decode cL_isSo 456 = .ok (.aload_n 0, 1) := by decide +kernel
theorem dL_isSo_457 : decode cL_isSo 457 = .ok (.iload 14, 2) := by decide +kernel
theorem dL_isSo_459 : decode cL_isSo 459 = .ok (.iconst 0, 1) := by decide +kernel
theorem dL_isSo_460 : decode cL_isSo 460 = .ok (.invokevirtual 93, 3) := by decide +kernel
theorem dL_isSo_463 : decode cL_isSo 463 = .ok (.iload 14, 2) := by decide +kernel
theorem dL_isSo_465 : decode cL_isSo 465 = .ok (.aload_n 2, 1) := by decide +kernel
theorem dL_isSo_466 : decode cL_isSo 466 = .ok (.bipush 16, 2) := by decide +kernel
theorem dL_isSo_468 : decode cL_isSo 468 = .ok (.iaload, 1) := by decide +kernel
theorem dL_isSo_469 : decode cL_isSo 469 = .ok (.if_icmp .ge 13, 3) := by decide +kernel
theorem dL_isSo_472 : decode cL_isSo 472 = .ok (.aload 8, 2) := by decide +kernel
theorem dL_isSo_474 : decode cL_isSo 474 = .ok (.iconst 2, 1) := by decide +kernel
theorem dL_isSo_475 : decode cL_isSo 475 = .ok (.iload 14, 2) := by decide +kernel
theorem dL_isSo_477 : decode cL_isSo 477 = .ok (.imul, 1) := by decide +kernel
theorem dL_isSo_478 : decode cL_isSo 478 = .ok (.iaload, 1) := by decide +kernel
theorem dL_isSo_479 : decode cL_isSo 479 = .ok (.goto 4, 3) := by decide +kernel
theorem dL_isSo_482 : decode cL_isSo 482 = .ok (.iconst (-1), 1) := by decide +kernel
theorem dL_isSo_483 : decode cL_isSo 483 = .ok (.if_icmp .ne 104, 3) := by decide +kernel
theorem dL_isSo_486 : decode cL_isSo 486 = .ok (.aload_n 0, 1) := by decide +kernel
theorem dL_isSo_487 : decode cL_isSo 487 = .ok (.iload 14, 2) := by decide +kernel
theorem dL_isSo_489 : decode cL_isSo 489 = .ok (.iconst 1, 1) := by decide +kernel
theorem dL_isSo_490 : decode cL_isSo 490 = .ok (.invokevirtual 93, 3) := by decide +kernel
theorem dL_isSo_493 : decode cL_isSo 493 = .ok (.iload 14, 2) := by decide +kernel
theorem dL_isSo_495 : decode cL_isSo 495 = .ok (.aload_n 2, 1) := by decide +kernel
theorem dL_isSo_496 : decode cL_isSo 496 = .ok (.bipush 16, 2) := by decide +kernel
theorem dL_isSo_498 : decode cL_isSo 498 = .ok (.iaload, 1) := by decide +kernel
theorem dL_isSo_499 : decode cL_isSo 499 = .ok (.if_icmp .ge 20, 3) := by decide +kernel
theorem dL_isSo_502 : decode cL_isSo 502 = .ok (.aload_n 2, 1) := by decide +kernel
theorem dL_isSo_503 : decode cL_isSo 503 = .ok (.bipush 7, 2) := by decide +kernel
theorem dL_isSo_505 : decode cL_isSo 505 = .ok (.iaload, 1) := by decide +kernel
theorem dL_isSo_506 : decode cL_isSo 506 = .ok (.aload 8, 2) := by decide +kernel
theorem dL_isSo_508 : decode cL_isSo 508 = .ok (.iconst 2, 1) := by decide +kernel
theorem dL_isSo_509 : decode cL_isSo 509 = .ok (.iload 14, 2) := by decide +kernel
theorem dL_isSo_511 : decode cL_isSo 511 = .ok (.imul, 1) := by decide +kernel
theorem dL_isSo_512 : decode cL_isSo 512 = .ok (.iconst 1, 1) := by decide +kernel
theorem dL_isSo_513 : decode cL_isSo 513 = .ok (.iadd, 1) := by decide +kernel
theorem dL_isSo_514 : decode cL_isSo 514 = .ok (.iaload, 1) := by decide +kernel
theorem dL_isSo_515 : decode cL_isSo 515 = .ok (.isub, 1) := by decide +kernel
theorem dL_isSo_516 : decode cL_isSo 516 = .ok (.goto 4, 3) := by decide +kernel
theorem dL_isSo_519 : decode cL_isSo 519 = .ok (.iconst (-1), 1) := by decide +kernel
theorem dL_isSo_520 : decode cL_isSo 520 = .ok (.if_icmp .ne 67, 3) := by decide +kernel
theorem dL_isSo_523 : decode cL_isSo 523 = .ok (.aload_n 0, 1) := by decide +kernel
theorem dL_isSo_524 : decode cL_isSo 524 = .ok (.iload 14, 2) := by decide +kernel
theorem dL_isSo_526 : decode cL_isSo 526 = .ok (.iload 13, 2) := by decide +kernel
theorem dL_isSo_528 : decode cL_isSo 528 = .ok (.iconst 4, 1) := by decide +kernel
theorem dL_isSo_529 : decode cL_isSo 529 = .ok (.irem, 1) := by decide +kernel
theorem dL_isSo_530 : decode cL_isSo 530 = .ok (.invokevirtual 96, 3) := by decide +kernel
theorem dL_isSo_533 : decode cL_isSo 533 = .ok (.iload 14, 2) := by decide +kernel
theorem dL_isSo_535 : decode cL_isSo 535 = .ok (.aload_n 2, 1) := by decide +kernel
theorem dL_isSo_536 : decode cL_isSo 536 = .ok (.bipush 18, 2) := by decide +kernel
theorem dL_isSo_538 : decode cL_isSo 538 = .ok (.iaload, 1) := by decide +kernel
theorem dL_isSo_539 : decode cL_isSo 539 = .ok (.if_icmp .ge 18, 3) := by decide +kernel
theorem dL_isSo_542 : decode cL_isSo 542 = .ok (.aload 10, 2) := by decide +kernel
theorem dL_isSo_544 : decode cL_isSo 544 = .ok (.iconst 4, 1) := by decide +kernel
theorem dL_isSo_545 : decode cL_isSo 545 = .ok (.iload 14, 2) := by decide +kernel
theorem dL_isSo_547 : decode cL_isSo 547 = .ok (.imul, 1) := by decide +kernel
theorem dL_isSo_548 : decode cL_isSo 548 = .ok (.iload 13, 2) := by decide +kernel
theorem dL_isSo_550 : decode cL_isSo 550 = .ok (.iconst 4, 1) := by decide +kernel
theorem dL_isSo_551 : decode cL_isSo 551 = .ok (.irem, 1) := by decide +kernel
theorem dL_isSo_552 : decode cL_isSo 552 = .ok (.iadd, 1) := by decide +kernel
theorem dL_isSo_553 : decode cL_isSo 553 = .ok (.iaload, 1) := by decide +kernel
theorem dL_isSo_554 : decode cL_isSo 554 = .ok (.goto 4, 3) := by decide +kernel
theorem dL_isSo_557 : decode cL_isSo 557 = .ok (.iconst (-1), 1) := by decide +kernel
theorem dL_isSo_558 : decode cL_isSo 558 = .ok (.if_icmp .ne 29, 3) := by decide +kernel
theorem dL_isSo_561 : decode cL_isSo 561 = .ok (.aload_n 0, 1) := by decide +kernel
theorem dL_isSo_562 : decode cL_isSo 562 = .ok (.iconst 1, 1) := by decide +kernel
theorem dL_isSo_563 : decode cL_isSo 563 = .ok (.iload 14, 2) := by decide +kernel
theorem dL_isSo_565 : decode cL_isSo 565 = .ok (.iadd, 1) := by decide +kernel
theorem dL_isSo_566 : decode cL_isSo 566 = .ok (.invokevirtual 99, 3) := by decide +kernel
theorem dL_isSo_569 : decode cL_isSo 569 = .ok (.iconst 0, 1) := by decide +kernel
theorem dL_isSo_570 : decode cL_isSo 570 = .ok (.iconst 1, 1) := by decide +kernel
theorem dL_isSo_571 : decode cL_isSo 571 = .ok (.iload 14, 2) := by decide +kernel
theorem dL_isSo_573 : decode cL_isSo 573 = .ok (.iadd, 1) := by decide +kernel
theorem dL_isSo_574 : decode cL_isSo 574 = .ok (.aload_n 3, 1) := by decide +kernel
theorem dL_isSo_575 : decode cL_isSo 575 = .ok (.aload 4, 2) := by decide +kernel
theorem dL_isSo_577 : decode cL_isSo 577 = .ok (.invokestatic 65, 3) := by decide +kernel
theorem dL_isSo_580 : decode cL_isSo 580 = .ok (.if_icmp .ne 7, 3) := by decide +kernel
theorem dL_isSo_583 : decode cL_isSo 583 = .ok (.iconst 1, 1) := by decide +kernel
theorem dL_isSo_584 : decode cL_isSo 584 = .ok (.goto 4, 3) := by decide +kernel
theorem dL_isSo_587 : decode cL_isSo 587 = .ok (.iconst 0, 1) := by decide +kernel
theorem dL_isSo_588 : decode cL_isSo 588 = .ok (.istore 12, 2) := by decide +kernel
theorem dL_isSo_590 : decode cL_isSo 590 = .ok (.iload_n 1, 1) := by decide +kernel
theorem dL_isSo_591 : decode cL_isSo 591 = .ok (.bipush 7, 2) := by decide +kernel
theorem dL_isSo_593 : decode cL_isSo 593 = .ok (.ishr, 1) := by decide +kernel
theorem dL_isSo_594 : decode cL_isSo 594 = .ok (.sipush 300, 3) := by decide +kernel
theorem dL_isSo_597 : decode cL_isSo 597 = .ok (.invokestatic 84, 3) := by decide +kernel
theorem dL_isSo_600 : decode cL_isSo 600 = .ok (.istore 17, 2) := by decide +kernel
theorem dL_isSo_602 : decode cL_isSo 602 = .ok (.iconst 0, 1) := by decide +kernel
theorem dL_isSo_603 : decode cL_isSo 603 = .ok (.istore 18, 2) := by decide +kernel
theorem dL_isSo_605 : decode cL_isSo 605 = .ok (.iconst 0, 1) := by decide +kernel
theorem dL_isSo_606 : decode cL_isSo 606 = .ok (.istore 19, 2) := by decide +kernel
theorem dL_isSo_608 : decode cL_isSo 608 = .ok (.aload_n 2, 1) := by decide +kernel
theorem dL_isSo_609 : decode cL_isSo 609 = .ok (.bipush 6, 2) := by decide +kernel
theorem dL_isSo_611 : decode cL_isSo 611 = .ok (.iaload, 1) := by decide +kernel
theorem dL_isSo_612 : decode cL_isSo 612 = .ok (.istore 20, 2) := by decide +kernel
theorem dL_isSo_614 : decode cL_isSo 614 = .ok (.iload 20, 2) := by decide +kernel
theorem dL_isSo_616 : decode cL_isSo 616 = .ok (.iload 17, 2) := by decide +kernel
theorem dL_isSo_618 : decode cL_isSo 618 = .ok (.if_icmp .le 17, 3) := by decide +kernel
theorem dL_isSo_621 : decode cL_isSo 621 = .ok (.iinc 18 1, 3) := by decide +kernel
theorem dL_isSo_624 : decode cL_isSo 624 = .ok (.iload 20, 2) := by decide +kernel
theorem dL_isSo_626 : decode cL_isSo 626 = .ok (.aload_n 2, 1) := by decide +kernel
theorem dL_isSo_627 : decode cL_isSo 627 = .ok (.invokestatic 16, 3) := by decide +kernel
theorem dL_isSo_630 : decode cL_isSo 630 = .ok (.istore 20, 2) := by decide +kernel
theorem dL_isSo_632 : decode cL_isSo 632 = .ok (.goto (-18), 3) := by decide +kernel
theorem dL_isSo_635 : decode cL_isSo 635 = .ok (.aload_n 2, 1) := by decide +kernel
theorem dL_isSo_636 : decode cL_isSo 636 = .ok (.bipush 6, 2) := by decide +kernel
theorem dL_isSo_638 : decode cL_isSo 638 = .ok (.iaload, 1) := by decide +kernel
theorem dL_isSo_639 : decode cL_isSo 639 = .ok (.istore 20, 2) := by decide +kernel
theorem dL_isSo_641 : decode cL_isSo 641 = .ok (.iload 20, 2) := by decide +kernel
theorem dL_isSo_643 : decode cL_isSo 643 = .ok (.aload_n 2, 1) := by decide +kernel
theorem dL_isSo_644 : decode cL_isSo 644 = .ok (.iconst 5, 1) := by decide +kernel
theorem dL_isSo_645 : decode cL_isSo 645 = .ok (.iaload, 1) := by decide +kernel
theorem dL_isSo_646 : decode cL_isSo 646 = .ok (.if_icmp .lt 15, 3) := by decide +kernel
theorem dL_isSo_649 : decode cL_isSo 649 = .ok (.iinc 19 1, 3) := by decide +kernel
theorem dL_isSo_652 : decode cL_isSo 652 = .ok (.iload 20, 2) := by decide +kernel
theorem dL_isSo_654 : decode cL_isSo 654 = .ok (.iconst 2, 1) := by decide +kernel
theorem dL_isSo_655 : decode cL_isSo 655 = .ok (.idiv, 1) := by decide +kernel
theorem dL_isSo_656 : decode cL_isSo 656 = .ok (.istore 20, 2) := by decide +kernel
theorem dL_isSo_658 : decode cL_isSo 658 = .ok (.goto (-17), 3) := by decide +kernel
theorem dL_isSo_661 : decode cL_isSo 661 = .ok (.iload 12, 2) := by decide +kernel
theorem dL_isSo_663 : decode cL_isSo 663 = .ok (.ifCond .eq 62, 3) := by decide +kernel
theorem dL_isSo_666 : decode cL_isSo 666 = .ok (.aload_n 0, 1) := by decide +kernel
theorem dL_isSo_667 : decode cL_isSo 667 = .ok (.iload 17, 2) := by decide +kernel
theorem dL_isSo_669 : decode cL_isSo 669 = .ok (.invokevirtual 102, 3) := by decide +kernel
theorem dL_isSo_672 : decode cL_isSo 672 = .ok (.iload 18, 2) := by decide +kernel
theorem dL_isSo_674 : decode cL_isSo 674 = .ok (.if_icmp .ne 51, 3) := by decide +kernel
theorem dL_isSo_677 : decode cL_isSo 677 = .ok (.aload_n 0, 1) := by decide +kernel
theorem dL_isSo_678 : decode cL_isSo 678 = .ok (.invokevirtual 105, 3) := by decide +kernel
theorem dL_isSo_681 : decode cL_isSo 681 = .ok (.iload 19, 2) := by decide +kernel
theorem dL_isSo_683 : decode cL_isSo 683 = .ok (.if_icmp .ne 42, 3) := by decide +kernel
theorem dL_isSo_686 : decode cL_isSo 686 = .ok (.aload_n 0, 1) := by decide +kernel
theorem dL_isSo_687 : decode cL_isSo 687 = .ok (.iload_n 1, 1) := by decide +kernel
theorem dL_isSo_688 : decode cL_isSo 688 = .ok (.bipush 15, 2) := by decide +kernel
theorem dL_isSo_690 : decode cL_isSo 690 = .ok (.ishr, 1) := by decide +kernel
theorem dL_isSo_691 : decode cL_isSo 691 = .ok (.bipush 30, 2) := by decide +kernel
theorem dL_isSo_693 : decode cL_isSo 693 = .ok (.invokestatic 84, 3) := by decide +kernel
theorem dL_isSo_696 : decode cL_isSo 696 = .ok (.iload_n 1, 1) := by decide +kernel
theorem dL_isSo_697 : decode cL_isSo 697 = .ok (.bipush 20, 2) := by decide +kernel
theorem dL_isSo_699 : decode cL_isSo 699 = .ok (.ishr, 1) := by decide +kernel
theorem dL_isSo_700 : decode cL_isSo 700 = .ok (.bipush 12, 2) := by decide +kernel
theorem dL_isSo_702 : decode cL_isSo 702 = .ok (.invokestatic 84, 3) := by decide +kernel
theorem dL_isSo_705 : decode cL_isSo 705 = .ok (.aload_n 2, 1) := by decide +kernel
theorem dL_isSo_706 : decode cL_isSo 706 = .ok (.aload_n 3, 1) := by decide +kernel
theorem dL_isSo_707 : decode cL_isSo 707 = .ok (.aload 4, 2) := by decide +kernel
theorem dL_isSo_709 : decode cL_isSo 709 = .ok (.aload 5, 2) := by decide +kernel
theorem dL_isSo_711 : decode cL_isSo 711 = .ok (.aload 6, 2) := by decide +kernel
theorem dL_isSo_713 : decode cL_isSo 713 = .ok (.aload 9, 2) := by decide +kernel
theorem dL_isSo_715 : decode cL_isSo 715 = .ok (.invokestatic 108, 3) := by decide +kernel
theorem dL_isSo_718 : decode cL_isSo 718 = .ok (.ifCond .eq 7, 3) := by decide +kernel
theorem dL_isSo_721 : decode cL_isSo 721 = .ok (.iconst 1, 1) := by decide +kernel
theorem dL_isSo_722 : decode cL_isSo 722 = .ok (.goto 4, 3) := by decide +kernel
theorem dL_isSo_725 : decode cL_isSo 725 = .ok (.iconst 0, 1) := by decide +kernel
theorem dL_isSo_726 : decode cL_isSo 726 = .ok (.ireturn, 1) := by decide +kernel
set_option maxRecDepth 20000 in
theorem ggL_told_X7_count : GoodIn wsL_told wsX7_count := goodIn_r _ [9, 10, 11, 12, 13, 14, 15, 16, 17, 18, 19, 20, 21, 22, 23, 24, 25, 26, 27, 28, 29, 30, 31, 32, 33, 34, 35, 36, 37, 38, 39, 40, 41, 42, 43, 44, 45, 46, 47, 48, 49, 50, 51, 52, 53, 54, 55, 56, 57, 58, 59, 131, 132, 133, 134, 135, 136, 137, 138, 139, 140, 141, 142, 143, 144, 145, 146, 147, 148, 149, 150, 151, 152, 153, 154, 155, 156, 157, 158, 159, 160, 161, 162, 163, 164, 165, 166] (by decide +kernel) (by decide +kernel)
set_option maxRecDepth 20000 in
theorem gL_told_X7_count : GoodIn wsL_told (wsV RL 78 RX7 yX7_count wsX7_count) := goodIn_app (goodIn_of _ (by decide +kernel)) ggL_told_X7_count
set_option maxRecDepth 20000 in
theorem ggL_told_X7_of : GoodIn wsL_told wsX7_of := goodIn_r _ [63, 12, 64, 65, 66, 28, 67, 37, 38, 68, 8, 69, 39, 40, 41, 42, 43, 44, 70, 71, 72, 56, 73, 74, 131, 132, 133, 134, 135, 141, 142, 143, 144, 145, 146, 147, 148, 149, 150, 151, 158, 159, 160, 161, 162, 163, 164, 165, 166] (by decide +kernel) (by decide +kernel)
set_option maxRecDepth 20000 in
theorem gL_told_X7_of : GoodIn wsL_told (wsV RL 69 RX7 yX7_of wsX7_of) := goodIn_app (goodIn_of _ (by decide +kernel)) ggL_told_X7_of
set_option maxRecDepth 20000 in
theorem ggL_told_X7_clapper : GoodIn wsL_told wsX7_clapper := goodIn_r _ [78, 12, 79, 80, 81, 56, 82, 83, 84, 59, 40, 41, 42, 43, 44, 131, 132, 133, 134, 135, 141, 142, 143, 144, 145, 146, 147, 148, 149, 150, 151, 158, 159, 160, 161, 162, 163, 164, 165, 166] (by decide +kernel) (by decide +kernel)
set_option maxRecDepth 20000 in
theorem gL_told_X7_clapper : GoodIn wsL_told (wsV RL 75 RX7 yX7_clapper wsX7_clapper) := goodIn_app (goodIn_of _ (by decide +kernel)) ggL_told_X7_clapper
set_option maxRecDepth 20000 in
theorem ggL_told_X7_performer : GoodIn wsL_told wsX7_performer := goodIn_r _ [88, 12, 89, 90, 91, 92, 93, 94, 95, 96, 97, 8, 98, 99, 100, 101, 102, 103, 104, 105, 40, 41, 42, 43, 44, 131, 132, 133, 134, 135, 141, 142, 143, 144, 145, 146, 147, 148, 149, 150, 151, 152, 153, 154, 155, 156, 157, 166] (by decide +kernel) (by decide +kernel)
set_option maxRecDepth 20000 in
theorem gL_told_X7_performer : GoodIn wsL_told (wsV RL 87 RX7 yX7_performer wsX7_performer) := goodIn_app (goodIn_of _ (by decide +kernel)) ggL_told_X7_performer
set_option maxRecDepth 20000 in
theorem ggL_told_X7_owed : GoodIn wsL_told wsX7_owed := goodIn_r _ [109, 12, 110, 111, 112, 92, 113, 103, 104, 114, 105, 40, 41, 42, 43, 44, 131, 132, 133, 134, 135, 141, 142, 143, 144, 145, 146, 147, 148, 149, 150, 151, 152, 153, 154, 155, 156, 157, 166] (by decide +kernel) (by decide +kernel)
set_option maxRecDepth 20000 in
theorem gL_told_X7_owed : GoodIn wsL_told (wsV RL 93 RX7 yX7_owed wsX7_owed) := goodIn_app (goodIn_of _ (by decide +kernel)) ggL_told_X7_owed
set_option maxRecDepth 20000 in
theorem ggL_told_X7_record : GoodIn wsL_told wsX7_record := goodIn_r _ [118, 12, 119, 120, 121, 28, 122, 32, 123, 124, 125, 126, 127, 128, 129, 130, 39, 40, 41, 42, 43, 44, 131, 132, 133, 134, 135, 141, 142, 143, 144, 145, 146, 147, 148, 149, 150, 151, 166] (by decide +kernel) (by decide +kernel)
set_option maxRecDepth 20000 in
theorem gL_told_X7_record : GoodIn wsL_told (wsV RL 96 RX7 yX7_record wsX7_record) := goodIn_app (goodIn_of _ (by decide +kernel)) ggL_told_X7_record
theorem dL_told_0 : decode cL_told 0 = .ok (.ldc2_w 112, 3) := by decide +kernel
theorem dL_told_3 : decode cL_told 3 = .ok (.lstore_n 1, 1) := by decide +kernel
theorem dL_told_4 : decode cL_told 4 = .ok (.iconst 0, 1) := by decide +kernel
theorem dL_told_5 : decode cL_told 5 = .ok (.istore_n 3, 1) := by decide +kernel
theorem dL_told_6 : decode cL_told 6 = .ok (.iload_n 3, 1) := by decide +kernel
theorem dL_told_7 : decode cL_told 7 = .ok (.bipush 19, 2) := by decide +kernel
theorem dL_told_9 : decode cL_told 9 = .ok (.if_icmp .ge 22, 3) := by decide +kernel
theorem dL_told_12 : decode cL_told 12 = .ok (.ldc2_w 114, 3) := by decide +kernel
theorem dL_told_15 : decode cL_told 15 = .ok (.lload_n 1, 1) := by decide +kernel
theorem dL_told_16 : decode cL_told 16 = .ok (.lmul, 1) := by decide +kernel
theorem dL_told_17 : decode cL_told 17 = .ok (.aload_n 0, 1) := by decide +kernel
theorem dL_told_18 : decode cL_told 18 = .ok (.iload_n 3, 1) := by decide +kernel
theorem dL_told_19 : decode cL_told 19 = .ok (.invokevirtual 78, 3) := by decide +kernel
theorem dL_told_22 : decode cL_told 22 = .ok (.i2l, 1) := by decide +kernel
theorem dL_told_23 : decode cL_told 23 = .ok (.ladd, 1) := by decide +kernel
theorem dL_told_24 : decode cL_told 24 = .ok (.lstore_n 1, 1) := by decide +kernel
theorem dL_told_25 : decode cL_told 25 = .ok (.iinc 3 1, 3) := by decide +kernel
theorem dL_told_28 : decode cL_told 28 = .ok (.goto (-22), 3) := by decide +kernel
theorem dL_told_31 : decode cL_told 31 = .ok (.iconst 0, 1) := by decide +kernel
theorem dL_told_32 : decode cL_told 32 = .ok (.istore_n 3, 1) := by decide +kernel
theorem dL_told_33 : decode cL_told 33 = .ok (.iload_n 3, 1) := by decide +kernel
theorem dL_told_34 : decode cL_told 34 = .ok (.bipush 30, 2) := by decide +kernel
theorem dL_told_36 : decode cL_told 36 = .ok (.if_icmp .ge 139, 3) := by decide +kernel
theorem dL_told_39 : decode cL_told 39 = .ok (.ldc2_w 114, 3) := by decide +kernel
theorem dL_told_42 : decode cL_told 42 = .ok (.ldc2_w 114, 3) := by decide +kernel
theorem dL_told_45 : decode cL_told 45 = .ok (.lload_n 1, 1) := by decide +kernel
theorem dL_told_46 : decode cL_told 46 = .ok (.lmul, 1) := by decide +kernel
theorem dL_told_47 : decode cL_told 47 = .ok (.aload_n 0, 1) := by decide +kernel
theorem dL_told_48 : decode cL_told 48 = .ok (.iload_n 3, 1) := by decide +kernel
theorem dL_told_49 : decode cL_told 49 = .ok (.iconst 0, 1) := by decide +kernel
theorem dL_told_50 : decode cL_told 50 = .ok (.invokevirtual 69, 3) := by decide +kernel
theorem dL_told_53 : decode cL_told 53 = .ok (.i2l, 1) := by decide +kernel
theorem dL_told_54 : decode cL_told 54 = .ok (.ladd, 1) := by decide +kernel
theorem dL_told_55 : decode cL_told 55 = .ok (.ldc2_w 116, 3) := by decide +kernel
theorem dL_told_58 : decode cL_told 58 = .ok (.aload_n 0, 1) := by decide +kernel
theorem dL_told_59 : decode cL_told 59 = .ok (.iload_n 3, 1) := by decide +kernel
theorem dL_told_60 : decode cL_told 60 = .ok (.iconst 3, 1) := by decide +kernel
theorem dL_told_61 : decode cL_told 61 = .ok (.invokevirtual 69, 3) := by decide +kernel
theorem dL_told_64 : decode cL_told 64 = .ok (.i2l, 1) := by decide +kernel
theorem dL_told_65 : decode cL_told 65 = .ok (.lmul, 1) := by decide +kernel
theorem dL_told_66 : decode cL_told 66 = .ok (.ladd, 1) := by decide +kernel
theorem dL_told_67 : decode cL_told 67 = .ok (.lmul, 1) := by decide +kernel
theorem dL_told_68 : decode cL_told 68 = .ok (.aload_n 0, 1) := by decide +kernel
theorem dL_told_69 : decode cL_told 69 = .ok (.iload_n 3, 1) := by decide +kernel
theorem dL_told_70 : decode cL_told 70 = .ok (.iconst 4, 1) := by decide +kernel
theorem dL_told_71 : decode cL_told 71 = .ok (.invokevirtual 69, 3) := by decide +kernel
theorem dL_told_74 : decode cL_told 74 = .ok (.i2l, 1) := by decide +kernel
theorem dL_told_75 : decode cL_told 75 = .ok (.ladd, 1) := by decide +kernel
theorem dL_told_76 : decode cL_told 76 = .ok (.ldc2_w 116, 3) := by decide +kernel
theorem dL_told_79 : decode cL_told 79 = .ok (.aload_n 0, 1) := by decide +kernel
theorem dL_told_80 : decode cL_told 80 = .ok (.iload_n 3, 1) := by decide +kernel
theorem dL_told_81 : decode cL_told 81 = .ok (.iconst 5, 1) := by decide +kernel
theorem dL_told_82 : decode cL_told 82 = .ok (.invokevirtual 69, 3) := by decide +kernel
theorem dL_told_85 : decode cL_told 85 = .ok (.i2l, 1) := by decide +kernel
theorem dL_told_86 : decode cL_told 86 = .ok (.lmul, 1) := by decide +kernel
theorem dL_told_87 : decode cL_told 87 = .ok (.ladd, 1) := by decide +kernel
theorem dL_told_88 : decode cL_told 88 = .ok (.ldc2_w 118, 3) := by decide +kernel
theorem dL_told_91 : decode cL_told 91 = .ok (.aload_n 0, 1) := by decide +kernel
theorem dL_told_92 : decode cL_told 92 = .ok (.iload_n 3, 1) := by decide +kernel
theorem dL_told_93 : decode cL_told 93 = .ok (.bipush 6, 2) := by decide +kernel
theorem dL_told_95 : decode cL_told 95 = .ok (.invokevirtual 69, 3) := by decide +kernel
theorem dL_told_98 : decode cL_told 98 = .ok (.i2l, 1) := by decide +kernel
theorem dL_told_99 : decode cL_told 99 = .ok (.lmul, 1) := by decide +kernel
theorem dL_told_100 : decode cL_told 100 = .ok (.ladd, 1) := by decide +kernel
theorem dL_told_101 : decode cL_told 101 = .ok (.lstore_n 1, 1) := by decide +kernel
theorem dL_told_102 : decode cL_told 102 = .ok (.ldc2_w 114, 3) := by decide +kernel
theorem dL_told_105 : decode cL_told 105 = .ok (.ldc2_w 114, 3) := by decide +kernel
theorem dL_told_108 : decode cL_told 108 = .ok (.lload_n 1, 1) := by decide +kernel
theorem dL_told_109 : decode cL_told 109 = .ok (.lmul, 1) := by decide +kernel
theorem dL_told_110 : decode cL_told 110 = .ok (.aload_n 0, 1) := by decide +kernel
theorem dL_told_111 : decode cL_told 111 = .ok (.iload_n 3, 1) := by decide +kernel
theorem dL_told_112 : decode cL_told 112 = .ok (.invokevirtual 75, 3) := by decide +kernel
theorem dL_told_115 : decode cL_told 115 = .ok (.i2l, 1) := by decide +kernel
theorem dL_told_116 : decode cL_told 116 = .ok (.ladd, 1) := by decide +kernel
theorem dL_told_117 : decode cL_told 117 = .ok (.lmul, 1) := by decide +kernel
theorem dL_told_118 : decode cL_told 118 = .ok (.aload_n 0, 1) := by decide +kernel
theorem dL_told_119 : decode cL_told 119 = .ok (.iload_n 3, 1) := by decide +kernel
theorem dL_told_120 : decode cL_told 120 = .ok (.bipush 6, 2) := by decide +kernel
theorem dL_told_122 : decode cL_told 122 = .ok (.irem, 1) := by decide +kernel
theorem dL_told_123 : decode cL_told 123 = .ok (.iload_n 3, 1) := by decide +kernel
theorem dL_told_124 : decode cL_told 124 = .ok (.bipush 6, 2) := by decide +kernel
theorem dL_told_126 : decode cL_told 126 = .ok (.idiv, 1) := by decide +kernel
theorem dL_told_127 : decode cL_told 127 = .ok (.iconst 4, 1) := by decide +kernel
theorem dL_told_128 : decode cL_told 128 = .ok (.irem, 1) := by decide +kernel
theorem dL_told_129 : decode cL_told 129 = .ok (.invokevirtual 87, 3) := by decide +kernel
theorem dL_told_132 : decode cL_told 132 = .ok (.i2l, 1) := by decide +kernel
theorem dL_told_133 : decode cL_told 133 = .ok (.ladd, 1) := by decide +kernel
theorem dL_told_134 : decode cL_told 134 = .ok (.lstore_n 1, 1) := by decide +kernel
theorem dL_told_135 : decode cL_told 135 = .ok (.ldc2_w 114, 3) := by decide +kernel
theorem dL_told_138 : decode cL_told 138 = .ok (.ldc2_w 114, 3) := by decide +kernel
theorem dL_told_141 : decode cL_told 141 = .ok (.lload_n 1, 1) := by decide +kernel
theorem dL_told_142 : decode cL_told 142 = .ok (.lmul, 1) := by decide +kernel
theorem dL_told_143 : decode cL_told 143 = .ok (.aload_n 0, 1) := by decide +kernel
theorem dL_told_144 : decode cL_told 144 = .ok (.iload_n 3, 1) := by decide +kernel
theorem dL_told_145 : decode cL_told 145 = .ok (.iconst 2, 1) := by decide +kernel
theorem dL_told_146 : decode cL_told 146 = .ok (.idiv, 1) := by decide +kernel
theorem dL_told_147 : decode cL_told 147 = .ok (.iload_n 3, 1) := by decide +kernel
theorem dL_told_148 : decode cL_told 148 = .ok (.iconst 2, 1) := by decide +kernel
theorem dL_told_149 : decode cL_told 149 = .ok (.irem, 1) := by decide +kernel
theorem dL_told_150 : decode cL_told 150 = .ok (.invokevirtual 93, 3) := by decide +kernel
theorem dL_told_153 : decode cL_told 153 = .ok (.i2l, 1) := by decide +kernel
theorem dL_told_154 : decode cL_told 154 = .ok (.ladd, 1) := by decide +kernel
theorem dL_told_155 : decode cL_told 155 = .ok (.lmul, 1) := by decide +kernel
theorem dL_told_156 : decode cL_told 156 = .ok (.aload_n 0, 1) := by decide +kernel
theorem dL_told_157 : decode cL_told 157 = .ok (.iload_n 3, 1) := by decide +kernel
theorem dL_told_158 : decode cL_told 158 = .ok (.iconst 4, 1) := by decide +kernel
theorem dL_told_159 : decode cL_told 159 = .ok (.idiv, 1) := by decide +kernel
theorem dL_told_160 : decode cL_told 160 = .ok (.iload_n 3, 1) := by decide +kernel
theorem dL_told_161 : decode cL_told 161 = .ok (.iconst 4, 1) := by decide +kernel
theorem dL_told_162 : decode cL_told 162 = .ok (.irem, 1) := by decide +kernel
theorem dL_told_163 : decode cL_told 163 = .ok (.invokevirtual 96, 3) := by decide +kernel
theorem dL_told_166 : decode cL_told 166 = .ok (.i2l, 1) := by decide +kernel
theorem dL_told_167 : decode cL_told 167 = .ok (.ladd, 1) := by decide +kernel
theorem dL_told_168 : decode cL_told 168 = .ok (.lstore_n 1, 1) := by decide +kernel
theorem dL_told_169 : decode cL_told 169 = .ok (.iinc 3 1, 3) := by decide +kernel
theorem dL_told_172 : decode cL_told 172 = .ok (.goto (-139), 3) := by decide +kernel
theorem dL_told_175 : decode cL_told 175 = .ok (.lload_n 1, 1) := by decide +kernel
theorem dL_told_176 : decode cL_told 176 = .ok (.lreturn, 1) := by decide +kernel
set_option maxRecDepth 20000 in
theorem ggL_law_X7_init : GoodIn wsL_law wsX7_init := goodIn_r _ [6, 7, 8, 9, 10, 11, 12, 13, 14, 15, 16, 17, 18, 19, 20, 21, 22, 23, 24, 25, 26, 27, 28, 29, 30, 31, 32, 33, 34, 35, 36, 37, 38, 39, 40, 41, 42, 43, 44, 45, 46, 47, 48, 49, 50, 51, 52, 53, 3, 54, 55, 56, 57, 58, 59, 60, 61, 62, 63, 64, 65, 66, 67, 68, 69, 70, 71, 72, 73, 74, 75, 76, 77, 78, 79, 80, 81, 82, 83, 84, 85, 86, 87, 88, 89, 90, 91, 92, 93, 94, 95, 96, 97, 98, 99, 482, 483, 484, 485, 486, 487, 488, 489, 490, 491, 492, 477, 478, 479, 480, 481, 493, 494, 495, 496, 497, 498, 499, 500, 501, 502, 503, 504, 505, 506, 507, 508, 509, 510, 511, 512, 513, 514, 515, 516, 517] (by decide +kernel) (by decide +kernel)
set_option maxRecDepth 20000 in
theorem gL_law_X7_init : GoodIn wsL_law (wsX7_init) := ggL_law_X7_init
set_option maxRecDepth 20000 in
theorem ggL_law_L_cell : GoodIn wsL_law wsL_cell := goodIn_r _ [103, 104, 105] (by decide +kernel) (by decide +kernel)
set_option maxRecDepth 20000 in
theorem gL_law_L_cell : GoodIn wsL_law (va_wsS RL 121 yL_cell wsL_cell) := goodIn_app (goodIn_of _ (by decide +kernel)) ggL_law_L_cell
set_option maxRecDepth 20000 in
theorem ggL_law_L_low : GoodIn wsL_law wsL_low := goodIn_r _ [108, 109] (by decide +kernel) (by decide +kernel)
set_option maxRecDepth 20000 in
theorem gL_law_L_low : GoodIn wsL_law (va_wsS RL 84 yL_low wsL_low) := goodIn_app (goodIn_of _ (by decide +kernel)) ggL_law_L_low
set_option maxRecDepth 20000 in
theorem ggL_law_L_told : GoodIn wsL_law wsL_told := goodIn_r _ [112, 113, 114, 115, 116, 117, 118, 119, 2, 120, 22, 17, 13, 121, 122, 123, 21, 124, 125, 126, 127, 128, 16, 129, 130, 131, 132, 133, 12, 134, 135, 136, 137, 43, 42, 45, 138, 38, 34, 139, 140, 141, 33, 142, 54, 143, 144, 145, 146, 147, 148, 149, 150, 151, 152, 153, 37, 154, 61, 155, 156, 157, 158, 159, 160, 161, 162, 163, 164, 165, 166, 167, 168, 169, 170, 171, 172, 173, 174, 175, 176, 177, 178, 179, 64, 180, 181, 182, 183, 184, 185, 186, 41, 187, 76, 77, 78, 188, 189, 190, 191, 192, 193, 194, 74, 195, 196, 197, 198, 199, 200, 201, 202, 203, 75, 204, 205, 206, 207, 208, 209, 210, 211, 212, 213, 52, 214, 44, 215, 216, 217, 477, 478, 479, 480, 481, 496, 497, 493, 494, 495, 482, 483, 484, 485, 486, 487, 488, 489, 490, 491, 492, 512, 513, 514, 515, 516, 517, 504, 505, 506, 507, 508, 509, 510, 511, 503] (by decide +kernel) (by decide +kernel)
set_option maxRecDepth 20000 in
theorem gL_law_L_told : GoodIn wsL_law (va_wsS RL 125 yL_told wsL_told) := goodIn_app (goodIn_of _ (by decide +kernel)) ggL_law_L_told
set_option maxRecDepth 20000 in
theorem ggL_law_L_call : GoodIn wsL_law wsL_call := goodIn_r _ [220, 221, 222, 223, 2, 224, 17, 13, 225, 226, 227, 16, 228, 229, 230, 231, 232, 233, 89, 234, 235, 236, 12, 237, 34, 38, 42, 43, 44, 135, 136, 137, 45, 138, 238, 239, 240, 241, 33, 242, 54, 243, 213, 52, 214, 244, 245, 246, 247, 248, 249, 250, 37, 251, 60, 61, 62, 63, 64, 179, 252, 170, 253, 254, 255, 256, 41, 257, 74, 75, 76, 77, 78, 194, 258, 259, 260, 261, 262, 212, 164, 165, 139, 140, 141, 142, 263, 264, 265, 266, 267, 167, 168, 169, 268, 269, 270, 271, 155, 272, 81, 82, 83, 273, 274, 275, 276, 277, 278, 279, 280, 281, 282, 283, 284, 285, 286, 287, 130, 288, 289, 290, 291, 292, 293, 294, 295, 296, 188, 189, 297, 298, 299, 300, 301, 302, 303, 304, 305, 306, 307, 308, 309, 310, 311, 312, 313, 314, 315, 316, 51, 53, 317, 318, 319, 320, 195, 321, 322, 323, 324, 325, 326, 327, 328, 329, 330, 331, 332, 333, 334, 335, 336, 337, 191, 192, 193, 338, 339, 340, 341, 342, 343, 344, 345, 346, 347, 348, 349, 350, 351, 352, 353, 215, 216, 217, 80, 354, 67, 68, 69, 355, 356, 357, 358, 66, 359, 360, 361, 362, 363, 364, 365, 366, 367, 368, 369, 370, 371, 372, 373, 374, 375, 376, 377, 378, 379, 380, 381, 382, 477, 478, 479, 480, 481, 493, 494, 495, 482, 483, 484, 485, 486, 487, 488, 489, 490, 491, 492, 503, 504, 505, 506, 507, 508, 509, 510, 511, 512, 513, 514, 515, 516, 517] (by decide +kernel) (by decide +kernel)
set_option maxRecDepth 20000 in
theorem gL_law_L_call : GoodIn wsL_law (va_wsS RL 129 yL_call wsL_call) := goodIn_app (goodIn_of _ (by decide +kernel)) ggL_law_L_call
set_option maxRecDepth 20000 in
theorem ggL_law_X7_undo : GoodIn wsL_law wsX7_undo := goodIn_r _ [386, 17, 13, 387, 388, 389, 16, 390, 229, 130, 230, 231, 232, 233, 89, 234, 235, 236, 12, 237, 34, 38, 42, 43, 44, 135, 136, 137, 45, 138, 238, 239, 240, 241, 33, 242, 54, 243, 213, 52, 214, 244, 245, 246, 247, 248, 249, 250, 37, 251, 60, 61, 62, 63, 64, 179, 252, 170, 253, 254, 255, 256, 41, 257, 74, 75, 76, 77, 78, 194, 258, 477, 478, 479, 480, 481, 493, 494, 495, 482, 483, 484, 485, 486, 487, 488, 489, 490, 491, 492, 503, 504, 505, 506, 507, 508, 509, 510, 511, 512, 513, 514, 515, 516, 517] (by decide +kernel) (by decide +kernel)
set_option maxRecDepth 20000 in
theorem gL_law_X7_undo : GoodIn wsL_law (wsV RL 132 RX7 yX7_undo wsX7_undo) := goodIn_app (goodIn_of _ (by decide +kernel)) ggL_law_X7_undo
set_option maxRecDepth 20000 in
theorem ggL_law_L_claps : GoodIn wsL_law wsL_claps := goodIn_r _ [393, 394, 395, 102, 396] (by decide +kernel) (by decide +kernel)
set_option maxRecDepth 20000 in
theorem gL_law_L_claps : GoodIn wsL_law (va_wsS RL 135 yL_claps wsL_claps) := goodIn_app (goodIn_of _ (by decide +kernel)) ggL_law_L_claps
set_option maxRecDepth 20000 in
theorem ggL_law_L_ends : GoodIn wsL_law wsL_ends := goodIn_r _ [399] (by decide +kernel) (by decide +kernel)
set_option maxRecDepth 20000 in
theorem gL_law_L_ends : GoodIn wsL_law (va_wsS RL 27 yL_ends wsL_ends) := goodIn_app (goodIn_of _ (by decide +kernel)) ggL_law_L_ends
set_option maxRecDepth 20000 in
theorem ggL_law_L_second : GoodIn wsL_law wsL_second := goodIn_r _ [402, 403, 404, 102, 405, 394, 395, 396, 406, 407, 408] (by decide +kernel) (by decide +kernel)
set_option maxRecDepth 20000 in
theorem gL_law_L_second : GoodIn wsL_law (va_wsS RL 139 yL_second wsL_second) := goodIn_app (goodIn_of _ (by decide +kernel)) ggL_law_L_second
set_option maxRecDepth 20000 in
theorem ggL_law_L_plays : GoodIn wsL_law wsL_plays := goodIn_r _ [411, 412, 413, 102, 414, 406, 407, 408, 397, 398, 399, 415, 416, 417] (by decide +kernel) (by decide +kernel)
set_option maxRecDepth 20000 in
theorem gL_law_L_plays : GoodIn wsL_law (va_wsS RL 143 yL_plays wsL_plays) := goodIn_app (goodIn_of _ (by decide +kernel)) ggL_law_L_plays
set_option maxRecDepth 20000 in
theorem ggL_law_L_nights : GoodIn wsL_law wsL_nights := goodIn_r _ [420, 394, 395, 102, 396] (by decide +kernel) (by decide +kernel)
set_option maxRecDepth 20000 in
theorem gL_law_L_nights : GoodIn wsL_law (va_wsS RL 147 yL_nights wsL_nights) := goodIn_app (goodIn_of _ (by decide +kernel)) ggL_law_L_nights
set_option maxRecDepth 20000 in
theorem ggL_law_L_ofRest : GoodIn wsL_law wsL_ofRest := goodIn_r _ [423, 424, 425, 102, 426] (by decide +kernel) (by decide +kernel)
set_option maxRecDepth 20000 in
theorem gL_law_L_ofRest : GoodIn wsL_law (va_wsS RL 151 yL_ofRest wsL_ofRest) := goodIn_app (goodIn_of _ (by decide +kernel)) ggL_law_L_ofRest
set_option maxRecDepth 20000 in
theorem il_big : Cond.code yL_isSo cL_isSo 21 (some .boolean) ∈ wsL_law := List.mem_append_left _ (List.mem_append_left _ (List.mem_append_left _ (List.mem_append_left _ (List.mem_append_left _ (List.mem_append_left _ (List.mem_append_left _ (List.mem_append_left _ (List.mem_append_left _ (List.mem_append_right _ (List.mem_append_right _ (List.mem_append_right _ (List.mem_append_right _ (List.mem_append_right _ (List.mem_append_right _ (List.mem_append_right _ (List.mem_append_right _ (List.mem_append_right _ (List.mem_append_right _ (List.mem_append_right _ (List.mem_append_right _ (List.mem_append_right _ (List.mem_append_right _ (List.mem_append_right _ (List.mem_append_right _ (List.mem_append_right _ (List.mem_append_left _ (List.mem_of_getElem? (i := 21) rfl)))))))))))))))))))))))))))
theorem goodIn_c {big a : List Cond} {c : Cond} (hm : c ∈ big) (hg : goodWord c = true) (ha : GoodIn big a) : GoodIn big (c :: a) := fun w h => (List.mem_cons.mp h).elim (fun e => e ▸ ⟨hm, good_of_word hg⟩) (ha w)
set_option maxRecDepth 20000 in
theorem ggL_law_L_isSo : GoodIn wsL_law wsL_isSo := show GoodIn wsL_law (Cond.code yL_isSo cL_isSo 21 (some .boolean) :: wsL_isSo.tail) from goodIn_c il_big rfl (goodIn_r _ [117, 118, 119, 2, 120, 22, 17, 13, 121, 122, 123, 21, 124, 125, 126, 127, 128, 16, 129, 130, 131, 132, 133, 12, 134, 135, 136, 137, 43, 42, 45, 138, 38, 34, 139, 140, 141, 33, 142, 54, 143, 144, 145, 146, 147, 148, 149, 150, 151, 152, 153, 37, 154, 61, 155, 430, 431, 102, 432, 424, 425, 426, 106, 107, 108, 109, 412, 413, 414, 180, 181, 182, 183, 184, 185, 186, 41, 187, 76, 77, 78, 188, 189, 190, 191, 192, 193, 194, 74, 195, 415, 416, 417, 433, 434, 435, 436, 437, 438, 439, 440, 441, 51, 52, 53, 442, 334, 335, 336, 196, 197, 198, 199, 200, 201, 202, 203, 75, 204, 205, 206, 207, 208, 209, 210, 211, 212, 213, 214, 44, 215, 216, 217, 443, 444, 445, 446, 447, 448, 449, 403, 404, 405, 450, 451, 452, 453, 454, 455, 456, 457, 314, 315, 316, 458, 459, 460, 461, 462, 463, 464, 465, 466, 467, 468, 156, 157, 158, 159, 160, 161, 162, 163, 164, 165, 166, 167, 168, 169, 170, 469, 470, 471, 472, 473, 474, 475, 476, 238, 171, 172, 173, 174, 175, 176, 177, 178, 179, 64, 477, 478, 479, 480, 481, 496, 497, 493, 494, 495, 482, 483, 484, 485, 486, 487, 488, 489, 490, 491, 492, 512, 513, 514, 515, 516, 517, 504, 505, 506, 507, 508, 509, 510, 511, 503] (by decide +kernel) (by decide +kernel))
set_option maxRecDepth 20000 in
theorem gL_law_L_isSo : GoodIn wsL_law (va_wsS RL 155 yL_isSo wsL_isSo) := goodIn_app (goodIn_of _ (by decide +kernel)) ggL_law_L_isSo
theorem dL_law_0 : decode cL_law 0 = .ok (.new 35, 3) := by decide +kernel
theorem dL_law_3 : decode cL_law 3 = .ok (.dup, 1) := by decide +kernel
theorem dL_law_4 : decode cL_law 4 = .ok (.invokespecial 120, 3) := by decide +kernel
theorem dL_law_7 : decode cL_law 7 = .ok (.astore_n 1, 1) := by decide +kernel
theorem dL_law_8 : decode cL_law 8 = .ok (.bipush 19, 2) := by decide +kernel
theorem dL_law_10 : decode cL_law 10 = .ok (.newarray .int, 2) := by decide +kernel
theorem dL_law_12 : decode cL_law 12 = .ok (.astore_n 2, 1) := by decide +kernel
theorem dL_law_13 : decode cL_law 13 = .ok (.bipush 30, 2) := by decide +kernel
theorem dL_law_15 : decode cL_law 15 = .ok (.newarray .int, 2) := by decide +kernel
theorem dL_law_17 : decode cL_law 17 = .ok (.astore_n 3, 1) := by decide +kernel
theorem dL_law_18 : decode cL_law 18 = .ok (.bipush 30, 2) := by decide +kernel
theorem dL_law_20 : decode cL_law 20 = .ok (.newarray .int, 2) := by decide +kernel
theorem dL_law_22 : decode cL_law 22 = .ok (.astore 4, 2) := by decide +kernel
theorem dL_law_24 : decode cL_law 24 = .ok (.bipush 30, 2) := by decide +kernel
theorem dL_law_26 : decode cL_law 26 = .ok (.newarray .int, 2) := by decide +kernel
theorem dL_law_28 : decode cL_law 28 = .ok (.astore 5, 2) := by decide +kernel
theorem dL_law_30 : decode cL_law 30 = .ok (.bipush 30, 2) := by decide +kernel
theorem dL_law_32 : decode cL_law 32 = .ok (.newarray .int, 2) := by decide +kernel
theorem dL_law_34 : decode cL_law 34 = .ok (.astore 6, 2) := by decide +kernel
theorem dL_law_36 : decode cL_law 36 = .ok (.bipush 18, 2) := by decide +kernel
theorem dL_law_38 : decode cL_law 38 = .ok (.newarray .int, 2) := by decide +kernel
theorem dL_law_40 : decode cL_law 40 = .ok (.astore 7, 2) := by decide +kernel
theorem dL_law_42 : decode cL_law 42 = .ok (.bipush 16, 2) := by decide +kernel
theorem dL_law_44 : decode cL_law 44 = .ok (.newarray .int, 2) := by decide +kernel
theorem dL_law_46 : decode cL_law 46 = .ok (.astore 8, 2) := by decide +kernel
theorem dL_law_48 : decode cL_law 48 = .ok (.bipush 30, 2) := by decide +kernel
theorem dL_law_50 : decode cL_law 50 = .ok (.newarray .int, 2) := by decide +kernel
theorem dL_law_52 : decode cL_law 52 = .ok (.astore 9, 2) := by decide +kernel
theorem dL_law_54 : decode cL_law 54 = .ok (.bipush 24, 2) := by decide +kernel
theorem dL_law_56 : decode cL_law 56 = .ok (.newarray .int, 2) := by decide +kernel
theorem dL_law_58 : decode cL_law 58 = .ok (.astore 10, 2) := by decide +kernel
theorem dL_law_60 : decode cL_law 60 = .ok (.aload_n 2, 1) := by decide +kernel
theorem dL_law_61 : decode cL_law 61 = .ok (.iconst 0, 1) := by decide +kernel
theorem dL_law_62 : decode cL_law 62 = .ok (.bipush 10, 2) := by decide +kernel
theorem dL_law_64 : decode cL_law 64 = .ok (.iastore, 1) := by decide +kernel
theorem dL_law_65 : decode cL_law 65 = .ok (.aload_n 2, 1) := by decide +kernel
theorem dL_law_66 : decode cL_law 66 = .ok (.iconst 1, 1) := by decide +kernel
theorem dL_law_67 : decode cL_law 67 = .ok (.sipush 200, 3) := by decide +kernel
theorem dL_law_70 : decode cL_law 70 = .ok (.iastore, 1) := by decide +kernel
theorem dL_law_71 : decode cL_law 71 = .ok (.aload_n 2, 1) := by decide +kernel
theorem dL_law_72 : decode cL_law 72 = .ok (.iconst 2, 1) := by decide +kernel
theorem dL_law_73 : decode cL_law 73 = .ok (.bipush 60, 2) := by decide +kernel
theorem dL_law_75 : decode cL_law 75 = .ok (.iastore, 1) := by decide +kernel
theorem dL_law_76 : decode cL_law 76 = .ok (.aload_n 2, 1) := by decide +kernel
theorem dL_law_77 : decode cL_law 77 = .ok (.iconst 3, 1) := by decide +kernel
theorem dL_law_78 : decode cL_law 78 = .ok (.iconst 2, 1) := by decide +kernel
theorem dL_law_79 : decode cL_law 79 = .ok (.iastore, 1) := by decide +kernel
theorem dL_law_80 : decode cL_law 80 = .ok (.aload_n 2, 1) := by decide +kernel
theorem dL_law_81 : decode cL_law 81 = .ok (.iconst 4, 1) := by decide +kernel
theorem dL_law_82 : decode cL_law 82 = .ok (.iconst 3, 1) := by decide +kernel
theorem dL_law_83 : decode cL_law 83 = .ok (.iastore, 1) := by decide +kernel
theorem dL_law_84 : decode cL_law 84 = .ok (.aload_n 2, 1) := by decide +kernel
theorem dL_law_85 : decode cL_law 85 = .ok (.iconst 5, 1) := by decide +kernel
theorem dL_law_86 : decode cL_law 86 = .ok (.bipush 50, 2) := by decide +kernel
theorem dL_law_88 : decode cL_law 88 = .ok (.iastore, 1) := by decide +kernel
theorem dL_law_89 : decode cL_law 89 = .ok (.aload_n 2, 1) := by decide +kernel
theorem dL_law_90 : decode cL_law 90 = .ok (.bipush 13, 2) := by decide +kernel
theorem dL_law_92 : decode cL_law 92 = .ok (.iconst (-1), 1) := by decide +kernel
theorem dL_law_93 : decode cL_law 93 = .ok (.iastore, 1) := by decide +kernel
theorem dL_law_94 : decode cL_law 94 = .ok (.iconst 0, 1) := by decide +kernel
theorem dL_law_95 : decode cL_law 95 = .ok (.istore 11, 2) := by decide +kernel
theorem dL_law_97 : decode cL_law 97 = .ok (.iload 11, 2) := by decide +kernel
theorem dL_law_99 : decode cL_law 99 = .ok (.bipush 30, 2) := by decide +kernel
theorem dL_law_101 : decode cL_law 101 = .ok (.if_icmp .ge 14, 3) := by decide +kernel
theorem dL_law_104 : decode cL_law 104 = .ok (.aload_n 3, 1) := by decide +kernel
theorem dL_law_105 : decode cL_law 105 = .ok (.iload 11, 2) := by decide +kernel
theorem dL_law_107 : decode cL_law 107 = .ok (.iconst 3, 1) := by decide +kernel
theorem dL_law_108 : decode cL_law 108 = .ok (.iastore, 1) := by decide +kernel
theorem dL_law_109 : decode cL_law 109 = .ok (.iinc 11 1, 3) := by decide +kernel
theorem dL_law_112 : decode cL_law 112 = .ok (.goto (-15), 3) := by decide +kernel
theorem dL_law_115 : decode cL_law 115 = .ok (.iconst 0, 1) := by decide +kernel
theorem dL_law_116 : decode cL_law 116 = .ok (.istore 11, 2) := by decide +kernel
theorem dL_law_118 : decode cL_law 118 = .ok (.iload 11, 2) := by decide +kernel
theorem dL_law_120 : decode cL_law 120 = .ok (.bipush 60, 2) := by decide +kernel
theorem dL_law_122 : decode cL_law 122 = .ok (.if_icmp .ge 606, 3) := by decide +kernel
theorem dL_law_125 : decode cL_law 125 = .ok (.aload_n 0, 1) := by decide +kernel
theorem dL_law_126 : decode cL_law 126 = .ok (.iconst 2, 1) := by decide +kernel
theorem dL_law_127 : decode cL_law 127 = .ok (.iload 11, 2) := by decide +kernel
theorem dL_law_129 : decode cL_law 129 = .ok (.imul, 1) := by decide +kernel
theorem dL_law_130 : decode cL_law 130 = .ok (.invokestatic 121, 3) := by decide +kernel
theorem dL_law_133 : decode cL_law 133 = .ok (.istore 12, 2) := by decide +kernel
theorem dL_law_135 : decode cL_law 135 = .ok (.aload_n 0, 1) := by decide +kernel
theorem dL_law_136 : decode cL_law 136 = .ok (.iconst 2, 1) := by decide +kernel
theorem dL_law_137 : decode cL_law 137 = .ok (.iload 11, 2) := by decide +kernel
theorem dL_law_139 : decode cL_law 139 = .ok (.imul, 1) := by decide +kernel
theorem dL_law_140 : decode cL_law 140 = .ok (.iconst 1, 1) := by decide +kernel
theorem dL_law_141 : decode cL_law 141 = .ok (.iadd, 1) := by decide +kernel
theorem dL_law_142 : decode cL_law 142 = .ok (.invokestatic 121, 3) := by decide +kernel
theorem dL_law_145 : decode cL_law 145 = .ok (.istore 13, 2) := by decide +kernel
theorem dL_law_147 : decode cL_law 147 = .ok (.iload 12, 2) := by decide +kernel
theorem dL_law_149 : decode cL_law 149 = .ok (.bipush 32, 2) := by decide +kernel
theorem dL_law_151 : decode cL_law 151 = .ok (.invokestatic 84, 3) := by decide +kernel
theorem dL_law_154 : decode cL_law 154 = .ok (.istore 14, 2) := by decide +kernel
theorem dL_law_156 : decode cL_law 156 = .ok (.iload 14, 2) := by decide +kernel
theorem dL_law_158 : decode cL_law 158 = .ok (.bipush 14, 2) := by decide +kernel
theorem dL_law_160 : decode cL_law 160 = .ok (.if_icmp .ge 7, 3) := by decide +kernel
theorem dL_law_163 : decode cL_law 163 = .ok (.iconst 0, 1) := by decide +kernel
theorem dL_law_164 : decode cL_law 164 = .ok (.goto 84, 3) := by decide +kernel
theorem dL_law_167 : decode cL_law 167 = .ok (.iload 14, 2) := by decide +kernel
theorem dL_law_169 : decode cL_law 169 = .ok (.bipush 18, 2) := by decide +kernel
theorem dL_law_171 : decode cL_law 171 = .ok (.if_icmp .ge 7, 3) := by decide +kernel
theorem dL_law_174 : decode cL_law 174 = .ok (.iconst 1, 1) := by decide +kernel
theorem dL_law_175 : decode cL_law 175 = .ok (.goto 73, 3) := by decide +kernel
theorem dL_law_178 : decode cL_law 178 = .ok (.iload 14, 2) := by decide +kernel
theorem dL_law_180 : decode cL_law 180 = .ok (.bipush 21, 2) := by decide +kernel
theorem dL_law_182 : decode cL_law 182 = .ok (.if_icmp .ge 7, 3) := by decide +kernel
theorem dL_law_185 : decode cL_law 185 = .ok (.iconst 2, 1) := by decide +kernel
theorem dL_law_186 : decode cL_law 186 = .ok (.goto 62, 3) := by decide +kernel
theorem dL_law_189 : decode cL_law 189 = .ok (.iload 14, 2) := by decide +kernel
theorem dL_law_191 : decode cL_law 191 = .ok (.bipush 24, 2) := by decide +kernel
theorem dL_law_193 : decode cL_law 193 = .ok (.if_icmp .ge 7, 3) := by decide +kernel
theorem dL_law_196 : decode cL_law 196 = .ok (.iconst 3, 1) := by decide +kernel
theorem dL_law_197 : decode cL_law 197 = .ok (.goto 51, 3) := by decide +kernel
theorem dL_law_200 : decode cL_law 200 = .ok (.iload 14, 2) := by decide +kernel
theorem dL_law_202 : decode cL_law 202 = .ok (.bipush 26, 2) := by decide +kernel
theorem dL_law_204 : decode cL_law 204 = .ok (.if_icmp .ge 7, 3) := by decide +kernel
theorem dL_law_207 : decode cL_law 207 = .ok (.iconst 4, 1) := by decide +kernel
theorem dL_law_208 : decode cL_law 208 = .ok (.goto 40, 3) := by decide +kernel
theorem dL_law_211 : decode cL_law 211 = .ok (.iload 14, 2) := by decide +kernel
theorem dL_law_213 : decode cL_law 213 = .ok (.bipush 26, 2) := by decide +kernel
theorem dL_law_215 : decode cL_law 215 = .ok (.if_icmp .ne 7, 3) := by decide +kernel
theorem dL_law_218 : decode cL_law 218 = .ok (.iconst 5, 1) := by decide +kernel
theorem dL_law_219 : decode cL_law 219 = .ok (.goto 29, 3) := by decide +kernel
theorem dL_law_222 : decode cL_law 222 = .ok (.iload 14, 2) := by decide +kernel
theorem dL_law_224 : decode cL_law 224 = .ok (.bipush 29, 2) := by decide +kernel
theorem dL_law_226 : decode cL_law 226 = .ok (.if_icmp .ge 8, 3) := by decide +kernel
theorem dL_law_229 : decode cL_law 229 = .ok (.bipush 6, 2) := by decide +kernel
theorem dL_law_231 : decode cL_law 231 = .ok (.goto 17, 3) := by decide +kernel
theorem dL_law_234 : decode cL_law 234 = .ok (.iload 14, 2) := by decide +kernel
theorem dL_law_236 : decode cL_law 236 = .ok (.bipush 29, 2) := by decide +kernel
theorem dL_law_238 : decode cL_law 238 = .ok (.if_icmp .ne 8, 3) := by decide +kernel
theorem dL_law_241 : decode cL_law 241 = .ok (.bipush 7, 2) := by decide +kernel
theorem dL_law_243 : decode cL_law 243 = .ok (.goto 5, 3) := by decide +kernel
theorem dL_law_246 : decode cL_law 246 = .ok (.bipush 8, 2) := by decide +kernel
theorem dL_law_248 : decode cL_law 248 = .ok (.istore 14, 2) := by decide +kernel
theorem dL_law_250 : decode cL_law 250 = .ok (.iload 14, 2) := by decide +kernel
theorem dL_law_252 : decode cL_law 252 = .ok (.ifCond .eq 17, 3) := by decide +kernel
theorem dL_law_255 : decode cL_law 255 = .ok (.iload 14, 2) := by decide +kernel
theorem dL_law_257 : decode cL_law 257 = .ok (.bipush 6, 2) := by decide +kernel
theorem dL_law_259 : decode cL_law 259 = .ok (.if_icmp .eq 10, 3) := by decide +kernel
theorem dL_law_262 : decode cL_law 262 = .ok (.iload 14, 2) := by decide +kernel
theorem dL_law_264 : decode cL_law 264 = .ok (.bipush 7, 2) := by decide +kernel
theorem dL_law_266 : decode cL_law 266 = .ok (.if_icmp .ne 13, 3) := by decide +kernel
theorem dL_law_269 : decode cL_law 269 = .ok (.iload 13, 2) := by decide +kernel
theorem dL_law_271 : decode cL_law 271 = .ok (.bipush 30, 2) := by decide +kernel
theorem dL_law_273 : decode cL_law 273 = .ok (.invokestatic 84, 3) := by decide +kernel
theorem dL_law_276 : decode cL_law 276 = .ok (.goto 44, 3) := by decide +kernel
theorem dL_law_279 : decode cL_law 279 = .ok (.iload 14, 2) := by decide +kernel
theorem dL_law_281 : decode cL_law 281 = .ok (.iconst 2, 1) := by decide +kernel
theorem dL_law_282 : decode cL_law 282 = .ok (.if_icmp .ne 31, 3) := by decide +kernel
theorem dL_law_285 : decode cL_law 285 = .ok (.iconst 1, 1) := by decide +kernel
theorem dL_law_286 : decode cL_law 286 = .ok (.iload 13, 2) := by decide +kernel
theorem dL_law_288 : decode cL_law 288 = .ok (.iload 13, 2) := by decide +kernel
theorem dL_law_290 : decode cL_law 290 = .ok (.bipush 20, 2) := by decide +kernel
theorem dL_law_292 : decode cL_law 292 = .ok (.ishr, 1) := by decide +kernel
theorem dL_law_293 : decode cL_law 293 = .ok (.iconst 4, 1) := by decide +kernel
theorem dL_law_294 : decode cL_law 294 = .ok (.invokestatic 84, 3) := by decide +kernel
theorem dL_law_297 : decode cL_law 297 = .ok (.ifCond .ne 8, 3) := by decide +kernel
theorem dL_law_300 : decode cL_law 300 = .ok (.bipush 99, 2) := by decide +kernel
theorem dL_law_302 : decode cL_law 302 = .ok (.goto 4, 3) := by decide +kernel
theorem dL_law_305 : decode cL_law 305 = .ok (.iconst 4, 1) := by decide +kernel
theorem dL_law_306 : decode cL_law 306 = .ok (.invokestatic 84, 3) := by decide +kernel
theorem dL_law_309 : decode cL_law 309 = .ok (.iadd, 1) := by decide +kernel
theorem dL_law_310 : decode cL_law 310 = .ok (.goto 10, 3) := by decide +kernel
theorem dL_law_313 : decode cL_law 313 = .ok (.iload 13, 2) := by decide +kernel
theorem dL_law_315 : decode cL_law 315 = .ok (.bipush 6, 2) := by decide +kernel
theorem dL_law_317 : decode cL_law 317 = .ok (.invokestatic 84, 3) := by decide +kernel
theorem dL_law_320 : decode cL_law 320 = .ok (.istore 15, 2) := by decide +kernel
theorem dL_law_322 : decode cL_law 322 = .ok (.iload 14, 2) := by decide +kernel
theorem dL_law_324 : decode cL_law 324 = .ok (.bipush 6, 2) := by decide +kernel
theorem dL_law_326 : decode cL_law 326 = .ok (.if_icmp .ne 17, 3) := by decide +kernel
theorem dL_law_329 : decode cL_law 329 = .ok (.iconst 1, 1) := by decide +kernel
theorem dL_law_330 : decode cL_law 330 = .ok (.iload 13, 2) := by decide +kernel
theorem dL_law_332 : decode cL_law 332 = .ok (.iconst 5, 1) := by decide +kernel
theorem dL_law_333 : decode cL_law 333 = .ok (.ishr, 1) := by decide +kernel
theorem dL_law_334 : decode cL_law 334 = .ok (.bipush 9, 2) := by decide +kernel
theorem dL_law_336 : decode cL_law 336 = .ok (.invokestatic 84, 3) := by decide +kernel
theorem dL_law_339 : decode cL_law 339 = .ok (.iadd, 1) := by decide +kernel
theorem dL_law_340 : decode cL_law 340 = .ok (.goto 112, 3) := by decide +kernel
theorem dL_law_343 : decode cL_law 343 = .ok (.iload 15, 2) := by decide +kernel
theorem dL_law_345 : decode cL_law 345 = .ok (.ifCond .ne 17, 3) := by decide +kernel
theorem dL_law_348 : decode cL_law 348 = .ok (.iconst 1, 1) := by decide +kernel
theorem dL_law_349 : decode cL_law 349 = .ok (.iload 13, 2) := by decide +kernel
theorem dL_law_351 : decode cL_law 351 = .ok (.iconst 5, 1) := by decide +kernel
theorem dL_law_352 : decode cL_law 352 = .ok (.ishr, 1) := by decide +kernel
theorem dL_law_353 : decode cL_law 353 = .ok (.bipush 50, 2) := by decide +kernel
theorem dL_law_355 : decode cL_law 355 = .ok (.invokestatic 84, 3) := by decide +kernel
theorem dL_law_358 : decode cL_law 358 = .ok (.iadd, 1) := by decide +kernel
theorem dL_law_359 : decode cL_law 359 = .ok (.goto 93, 3) := by decide +kernel
theorem dL_law_362 : decode cL_law 362 = .ok (.iload 15, 2) := by decide +kernel
theorem dL_law_364 : decode cL_law 364 = .ok (.iconst 1, 1) := by decide +kernel
theorem dL_law_365 : decode cL_law 365 = .ok (.if_icmp .ne 18, 3) := by decide +kernel
theorem dL_law_368 : decode cL_law 368 = .ok (.bipush 20, 2) := by decide +kernel
theorem dL_law_370 : decode cL_law 370 = .ok (.iload 13, 2) := by decide +kernel
theorem dL_law_372 : decode cL_law 372 = .ok (.iconst 5, 1) := by decide +kernel
theorem dL_law_373 : decode cL_law 373 = .ok (.ishr, 1) := by decide +kernel
theorem dL_law_374 : decode cL_law 374 = .ok (.bipush 100, 2) := by decide +kernel
theorem dL_law_376 : decode cL_law 376 = .ok (.invokestatic 84, 3) := by decide +kernel
theorem dL_law_379 : decode cL_law 379 = .ok (.iadd, 1) := by decide +kernel
theorem dL_law_380 : decode cL_law 380 = .ok (.goto 72, 3) := by decide +kernel
theorem dL_law_383 : decode cL_law 383 = .ok (.iload 15, 2) := by decide +kernel
theorem dL_law_385 : decode cL_law 385 = .ok (.iconst 2, 1) := by decide +kernel
theorem dL_law_386 : decode cL_law 386 = .ok (.if_icmp .ne 17, 3) := by decide +kernel
theorem dL_law_389 : decode cL_law 389 = .ok (.iconst 1, 1) := by decide +kernel
theorem dL_law_390 : decode cL_law 390 = .ok (.iload 13, 2) := by decide +kernel
theorem dL_law_392 : decode cL_law 392 = .ok (.iconst 5, 1) := by decide +kernel
theorem dL_law_393 : decode cL_law 393 = .ok (.ishr, 1) := by decide +kernel
theorem dL_law_394 : decode cL_law 394 = .ok (.bipush 60, 2) := by decide +kernel
theorem dL_law_396 : decode cL_law 396 = .ok (.invokestatic 84, 3) := by decide +kernel
theorem dL_law_399 : decode cL_law 399 = .ok (.iadd, 1) := by decide +kernel
theorem dL_law_400 : decode cL_law 400 = .ok (.goto 52, 3) := by decide +kernel
theorem dL_law_403 : decode cL_law 403 = .ok (.iload 15, 2) := by decide +kernel
theorem dL_law_405 : decode cL_law 405 = .ok (.iconst 3, 1) := by decide +kernel
theorem dL_law_406 : decode cL_law 406 = .ok (.if_icmp .ne 15, 3) := by decide +kernel
theorem dL_law_409 : decode cL_law 409 = .ok (.iload 13, 2) := by decide +kernel
theorem dL_law_411 : decode cL_law 411 = .ok (.iconst 5, 1) := by decide +kernel
theorem dL_law_412 : decode cL_law 412 = .ok (.ishr, 1) := by decide +kernel
theorem dL_law_413 : decode cL_law 413 = .ok (.bipush 10, 2) := by decide +kernel
theorem dL_law_415 : decode cL_law 415 = .ok (.invokestatic 84, 3) := by decide +kernel
theorem dL_law_418 : decode cL_law 418 = .ok (.goto 34, 3) := by decide +kernel
theorem dL_law_421 : decode cL_law 421 = .ok (.iload 15, 2) := by decide +kernel
theorem dL_law_423 : decode cL_law 423 = .ok (.iconst 4, 1) := by decide +kernel
theorem dL_law_424 : decode cL_law 424 = .ok (.if_icmp .ne 17, 3) := by decide +kernel
theorem dL_law_427 : decode cL_law 427 = .ok (.iconst 1, 1) := by decide +kernel
theorem dL_law_428 : decode cL_law 428 = .ok (.iload 13, 2) := by decide +kernel
theorem dL_law_430 : decode cL_law 430 = .ok (.iconst 5, 1) := by decide +kernel
theorem dL_law_431 : decode cL_law 431 = .ok (.ishr, 1) := by decide +kernel
theorem dL_law_432 : decode cL_law 432 = .ok (.bipush 9, 2) := by decide +kernel
theorem dL_law_434 : decode cL_law 434 = .ok (.invokestatic 84, 3) := by decide +kernel
theorem dL_law_437 : decode cL_law 437 = .ok (.iadd, 1) := by decide +kernel
theorem dL_law_438 : decode cL_law 438 = .ok (.goto 14, 3) := by decide +kernel
theorem dL_law_441 : decode cL_law 441 = .ok (.iconst 1, 1) := by decide +kernel
theorem dL_law_442 : decode cL_law 442 = .ok (.iload 13, 2) := by decide +kernel
theorem dL_law_444 : decode cL_law 444 = .ok (.iconst 5, 1) := by decide +kernel
theorem dL_law_445 : decode cL_law 445 = .ok (.ishr, 1) := by decide +kernel
theorem dL_law_446 : decode cL_law 446 = .ok (.bipush 100, 2) := by decide +kernel
theorem dL_law_448 : decode cL_law 448 = .ok (.invokestatic 84, 3) := by decide +kernel
theorem dL_law_451 : decode cL_law 451 = .ok (.iadd, 1) := by decide +kernel
theorem dL_law_452 : decode cL_law 452 = .ok (.istore 16, 2) := by decide +kernel
theorem dL_law_454 : decode cL_law 454 = .ok (.aload_n 1, 1) := by decide +kernel
theorem dL_law_455 : decode cL_law 455 = .ok (.invokestatic 125, 3) := by decide +kernel
theorem dL_law_458 : decode cL_law 458 = .ok (.lstore 17, 2) := by decide +kernel
theorem dL_law_460 : decode cL_law 460 = .ok (.aload_n 1, 1) := by decide +kernel
theorem dL_law_461 : decode cL_law 461 = .ok (.iload 14, 2) := by decide +kernel
theorem dL_law_463 : decode cL_law 463 = .ok (.iload 15, 2) := by decide +kernel
theorem dL_law_465 : decode cL_law 465 = .ok (.iload 16, 2) := by decide +kernel
theorem dL_law_467 : decode cL_law 467 = .ok (.invokestatic 129, 3) := by decide +kernel
theorem dL_law_470 : decode cL_law 470 = .ok (.istore 19, 2) := by decide +kernel
theorem dL_law_472 : decode cL_law 472 = .ok (.iload 19, 2) := by decide +kernel
theorem dL_law_474 : decode cL_law 474 = .ok (.ifCond .ge 16, 3) := by decide +kernel
theorem dL_law_477 : decode cL_law 477 = .ok (.aload_n 1, 1) := by decide +kernel
theorem dL_law_478 : decode cL_law 478 = .ok (.invokestatic 125, 3) := by decide +kernel
theorem dL_law_481 : decode cL_law 481 = .ok (.lload 17, 2) := by decide +kernel
theorem dL_law_483 : decode cL_law 483 = .ok (.lcmp, 1) := by decide +kernel
theorem dL_law_484 : decode cL_law 484 = .ok (.ifCond .eq 50, 3) := by decide +kernel
theorem dL_law_487 : decode cL_law 487 = .ok (.goto 45, 3) := by decide +kernel
theorem dL_law_490 : decode cL_law 490 = .ok (.iload 12, 2) := by decide +kernel
theorem dL_law_492 : decode cL_law 492 = .ok (.bipush 24, 2) := by decide +kernel
theorem dL_law_494 : decode cL_law 494 = .ok (.ishr, 1) := by decide +kernel
theorem dL_law_495 : decode cL_law 495 = .ok (.iconst 3, 1) := by decide +kernel
theorem dL_law_496 : decode cL_law 496 = .ok (.iand, 1) := by decide +kernel
theorem dL_law_497 : decode cL_law 497 = .ok (.ifCond .ne 37, 3) := by decide +kernel
theorem dL_law_500 : decode cL_law 500 = .ok (.aload_n 1, 1) := by decide +kernel
theorem dL_law_501 : decode cL_law 501 = .ok (.invokevirtual 132, 3) := by decide +kernel
theorem dL_law_504 : decode cL_law 504 = .ok (.ifCond .lt 28, 3) := by decide +kernel
theorem dL_law_507 : decode cL_law 507 = .ok (.aload_n 1, 1) := by decide +kernel
theorem dL_law_508 : decode cL_law 508 = .ok (.invokestatic 125, 3) := by decide +kernel
theorem dL_law_511 : decode cL_law 511 = .ok (.lload 17, 2) := by decide +kernel
theorem dL_law_513 : decode cL_law 513 = .ok (.lcmp, 1) := by decide +kernel
theorem dL_law_514 : decode cL_law 514 = .ok (.ifCond .ne 18, 3) := by decide +kernel
theorem dL_law_517 : decode cL_law 517 = .ok (.aload_n 1, 1) := by decide +kernel
theorem dL_law_518 : decode cL_law 518 = .ok (.iload 14, 2) := by decide +kernel
theorem dL_law_520 : decode cL_law 520 = .ok (.iload 15, 2) := by decide +kernel
theorem dL_law_522 : decode cL_law 522 = .ok (.iload 16, 2) := by decide +kernel
theorem dL_law_524 : decode cL_law 524 = .ok (.invokestatic 129, 3) := by decide +kernel
theorem dL_law_527 : decode cL_law 527 = .ok (.iload 19, 2) := by decide +kernel
theorem dL_law_529 : decode cL_law 529 = .ok (.if_icmp .eq 5, 3) := by decide +kernel
theorem dL_law_532 : decode cL_law 532 = .ok (.iconst 0, 1) := by decide +kernel
theorem dL_law_533 : decode cL_law 533 = .ok (.ireturn, 1) := by decide +kernel
theorem dL_law_534 : decode cL_law 534 = .ok (.iconst 0, 1) := by decide +kernel
theorem dL_law_535 : decode cL_law 535 = .ok (.istore 20, 2) := by decide +kernel
theorem dL_law_537 : decode cL_law 537 = .ok (.iload 14, 2) := by decide +kernel
theorem dL_law_539 : decode cL_law 539 = .ok (.ifCond .ne 27, 3) := by decide +kernel
theorem dL_law_542 : decode cL_law 542 = .ok (.iload 15, 2) := by decide +kernel
theorem dL_law_544 : decode cL_law 544 = .ok (.aload_n 2, 1) := by decide +kernel
theorem dL_law_545 : decode cL_law 545 = .ok (.aload_n 3, 1) := by decide +kernel
theorem dL_law_546 : decode cL_law 546 = .ok (.aload 4, 2) := by decide +kernel
theorem dL_law_548 : decode cL_law 548 = .ok (.aload 5, 2) := by decide +kernel
theorem dL_law_550 : decode cL_law 550 = .ok (.aload 6, 2) := by decide +kernel
theorem dL_law_552 : decode cL_law 552 = .ok (.aload 7, 2) := by decide +kernel
theorem dL_law_554 : decode cL_law 554 = .ok (.aload 8, 2) := by decide +kernel
theorem dL_law_556 : decode cL_law 556 = .ok (.aload 9, 2) := by decide +kernel
theorem dL_law_558 : decode cL_law 558 = .ok (.invokestatic 135, 3) := by decide +kernel
theorem dL_law_561 : decode cL_law 561 = .ok (.istore 20, 2) := by decide +kernel
theorem dL_law_563 : decode cL_law 563 = .ok (.goto 123, 3) := by decide +kernel
theorem dL_law_566 : decode cL_law 566 = .ok (.iload 14, 2) := by decide +kernel
theorem dL_law_568 : decode cL_law 568 = .ok (.iconst 1, 1) := by decide +kernel
theorem dL_law_569 : decode cL_law 569 = .ok (.if_icmp .ne 17, 3) := by decide +kernel
theorem dL_law_572 : decode cL_law 572 = .ok (.iload 15, 2) := by decide +kernel
theorem dL_law_574 : decode cL_law 574 = .ok (.aload_n 2, 1) := by decide +kernel
theorem dL_law_575 : decode cL_law 575 = .ok (.aload_n 3, 1) := by decide +kernel
theorem dL_law_576 : decode cL_law 576 = .ok (.aload 7, 2) := by decide +kernel
theorem dL_law_578 : decode cL_law 578 = .ok (.invokestatic 27, 3) := by decide +kernel
theorem dL_law_581 : decode cL_law 581 = .ok (.istore 20, 2) := by decide +kernel
theorem dL_law_583 : decode cL_law 583 = .ok (.goto 103, 3) := by decide +kernel
theorem dL_law_586 : decode cL_law 586 = .ok (.iload 14, 2) := by decide +kernel
theorem dL_law_588 : decode cL_law 588 = .ok (.iconst 2, 1) := by decide +kernel
theorem dL_law_589 : decode cL_law 589 = .ok (.if_icmp .ne 36, 3) := by decide +kernel
theorem dL_law_592 : decode cL_law 592 = .ok (.iconst 0, 1) := by decide +kernel
theorem dL_law_593 : decode cL_law 593 = .ok (.istore 21, 2) := by decide +kernel
theorem dL_law_595 : decode cL_law 595 = .ok (.iload 21, 2) := by decide +kernel
theorem dL_law_597 : decode cL_law 597 = .ok (.iload 15, 2) := by decide +kernel
theorem dL_law_599 : decode cL_law 599 = .ok (.if_icmp .ge 17, 3) := by decide +kernel
theorem dL_law_602 : decode cL_law 602 = .ok (.aload_n 2, 1) := by decide +kernel
theorem dL_law_603 : decode cL_law 603 = .ok (.aload 7, 2) := by decide +kernel
theorem dL_law_605 : decode cL_law 605 = .ok (.aload 8, 2) := by decide +kernel
theorem dL_law_607 : decode cL_law 607 = .ok (.invokestatic 139, 3) := by decide +kernel
theorem dL_law_610 : decode cL_law 610 = .ok (.iinc 21 1, 3) := by decide +kernel
theorem dL_law_613 : decode cL_law 613 = .ok (.goto (-18), 3) := by decide +kernel
theorem dL_law_616 : decode cL_law 616 = .ok (.aload_n 2, 1) := by decide +kernel
theorem dL_law_617 : decode cL_law 617 = .ok (.bipush 6, 2) := by decide +kernel
theorem dL_law_619 : decode cL_law 619 = .ok (.iaload, 1) := by decide +kernel
theorem dL_law_620 : decode cL_law 620 = .ok (.istore 20, 2) := by decide +kernel
theorem dL_law_622 : decode cL_law 622 = .ok (.goto 64, 3) := by decide +kernel
theorem dL_law_625 : decode cL_law 625 = .ok (.iload 14, 2) := by decide +kernel
theorem dL_law_627 : decode cL_law 627 = .ok (.iconst 3, 1) := by decide +kernel
theorem dL_law_628 : decode cL_law 628 = .ok (.if_icmp .ne 19, 3) := by decide +kernel
theorem dL_law_631 : decode cL_law 631 = .ok (.iload 15, 2) := by decide +kernel
theorem dL_law_633 : decode cL_law 633 = .ok (.aload_n 2, 1) := by decide +kernel
theorem dL_law_634 : decode cL_law 634 = .ok (.aload_n 3, 1) := by decide +kernel
theorem dL_law_635 : decode cL_law 635 = .ok (.aload 7, 2) := by decide +kernel
theorem dL_law_637 : decode cL_law 637 = .ok (.aload 8, 2) := by decide +kernel
theorem dL_law_639 : decode cL_law 639 = .ok (.invokestatic 143, 3) := by decide +kernel
theorem dL_law_642 : decode cL_law 642 = .ok (.istore 20, 2) := by decide +kernel
theorem dL_law_644 : decode cL_law 644 = .ok (.goto 42, 3) := by decide +kernel
theorem dL_law_647 : decode cL_law 647 = .ok (.iload 14, 2) := by decide +kernel
theorem dL_law_649 : decode cL_law 649 = .ok (.iconst 5, 1) := by decide +kernel
theorem dL_law_650 : decode cL_law 650 = .ok (.if_icmp .ne 21, 3) := by decide +kernel
theorem dL_law_653 : decode cL_law 653 = .ok (.aload_n 2, 1) := by decide +kernel
theorem dL_law_654 : decode cL_law 654 = .ok (.aload_n 3, 1) := by decide +kernel
theorem dL_law_655 : decode cL_law 655 = .ok (.aload 5, 2) := by decide +kernel
theorem dL_law_657 : decode cL_law 657 = .ok (.aload 7, 2) := by decide +kernel
theorem dL_law_659 : decode cL_law 659 = .ok (.aload 8, 2) := by decide +kernel
theorem dL_law_661 : decode cL_law 661 = .ok (.aload 10, 2) := by decide +kernel
theorem dL_law_663 : decode cL_law 663 = .ok (.invokestatic 147, 3) := by decide +kernel
theorem dL_law_666 : decode cL_law 666 = .ok (.istore 20, 2) := by decide +kernel
theorem dL_law_668 : decode cL_law 668 = .ok (.goto 18, 3) := by decide +kernel
theorem dL_law_671 : decode cL_law 671 = .ok (.iload 14, 2) := by decide +kernel
theorem dL_law_673 : decode cL_law 673 = .ok (.iload 15, 2) := by decide +kernel
theorem dL_law_675 : decode cL_law 675 = .ok (.iload 16, 2) := by decide +kernel
theorem dL_law_677 : decode cL_law 677 = .ok (.aload_n 2, 1) := by decide +kernel
theorem dL_law_678 : decode cL_law 678 = .ok (.aload_n 3, 1) := by decide +kernel
theorem dL_law_679 : decode cL_law 679 = .ok (.aload 4, 2) := by decide +kernel
theorem dL_law_681 : decode cL_law 681 = .ok (.invokestatic 151, 3) := by decide +kernel
theorem dL_law_684 : decode cL_law 684 = .ok (.istore 20, 2) := by decide +kernel
theorem dL_law_686 : decode cL_law 686 = .ok (.iload 19, 2) := by decide +kernel
theorem dL_law_688 : decode cL_law 688 = .ok (.iload 20, 2) := by decide +kernel
theorem dL_law_690 : decode cL_law 690 = .ok (.if_icmp .ne 30, 3) := by decide +kernel
theorem dL_law_693 : decode cL_law 693 = .ok (.aload_n 1, 1) := by decide +kernel
theorem dL_law_694 : decode cL_law 694 = .ok (.iload 12, 2) := by decide +kernel
theorem dL_law_696 : decode cL_law 696 = .ok (.iconst 5, 1) := by decide +kernel
theorem dL_law_697 : decode cL_law 697 = .ok (.ishr, 1) := by decide +kernel
theorem dL_law_698 : decode cL_law 698 = .ok (.aload_n 2, 1) := by decide +kernel
theorem dL_law_699 : decode cL_law 699 = .ok (.aload_n 3, 1) := by decide +kernel
theorem dL_law_700 : decode cL_law 700 = .ok (.aload 4, 2) := by decide +kernel
theorem dL_law_702 : decode cL_law 702 = .ok (.aload 5, 2) := by decide +kernel
theorem dL_law_704 : decode cL_law 704 = .ok (.aload 6, 2) := by decide +kernel
theorem dL_law_706 : decode cL_law 706 = .ok (.aload 7, 2) := by decide +kernel
theorem dL_law_708 : decode cL_law 708 = .ok (.aload 8, 2) := by decide +kernel
theorem dL_law_710 : decode cL_law 710 = .ok (.aload 9, 2) := by decide +kernel
theorem dL_law_712 : decode cL_law 712 = .ok (.aload 10, 2) := by decide +kernel
theorem dL_law_714 : decode cL_law 714 = .ok (.invokestatic 155, 3) := by decide +kernel
theorem dL_law_717 : decode cL_law 717 = .ok (.ifCond .ne 5, 3) := by decide +kernel
theorem dL_law_720 : decode cL_law 720 = .ok (.iconst 0, 1) := by decide +kernel
theorem dL_law_721 : decode cL_law 721 = .ok (.ireturn, 1) := by decide +kernel
theorem dL_law_722 : decode cL_law 722 = .ok (.iinc 11 1, 3) := by decide +kernel
theorem dL_law_725 : decode cL_law 725 = .ok (.goto (-607), 3) := by decide +kernel
theorem dL_law_728 : decode cL_law 728 = .ok (.iconst 1, 1) := by decide +kernel
theorem dL_law_729 : decode cL_law 729 = .ok (.ireturn, 1) := by decide +kernel
end
