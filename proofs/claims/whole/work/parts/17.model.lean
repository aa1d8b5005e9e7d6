abbrev rm_X8_record : Room := { frames := 1, cells := 0, slots := 0, locals := 22 }
theorem hy_X8_record : zY yX8_record wsX8_record cX8_record 3 (some .int) 2 := ⟨⟨_, rfl⟩, by decide, by decide, by decide +kernel⟩
def d_X8_record (v : zHV) (p1 : Int32) (p2 : Int32) : Option (Int32) :=
zld 288 (v 0) 19 fun t8 =>
zlet (t8 - 1) fun t10 =>
zcl (d_X8_within p1 0 t10) fun t11 =>
(if t11 = 0 then
some (-1)
else
zcl (d_X8_within p2 0 3) fun t22 =>
(if t22 = 0 then
some (-2)
else
zlet (4 * p1) fun t37 =>
zlet (264 + t37) fun t38 =>
zlet (t38 + p2) fun t40 =>
zld 288 (v 0) t40 fun t41 =>
some t41))
set_option maxHeartbeats 4000000 in
set_option maxRecDepth 100000 in
theorem c_X8_record (l : Launch) (E : zE) (a : Nat → Nat) (v : zHV) (p1 : Int32) (p2 : Int32) (r : Int32) (h : d_X8_record v p1 p2 = some r) : zMi l E yX8_record wsX8_record rm_X8_record [.ref (a 0), .int p1, .int p2] (mdW E a v) r (mdW E a v) := by
  intro sz
  refine z_entry (Qc := fun A => zQi E A r (mdW E a v)) (by decide) rfl (Nat.le_of_ble_eq_true rfl) ?_
  intro p e s m below meth c A X hW ls hl
  have X : zX E wsX8_record RX8 cX8_record 3 (some .int) yX8_record p s m ([.ref (a 0), .int p1, .int p2] : List Value).toArray meth c A := X
  have hl : lv_has ls 3 [(0, .ref (a 0)), (1, .int p1), (2, .int p2)] := hl
  have hr : d_X8_record v p1 p2 = some r := h
  clear h
  have q_0 : Cond.fieldLink RX8 7 "ApplauseTalliesModel" "state" "[I" ∈ wsX8_record := List.mem_of_getElem? (i := 1) rfl
  have hn_X8 : ∀ x ∈ wsX80, x ∈ wsX8_record := zz_in [6, 7, 8, 9, 10, 11, 12, 13, 14, 15, 16, 17] (by decide +kernel)
  unfold d_X8_record at hr
  refine lv_iload_n X.1 X.2.1 dX8_record_0 rfl (lv_at hl 1 rfl) ?_
  refine lv_iconst (v := 0) X.1 X.2.1 dX8_record_1 (by decide) ?_
  refine lv_aload_n X.1 X.2.1 dX8_record_2 rfl (lv_at hl 0 rfl) ?_
  refine z_get X hW 0 8 0 (C := RX8) (T := TX8) (N := 12) rfl rfl hn_X8 (by decide) q_0 rfl dX8_record_3 ?_
  refine lv_bipush (v := 19) X.1 X.2.1 dX8_record_6 (by decide) ?_
  refine z_ald X hW 1 hr rfl dX8_record_8 (fun t8 hr => ?_)
  refine lv_iconst (v := 1) X.1 X.2.1 dX8_record_9 (by decide) ?_
  refine z_isub X hr dX8_record_10 (fun t10 hr => ?_)
  have hp_11 := (List.Perm.refl ((mdW E a v)))
  refine z_callp X hW hr hp_11 (fun x h => z_runS (As := [.int p1, .int 0, .int t10]) (rest := []) X hW hp_11 (c_X8_within l E p1 0 t10 x h _) hy_X8_within gX8_record_X8_within rfl rfl ⟨by decide, by decide⟩ rfl hl rfl rfl (Nat.le_of_ble_eq_true rfl) dX8_record_11 ⟨Nat.zero_le _, Nat.zero_le _⟩) (fun t11 H locs hr hW => ?_)
  refine z_ifne X 19 hr dX8_record_14 (by decide) (fun hr => ?_) (fun hr => ?_)
  · refine lv_iload_n X.1 X.2.1 dX8_record_19 rfl (lv_at hl 2 rfl) ?_
    refine lv_iconst (v := 0) X.1 X.2.1 dX8_record_20 (by decide) ?_
    refine lv_iconst (v := 3) X.1 X.2.1 dX8_record_21 (by decide) ?_
    have hp_22 := (List.Perm.refl ((mdW E a v)))
    refine z_callp X hW hr hp_22 (fun x h => z_runS (As := [.int p2, .int 0, .int 3]) (rest := []) X hW hp_22 (c_X8_within l E p2 0 3 x h _) hy_X8_within gX8_record_X8_within rfl rfl ⟨by decide, by decide⟩ rfl hl rfl rfl (Nat.le_of_ble_eq_true rfl) dX8_record_22 ⟨Nat.zero_le _, Nat.zero_le _⟩) (fun t22 H locs hr hW => ?_)
    refine z_ifeq X 45 hr dX8_record_25 (by decide) (fun hr => ?_) (fun hr => ?_)
    · refine lv_bipush (v := (-2)) X.1 X.2.1 dX8_record_45 (by decide) ?_
      cases hr
      exact z_iret X hW rfl dX8_record_47
    · refine lv_aload_n X.1 X.2.1 dX8_record_28 rfl (lv_at hl 0 rfl) ?_
      refine z_get X hW 0 8 0 (C := RX8) (T := TX8) (N := 12) rfl rfl hn_X8 (by decide) q_0 rfl dX8_record_29 ?_
      refine lv_sipush (v := 264) X.1 X.2.1 dX8_record_32 (by decide) ?_
      refine lv_iconst (v := 4) X.1 X.2.1 dX8_record_35 (by decide) ?_
      refine lv_iload_n X.1 X.2.1 dX8_record_36 rfl (lv_at hl 1 rfl) ?_
      refine z_imul X hr dX8_record_37 (fun t37 hr => ?_)
      refine z_iadd X hr dX8_record_38 (fun t38 hr => ?_)
      refine lv_iload_n X.1 X.2.1 dX8_record_39 rfl (lv_at hl 2 rfl) ?_
      refine z_iadd X hr dX8_record_40 (fun t40 hr => ?_)
      refine z_ald X hW 1 hr rfl dX8_record_41 (fun t41 hr => ?_)
      refine lv_goto (tgt := 47) X.1 X.2.1 dX8_record_42 (by decide) ?_
      cases hr
      exact z_iret X hW rfl dX8_record_47
  · refine lv_iconst (v := (-1)) X.1 X.2.1 dX8_record_17 (by decide) ?_
    cases hr
    exact z_iret X hW rfl dX8_record_18
abbrev rm_X8_sign : Room := { frames := 1, cells := 0, slots := 0, locals := 22 }
theorem hy_X8_sign : zY yX8_sign wsX8_sign cX8_sign 2 (some .int) 1 := ⟨⟨_, rfl⟩, by decide, by decide, by decide +kernel⟩
def d_X8_sign (v : zHV) (p1 : Int32) : Option (Int32) :=
zlet ((v 6 1) - 1) fun t7 =>
zcl (d_X8_within p1 0 t7) fun t8 =>
(if t8 = 0 then
some (-1)
else
zld 80 (v 5) p1 fun t19 =>
some t19)
set_option maxHeartbeats 4000000 in
set_option maxRecDepth 100000 in
theorem c_X8_sign (l : Launch) (E : zE) (a : Nat → Nat) (v : zHV) (p1 : Int32) (r : Int32) (h : d_X8_sign v p1 = some r) : zMi l E yX8_sign wsX8_sign rm_X8_sign [.ref (a 0), .int p1] (mdW E a v) r (mdW E a v) := by
  intro sz
  refine z_entry (Qc := fun A => zQi E A r (mdW E a v)) (by decide) rfl (Nat.le_of_ble_eq_true rfl) ?_
  intro p e s m below meth c A X hW ls hl
  have X : zX E wsX8_sign RX8 cX8_sign 2 (some .int) yX8_sign p s m ([.ref (a 0), .int p1] : List Value).toArray meth c A := X
  have hl : lv_has ls 2 [(0, .ref (a 0)), (1, .int p1)] := hl
  have hr : d_X8_sign v p1 = some r := h
  clear h
  have q_0 : Cond.fieldLink RX8 131 "ApplauseTalliesModel" "length" "I" ∈ wsX8_sign := List.mem_of_getElem? (i := 1) rfl
  have hn_X8 : ∀ x ∈ wsX80, x ∈ wsX8_sign := zz_in [7, 8, 9, 10, 11, 12, 13, 14, 15, 16, 17, 18] (by decide +kernel)
  have q_2 : Cond.fieldLink RX8 25 "ApplauseTalliesModel" "pad" "[I" ∈ wsX8_sign := List.mem_of_getElem? (i := 2) rfl
  unfold d_X8_sign at hr
  refine lv_iload_n X.1 X.2.1 dX8_sign_0 rfl (lv_at hl 1 rfl) ?_
  refine lv_iconst (v := 0) X.1 X.2.1 dX8_sign_1 (by decide) ?_
  refine lv_aload_n X.1 X.2.1 dX8_sign_2 rfl (lv_at hl 0 rfl) ?_
  refine z_get X hW 0 8 7 (C := RX8) (T := TX8) (N := 12) rfl rfl hn_X8 (by decide) q_0 rfl dX8_sign_3 ?_
  refine lv_iconst (v := 1) X.1 X.2.1 dX8_sign_6 (by decide) ?_
  refine z_isub X hr dX8_sign_7 (fun t7 hr => ?_)
  have hp_8 := (List.Perm.refl ((mdW E a v)))
  refine z_callp X hW hr hp_8 (fun x h => z_runS (As := [.int p1, .int 0, .int t7]) (rest := []) X hW hp_8 (c_X8_within l E p1 0 t7 x h _) hy_X8_within gX8_sign_X8_within rfl rfl ⟨by decide, by decide⟩ rfl hl rfl rfl (Nat.le_of_ble_eq_true rfl) dX8_sign_8 ⟨Nat.zero_le _, Nat.zero_le _⟩) (fun t8 H locs hr hW => ?_)
  refine z_ifeq X 23 hr dX8_sign_11 (by decide) (fun hr => ?_) (fun hr => ?_)
  · refine lv_iconst (v := (-1)) X.1 X.2.1 dX8_sign_23 (by decide) ?_
    cases hr
    exact z_iret X hW rfl dX8_sign_24
  · refine lv_aload_n X.1 X.2.1 dX8_sign_14 rfl (lv_at hl 0 rfl) ?_
    refine z_get X hW 0 8 6 (C := RX8) (T := TX8) (N := 12) rfl rfl hn_X8 (by decide) q_2 rfl dX8_sign_15 ?_
    refine lv_iload_n X.1 X.2.1 dX8_sign_18 rfl (lv_at hl 1 rfl) ?_
    refine z_ald X hW 6 hr rfl dX8_sign_19 (fun t19 hr => ?_)
    refine lv_goto (tgt := 24) X.1 X.2.1 dX8_sign_20 (by decide) ?_
    cases hr
    exact z_iret X hW rfl dX8_sign_24
abbrev rm_X8_soFar : Room := { frames := 1, cells := 0, slots := 0, locals := 22 }
theorem hy_X8_soFar : zY yX8_soFar wsX8_soFar cX8_soFar 4 (some .int) 1 := ⟨⟨_, rfl⟩, by decide, by decide, by decide +kernel⟩
def lpB_X8_soFar_4 (v : zHV) (p1 : Int32)  (k_4 : Int32 → Int32 → Option (Int32)) (x2 : Int32) (x3 : Int32) : Option (Int32) :=
(if 6 ≤ x3 then
some x2
else
zcl (d_X8_ofPerformer v x3 p1) fun t14 =>
zlet (x2 + t14) fun t17 =>
zlet (x3 + Int32.ofInt 1) fun x3_19 =>
k_4 t17 x3_19)
def lp_X8_soFar_4 (v : zHV) (p1 : Int32)  : Nat → Int32 → Int32 → Option (Int32)
  | 0 => fun _ _ => none
  | n_ + 1 => lpB_X8_soFar_4 v p1  (lp_X8_soFar_4 v p1  n_)
def d_X8_soFar (v : zHV) (p1 : Int32) : Option (Int32) :=
lp_X8_soFar_4 v p1  zF 0 0
set_option maxHeartbeats 4000000 in
set_option maxRecDepth 100000 in
theorem c_X8_soFar (l : Launch) (E : zE) (a : Nat → Nat) (v : zHV) (p1 : Int32) (r : Int32) (h : d_X8_soFar v p1 = some r) : zMi l E yX8_soFar wsX8_soFar rm_X8_soFar [.ref (a 0), .int p1] (mdW E a v) r (mdW E a v) := by
  intro sz
  refine z_entry (Qc := fun A => zQi E A r (mdW E a v)) (by decide) rfl (Nat.le_of_ble_eq_true rfl) ?_
  intro p e s m below meth c A X hW ls hl
  have X : zX E wsX8_soFar RX8 cX8_soFar 4 (some .int) yX8_soFar p s m ([.ref (a 0), .int p1] : List Value).toArray meth c A := X
  have hl : lv_has ls 4 [(0, .ref (a 0)), (1, .int p1)] := hl
  have hr : d_X8_soFar v p1 = some r := h
  clear h
  unfold d_X8_soFar at hr
  refine lv_iconst (v := 0) X.1 X.2.1 dX8_soFar_0 (by decide) ?_
  refine lv_istore_n (lv' := [(2, .int 0), (0, .ref (a 0)), (1, .int p1)]) X.1 X.2.1 dX8_soFar_1 rfl hl (by decide) rfl (fun ls hl => ?_)
  refine lv_iconst (v := 0) X.1 X.2.1 dX8_soFar_2 (by decide) ?_
  refine lv_istore_n (lv' := [(3, .int 0), (2, .int 0), (0, .ref (a 0)), (1, .int p1)]) X.1 X.2.1 dX8_soFar_3 rfl hl (by decide) rfl (fun ls hl => ?_)
  have L_4 : ∀ (n_4 : Nat), ∀ (x2 : Int32) (x3 : Int32) (H : Heap) (locs : List Loc) (ls : Array Slot), lp_X8_soFar_4 v p1  n_4 x2 x3 = some r → zW E A s (mdW E a v) H locs → lv_has ls 4 [(0, .ref (a 0)), (1, .int p1), (2, .int x2), (3, .int x3)] → W p l e rm_X8_soFar s m ([.ref (a 0), .int p1] : List Value).toArray below meth c H locs 0 0 (MQ below (zQi E A r (mdW E a v)) ([.ref (a 0), .int p1] : List Value).toArray s 0 0 A) (F0 m 4 ls []) := by
    intro n_4
    induction n_4 with
    | zero => exact fun x2 x3 H locs ls hr hW hl => absurd (show (none : Option (Int32)) = some r from hr) (fun h => by cases h)
    | succ n_4 ih_4 =>
      intro x2 x3 H locs ls hr hW hl
      have hr : lpB_X8_soFar_4 v p1  (lp_X8_soFar_4 v p1  n_4) x2 x3 = some r := hr
      unfold lpB_X8_soFar_4 at hr
      refine lv_iload_n X.1 X.2.1 dX8_soFar_4 rfl (lv_at hl 3 rfl) ?_
      refine lv_bipush (v := 6) X.1 X.2.1 dX8_soFar_5 (by decide) ?_
      refine z_cmpge X 25 hr dX8_soFar_7 (by decide) (fun hr => ?_) (fun hr => ?_)
      · refine lv_iload_n X.1 X.2.1 dX8_soFar_25 rfl (lv_at hl 2 rfl) ?_
        cases hr
        exact z_iret X hW rfl dX8_soFar_26
      · refine lv_iload_n X.1 X.2.1 dX8_soFar_10 rfl (lv_at hl 2 rfl) ?_
        refine lv_aload_n X.1 X.2.1 dX8_soFar_11 rfl (lv_at hl 0 rfl) ?_
        refine lv_iload_n X.1 X.2.1 dX8_soFar_12 rfl (lv_at hl 3 rfl) ?_
        refine lv_iload_n X.1 X.2.1 dX8_soFar_13 rfl (lv_at hl 1 rfl) ?_
        have hp_14 := (z_all (mdW E a v))
        refine z_callp X hW hr hp_14 (fun x h => z_runV (As := [.int x3, .int p1]) (rest := [.int x2]) X hW hp_14 (c_X8_ofPerformer l E a v x3 p1 x h _) hy_X8_ofPerformer 0 8 (C := RX8) (T := TX8) (N := 12) rfl rfl rfl gX8_soFar_X8_ofPerformer rfl rfl ⟨by decide, by decide⟩ rfl hl rfl rfl (Nat.le_of_ble_eq_true rfl) dX8_soFar_14 ⟨Nat.zero_le _, Nat.zero_le _⟩) (fun t14 H locs hr hW => ?_)
        refine z_iadd X hr dX8_soFar_17 (fun t17 hr => ?_)
        refine lv_istore_n (lv' := [(2, .int t17), (0, .ref (a 0)), (1, .int p1), (3, .int x3)]) X.1 X.2.1 dX8_soFar_18 rfl hl (by decide) rfl (fun ls hl => ?_)
        refine z_iinc X (fun x3_19 => [(3, .int x3_19), (2, .int t17), (0, .ref (a 0)), (1, .int p1)]) hr hl (k := 3) rfl (by decide) (fun _ => rfl) dX8_soFar_19 (fun x3_19 ls hr hl => ?_)
        refine lv_goto (tgt := 4) X.1 X.2.1 dX8_soFar_22 (by decide) ?_
        exact ih_4 t17 x3_19 _ _ _ hr hW (lv_sub hl [2, 3, 1, 0] rfl)
  exact L_4 _ 0 0 _ _ _ hr hW (lv_sub hl [2, 3, 1, 0] rfl)
abbrev rm_X8_count : Room := { frames := 2, cells := 0, slots := 0, locals := 47 }
theorem hy_X8_count : zY yX8_count wsX8_count cX8_count 2 (some .int) 1 := ⟨⟨_, rfl⟩, by decide, by decide, by decide +kernel⟩
def d_X8_count (v : zHV) (p1 : Int32) : Option (Int32) :=
zcl (d_X8_within p1 13 18) fun t5 =>
(if t5 = 0 then
(if p1 = 0 then
zlet (6 + p1) fun t127 =>
zld 288 (v 0) t127 fun t128 =>
some t128
else
(if p1 = 1 then
zlet (6 + p1) fun t127 =>
zld 288 (v 0) t127 fun t128 =>
some t128
else
(if p1 = 2 then
zlet (6 + p1) fun t127 =>
zld 288 (v 0) t127 fun t128 =>
some t128
else
(if p1 = 3 then
zlet (6 + p1) fun t127 =>
zld 288 (v 0) t127 fun t128 =>
some t128
else
(if p1 = 4 then
zld 288 (v 0) 17 fun t136 =>
some t136
else
(if p1 = 5 then
zlet (p1 - 5) fun t141 =>
zcl (d_X8_soFar v t141) fun t142 =>
some t142
else
(if p1 = 6 then
zlet (p1 - 5) fun t141 =>
zcl (d_X8_soFar v t141) fun t142 =>
some t142
else
(if p1 = 7 then
zld 288 (v 0) 12 fun t152 =>
some t152
else
(if p1 = 8 then
zld 288 (v 0) 13 fun t160 =>
(if t160 = 1 then
zld 288 (v 0) 7 fun t171 =>
zld 288 (v 0) 14 fun t178 =>
zlet (t171 - t178) fun t179 =>
some t179
else
some (-6))
else
(if p1 = 9 then
zld 288 (v 0) 13 fun t192 =>
(if t192 = 1 then
zld 288 (v 0) 15 fun t203 =>
some t203
else
some (-6))
else
(if p1 = 10 then
zcl (d_X8_those v 1 0) fun t213 =>
some t213
else
(if p1 = 11 then
zld 288 (v 0) 4 fun t224 =>
zcl (d_X8_those v 0 t224) fun t225 =>
some t225
else
(if p1 = 12 then
zcl (d_X8_those v 1 0) fun t232 =>
zld 288 (v 0) 4 fun t242 =>
zcl (d_X8_those v 0 t242) fun t243 =>
zlet (t232 &&& t243) fun t246 =>
some t246
else
(if p1 = 13 then
some (-2)
else
(if p1 = 14 then
some (-2)
else
(if p1 = 15 then
some (-2)
else
(if p1 = 16 then
some (-2)
else
(if p1 = 17 then
some (-2)
else
(if p1 = 18 then
some (-2)
else
(if p1 = 19 then
some (v 6 1)
else
(if p1 = 20 then
some (v 6 0)
else
some (-2))))))))))))))))))))))
else
zlet (p1 - 13) fun t18 =>
zld 288 (v 0) t18 fun t19 =>
some t19)
set_option maxHeartbeats 4000000 in
set_option maxRecDepth 100000 in
theorem c_X8_count (l : Launch) (E : zE) (a : Nat → Nat) (v : zHV) (p1 : Int32) (r : Int32) (h : d_X8_count v p1 = some r) : zMi l E yX8_count wsX8_count rm_X8_count [.ref (a 0), .int p1] (mdW E a v) r (mdW E a v) := by
  intro sz
  refine z_entry (Qc := fun A => zQi E A r (mdW E a v)) (by decide) rfl (Nat.le_of_ble_eq_true rfl) ?_
  intro p e s m below meth c A X hW ls hl
  have X : zX E wsX8_count RX8 cX8_count 2 (some .int) yX8_count p s m ([.ref (a 0), .int p1] : List Value).toArray meth c A := X
  have hl : lv_has ls 2 [(0, .ref (a 0)), (1, .int p1)] := hl
  have hr : d_X8_count v p1 = some r := h
  clear h
  have q_0 : Cond.fieldLink RX8 7 "ApplauseTalliesModel" "state" "[I" ∈ wsX8_count := List.mem_of_getElem? (i := 1) rfl
  have hn_X8 : ∀ x ∈ wsX80, x ∈ wsX8_count := zz_in [24, 25, 26, 27, 28, 29, 30, 31, 32, 33, 34, 35] (by decide +kernel)
  have q_2 : Cond.fieldLink RX8 131 "ApplauseTalliesModel" "length" "I" ∈ wsX8_count := List.mem_of_getElem? (i := 2) rfl
  have q_3 : Cond.fieldLink RX8 36 "ApplauseTalliesModel" "states" "I" ∈ wsX8_count := List.mem_of_getElem? (i := 3) rfl
  unfold d_X8_count at hr
  refine lv_iload_n X.1 X.2.1 dX8_count_0 rfl (lv_at hl 1 rfl) ?_
  refine lv_bipush (v := 13) X.1 X.2.1 dX8_count_1 (by decide) ?_
  refine lv_bipush (v := 18) X.1 X.2.1 dX8_count_3 (by decide) ?_
  have hp_5 := (List.Perm.refl ((mdW E a v)))
  refine z_callp X hW hr hp_5 (fun x h => z_runS (As := [.int p1, .int 13, .int 18]) (rest := []) X hW hp_5 (c_X8_within l E p1 13 18 x h _) hy_X8_within gX8_count_X8_within rfl rfl ⟨by decide, by decide⟩ rfl hl rfl rfl (Nat.le_of_ble_eq_true rfl) dX8_count_5 ⟨Nat.zero_le _, Nat.zero_le _⟩) (fun t5 H locs hr hW => ?_)
  refine z_ifeq X 21 hr dX8_count_8 (by decide) (fun hr => ?_) (fun hr => ?_)
  · refine lv_iload_n X.1 X.2.1 dX8_count_21 rfl (lv_at hl 1 rfl) ?_
    refine z_if hr (fun h_0 hr => ?_) (fun h_0 hr => ?_)
    · refine lv_tableIn (off := 98) (tgt := 120) X.1 X.2.1 dX8_count_22 (by rw [h_0]; decide) (by rw [h_0]; decide) (by rw [h_0]; rfl) (by decide) ?_
      refine lv_aload_n X.1 X.2.1 dX8_count_120 rfl (lv_at hl 0 rfl) ?_
      refine z_get X hW 0 8 0 (C := RX8) (T := TX8) (N := 12) rfl rfl hn_X8 (by decide) q_0 rfl dX8_count_121 ?_
      refine lv_bipush (v := 6) X.1 X.2.1 dX8_count_124 (by decide) ?_
      refine lv_iload_n X.1 X.2.1 dX8_count_126 rfl (lv_at hl 1 rfl) ?_
      refine z_iadd X hr dX8_count_127 (fun t127 hr => ?_)
      refine z_ald X hW 1 hr rfl dX8_count_128 (fun t128 hr => ?_)
      cases hr
      exact z_iret X hW rfl dX8_count_129
    · refine z_if hr (fun h_1 hr => ?_) (fun h_1 hr => ?_)
      · refine lv_tableIn (off := 98) (tgt := 120) X.1 X.2.1 dX8_count_22 (by rw [h_1]; decide) (by rw [h_1]; decide) (by rw [h_1]; rfl) (by decide) ?_
        refine lv_aload_n X.1 X.2.1 dX8_count_120 rfl (lv_at hl 0 rfl) ?_
        refine z_get X hW 0 8 0 (C := RX8) (T := TX8) (N := 12) rfl rfl hn_X8 (by decide) q_0 rfl dX8_count_121 ?_
        refine lv_bipush (v := 6) X.1 X.2.1 dX8_count_124 (by decide) ?_
        refine lv_iload_n X.1 X.2.1 dX8_count_126 rfl (lv_at hl 1 rfl) ?_
        refine z_iadd X hr dX8_count_127 (fun t127 hr => ?_)
        refine z_ald X hW 1 hr rfl dX8_count_128 (fun t128 hr => ?_)
        cases hr
        exact z_iret X hW rfl dX8_count_129
      · refine z_if hr (fun h_2 hr => ?_) (fun h_2 hr => ?_)
        · refine lv_tableIn (off := 98) (tgt := 120) X.1 X.2.1 dX8_count_22 (by rw [h_2]; decide) (by rw [h_2]; decide) (by rw [h_2]; rfl) (by decide) ?_
          refine lv_aload_n X.1 X.2.1 dX8_count_120 rfl (lv_at hl 0 rfl) ?_
          refine z_get X hW 0 8 0 (C := RX8) (T := TX8) (N := 12) rfl rfl hn_X8 (by decide) q_0 rfl dX8_count_121 ?_
          refine lv_bipush (v := 6) X.1 X.2.1 dX8_count_124 (by decide) ?_
          refine lv_iload_n X.1 X.2.1 dX8_count_126 rfl (lv_at hl 1 rfl) ?_
          refine z_iadd X hr dX8_count_127 (fun t127 hr => ?_)
          refine z_ald X hW 1 hr rfl dX8_count_128 (fun t128 hr => ?_)
          cases hr
          exact z_iret X hW rfl dX8_count_129
        · refine z_if hr (fun h_3 hr => ?_) (fun h_3 hr => ?_)
          · refine lv_tableIn (off := 98) (tgt := 120) X.1 X.2.1 dX8_count_22 (by rw [h_3]; decide) (by rw [h_3]; decide) (by rw [h_3]; rfl) (by decide) ?_
            refine lv_aload_n X.1 X.2.1 dX8_count_120 rfl (lv_at hl 0 rfl) ?_
            refine z_get X hW 0 8 0 (C := RX8) (T := TX8) (N := 12) rfl rfl hn_X8 (by decide) q_0 rfl dX8_count_121 ?_
            refine lv_bipush (v := 6) X.1 X.2.1 dX8_count_124 (by decide) ?_
            refine lv_iload_n X.1 X.2.1 dX8_count_126 rfl (lv_at hl 1 rfl) ?_
            refine z_iadd X hr dX8_count_127 (fun t127 hr => ?_)
            refine z_ald X hW 1 hr rfl dX8_count_128 (fun t128 hr => ?_)
            cases hr
            exact z_iret X hW rfl dX8_count_129
          · refine z_if hr (fun h_4 hr => ?_) (fun h_4 hr => ?_)
            · refine lv_tableIn (off := 108) (tgt := 130) X.1 X.2.1 dX8_count_22 (by rw [h_4]; decide) (by rw [h_4]; decide) (by rw [h_4]; rfl) (by decide) ?_
              refine lv_aload_n X.1 X.2.1 dX8_count_130 rfl (lv_at hl 0 rfl) ?_
              refine z_get X hW 0 8 0 (C := RX8) (T := TX8) (N := 12) rfl rfl hn_X8 (by decide) q_0 rfl dX8_count_131 ?_
              refine lv_bipush (v := 17) X.1 X.2.1 dX8_count_134 (by decide) ?_
              refine z_ald X hW 1 hr rfl dX8_count_136 (fun t136 hr => ?_)
              cases hr
              exact z_iret X hW rfl dX8_count_137
            · refine z_if hr (fun h_5 hr => ?_) (fun h_5 hr => ?_)
              · refine lv_tableIn (off := 116) (tgt := 138) X.1 X.2.1 dX8_count_22 (by rw [h_5]; decide) (by rw [h_5]; decide) (by rw [h_5]; rfl) (by decide) ?_
                refine lv_aload_n X.1 X.2.1 dX8_count_138 rfl (lv_at hl 0 rfl) ?_
                refine lv_iload_n X.1 X.2.1 dX8_count_139 rfl (lv_at hl 1 rfl) ?_
                refine lv_iconst (v := 5) X.1 X.2.1 dX8_count_140 (by decide) ?_
                refine z_isub X hr dX8_count_141 (fun t141 hr => ?_)
                have hp_142 := (z_all (mdW E a v))
                refine z_callp X hW hr hp_142 (fun x h => z_runV (As := [.int t141]) (rest := []) X hW hp_142 (c_X8_soFar l E a v t141 x h _) hy_X8_soFar 0 8 (C := RX8) (T := TX8) (N := 12) rfl rfl rfl gX8_count_X8_soFar rfl rfl ⟨by decide, by decide⟩ rfl hl rfl rfl (Nat.le_of_ble_eq_true rfl) dX8_count_142 ⟨Nat.zero_le _, Nat.zero_le _⟩) (fun t142 H locs hr hW => ?_)
                cases hr
                exact z_iret X hW rfl dX8_count_145
              · refine z_if hr (fun h_6 hr => ?_) (fun h_6 hr => ?_)
                · refine lv_tableIn (off := 116) (tgt := 138) X.1 X.2.1 dX8_count_22 (by rw [h_6]; decide) (by rw [h_6]; decide) (by rw [h_6]; rfl) (by decide) ?_
                  refine lv_aload_n X.1 X.2.1 dX8_count_138 rfl (lv_at hl 0 rfl) ?_
                  refine lv_iload_n X.1 X.2.1 dX8_count_139 rfl (lv_at hl 1 rfl) ?_
                  refine lv_iconst (v := 5) X.1 X.2.1 dX8_count_140 (by decide) ?_
                  refine z_isub X hr dX8_count_141 (fun t141 hr => ?_)
                  have hp_142 := (z_all (mdW E a v))
                  refine z_callp X hW hr hp_142 (fun x h => z_runV (As := [.int t141]) (rest := []) X hW hp_142 (c_X8_soFar l E a v t141 x h _) hy_X8_soFar 0 8 (C := RX8) (T := TX8) (N := 12) rfl rfl rfl gX8_count_X8_soFar rfl rfl ⟨by decide, by decide⟩ rfl hl rfl rfl (Nat.le_of_ble_eq_true rfl) dX8_count_142 ⟨Nat.zero_le _, Nat.zero_le _⟩) (fun t142 H locs hr hW => ?_)
                  cases hr
                  exact z_iret X hW rfl dX8_count_145
                · refine z_if hr (fun h_7 hr => ?_) (fun h_7 hr => ?_)
                  · refine lv_tableIn (off := 124) (tgt := 146) X.1 X.2.1 dX8_count_22 (by rw [h_7]; decide) (by rw [h_7]; decide) (by rw [h_7]; rfl) (by decide) ?_
                    refine lv_aload_n X.1 X.2.1 dX8_count_146 rfl (lv_at hl 0 rfl) ?_
                    refine z_get X hW 0 8 0 (C := RX8) (T := TX8) (N := 12) rfl rfl hn_X8 (by decide) q_0 rfl dX8_count_147 ?_
                    refine lv_bipush (v := 12) X.1 X.2.1 dX8_count_150 (by decide) ?_
                    refine z_ald X hW 1 hr rfl dX8_count_152 (fun t152 hr => ?_)
                    cases hr
                    exact z_iret X hW rfl dX8_count_153
                  · refine z_if hr (fun h_8 hr => ?_) (fun h_8 hr => ?_)
                    · refine lv_tableIn (off := 132) (tgt := 154) X.1 X.2.1 dX8_count_22 (by rw [h_8]; decide) (by rw [h_8]; decide) (by rw [h_8]; rfl) (by decide) ?_
                      refine lv_aload_n X.1 X.2.1 dX8_count_154 rfl (lv_at hl 0 rfl) ?_
                      refine z_get X hW 0 8 0 (C := RX8) (T := TX8) (N := 12) rfl rfl hn_X8 (by decide) q_0 rfl dX8_count_155 ?_
                      refine lv_bipush (v := 13) X.1 X.2.1 dX8_count_158 (by decide) ?_
                      refine z_ald X hW 1 hr rfl dX8_count_160 (fun t160 hr => ?_)
                      refine lv_iconst (v := 1) X.1 X.2.1 dX8_count_161 (by decide) ?_
                      refine z_cmpne X 183 hr dX8_count_162 (by decide) (fun hr => ?_) (fun hr => ?_)
                      · refine lv_bipush (v := (-6)) X.1 X.2.1 dX8_count_183 (by decide) ?_
                        cases hr
                        exact z_iret X hW rfl dX8_count_185
                      · refine lv_aload_n X.1 X.2.1 dX8_count_165 rfl (lv_at hl 0 rfl) ?_
                        refine z_get X hW 0 8 0 (C := RX8) (T := TX8) (N := 12) rfl rfl hn_X8 (by decide) q_0 rfl dX8_count_166 ?_
                        refine lv_bipush (v := 7) X.1 X.2.1 dX8_count_169 (by decide) ?_
                        refine z_ald X hW 1 hr rfl dX8_count_171 (fun t171 hr => ?_)
                        refine lv_aload_n X.1 X.2.1 dX8_count_172 rfl (lv_at hl 0 rfl) ?_
                        refine z_get X hW 0 8 0 (C := RX8) (T := TX8) (N := 12) rfl rfl hn_X8 (by decide) q_0 rfl dX8_count_173 ?_
                        refine lv_bipush (v := 14) X.1 X.2.1 dX8_count_176 (by decide) ?_
                        refine z_ald X hW 1 hr rfl dX8_count_178 (fun t178 hr => ?_)
                        refine z_isub X hr dX8_count_179 (fun t179 hr => ?_)
                        refine lv_goto (tgt := 185) X.1 X.2.1 dX8_count_180 (by decide) ?_
                        cases hr
                        exact z_iret X hW rfl dX8_count_185
                    · refine z_if hr (fun h_9 hr => ?_) (fun h_9 hr => ?_)
                      · refine lv_tableIn (off := 164) (tgt := 186) X.1 X.2.1 dX8_count_22 (by rw [h_9]; decide) (by rw [h_9]; decide) (by rw [h_9]; rfl) (by decide) ?_
                        refine lv_aload_n X.1 X.2.1 dX8_count_186 rfl (lv_at hl 0 rfl) ?_
                        refine z_get X hW 0 8 0 (C := RX8) (T := TX8) (N := 12) rfl rfl hn_X8 (by decide) q_0 rfl dX8_count_187 ?_
                        refine lv_bipush (v := 13) X.1 X.2.1 dX8_count_190 (by decide) ?_
                        refine z_ald X hW 1 hr rfl dX8_count_192 (fun t192 hr => ?_)
                        refine lv_iconst (v := 1) X.1 X.2.1 dX8_count_193 (by decide) ?_
                        refine z_cmpne X 207 hr dX8_count_194 (by decide) (fun hr => ?_) (fun hr => ?_)
                        · refine lv_bipush (v := (-6)) X.1 X.2.1 dX8_count_207 (by decide) ?_
                          cases hr
                          exact z_iret X hW rfl dX8_count_209
                        · refine lv_aload_n X.1 X.2.1 dX8_count_197 rfl (lv_at hl 0 rfl) ?_
                          refine z_get X hW 0 8 0 (C := RX8) (T := TX8) (N := 12) rfl rfl hn_X8 (by decide) q_0 rfl dX8_count_198 ?_
                          refine lv_bipush (v := 15) X.1 X.2.1 dX8_count_201 (by decide) ?_
                          refine z_ald X hW 1 hr rfl dX8_count_203 (fun t203 hr => ?_)
                          refine lv_goto (tgt := 209) X.1 X.2.1 dX8_count_204 (by decide) ?_
                          cases hr
                          exact z_iret X hW rfl dX8_count_209
                      · refine z_if hr (fun h_10 hr => ?_) (fun h_10 hr => ?_)
                        · refine lv_tableIn (off := 188) (tgt := 210) X.1 X.2.1 dX8_count_22 (by rw [h_10]; decide) (by rw [h_10]; decide) (by rw [h_10]; rfl) (by decide) ?_
                          refine lv_aload_n X.1 X.2.1 dX8_count_210 rfl (lv_at hl 0 rfl) ?_
                          refine lv_iconst (v := 1) X.1 X.2.1 dX8_count_211 (by decide) ?_
                          refine lv_iconst (v := 0) X.1 X.2.1 dX8_count_212 (by decide) ?_
                          have hp_213 := (z_all (mdW E a v))
                          refine z_callp X hW hr hp_213 (fun x h => z_runV (As := [.int 1, .int 0]) (rest := []) X hW hp_213 (c_X8_those l E a v 1 0 x h _) hy_X8_those 0 8 (C := RX8) (T := TX8) (N := 12) rfl rfl rfl gX8_count_X8_those rfl rfl ⟨by decide, by decide⟩ rfl hl rfl rfl (Nat.le_of_ble_eq_true rfl) dX8_count_213 ⟨Nat.zero_le _, Nat.zero_le _⟩) (fun t213 H locs hr hW => ?_)
                          cases hr
                          exact z_iret X hW rfl dX8_count_216
                        · refine z_if hr (fun h_11 hr => ?_) (fun h_11 hr => ?_)
                          · refine lv_tableIn (off := 195) (tgt := 217) X.1 X.2.1 dX8_count_22 (by rw [h_11]; decide) (by rw [h_11]; decide) (by rw [h_11]; rfl) (by decide) ?_
                            refine lv_aload_n X.1 X.2.1 dX8_count_217 rfl (lv_at hl 0 rfl) ?_
                            refine lv_iconst (v := 0) X.1 X.2.1 dX8_count_218 (by decide) ?_
                            refine lv_aload_n X.1 X.2.1 dX8_count_219 rfl (lv_at hl 0 rfl) ?_
                            refine z_get X hW 0 8 0 (C := RX8) (T := TX8) (N := 12) rfl rfl hn_X8 (by decide) q_0 rfl dX8_count_220 ?_
                            refine lv_iconst (v := 4) X.1 X.2.1 dX8_count_223 (by decide) ?_
                            refine z_ald X hW 1 hr rfl dX8_count_224 (fun t224 hr => ?_)
                            have hp_225 := (z_all (mdW E a v))
                            refine z_callp X hW hr hp_225 (fun x h => z_runV (As := [.int 0, .int t224]) (rest := []) X hW hp_225 (c_X8_those l E a v 0 t224 x h _) hy_X8_those 0 8 (C := RX8) (T := TX8) (N := 12) rfl rfl rfl gX8_count_X8_those rfl rfl ⟨by decide, by decide⟩ rfl hl rfl rfl (Nat.le_of_ble_eq_true rfl) dX8_count_225 ⟨Nat.zero_le _, Nat.zero_le _⟩) (fun t225 H locs hr hW => ?_)
                            cases hr
                            exact z_iret X hW rfl dX8_count_228
                          · refine z_if hr (fun h_12 hr => ?_) (fun h_12 hr => ?_)
                            · refine lv_tableIn (off := 207) (tgt := 229) X.1 X.2.1 dX8_count_22 (by rw [h_12]; decide) (by rw [h_12]; decide) (by rw [h_12]; rfl) (by decide) ?_
                              refine lv_aload_n X.1 X.2.1 dX8_count_229 rfl (lv_at hl 0 rfl) ?_
                              refine lv_iconst (v := 1) X.1 X.2.1 dX8_count_230 (by decide) ?_
                              refine lv_iconst (v := 0) X.1 X.2.1 dX8_count_231 (by decide) ?_
                              have hp_232 := (z_all (mdW E a v))
                              refine z_callp X hW hr hp_232 (fun x h => z_runV (As := [.int 1, .int 0]) (rest := []) X hW hp_232 (c_X8_those l E a v 1 0 x h _) hy_X8_those 0 8 (C := RX8) (T := TX8) (N := 12) rfl rfl rfl gX8_count_X8_those rfl rfl ⟨by decide, by decide⟩ rfl hl rfl rfl (Nat.le_of_ble_eq_true rfl) dX8_count_232 ⟨Nat.zero_le _, Nat.zero_le _⟩) (fun t232 H locs hr hW => ?_)
                              refine lv_aload_n X.1 X.2.1 dX8_count_235 rfl (lv_at hl 0 rfl) ?_
                              refine lv_iconst (v := 0) X.1 X.2.1 dX8_count_236 (by decide) ?_
                              refine lv_aload_n X.1 X.2.1 dX8_count_237 rfl (lv_at hl 0 rfl) ?_
                              refine z_get X hW 0 8 0 (C := RX8) (T := TX8) (N := 12) rfl rfl hn_X8 (by decide) q_0 rfl dX8_count_238 ?_
                              refine lv_iconst (v := 4) X.1 X.2.1 dX8_count_241 (by decide) ?_
                              refine z_ald X hW 1 hr rfl dX8_count_242 (fun t242 hr => ?_)
                              have hp_243 := (z_all (mdW E a v))
                              refine z_callp X hW hr hp_243 (fun x h => z_runV (As := [.int 0, .int t242]) (rest := [.int t232]) X hW hp_243 (c_X8_those l E a v 0 t242 x h _) hy_X8_those 0 8 (C := RX8) (T := TX8) (N := 12) rfl rfl rfl gX8_count_X8_those rfl rfl ⟨by decide, by decide⟩ rfl hl rfl rfl (Nat.le_of_ble_eq_true rfl) dX8_count_243 ⟨Nat.zero_le _, Nat.zero_le _⟩) (fun t243 H locs hr hW => ?_)
                              refine z_iand X hr dX8_count_246 (fun t246 hr => ?_)
                              cases hr
                              exact z_iret X hW rfl dX8_count_247
                            · refine z_if hr (fun h_13 hr => ?_) (fun h_13 hr => ?_)
                              · refine lv_tableIn (off := 236) (tgt := 258) X.1 X.2.1 dX8_count_22 (by rw [h_13]; decide) (by rw [h_13]; decide) (by rw [h_13]; rfl) (by decide) ?_
                                refine lv_bipush (v := (-2)) X.1 X.2.1 dX8_count_258 (by decide) ?_
                                cases hr
                                exact z_iret X hW rfl dX8_count_260
                              · refine z_if hr (fun h_14 hr => ?_) (fun h_14 hr => ?_)
                                · refine lv_tableIn (off := 236) (tgt := 258) X.1 X.2.1 dX8_count_22 (by rw [h_14]; decide) (by rw [h_14]; decide) (by rw [h_14]; rfl) (by decide) ?_
                                  refine lv_bipush (v := (-2)) X.1 X.2.1 dX8_count_258 (by decide) ?_
                                  cases hr
                                  exact z_iret X hW rfl dX8_count_260
                                · refine z_if hr (fun h_15 hr => ?_) (fun h_15 hr => ?_)
                                  · refine lv_tableIn (off := 236) (tgt := 258) X.1 X.2.1 dX8_count_22 (by rw [h_15]; decide) (by rw [h_15]; decide) (by rw [h_15]; rfl) (by decide) ?_
                                    refine lv_bipush (v := (-2)) X.1 X.2.1 dX8_count_258 (by decide) ?_
                                    cases hr
                                    exact z_iret X hW rfl dX8_count_260
                                  · refine z_if hr (fun h_16 hr => ?_) (fun h_16 hr => ?_)
                                    · refine lv_tableIn (off := 236) (tgt := 258) X.1 X.2.1 dX8_count_22 (by rw [h_16]; decide) (by rw [h_16]; decide) (by rw [h_16]; rfl) (by decide) ?_
                                      refine lv_bipush (v := (-2)) X.1 X.2.1 dX8_count_258 (by decide) ?_
                                      cases hr
                                      exact z_iret X hW rfl dX8_count_260
                                    · refine z_if hr (fun h_17 hr => ?_) (fun h_17 hr => ?_)
                                      · refine lv_tableIn (off := 236) (tgt := 258) X.1 X.2.1 dX8_count_22 (by rw [h_17]; decide) (by rw [h_17]; decide) (by rw [h_17]; rfl) (by decide) ?_
                                        refine lv_bipush (v := (-2)) X.1 X.2.1 dX8_count_258 (by decide) ?_
                                        cases hr
                                        exact z_iret X hW rfl dX8_count_260
                                      · refine z_if hr (fun h_18 hr => ?_) (fun h_18 hr => ?_)
                                        · refine lv_tableIn (off := 236) (tgt := 258) X.1 X.2.1 dX8_count_22 (by rw [h_18]; decide) (by rw [h_18]; decide) (by rw [h_18]; rfl) (by decide) ?_
                                          refine lv_bipush (v := (-2)) X.1 X.2.1 dX8_count_258 (by decide) ?_
                                          cases hr
                                          exact z_iret X hW rfl dX8_count_260
                                        · refine z_if hr (fun h_19 hr => ?_) (fun h_19 hr => ?_)
                                          · refine lv_tableIn (off := 226) (tgt := 248) X.1 X.2.1 dX8_count_22 (by rw [h_19]; decide) (by rw [h_19]; decide) (by rw [h_19]; rfl) (by decide) ?_
                                            refine lv_aload_n X.1 X.2.1 dX8_count_248 rfl (lv_at hl 0 rfl) ?_
                                            refine z_get X hW 0 8 7 (C := RX8) (T := TX8) (N := 12) rfl rfl hn_X8 (by decide) q_2 rfl dX8_count_249 ?_
                                            cases hr
                                            exact z_iret X hW rfl dX8_count_252
                                          · refine z_if hr (fun h_20 hr => ?_) (fun h_20 hr => ?_)
                                            · refine lv_tableIn (off := 231) (tgt := 253) X.1 X.2.1 dX8_count_22 (by rw [h_20]; decide) (by rw [h_20]; decide) (by rw [h_20]; rfl) (by decide) ?_
                                              refine lv_aload_n X.1 X.2.1 dX8_count_253 rfl (lv_at hl 0 rfl) ?_
                                              refine z_get X hW 0 8 3 (C := RX8) (T := TX8) (N := 12) rfl rfl hn_X8 (by decide) q_3 rfl dX8_count_254 ?_
                                              cases hr
                                              exact z_iret X hW rfl dX8_count_257
                                            · have e_0 := lv_neT h_0 (a := 0) rfl
                                              have e_1 := lv_neT h_1 (a := 1) rfl
                                              have e_2 := lv_neT h_2 (a := 2) rfl
                                              have e_3 := lv_neT h_3 (a := 3) rfl
                                              have e_4 := lv_neT h_4 (a := 4) rfl
                                              have e_5 := lv_neT h_5 (a := 5) rfl
                                              have e_6 := lv_neT h_6 (a := 6) rfl
                                              have e_7 := lv_neT h_7 (a := 7) rfl
                                              have e_8 := lv_neT h_8 (a := 8) rfl
                                              have e_9 := lv_neT h_9 (a := 9) rfl
                                              have e_10 := lv_neT h_10 (a := 10) rfl
                                              have e_11 := lv_neT h_11 (a := 11) rfl
                                              have e_12 := lv_neT h_12 (a := 12) rfl
                                              have e_13 := lv_neT h_13 (a := 13) rfl
                                              have e_14 := lv_neT h_14 (a := 14) rfl
                                              have e_15 := lv_neT h_15 (a := 15) rfl
                                              have e_16 := lv_neT h_16 (a := 16) rfl
                                              have e_17 := lv_neT h_17 (a := 17) rfl
                                              have e_18 := lv_neT h_18 (a := 18) rfl
                                              have e_19 := lv_neT h_19 (a := 19) rfl
                                              have e_20 := lv_neT h_20 (a := 20) rfl
                                              refine lv_tableOut (tgt := 258) X.1 X.2.1 dX8_count_22 (by omega) (by decide) ?_
                                              refine lv_bipush (v := (-2)) X.1 X.2.1 dX8_count_258 (by decide) ?_
                                              cases hr
                                              exact z_iret X hW rfl dX8_count_260
  · refine lv_aload_n X.1 X.2.1 dX8_count_11 rfl (lv_at hl 0 rfl) ?_
    refine z_get X hW 0 8 0 (C := RX8) (T := TX8) (N := 12) rfl rfl hn_X8 (by decide) q_0 rfl dX8_count_12 ?_
    refine lv_iload_n X.1 X.2.1 dX8_count_15 rfl (lv_at hl 1 rfl) ?_
    refine lv_bipush (v := 13) X.1 X.2.1 dX8_count_16 (by decide) ?_
    refine z_isub X hr dX8_count_18 (fun t18 hr => ?_)
    refine z_ald X hW 1 hr rfl dX8_count_19 (fun t19 hr => ?_)
    cases hr
    exact z_iret X hW rfl dX8_count_20
abbrev rm_X8_quietIn : Room := { frames := 1, cells := 0, slots := 0, locals := 22 }
theorem hy_X8_quietIn : zY yX8_quietIn wsX8_quietIn cX8_quietIn 4 (some .int) 1 := ⟨⟨_, rfl⟩, by decide, by decide, by decide +kernel⟩
def lpB_X8_quietIn_24 (v : zHV) (p1 : Int32)  (k_24 : Int32 → Int32 → Option (Int32)) (x2 : Int32) (x3 : Int32) : Option (Int32) :=
(if x3 ≤ p1 then
some x2
else
zlet (x2 + Int32.ofInt 1) fun x2_29 =>
zcl (d_X8_decayed v x3) fun t34 =>
k_24 x2_29 t34)
def lp_X8_quietIn_24 (v : zHV) (p1 : Int32)  : Nat → Int32 → Int32 → Option (Int32)
  | 0 => fun _ _ => none
  | n_ + 1 => lpB_X8_quietIn_24 v p1  (lp_X8_quietIn_24 v p1  n_)
def d_X8_quietIn (v : zHV) (p1 : Int32) : Option (Int32) :=
zcl (d_X8_within p1 0 9999) fun t5 =>
(if t5 = 0 then
some (-2)
else
zld 288 (v 0) 6 fun t22 =>
lp_X8_quietIn_24 v p1  zF 0 t22)
set_option maxHeartbeats 4000000 in
set_option maxRecDepth 100000 in
theorem c_X8_quietIn (l : Launch) (E : zE) (a : Nat → Nat) (v : zHV) (p1 : Int32) (r : Int32) (h : d_X8_quietIn v p1 = some r) : zMi l E yX8_quietIn wsX8_quietIn rm_X8_quietIn [.ref (a 0), .int p1] (mdW E a v) r (mdW E a v) := by
  intro sz
  refine z_entry (Qc := fun A => zQi E A r (mdW E a v)) (by decide) rfl (Nat.le_of_ble_eq_true rfl) ?_
  intro p e s m below meth c A X hW ls hl
  have X : zX E wsX8_quietIn RX8 cX8_quietIn 4 (some .int) yX8_quietIn p s m ([.ref (a 0), .int p1] : List Value).toArray meth c A := X
  have hl : lv_has ls 4 [(0, .ref (a 0)), (1, .int p1)] := hl
  have hr : d_X8_quietIn v p1 = some r := h
  clear h
  have q_0 : Cond.fieldLink RX8 7 "ApplauseTalliesModel" "state" "[I" ∈ wsX8_quietIn := List.mem_of_getElem? (i := 1) rfl
  have hn_X8 : ∀ x ∈ wsX80, x ∈ wsX8_quietIn := zz_in [10, 11, 12, 13, 14, 15, 16, 17, 18, 19, 20, 21] (by decide +kernel)
  unfold d_X8_quietIn at hr
  refine lv_iload_n X.1 X.2.1 dX8_quietIn_0 rfl (lv_at hl 1 rfl) ?_
  refine lv_iconst (v := 0) X.1 X.2.1 dX8_quietIn_1 (by decide) ?_
  refine lv_sipush (v := 9999) X.1 X.2.1 dX8_quietIn_2 (by decide) ?_
  have hp_5 := (List.Perm.refl ((mdW E a v)))
  refine z_callp X hW hr hp_5 (fun x h => z_runS (As := [.int p1, .int 0, .int 9999]) (rest := []) X hW hp_5 (c_X8_within l E p1 0 9999 x h _) hy_X8_within gX8_quietIn_X8_within rfl rfl ⟨by decide, by decide⟩ rfl hl rfl rfl (Nat.le_of_ble_eq_true rfl) dX8_quietIn_5 ⟨Nat.zero_le _, Nat.zero_le _⟩) (fun t5 H locs hr hW => ?_)
  refine z_ifne X 14 hr dX8_quietIn_8 (by decide) (fun hr => ?_) (fun hr => ?_)
  · refine lv_iconst (v := 0) X.1 X.2.1 dX8_quietIn_14 (by decide) ?_
    refine lv_istore_n (lv' := [(2, .int 0), (0, .ref (a 0)), (1, .int p1)]) X.1 X.2.1 dX8_quietIn_15 rfl hl (by decide) rfl (fun ls hl => ?_)
    refine lv_aload_n X.1 X.2.1 dX8_quietIn_16 rfl (lv_at hl 1 rfl) ?_
    refine z_get X hW 0 8 0 (C := RX8) (T := TX8) (N := 12) rfl rfl hn_X8 (by decide) q_0 rfl dX8_quietIn_17 ?_
    refine lv_bipush (v := 6) X.1 X.2.1 dX8_quietIn_20 (by decide) ?_
    refine z_ald X hW 1 hr rfl dX8_quietIn_22 (fun t22 hr => ?_)
    refine lv_istore_n (lv' := [(3, .int t22), (2, .int 0), (0, .ref (a 0)), (1, .int p1)]) X.1 X.2.1 dX8_quietIn_23 rfl hl (by decide) rfl (fun ls hl => ?_)
    have L_24 : ∀ (n_24 : Nat), ∀ (x2 : Int32) (x3 : Int32) (H : Heap) (locs : List Loc) (ls : Array Slot), lp_X8_quietIn_24 v p1  n_24 x2 x3 = some r → zW E A s (mdW E a v) H locs → lv_has ls 4 [(0, .ref (a 0)), (1, .int p1), (2, .int x2), (3, .int x3)] → W p l e rm_X8_quietIn s m ([.ref (a 0), .int p1] : List Value).toArray below meth c H locs 0 0 (MQ below (zQi E A r (mdW E a v)) ([.ref (a 0), .int p1] : List Value).toArray s 0 0 A) (F0 m 24 ls []) := by
      intro n_24
      induction n_24 with
      | zero => exact fun x2 x3 H locs ls hr hW hl => absurd (show (none : Option (Int32)) = some r from hr) (fun h => by cases h)
      | succ n_24 ih_24 =>
        intro x2 x3 H locs ls hr hW hl
        have hr : lpB_X8_quietIn_24 v p1  (lp_X8_quietIn_24 v p1  n_24) x2 x3 = some r := hr
        unfold lpB_X8_quietIn_24 at hr
        refine lv_iload_n X.1 X.2.1 dX8_quietIn_24 rfl (lv_at hl 3 rfl) ?_
        refine lv_iload_n X.1 X.2.1 dX8_quietIn_25 rfl (lv_at hl 1 rfl) ?_
        refine z_cmple X 41 hr dX8_quietIn_26 (by decide) (fun hr => ?_) (fun hr => ?_)
        · refine lv_iload_n X.1 X.2.1 dX8_quietIn_41 rfl (lv_at hl 2 rfl) ?_
          cases hr
          exact z_iret X hW rfl dX8_quietIn_42
        · refine z_iinc X (fun x2_29 => [(2, .int x2_29), (0, .ref (a 0)), (1, .int p1), (3, .int x3)]) hr hl (k := 2) rfl (by decide) (fun _ => rfl) dX8_quietIn_29 (fun x2_29 ls hr hl => ?_)
          refine lv_aload_n X.1 X.2.1 dX8_quietIn_32 rfl (lv_at hl 1 rfl) ?_
          refine lv_iload_n X.1 X.2.1 dX8_quietIn_33 rfl (lv_at hl 3 rfl) ?_
          have hp_34 := (z_all (mdW E a v))
          refine z_callp X hW hr hp_34 (fun x h => z_runV (As := [.int x3]) (rest := []) X hW hp_34 (c_X8_decayed l E a v x3 x h _) hy_X8_decayed 0 8 (C := RX8) (T := TX8) (N := 12) rfl rfl rfl gX8_quietIn_X8_decayed rfl rfl ⟨by decide, by decide⟩ rfl hl rfl rfl (Nat.le_of_ble_eq_true rfl) dX8_quietIn_34 ⟨Nat.zero_le _, Nat.zero_le _⟩) (fun t34 H locs hr hW => ?_)
          refine lv_istore_n (lv' := [(3, .int t34), (2, .int x2_29), (0, .ref (a 0)), (1, .int p1)]) X.1 X.2.1 dX8_quietIn_37 rfl hl (by decide) rfl (fun ls hl => ?_)
          refine lv_goto (tgt := 24) X.1 X.2.1 dX8_quietIn_38 (by decide) ?_
          exact ih_24 x2_29 t34 _ _ _ hr hW (lv_sub hl [2, 3, 1, 0] rfl)
    exact L_24 _ 0 t22 _ _ _ hr hW (lv_sub hl [2, 3, 1, 0] rfl)
  · refine lv_bipush (v := (-2)) X.1 X.2.1 dX8_quietIn_11 (by decide) ?_
    cases hr
    exact z_iret X hW rfl dX8_quietIn_13
abbrev rm_X8_clapsFor : Room := { frames := 2, cells := 0, slots := 0, locals := 42 }
theorem hy_X8_clapsFor : zY yX8_clapsFor wsX8_clapsFor cX8_clapsFor 4 (some .int) 1 := ⟨⟨_, rfl⟩, by decide, by decide, by decide +kernel⟩
def lpB_X8_clapsFor_45 (v : zHV) (p1 : Int32)  (k_45 : Int32 → Int32 → Option (Int32)) (x2 : Int32) (x3 : Int32) : Option (Int32) :=
zld 288 (v 0) 6 fun t51 =>
zlet (x3 * x2) fun t54 =>
zlet (t51 + t54) fun t55 =>
zld 288 (v 0) 1 fun t61 =>
(if t61 ≤ t55 then
some x3
else
zlet (x3 + Int32.ofInt 1) fun x3_65 =>
k_45 x2 x3_65)
def lp_X8_clapsFor_45 (v : zHV) (p1 : Int32)  : Nat → Int32 → Int32 → Option (Int32)
  | 0 => fun _ _ => none
  | n_ + 1 => lpB_X8_clapsFor_45 v p1  (lp_X8_clapsFor_45 v p1  n_)
def d_X8_clapsFor (v : zHV) (p1 : Int32) : Option (Int32) :=
zcl (d_X8_isSeat p1) fun t1 =>
(if t1 = 0 then
some (-1)
else
zld 288 (v 0) 13 fun t15 =>
(if t15 = 0 then
some (-5)
else
zld 288 (v 0) 16 fun t25 =>
(if t25 = 1 then
some (-5)
else
zcl (d_X8_seat v p1 0) fun t38 =>
zlet (10 * t38) fun t41 =>
lp_X8_clapsFor_45 v p1  zF t41 1)))
set_option maxHeartbeats 4000000 in
set_option maxRecDepth 100000 in
theorem c_X8_clapsFor (l : Launch) (E : zE) (a : Nat → Nat) (v : zHV) (p1 : Int32) (r : Int32) (h : d_X8_clapsFor v p1 = some r) : zMi l E yX8_clapsFor wsX8_clapsFor rm_X8_clapsFor [.ref (a 0), .int p1] (mdW E a v) r (mdW E a v) := by
  intro sz
  refine z_entry (Qc := fun A => zQi E A r (mdW E a v)) (by decide) rfl (Nat.le_of_ble_eq_true rfl) ?_
  intro p e s m below meth c A X hW ls hl
  have X : zX E wsX8_clapsFor RX8 cX8_clapsFor 4 (some .int) yX8_clapsFor p s m ([.ref (a 0), .int p1] : List Value).toArray meth c A := X
  have hl : lv_has ls 4 [(0, .ref (a 0)), (1, .int p1)] := hl
  have hr : d_X8_clapsFor v p1 = some r := h
  clear h
  have q_0 : Cond.fieldLink RX8 7 "ApplauseTalliesModel" "state" "[I" ∈ wsX8_clapsFor := List.mem_of_getElem? (i := 1) rfl
  have hn_X8 : ∀ x ∈ wsX80, x ∈ wsX8_clapsFor := zz_in [13, 14, 15, 16, 17, 18, 19, 20, 21, 22, 23, 24] (by decide +kernel)
  unfold d_X8_clapsFor at hr
  refine lv_iload_n X.1 X.2.1 dX8_clapsFor_0 rfl (lv_at hl 1 rfl) ?_
  have hp_1 := (List.Perm.refl ((mdW E a v)))
  refine z_callp X hW hr hp_1 (fun x h => z_runS (As := [.int p1]) (rest := []) X hW hp_1 (c_X8_isSeat l E p1 x h _) hy_X8_isSeat gX8_clapsFor_X8_isSeat rfl rfl ⟨by decide, by decide⟩ rfl hl rfl rfl (Nat.le_of_ble_eq_true rfl) dX8_clapsFor_1 ⟨Nat.zero_le _, Nat.zero_le _⟩) (fun t1 H locs hr hW => ?_)
  refine z_ifne X 9 hr dX8_clapsFor_4 (by decide) (fun hr => ?_) (fun hr => ?_)
  · refine lv_aload_n X.1 X.2.1 dX8_clapsFor_9 rfl (lv_at hl 0 rfl) ?_
    refine z_get X hW 0 8 0 (C := RX8) (T := TX8) (N := 12) rfl rfl hn_X8 (by decide) q_0 rfl dX8_clapsFor_10 ?_
    refine lv_bipush (v := 13) X.1 X.2.1 dX8_clapsFor_13 (by decide) ?_
    refine z_ald X hW 1 hr rfl dX8_clapsFor_15 (fun t15 hr => ?_)
    refine z_ifeq X 30 hr dX8_clapsFor_16 (by decide) (fun hr => ?_) (fun hr => ?_)
    · refine lv_bipush (v := (-5)) X.1 X.2.1 dX8_clapsFor_30 (by decide) ?_
      cases hr
      exact z_iret X hW rfl dX8_clapsFor_32
    · refine lv_aload_n X.1 X.2.1 dX8_clapsFor_19 rfl (lv_at hl 0 rfl) ?_
      refine z_get X hW 0 8 0 (C := RX8) (T := TX8) (N := 12) rfl rfl hn_X8 (by decide) q_0 rfl dX8_clapsFor_20 ?_
      refine lv_bipush (v := 16) X.1 X.2.1 dX8_clapsFor_23 (by decide) ?_
      refine z_ald X hW 1 hr rfl dX8_clapsFor_25 (fun t25 hr => ?_)
      refine lv_iconst (v := 1) X.1 X.2.1 dX8_clapsFor_26 (by decide) ?_
      refine z_cmpne X 33 hr dX8_clapsFor_27 (by decide) (fun hr => ?_) (fun hr => ?_)
      · refine lv_bipush (v := 10) X.1 X.2.1 dX8_clapsFor_33 (by decide) ?_
        refine lv_aload_n X.1 X.2.1 dX8_clapsFor_35 rfl (lv_at hl 0 rfl) ?_
        refine lv_iload_n X.1 X.2.1 dX8_clapsFor_36 rfl (lv_at hl 1 rfl) ?_
        refine lv_iconst (v := 0) X.1 X.2.1 dX8_clapsFor_37 (by decide) ?_
        have hp_38 := (z_all (mdW E a v))
        refine z_callp X hW hr hp_38 (fun x h => z_runV (As := [.int p1, .int 0]) (rest := [.int 10]) X hW hp_38 (c_X8_seat l E a v p1 0 x h _) hy_X8_seat 0 8 (C := RX8) (T := TX8) (N := 12) rfl rfl rfl gX8_clapsFor_X8_seat rfl rfl ⟨by decide, by decide⟩ rfl hl rfl rfl (Nat.le_of_ble_eq_true rfl) dX8_clapsFor_38 ⟨Nat.zero_le _, Nat.zero_le _⟩) (fun t38 H locs hr hW => ?_)
        refine z_imul X hr dX8_clapsFor_41 (fun t41 hr => ?_)
        refine lv_istore_n (lv' := [(2, .int t41), (0, .ref (a 0)), (1, .int p1)]) X.1 X.2.1 dX8_clapsFor_42 rfl hl (by decide) rfl (fun ls hl => ?_)
        refine lv_iconst (v := 1) X.1 X.2.1 dX8_clapsFor_43 (by decide) ?_
        refine lv_istore_n (lv' := [(3, .int 1), (2, .int t41), (0, .ref (a 0)), (1, .int p1)]) X.1 X.2.1 dX8_clapsFor_44 rfl hl (by decide) rfl (fun ls hl => ?_)
        have L_45 : ∀ (n_45 : Nat), ∀ (x2 : Int32) (x3 : Int32) (H : Heap) (locs : List Loc) (ls : Array Slot), lp_X8_clapsFor_45 v p1  n_45 x2 x3 = some r → zW E A s (mdW E a v) H locs → lv_has ls 4 [(0, .ref (a 0)), (1, .int p1), (2, .int x2), (3, .int x3)] → W p l e rm_X8_clapsFor s m ([.ref (a 0), .int p1] : List Value).toArray below meth c H locs 0 0 (MQ below (zQi E A r (mdW E a v)) ([.ref (a 0), .int p1] : List Value).toArray s 0 0 A) (F0 m 45 ls []) := by
          intro n_45
          induction n_45 with
          | zero => exact fun x2 x3 H locs ls hr hW hl => absurd (show (none : Option (Int32)) = some r from hr) (fun h => by cases h)
          | succ n_45 ih_45 =>
            intro x2 x3 H locs ls hr hW hl
            have hr : lpB_X8_clapsFor_45 v p1  (lp_X8_clapsFor_45 v p1  n_45) x2 x3 = some r := hr
            unfold lpB_X8_clapsFor_45 at hr
            refine lv_aload_n X.1 X.2.1 dX8_clapsFor_45 rfl (lv_at hl 0 rfl) ?_
            refine z_get X hW 0 8 0 (C := RX8) (T := TX8) (N := 12) rfl rfl hn_X8 (by decide) q_0 rfl dX8_clapsFor_46 ?_
            refine lv_bipush (v := 6) X.1 X.2.1 dX8_clapsFor_49 (by decide) ?_
            refine z_ald X hW 1 hr rfl dX8_clapsFor_51 (fun t51 hr => ?_)
            refine lv_iload_n X.1 X.2.1 dX8_clapsFor_52 rfl (lv_at hl 3 rfl) ?_
            refine lv_iload_n X.1 X.2.1 dX8_clapsFor_53 rfl (lv_at hl 2 rfl) ?_
            refine z_imul X hr dX8_clapsFor_54 (fun t54 hr => ?_)
            refine z_iadd X hr dX8_clapsFor_55 (fun t55 hr => ?_)
            refine lv_aload_n X.1 X.2.1 dX8_clapsFor_56 rfl (lv_at hl 0 rfl) ?_
            refine z_get X hW 0 8 0 (C := RX8) (T := TX8) (N := 12) rfl rfl hn_X8 (by decide) q_0 rfl dX8_clapsFor_57 ?_
            refine lv_iconst (v := 1) X.1 X.2.1 dX8_clapsFor_60 (by decide) ?_
            refine z_ald X hW 1 hr rfl dX8_clapsFor_61 (fun t61 hr => ?_)
            refine z_cmpge X 71 hr dX8_clapsFor_62 (by decide) (fun hr => ?_) (fun hr => ?_)
            · refine lv_iload_n X.1 X.2.1 dX8_clapsFor_71 rfl (lv_at hl 3 rfl) ?_
              cases hr
              exact z_iret X hW rfl dX8_clapsFor_72
            · refine z_iinc X (fun x3_65 => [(3, .int x3_65), (0, .ref (a 0)), (1, .int p1), (2, .int x2)]) hr hl (k := 3) rfl (by decide) (fun _ => rfl) dX8_clapsFor_65 (fun x3_65 ls hr hl => ?_)
              refine lv_goto (tgt := 45) X.1 X.2.1 dX8_clapsFor_68 (by decide) ?_
              exact ih_45 x2 x3_65 _ _ _ hr hW (lv_sub hl [1, 2, 3, 0] rfl)
        exact L_45 _ t41 1 _ _ _ hr hW (lv_sub hl [2, 3, 1, 0] rfl)
      · refine lv_bipush (v := (-5)) X.1 X.2.1 dX8_clapsFor_30 (by decide) ?_
        cases hr
        exact z_iret X hW rfl dX8_clapsFor_32
  · refine lv_iconst (v := (-1)) X.1 X.2.1 dX8_clapsFor_7 (by decide) ?_
    cases hr
    exact z_iret X hW rfl dX8_clapsFor_8
abbrev rm_X8_lapsesIn : Room := { frames := 2, cells := 0, slots := 0, locals := 42 }
theorem hy_X8_lapsesIn : zY yX8_lapsesIn wsX8_lapsesIn cX8_lapsesIn 4 (some .int) 1 := ⟨⟨_, rfl⟩, by decide, by decide, by decide +kernel⟩
def d_X8_lapsesIn (v : zHV) (p1 : Int32) : Option (Int32) :=
zcl (d_X8_isPerformer p1) fun t1 =>
(if t1 = 0 then
some (-1)
else
zcl (d_X8_earliest v p1) fun t11 =>
(if t11 = (-6) then
some (-6)
else
zld 288 (v 0) 2 fun t29 =>
zcl (d_X8_owedFor v t11) fun t32 =>
zlet (t29 - t32) fun t35 =>
(if 1 ≤ t35 then
some t35
else
some 1)))
set_option maxHeartbeats 4000000 in
set_option maxRecDepth 100000 in
theorem c_X8_lapsesIn (l : Launch) (E : zE) (a : Nat → Nat) (v : zHV) (p1 : Int32) (r : Int32) (h : d_X8_lapsesIn v p1 = some r) : zMi l E yX8_lapsesIn wsX8_lapsesIn rm_X8_lapsesIn [.ref (a 0), .int p1] (mdW E a v) r (mdW E a v) := by
  intro sz
  refine z_entry (Qc := fun A => zQi E A r (mdW E a v)) (by decide) rfl (Nat.le_of_ble_eq_true rfl) ?_
  intro p e s m below meth c A X hW ls hl
  have X : zX E wsX8_lapsesIn RX8 cX8_lapsesIn 4 (some .int) yX8_lapsesIn p s m ([.ref (a 0), .int p1] : List Value).toArray meth c A := X
  have hl : lv_has ls 4 [(0, .ref (a 0)), (1, .int p1)] := hl
  have hr : d_X8_lapsesIn v p1 = some r := h
  clear h
  have q_0 : Cond.fieldLink RX8 7 "ApplauseTalliesModel" "state" "[I" ∈ wsX8_lapsesIn := List.mem_of_getElem? (i := 1) rfl
  have hn_X8 : ∀ x ∈ wsX80, x ∈ wsX8_lapsesIn := zz_in [17, 18, 19, 20, 21, 22, 23, 24, 25, 26, 27, 28] (by decide +kernel)
  unfold d_X8_lapsesIn at hr
  refine lv_iload_n X.1 X.2.1 dX8_lapsesIn_0 rfl (lv_at hl 1 rfl) ?_
  have hp_1 := (List.Perm.refl ((mdW E a v)))
  refine z_callp X hW hr hp_1 (fun x h => z_runS (As := [.int p1]) (rest := []) X hW hp_1 (c_X8_isPerformer l E p1 x h _) hy_X8_isPerformer gX8_lapsesIn_X8_isPerformer rfl rfl ⟨by decide, by decide⟩ rfl hl rfl rfl (Nat.le_of_ble_eq_true rfl) dX8_lapsesIn_1 ⟨Nat.zero_le _, Nat.zero_le _⟩) (fun t1 H locs hr hW => ?_)
  refine z_ifne X 9 hr dX8_lapsesIn_4 (by decide) (fun hr => ?_) (fun hr => ?_)
  · refine lv_aload_n X.1 X.2.1 dX8_lapsesIn_9 rfl (lv_at hl 0 rfl) ?_
    refine lv_iload_n X.1 X.2.1 dX8_lapsesIn_10 rfl (lv_at hl 1 rfl) ?_
    have hp_11 := (z_all (mdW E a v))
    refine z_callp X hW hr hp_11 (fun x h => z_runV (As := [.int p1]) (rest := []) X hW hp_11 (c_X8_earliest l E a v p1 x h _) hy_X8_earliest 0 8 (C := RX8) (T := TX8) (N := 12) rfl rfl rfl gX8_lapsesIn_X8_earliest rfl rfl ⟨by decide, by decide⟩ rfl hl rfl rfl (Nat.le_of_ble_eq_true rfl) dX8_lapsesIn_11 ⟨Nat.zero_le _, Nat.zero_le _⟩) (fun t11 H locs hr hW => ?_)
    refine lv_istore_n (lv' := [(2, .int t11), (0, .ref (a 0)), (1, .int p1)]) X.1 X.2.1 dX8_lapsesIn_14 rfl hl (by decide) rfl (fun ls hl => ?_)
    refine lv_iload_n X.1 X.2.1 dX8_lapsesIn_15 rfl (lv_at hl 0 rfl) ?_
    refine lv_bipush (v := (-6)) X.1 X.2.1 dX8_lapsesIn_16 (by decide) ?_
    refine z_cmpne X 24 hr dX8_lapsesIn_18 (by decide) (fun hr => ?_) (fun hr => ?_)
    · refine lv_aload_n X.1 X.2.1 dX8_lapsesIn_24 rfl (lv_at hl 1 rfl) ?_
      refine z_get X hW 0 8 0 (C := RX8) (T := TX8) (N := 12) rfl rfl hn_X8 (by decide) q_0 rfl dX8_lapsesIn_25 ?_
      refine lv_iconst (v := 2) X.1 X.2.1 dX8_lapsesIn_28 (by decide) ?_
      refine z_ald X hW 1 hr rfl dX8_lapsesIn_29 (fun t29 hr => ?_)
      refine lv_aload_n X.1 X.2.1 dX8_lapsesIn_30 rfl (lv_at hl 1 rfl) ?_
      refine lv_iload_n X.1 X.2.1 dX8_lapsesIn_31 rfl (lv_at hl 0 rfl) ?_
      have hp_32 := (z_all (mdW E a v))
      refine z_callp X hW hr hp_32 (fun x h => z_runV (As := [.int t11]) (rest := [.int t29]) X hW hp_32 (c_X8_owedFor l E a v t11 x h _) hy_X8_owedFor 0 8 (C := RX8) (T := TX8) (N := 12) rfl rfl rfl gX8_lapsesIn_X8_owedFor rfl rfl ⟨by decide, by decide⟩ rfl hl rfl rfl (Nat.le_of_ble_eq_true rfl) dX8_lapsesIn_32 ⟨Nat.zero_le _, Nat.zero_le _⟩) (fun t32 H locs hr hW => ?_)
      refine z_isub X hr dX8_lapsesIn_35 (fun t35 hr => ?_)
      refine lv_istore_n (lv' := [(3, .int t35), (2, .int t11), (0, .ref (a 0)), (1, .int p1)]) X.1 X.2.1 dX8_lapsesIn_36 rfl hl (by decide) rfl (fun ls hl => ?_)
      refine lv_iload_n X.1 X.2.1 dX8_lapsesIn_37 rfl (lv_at hl 0 rfl) ?_
      refine lv_iconst (v := 1) X.1 X.2.1 dX8_lapsesIn_38 (by decide) ?_
      refine z_cmpge X 46 hr dX8_lapsesIn_39 (by decide) (fun hr => ?_) (fun hr => ?_)
      · refine lv_iload_n X.1 X.2.1 dX8_lapsesIn_46 rfl (lv_at hl 0 rfl) ?_
        cases hr
        exact z_iret X hW rfl dX8_lapsesIn_47
      · refine lv_iconst (v := 1) X.1 X.2.1 dX8_lapsesIn_42 (by decide) ?_
        refine lv_goto (tgt := 47) X.1 X.2.1 dX8_lapsesIn_43 (by decide) ?_
        cases hr
        exact z_iret X hW rfl dX8_lapsesIn_47
    · refine lv_bipush (v := (-6)) X.1 X.2.1 dX8_lapsesIn_21 (by decide) ?_
      cases hr
      exact z_iret X hW rfl dX8_lapsesIn_23
  · refine lv_iconst (v := (-1)) X.1 X.2.1 dX8_lapsesIn_7 (by decide) ?_
    cases hr
    exact z_iret X hW rfl dX8_lapsesIn_8
abbrev rm_X8_calls : Room := { frames := 0, cells := 0, slots := 0, locals := 0 }
theorem hy_X8_calls : zY yX8_calls wsX8_calls cX8_calls 3 (some .int) 0 := ⟨⟨_, rfl⟩, by decide, by decide, by decide +kernel⟩
def lpB_X8_calls_10 (v : zHV)  (k_10 : Int32 → Int32 → Option (Int32)) (x1 : Int32) (x2 : Int32) : Option (Int32) :=
zld 288 (v 0) 5 fun t16 =>
(if x2 < t16 then
some x1
else
zdv x2 2 fun t22 =>
zlet (x1 + Int32.ofInt 1) fun x1_24 =>
k_10 x1_24 t22)
def lp_X8_calls_10 (v : zHV)  : Nat → Int32 → Int32 → Option (Int32)
  | 0 => fun _ _ => none
  | n_ + 1 => lpB_X8_calls_10 v  (lp_X8_calls_10 v  n_)
def d_X8_calls (v : zHV) : Option (Int32) :=
zld 288 (v 0) 6 fun t8 =>
lp_X8_calls_10 v  zF 0 t8
set_option maxHeartbeats 4000000 in
set_option maxRecDepth 100000 in
theorem c_X8_calls (l : Launch) (E : zE) (a : Nat → Nat) (v : zHV) (r : Int32) (h : d_X8_calls v = some r) : zMi l E yX8_calls wsX8_calls rm_X8_calls [.ref (a 0)] (mdW E a v) r (mdW E a v) := by
  intro sz
  refine z_entry (Qc := fun A => zQi E A r (mdW E a v)) (by decide) rfl (Nat.le_of_ble_eq_true rfl) ?_
  intro p e s m below meth c A X hW ls hl
  have X : zX E wsX8_calls RX8 cX8_calls 3 (some .int) yX8_calls p s m ([.ref (a 0)] : List Value).toArray meth c A := X
  have hl : lv_has ls 3 [(0, .ref (a 0))] := hl
  have hr : d_X8_calls v = some r := h
  clear h
  have q_0 : Cond.fieldLink RX8 7 "ApplauseTalliesModel" "state" "[I" ∈ wsX8_calls := List.mem_of_getElem? (i := 1) rfl
  have hn_X8 : ∀ x ∈ wsX80, x ∈ wsX8_calls := zz_in [2, 3, 4, 5, 6, 7, 8, 9, 10, 11, 12, 13] (by decide +kernel)
  unfold d_X8_calls at hr
  refine lv_iconst (v := 0) X.1 X.2.1 dX8_calls_0 (by decide) ?_
  refine lv_istore_n (lv' := [(1, .int 0), (0, .ref (a 0))]) X.1 X.2.1 dX8_calls_1 rfl hl (by decide) rfl (fun ls hl => ?_)
  refine lv_aload_n X.1 X.2.1 dX8_calls_2 rfl (lv_at hl 1 rfl) ?_
  refine z_get X hW 0 8 0 (C := RX8) (T := TX8) (N := 12) rfl rfl hn_X8 (by decide) q_0 rfl dX8_calls_3 ?_
  refine lv_bipush (v := 6) X.1 X.2.1 dX8_calls_6 (by decide) ?_
  refine z_ald X hW 1 hr rfl dX8_calls_8 (fun t8 hr => ?_)
  refine lv_istore_n (lv' := [(2, .int t8), (1, .int 0), (0, .ref (a 0))]) X.1 X.2.1 dX8_calls_9 rfl hl (by decide) rfl (fun ls hl => ?_)
  have L_10 : ∀ (n_10 : Nat), ∀ (x1 : Int32) (x2 : Int32) (H : Heap) (locs : List Loc) (ls : Array Slot), lp_X8_calls_10 v  n_10 x1 x2 = some r → zW E A s (mdW E a v) H locs → lv_has ls 3 [(0, .ref (a 0)), (1, .int x1), (2, .int x2)] → W p l e rm_X8_calls s m ([.ref (a 0)] : List Value).toArray below meth c H locs 0 0 (MQ below (zQi E A r (mdW E a v)) ([.ref (a 0)] : List Value).toArray s 0 0 A) (F0 m 10 ls []) := by
    intro n_10
    induction n_10 with
    | zero => exact fun x1 x2 H locs ls hr hW hl => absurd (show (none : Option (Int32)) = some r from hr) (fun h => by cases h)
    | succ n_10 ih_10 =>
      intro x1 x2 H locs ls hr hW hl
      have hr : lpB_X8_calls_10 v  (lp_X8_calls_10 v  n_10) x1 x2 = some r := hr
      unfold lpB_X8_calls_10 at hr
      refine lv_iload_n X.1 X.2.1 dX8_calls_10 rfl (lv_at hl 2 rfl) ?_
      refine lv_aload_n X.1 X.2.1 dX8_calls_11 rfl (lv_at hl 0 rfl) ?_
      refine z_get X hW 0 8 0 (C := RX8) (T := TX8) (N := 12) rfl rfl hn_X8 (by decide) q_0 rfl dX8_calls_12 ?_
      refine lv_iconst (v := 5) X.1 X.2.1 dX8_calls_15 (by decide) ?_
      refine z_ald X hW 1 hr rfl dX8_calls_16 (fun t16 hr => ?_)
      refine z_cmplt X 30 hr dX8_calls_17 (by decide) (fun hr => ?_) (fun hr => ?_)
      · refine lv_iload_n X.1 X.2.1 dX8_calls_30 rfl (lv_at hl 1 rfl) ?_
        cases hr
        exact z_iret X hW rfl dX8_calls_31
      · refine lv_iload_n X.1 X.2.1 dX8_calls_20 rfl (lv_at hl 2 rfl) ?_
        refine lv_iconst (v := 2) X.1 X.2.1 dX8_calls_21 (by decide) ?_
        refine z_idiv X hr dX8_calls_22 (fun t22 hr => ?_)
        refine lv_istore_n (lv' := [(2, .int t22), (0, .ref (a 0)), (1, .int x1)]) X.1 X.2.1 dX8_calls_23 rfl hl (by decide) rfl (fun ls hl => ?_)
        refine z_iinc X (fun x1_24 => [(1, .int x1_24), (2, .int t22), (0, .ref (a 0))]) hr hl (k := 2) rfl (by decide) (fun _ => rfl) dX8_calls_24 (fun x1_24 ls hr hl => ?_)
        refine lv_goto (tgt := 10) X.1 X.2.1 dX8_calls_27 (by decide) ?_
        exact ih_10 x1_24 t22 _ _ _ hr hW (lv_sub hl [2, 0, 1] rfl)
  exact L_10 _ 0 t8 _ _ _ hr hW (lv_sub hl [2, 1, 0] rfl)
abbrev rm_X8_ifFound : Room := { frames := 2, cells := 0, slots := 0, locals := 47 }
theorem hy_X8_ifFound : zY yX8_ifFound wsX8_ifFound cX8_ifFound 2 (some .int) 1 := ⟨⟨_, rfl⟩, by decide, by decide, by decide +kernel⟩
def d_X8_ifFound (v : zHV) (p1 : Int32) : Option (Int32) :=
zcl (d_X8_within p1 1 9) fun t4 =>
(if t4 = 0 then
some (-2)
else
zcl (d_X8_those v 0 p1) fun t13 =>
some t13)
set_option maxHeartbeats 4000000 in
set_option maxRecDepth 100000 in
theorem c_X8_ifFound (l : Launch) (E : zE) (a : Nat → Nat) (v : zHV) (p1 : Int32) (r : Int32) (h : d_X8_ifFound v p1 = some r) : zMi l E yX8_ifFound wsX8_ifFound rm_X8_ifFound [.ref (a 0), .int p1] (mdW E a v) r (mdW E a v) := by
  intro sz
  refine z_entry (Qc := fun A => zQi E A r (mdW E a v)) (by decide) rfl (Nat.le_of_ble_eq_true rfl) ?_
  intro p e s m below meth c A X hW ls hl
  have X : zX E wsX8_ifFound RX8 cX8_ifFound 2 (some .int) yX8_ifFound p s m ([.ref (a 0), .int p1] : List Value).toArray meth c A := X
  have hl : lv_has ls 2 [(0, .ref (a 0)), (1, .int p1)] := hl
  have hr : d_X8_ifFound v p1 = some r := h
  clear h
  unfold d_X8_ifFound at hr
  refine lv_iload_n X.1 X.2.1 dX8_ifFound_0 rfl (lv_at hl 1 rfl) ?_
  refine lv_iconst (v := 1) X.1 X.2.1 dX8_ifFound_1 (by decide) ?_
  refine lv_bipush (v := 9) X.1 X.2.1 dX8_ifFound_2 (by decide) ?_
  have hp_4 := (List.Perm.refl ((mdW E a v)))
  refine z_callp X hW hr hp_4 (fun x h => z_runS (As := [.int p1, .int 1, .int 9]) (rest := []) X hW hp_4 (c_X8_within l E p1 1 9 x h _) hy_X8_within gX8_ifFound_X8_within rfl rfl ⟨by decide, by decide⟩ rfl hl rfl rfl (Nat.le_of_ble_eq_true rfl) dX8_ifFound_4 ⟨Nat.zero_le _, Nat.zero_le _⟩) (fun t4 H locs hr hW => ?_)
  refine z_ifeq X 19 hr dX8_ifFound_7 (by decide) (fun hr => ?_) (fun hr => ?_)
  · refine lv_bipush (v := (-2)) X.1 X.2.1 dX8_ifFound_19 (by decide) ?_
    cases hr
    exact z_iret X hW rfl dX8_ifFound_21
  · refine lv_aload_n X.1 X.2.1 dX8_ifFound_10 rfl (lv_at hl 0 rfl) ?_
    refine lv_iconst (v := 0) X.1 X.2.1 dX8_ifFound_11 (by decide) ?_
    refine lv_iload_n X.1 X.2.1 dX8_ifFound_12 rfl (lv_at hl 1 rfl) ?_
    have hp_13 := (z_all (mdW E a v))
    refine z_callp X hW hr hp_13 (fun x h => z_runV (As := [.int 0, .int p1]) (rest := []) X hW hp_13 (c_X8_those l E a v 0 p1 x h _) hy_X8_those 0 8 (C := RX8) (T := TX8) (N := 12) rfl rfl rfl gX8_ifFound_X8_those rfl rfl ⟨by decide, by decide⟩ rfl hl rfl rfl (Nat.le_of_ble_eq_true rfl) dX8_ifFound_13 ⟨Nat.zero_le _, Nat.zero_le _⟩) (fun t13 H locs hr hW => ?_)
    refine lv_goto (tgt := 21) X.1 X.2.1 dX8_ifFound_16 (by decide) ?_
    cases hr
    exact z_iret X hW rfl dX8_ifFound_21
abbrev rm_X8_isCharacter : Room := { frames := 1, cells := 0, slots := 0, locals := 22 }
theorem hy_X8_isCharacter : zY yX8_isCharacter wsX8_isCharacter cX8_isCharacter 1 (some .boolean) 1 := ⟨⟨_, rfl⟩, by decide, by decide, by decide +kernel⟩
def d_X8_isCharacter (p0 : Int32) : Option (Int32) :=
zcl (d_X8_within p0 33 126) fun t5 =>
zgb t5 (some t5)
set_option maxHeartbeats 4000000 in
set_option maxRecDepth 100000 in
theorem c_X8_isCharacter (l : Launch) (E : zE) (p0 : Int32) (r : Int32) (h : d_X8_isCharacter p0 = some r) : zMi l E yX8_isCharacter wsX8_isCharacter rm_X8_isCharacter [.int p0] ([] : va_W) r ([] : va_W) := by
  intro sz
  refine z_entry (Qc := fun A => zQi E A r ([] : va_W)) (by decide) rfl (Nat.le_of_ble_eq_true rfl) ?_
  intro p e s m below meth c A X hW ls hl
  have X : zX E wsX8_isCharacter RX8 cX8_isCharacter 1 (some .boolean) yX8_isCharacter p s m ([.int p0] : List Value).toArray meth c A := X
  have hl : lv_has ls 1 [(0, .int p0)] := hl
  have hr : d_X8_isCharacter p0 = some r := h
  clear h
  unfold d_X8_isCharacter at hr
  refine lv_iload_n X.1 X.2.1 dX8_isCharacter_0 rfl (lv_at hl 0 rfl) ?_
  refine lv_bipush (v := 33) X.1 X.2.1 dX8_isCharacter_1 (by decide) ?_
  refine lv_bipush (v := 126) X.1 X.2.1 dX8_isCharacter_3 (by decide) ?_
  have hp_5 := (List.Perm.refl (([] : va_W)))
  refine z_callp X hW hr hp_5 (fun x h => z_runS (As := [.int p0, .int 33, .int 126]) (rest := []) X hW hp_5 (c_X8_within l E p0 33 126 x h _) hy_X8_within gX8_isCharacter_X8_within rfl rfl ⟨by decide, by decide⟩ rfl hl rfl rfl (Nat.le_of_ble_eq_true rfl) dX8_isCharacter_5 ⟨Nat.zero_le _, Nat.zero_le _⟩) (fun t5 H locs hr hW => ?_)
  obtain ⟨hg, hr⟩ := zgb_some hr
  cases hr
  exact z_zret X hW rfl (zgb_n hg) dX8_isCharacter_8
abbrev rm_X8_charactersIn : Room := { frames := 2, cells := 0, slots := 0, locals := 42 }
theorem hy_X8_charactersIn : zY yX8_charactersIn wsX8_charactersIn cX8_charactersIn 5 (some .int) 1 := ⟨⟨_, rfl⟩, by decide, by decide, by decide +kernel⟩
def lpB_X8_charactersIn_4 (p0 : Int64)  (k_4 : Int32 → Int64 → Option (Int32)) (x2 : Int32) (x3 : Int64) : Option (Int32) :=
zjn (fun (x2 : Int32) (x3 : Int64) =>
zlet (lg_cmp x3 0) fun t47 =>
(if t47 = 0 then
some x2
else
some 0)) fun j_45 =>
(if 8 ≤ x2 then
j_45 x2 x3
else
zlet ((x3 &&& 255 : Int64)) fun t14 =>
zlet (lg_cmp t14 0) fun t16 =>
(if t16 = 0 then
j_45 x2 x3
else
zlet ((x3 &&& 255 : Int64)) fun t24 =>
zlet ((t24 : Int64).toInt32) fun t25 =>
zcl (d_X8_isCharacter t25) fun t26 =>
(if t26 = 0 then
some 0
else
zlet ((x3.toUInt64 >>> ((8 : Int32).toInt64.toUInt64 &&& Int64.toUInt64 63)).toInt64) fun t37 =>
zlet (x2 + Int32.ofInt 1) fun x2_39 =>
k_4 x2_39 t37)))
def lp_X8_charactersIn_4 (p0 : Int64)  : Nat → Int32 → Int64 → Option (Int32)
  | 0 => fun _ _ => none
  | n_ + 1 => lpB_X8_charactersIn_4 p0  (lp_X8_charactersIn_4 p0  n_)
def d_X8_charactersIn (p0 : Int64) : Option (Int32) :=
lp_X8_charactersIn_4 p0  zF 0 p0
set_option maxHeartbeats 4000000 in
set_option maxRecDepth 100000 in
theorem c_X8_charactersIn (l : Launch) (E : zE) (p0 : Int64) (r : Int32) (h : d_X8_charactersIn p0 = some r) : zMi l E yX8_charactersIn wsX8_charactersIn rm_X8_charactersIn [.long p0] ([] : va_W) r ([] : va_W) := by
  intro sz
  refine z_entry (Qc := fun A => zQi E A r ([] : va_W)) (by decide) rfl (Nat.le_of_ble_eq_true rfl) ?_
  intro p e s m below meth c A X hW ls hl
  have X : zX E wsX8_charactersIn RX8 cX8_charactersIn 5 (some .int) yX8_charactersIn p s m ([.long p0] : List Value).toArray meth c A := X
  have hl : lv_has ls 5 [(0, .long p0)] := hl
  have hr : d_X8_charactersIn p0 = some r := h
  clear h
  have q_0 : Cond.constantLong RX8 146 255 ∈ wsX8_charactersIn := List.mem_of_getElem? (i := 1) rfl
  unfold d_X8_charactersIn at hr
  refine lv_iconst (v := 0) X.1 X.2.1 dX8_charactersIn_0 (by decide) ?_
  refine lv_istore_n (lv' := [(2, .int 0), (0, .long p0)]) X.1 X.2.1 dX8_charactersIn_1 rfl hl (by decide) rfl (fun ls hl => ?_)
  refine lv_lload_n X.1 X.2.1 dX8_charactersIn_2 rfl (lv_at hl 1 rfl) ?_
  refine lv_lstore_n (lv' := [(3, .long p0), (2, .int 0), (0, .long p0)]) X.1 X.2.1 dX8_charactersIn_3 rfl hl (by decide) rfl (fun ls hl => ?_)
  have L_4 : ∀ (n_4 : Nat), ∀ (x2 : Int32) (x3 : Int64) (H : Heap) (locs : List Loc) (ls : Array Slot), lp_X8_charactersIn_4 p0  n_4 x2 x3 = some r → zW E A s ([] : va_W) H locs → lv_has ls 5 [(0, .long p0), (2, .int x2), (3, .long x3)] → W p l e rm_X8_charactersIn s m ([.long p0] : List Value).toArray below meth c H locs 0 0 (MQ below (zQi E A r ([] : va_W)) ([.long p0] : List Value).toArray s 0 0 A) (F0 m 4 ls []) := by
    intro n_4
    induction n_4 with
    | zero => exact fun x2 x3 H locs ls hr hW hl => absurd (show (none : Option (Int32)) = some r from hr) (fun h => by cases h)
    | succ n_4 ih_4 =>
      intro x2 x3 H locs ls hr hW hl
      have hr : lpB_X8_charactersIn_4 p0  (lp_X8_charactersIn_4 p0  n_4) x2 x3 = some r := hr
      unfold lpB_X8_charactersIn_4 at hr
      refine lv_iload_n X.1 X.2.1 dX8_charactersIn_4 rfl (lv_at hl 1 rfl) ?_
      refine lv_bipush (v := 8) X.1 X.2.1 dX8_charactersIn_5 (by decide) ?_
      obtain ⟨j_45, e_45, hr⟩ := zjn_some hr
      have J_45 : ∀ (x2 : Int32) (x3 : Int64) (H : Heap) (locs : List Loc) (ls : Array Slot), j_45 x2 x3 = some r → zW E A s ([] : va_W) H locs → lv_has ls 5 [(0, .long p0), (2, .int x2), (3, .long x3)] → W p l e rm_X8_charactersIn s m ([.long p0] : List Value).toArray below meth c H locs 0 0 (MQ below (zQi E A r ([] : va_W)) ([.long p0] : List Value).toArray s 0 0 A) (F0 m 45 ls []) := by
        intro x2 x3 H locs ls hr hW hl
        rw [e_45] at hr
        refine lv_lload_n X.1 X.2.1 dX8_charactersIn_45 rfl (lv_at hl 2 rfl) ?_
        refine lv_lconst (v := 0) X.1 X.2.1 dX8_charactersIn_46 (by decide) ?_
        refine z_lcmp X hr dX8_charactersIn_47 (fun t47 hr => ?_)
        refine z_ifne X 55 hr dX8_charactersIn_48 (by decide) (fun hr => ?_) (fun hr => ?_)
        · refine lv_iconst (v := 0) X.1 X.2.1 dX8_charactersIn_55 (by decide) ?_
          cases hr
          exact z_iret X hW rfl dX8_charactersIn_56
        · refine lv_iload_n X.1 X.2.1 dX8_charactersIn_51 rfl (lv_at hl 1 rfl) ?_
          refine lv_goto (tgt := 56) X.1 X.2.1 dX8_charactersIn_52 (by decide) ?_
          cases hr
          exact z_iret X hW rfl dX8_charactersIn_56
      refine z_cmpge X 45 hr dX8_charactersIn_7 (by decide) (fun hr => ?_) (fun hr => ?_)
      · exact J_45 x2 x3 _ _ _ hr hW (lv_sub hl [0, 1, 2] rfl)
      · refine lv_lload_n X.1 X.2.1 dX8_charactersIn_10 rfl (lv_at hl 2 rfl) ?_
        refine lv_ldc2 (v := 255) X.1 X.2.1 X.2.2.2.1 (X.2.2.2.2.1 _ q_0) dX8_charactersIn_11 ?_
        refine z_land X hr dX8_charactersIn_14 (fun t14 hr => ?_)
        refine lv_lconst (v := 0) X.1 X.2.1 dX8_charactersIn_15 (by decide) ?_
        refine z_lcmp X hr dX8_charactersIn_16 (fun t16 hr => ?_)
        refine z_ifeq X 45 hr dX8_charactersIn_17 (by decide) (fun hr => ?_) (fun hr => ?_)
        · exact J_45 x2 x3 _ _ _ hr hW (lv_sub hl [0, 1, 2] rfl)
        · refine lv_lload_n X.1 X.2.1 dX8_charactersIn_20 rfl (lv_at hl 2 rfl) ?_
          refine lv_ldc2 (v := 255) X.1 X.2.1 X.2.2.2.1 (X.2.2.2.2.1 _ q_0) dX8_charactersIn_21 ?_
          refine z_land X hr dX8_charactersIn_24 (fun t24 hr => ?_)
          refine z_l2i X hr dX8_charactersIn_25 (fun t25 hr => ?_)
          have hp_26 := (List.Perm.refl (([] : va_W)))
          refine z_callp X hW hr hp_26 (fun x h => z_runS (As := [.int t25]) (rest := []) X hW hp_26 (c_X8_isCharacter l E t25 x h _) hy_X8_isCharacter gX8_charactersIn_X8_isCharacter rfl rfl ⟨by decide, by decide⟩ rfl hl rfl rfl (Nat.le_of_ble_eq_true rfl) dX8_charactersIn_26 ⟨Nat.zero_le _, Nat.zero_le _⟩) (fun t26 H locs hr hW => ?_)
          refine z_ifne X 34 hr dX8_charactersIn_29 (by decide) (fun hr => ?_) (fun hr => ?_)
          · refine lv_lload_n X.1 X.2.1 dX8_charactersIn_34 rfl (lv_at hl 2 rfl) ?_
            refine lv_bipush (v := 8) X.1 X.2.1 dX8_charactersIn_35 (by decide) ?_
            refine z_lushr X hr dX8_charactersIn_37 (fun t37 hr => ?_)
            refine lv_lstore_n (lv' := [(3, .long t37), (0, .long p0), (2, .int x2)]) X.1 X.2.1 dX8_charactersIn_38 rfl hl (by decide) rfl (fun ls hl => ?_)
            refine z_iinc X (fun x2_39 => [(2, .int x2_39), (3, .long t37), (0, .long p0)]) hr hl (k := 2) rfl (by decide) (fun _ => rfl) dX8_charactersIn_39 (fun x2_39 ls hr hl => ?_)
            refine lv_goto (tgt := 4) X.1 X.2.1 dX8_charactersIn_42 (by decide) ?_
            exact ih_4 x2_39 t37 _ _ _ hr hW (lv_sub hl [2, 0, 1] rfl)
          · refine lv_iconst (v := 0) X.1 X.2.1 dX8_charactersIn_32 (by decide) ?_
            cases hr
            exact z_iret X hW rfl dX8_charactersIn_33
  exact L_4 _ 0 p0 _ _ _ hr hW (lv_sub hl [2, 1, 0] rfl)
abbrev rm_X8_put : Room := { frames := 3, cells := 0, slots := 0, locals := 66 }
theorem hy_X8_put : zY yX8_put wsX8_put cX8_put 5 (some .int) 1 := ⟨⟨_, rfl⟩, by decide, by decide, by decide +kernel⟩
def lpB_X8_put_31 (p1 : Int64)  (k_31 : Int32 → Int32 → zHV → Option (Int32 × zHV)) (x3 : Int32) (x4 : Int32) (v : zHV) : Option (Int32 × zHV) :=
(if x4 < 0 then
some ((v 6 1), v)
else
zlet (8 * x4) fun t42 =>
zlet (p1 >>> ((t42 : Int32).toInt64 &&& 63)) fun t43 =>
zlet ((t43 &&& 255 : Int64)) fun t47 =>
zlet ((t47 : Int64).toInt32) fun t48 =>
zup (d_X8_writeSign v t48) (fun u => u) fun v49 =>
zlet (x4 + Int32.ofInt (-1)) fun x4_52 =>
k_31 x3 x4_52 v49)
def lp_X8_put_31 (p1 : Int64)  : Nat → Int32 → Int32 → zHV → Option (Int32 × zHV)
  | 0 => fun _ _ _ => none
  | n_ + 1 => lpB_X8_put_31 p1  (lp_X8_put_31 p1  n_)
def d_X8_put (v : zHV) (p1 : Int64) : Option (Int32 × zHV) :=
zcl (d_X8_charactersIn p1) fun t1 =>
(if t1 = 0 then
some ((-2), v)
else
zlet ((v 6 1) + t1) fun t17 =>
(if t17 ≤ 80 then
zlet (t1 - 1) fun t28 =>
lp_X8_put_31 p1  zF t1 t28 v
else
some ((-4), v)))
set_option maxHeartbeats 4000000 in
set_option maxRecDepth 100000 in
theorem c_X8_put (l : Launch) (E : zE) (a : Nat → Nat) (v : zHV) (p1 : Int64) (r : Int32 × zHV) (h : d_X8_put v p1 = some r) : zMi l E yX8_put wsX8_put rm_X8_put [.ref (a 0), .long p1] (mdW E a v) r.1 (mdW E a r.2) := by
  intro sz
  refine z_entry (Qc := fun A => zQi E A r.1 (mdW E a r.2)) (by decide) rfl (Nat.le_of_ble_eq_true rfl) ?_
  intro p e s m below meth c A X hW ls hl
  have X : zX E wsX8_put RX8 cX8_put 5 (some .int) yX8_put p s m ([.ref (a 0), .long p1] : List Value).toArray meth c A := X
  have hl : lv_has ls 5 [(0, .ref (a 0)), (1, .long p1)] := hl
  have hr : d_X8_put v p1 = some r := h
  clear h
  have q_0 : Cond.fieldLink RX8 131 "ApplauseTalliesModel" "length" "I" ∈ wsX8_put := List.mem_of_getElem? (i := 1) rfl
  have hn_X8 : ∀ x ∈ wsX80, x ∈ wsX8_put := zz_in [18, 19, 20, 21, 22, 23, 24, 25, 26, 27, 28, 29] (by decide +kernel)
  have q_2 : Cond.constantLong RX8 146 255 ∈ wsX8_put := List.mem_of_getElem? (i := 2) rfl
  unfold d_X8_put at hr
  refine lv_lload_n X.1 X.2.1 dX8_put_0 rfl (lv_at hl 1 rfl) ?_
  have hp_1 := (List.Perm.refl ((mdW E a v)))
  refine z_callp X hW hr hp_1 (fun x h => z_runS (As := [.long p1]) (rest := []) X hW hp_1 (c_X8_charactersIn l E p1 x h _) hy_X8_charactersIn gX8_put_X8_charactersIn rfl rfl ⟨by decide, by decide⟩ rfl hl rfl rfl (Nat.le_of_ble_eq_true rfl) dX8_put_1 ⟨Nat.zero_le _, Nat.zero_le _⟩) (fun t1 H locs hr hW => ?_)
  refine lv_istore_n (lv' := [(3, .int t1), (0, .ref (a 0)), (1, .long p1)]) X.1 X.2.1 dX8_put_4 rfl hl (by decide) rfl (fun ls hl => ?_)
  refine lv_iload_n X.1 X.2.1 dX8_put_5 rfl (lv_at hl 0 rfl) ?_
  refine z_ifne X 12 hr dX8_put_6 (by decide) (fun hr => ?_) (fun hr => ?_)
  · refine lv_aload_n X.1 X.2.1 dX8_put_12 rfl (lv_at hl 1 rfl) ?_
    refine z_get X hW 0 8 7 (C := RX8) (T := TX8) (N := 12) rfl rfl hn_X8 (by decide) q_0 rfl dX8_put_13 ?_
    refine lv_iload_n X.1 X.2.1 dX8_put_16 rfl (lv_at hl 0 rfl) ?_
    refine z_iadd X hr dX8_put_17 (fun t17 hr => ?_)
    refine lv_bipush (v := 80) X.1 X.2.1 dX8_put_18 (by decide) ?_
    refine z_cmple X 26 hr dX8_put_20 (by decide) (fun hr => ?_) (fun hr => ?_)
    · refine lv_iload_n X.1 X.2.1 dX8_put_26 rfl (lv_at hl 0 rfl) ?_
      refine lv_iconst (v := 1) X.1 X.2.1 dX8_put_27 (by decide) ?_
      refine z_isub X hr dX8_put_28 (fun t28 hr => ?_)
      refine lv_istore (lv' := [(4, .int t28), (3, .int t1), (0, .ref (a 0)), (1, .long p1)]) X.1 X.2.1 dX8_put_29 hl (by decide) rfl (fun ls hl => ?_)
      have L_31 : ∀ (n_31 : Nat), ∀ (x3 : Int32) (x4 : Int32) (v : zHV) (H : Heap) (locs : List Loc) (ls : Array Slot), lp_X8_put_31 p1  n_31 x3 x4 v = some r → zW E A s (mdW E a v) H locs → lv_has ls 5 [(0, .ref (a 0)), (1, .long p1), (3, .int x3), (4, .int x4)] → W p l e rm_X8_put s m ([.ref (a 0), .long p1] : List Value).toArray below meth c H locs 0 0 (MQ below (zQi E A r.1 (mdW E a r.2)) ([.ref (a 0), .long p1] : List Value).toArray s 0 0 A) (F0 m 31 ls []) := by
        intro n_31
        induction n_31 with
        | zero => exact fun x3 x4 v H locs ls hr hW hl => absurd (show (none : Option (Int32 × zHV)) = some r from hr) (fun h => by cases h)
        | succ n_31 ih_31 =>
          intro x3 x4 v H locs ls hr hW hl
          have hr : lpB_X8_put_31 p1  (lp_X8_put_31 p1  n_31) x3 x4 v = some r := hr
          unfold lpB_X8_put_31 at hr
          refine lv_iload X.1 X.2.1 dX8_put_31 (lv_at hl 3 rfl) ?_
          refine z_iflt X 58 hr dX8_put_33 (by decide) (fun hr => ?_) (fun hr => ?_)
          · refine lv_aload_n X.1 X.2.1 dX8_put_58 rfl (lv_at hl 0 rfl) ?_
            refine z_get X hW 0 8 7 (C := RX8) (T := TX8) (N := 12) rfl rfl hn_X8 (by decide) q_0 rfl dX8_put_59 ?_
            cases hr
            exact z_iret X hW rfl dX8_put_62
          · refine lv_aload_n X.1 X.2.1 dX8_put_36 rfl (lv_at hl 0 rfl) ?_
            refine lv_lload_n X.1 X.2.1 dX8_put_37 rfl (lv_at hl 1 rfl) ?_
            refine lv_bipush (v := 8) X.1 X.2.1 dX8_put_38 (by decide) ?_
            refine lv_iload X.1 X.2.1 dX8_put_40 (lv_at hl 3 rfl) ?_
            refine z_imul X hr dX8_put_42 (fun t42 hr => ?_)
            refine z_lshr X hr dX8_put_43 (fun t43 hr => ?_)
            refine lv_ldc2 (v := 255) X.1 X.2.1 X.2.2.2.1 (X.2.2.2.2.1 _ q_2) dX8_put_44 ?_
            refine z_land X hr dX8_put_47 (fun t47 hr => ?_)
            refine z_l2i X hr dX8_put_48 (fun t48 hr => ?_)
            have hp_49 := (z_all (mdW E a v))
            refine z_callv X hW (fun u => u) hr hp_49 (fun u => (mdW E a u)) (fun v49 => (mdW E a v49)) (fun u => (z_lla (mdW E a u))) (fun u h => z_runV (As := [.int t48]) (rest := []) X hW hp_49 (c_X8_writeSign l E a v t48 u h _) hy_X8_writeSign 0 8 (C := RX8) (T := TX8) (N := 12) rfl rfl rfl gX8_put_X8_writeSign rfl rfl ⟨by decide, by decide⟩ rfl hl rfl rfl (Nat.le_of_ble_eq_true rfl) dX8_put_49 ⟨Nat.zero_le _, Nat.zero_le _⟩) (fun v49 H locs hr hW => ?_)
            refine z_iinc X (fun x4_52 => [(4, .int x4_52), (0, .ref (a 0)), (1, .long p1), (3, .int x3)]) hr hl (k := 3) rfl (by decide) (fun _ => rfl) dX8_put_52 (fun x4_52 ls hr hl => ?_)
            refine lv_goto (tgt := 31) X.1 X.2.1 dX8_put_55 (by decide) ?_
            exact ih_31 x3 x4_52 v49 _ _ _ hr hW (lv_sub hl [1, 2, 3, 0] rfl)
      exact L_31 _ t1 t28 v _ _ _ hr hW (lv_sub hl [2, 3, 1, 0] rfl)
    · refine lv_bipush (v := (-4)) X.1 X.2.1 dX8_put_23 (by decide) ?_
      cases hr
      exact z_iret X hW rfl dX8_put_25
  · refine lv_bipush (v := (-2)) X.1 X.2.1 dX8_put_9 (by decide) ?_
    cases hr
    exact z_iret X hW rfl dX8_put_11
abbrev rm_X8_wipe : Room := { frames := 0, cells := 0, slots := 0, locals := 0 }
theorem hy_X8_wipe : zY yX8_wipe wsX8_wipe cX8_wipe 2 (some .int) 0 := ⟨⟨_, rfl⟩, by decide, by decide, by decide +kernel⟩
def d_X8_wipe (v : zHV) : Option (Int32 × zHV) :=
zlet (zs v 6 1 0) fun v7 =>
some ((v 6 1), v7)
set_option maxHeartbeats 4000000 in
set_option maxRecDepth 100000 in
theorem c_X8_wipe (l : Launch) (E : zE) (a : Nat → Nat) (v : zHV) (r : Int32 × zHV) (h : d_X8_wipe v = some r) : zMi l E yX8_wipe wsX8_wipe rm_X8_wipe [.ref (a 0)] (mdW E a v) r.1 (mdW E a r.2) := by
  intro sz
  refine z_entry (Qc := fun A => zQi E A r.1 (mdW E a r.2)) (by decide) rfl (Nat.le_of_ble_eq_true rfl) ?_
  intro p e s m below meth c A X hW ls hl
  have X : zX E wsX8_wipe RX8 cX8_wipe 2 (some .int) yX8_wipe p s m ([.ref (a 0)] : List Value).toArray meth c A := X
  have hl : lv_has ls 2 [(0, .ref (a 0))] := hl
  have hr : d_X8_wipe v = some r := h
  clear h
  have q_0 : Cond.fieldLink RX8 131 "ApplauseTalliesModel" "length" "I" ∈ wsX8_wipe := List.mem_of_getElem? (i := 1) rfl
  have hn_X8 : ∀ x ∈ wsX80, x ∈ wsX8_wipe := zz_in [2, 3, 4, 5, 6, 7, 8, 9, 10, 11, 12, 13] (by decide +kernel)
  unfold d_X8_wipe at hr
  refine lv_aload_n X.1 X.2.1 dX8_wipe_0 rfl (lv_at hl 0 rfl) ?_
  refine z_get X hW 0 8 7 (C := RX8) (T := TX8) (N := 12) rfl rfl hn_X8 (by decide) q_0 rfl dX8_wipe_1 ?_
  refine lv_istore_n (lv' := [(1, .int (v 6 1)), (0, .ref (a 0))]) X.1 X.2.1 dX8_wipe_4 rfl hl (by decide) rfl (fun ls hl => ?_)
  refine lv_aload_n X.1 X.2.1 dX8_wipe_5 rfl (lv_at hl 1 rfl) ?_
  refine lv_iconst (v := 0) X.1 X.2.1 dX8_wipe_6 (by decide) ?_
  refine z_put X hW hr (fun v7 => (mdW E a v7)) tyX8 tyX8_ok nmX8 0 8 7 (C := RX8) (T := TX8) (N := 12) rfl rfl hn_X8 (by decide) q_0 rfl rfl rfl (Nat.le_of_ble_eq_true rfl) rfl dX8_wipe_7 (fun v7 H locs hr hW => ?_)
  refine lv_iload_n X.1 X.2.1 dX8_wipe_10 rfl (lv_at hl 0 rfl) ?_
  cases hr
  exact z_iret X hW rfl dX8_wipe_11
abbrev rm_X8_code : Room := { frames := 0, cells := 0, slots := 0, locals := 0 }
theorem hy_X8_code : zY yX8_code wsX8_code cX8_code 1 (some .int) 0 := ⟨⟨_, rfl⟩, by decide, by decide, by decide +kernel⟩
def d_X8_code (v : zHV) : Option (Int32) :=
(if (v 6 1) ≤ (v 6 2) then
some 0
else
zld 80 (v 5) (v 6 2) fun t19 =>
some t19)
set_option maxHeartbeats 4000000 in
set_option maxRecDepth 100000 in
theorem c_X8_code (l : Launch) (E : zE) (a : Nat → Nat) (v : zHV) (r : Int32) (h : d_X8_code v = some r) : zMi l E yX8_code wsX8_code rm_X8_code [.ref (a 0)] (mdW E a v) r (mdW E a v) := by
  intro sz
  refine z_entry (Qc := fun A => zQi E A r (mdW E a v)) (by decide) rfl (Nat.le_of_ble_eq_true rfl) ?_
  intro p e s m below meth c A X hW ls hl
  have X : zX E wsX8_code RX8 cX8_code 1 (some .int) yX8_code p s m ([.ref (a 0)] : List Value).toArray meth c A := X
  have hl : lv_has ls 1 [(0, .ref (a 0))] := hl
  have hr : d_X8_code v = some r := h
  clear h
  have q_0 : Cond.fieldLink RX8 155 "ApplauseTalliesModel" "at" "I" ∈ wsX8_code := List.mem_of_getElem? (i := 1) rfl
  have hn_X8 : ∀ x ∈ wsX80, x ∈ wsX8_code := zz_in [4, 5, 6, 7, 8, 9, 10, 11, 12, 13, 14, 15] (by decide +kernel)
  have q_2 : Cond.fieldLink RX8 131 "ApplauseTalliesModel" "length" "I" ∈ wsX8_code := List.mem_of_getElem? (i := 2) rfl
  have q_3 : Cond.fieldLink RX8 25 "ApplauseTalliesModel" "pad" "[I" ∈ wsX8_code := List.mem_of_getElem? (i := 3) rfl
  unfold d_X8_code at hr
  refine lv_aload_n X.1 X.2.1 dX8_code_0 rfl (lv_at hl 0 rfl) ?_
  refine z_get X hW 0 8 8 (C := RX8) (T := TX8) (N := 12) rfl rfl hn_X8 (by decide) q_0 rfl dX8_code_1 ?_
  refine lv_aload_n X.1 X.2.1 dX8_code_4 rfl (lv_at hl 0 rfl) ?_
  refine z_get X hW 0 8 7 (C := RX8) (T := TX8) (N := 12) rfl rfl hn_X8 (by decide) q_2 rfl dX8_code_5 ?_
  refine z_cmpge X 23 hr dX8_code_8 (by decide) (fun hr => ?_) (fun hr => ?_)
  · refine lv_iconst (v := 0) X.1 X.2.1 dX8_code_23 (by decide) ?_
    cases hr
    exact z_iret X hW rfl dX8_code_24
  · refine lv_aload_n X.1 X.2.1 dX8_code_11 rfl (lv_at hl 0 rfl) ?_
    refine z_get X hW 0 8 6 (C := RX8) (T := TX8) (N := 12) rfl rfl hn_X8 (by decide) q_3 rfl dX8_code_12 ?_
    refine lv_aload_n X.1 X.2.1 dX8_code_15 rfl (lv_at hl 0 rfl) ?_
    refine z_get X hW 0 8 8 (C := RX8) (T := TX8) (N := 12) rfl rfl hn_X8 (by decide) q_0 rfl dX8_code_16 ?_
    refine z_ald X hW 6 hr rfl dX8_code_19 (fun t19 hr => ?_)
    refine lv_goto (tgt := 24) X.1 X.2.1 dX8_code_20 (by decide) ?_
    cases hr
    exact z_iret X hW rfl dX8_code_24
abbrev rm_X8_takes : Room := { frames := 1, cells := 0, slots := 0, locals := 20 }
theorem hy_X8_takes : zY yX8_takes wsX8_takes cX8_takes 3 (some .boolean) 1 := ⟨⟨_, rfl⟩, by decide, by decide, by decide +kernel⟩
def d_X8_takes (v : zHV) (p1 : Int32) : Option (Int32 × zHV) :=
zcl (d_X8_code v) fun t1 =>
zjn (fun (s0 : Int32) (v : zHV) =>
(if s0 = 0 then
zlet ((v 6 2) + 0) fun t28 =>
zlet (zs v 6 2 t28) fun v29 =>
zgb s0 (some (s0, v29))
else
zlet ((v 6 2) + 1) fun t28 =>
zlet (zs v 6 2 t28) fun v29 =>
zgb s0 (some (s0, v29)))) fun j_13 =>
(if t1 = p1 then
j_13 1 v
else
j_13 0 v)
set_option maxHeartbeats 4000000 in
set_option maxRecDepth 100000 in
theorem c_X8_takes (l : Launch) (E : zE) (a : Nat → Nat) (v : zHV) (p1 : Int32) (r : Int32 × zHV) (h : d_X8_takes v p1 = some r) : zMi l E yX8_takes wsX8_takes rm_X8_takes [.ref (a 0), .int p1] (mdW E a v) r.1 (mdW E a r.2) := by
  intro sz
  refine z_entry (Qc := fun A => zQi E A r.1 (mdW E a r.2)) (by decide) rfl (Nat.le_of_ble_eq_true rfl) ?_
  intro p e s m below meth c A X hW ls hl
  have X : zX E wsX8_takes RX8 cX8_takes 3 (some .boolean) yX8_takes p s m ([.ref (a 0), .int p1] : List Value).toArray meth c A := X
  have hl : lv_has ls 3 [(0, .ref (a 0)), (1, .int p1)] := hl
  have hr : d_X8_takes v p1 = some r := h
  clear h
  have q_0 : Cond.fieldLink RX8 155 "ApplauseTalliesModel" "at" "I" ∈ wsX8_takes := List.mem_of_getElem? (i := 1) rfl
  have hn_X8 : ∀ x ∈ wsX80, x ∈ wsX8_takes := zz_in [9, 10, 11, 12, 13, 14, 15, 16, 17, 18, 19, 20] (by decide +kernel)
  unfold d_X8_takes at hr
  refine lv_aload_n X.1 X.2.1 dX8_takes_0 rfl (lv_at hl 0 rfl) ?_
  have hp_1 := (z_all (mdW E a v))
  refine z_callp X hW hr hp_1 (fun x h => z_runV (As := []) (rest := []) X hW hp_1 (c_X8_code l E a v x h _) hy_X8_code 0 8 (C := RX8) (T := TX8) (N := 12) rfl rfl rfl gX8_takes_X8_code rfl rfl ⟨by decide, by decide⟩ rfl hl rfl rfl (Nat.le_of_ble_eq_true rfl) dX8_takes_1 ⟨Nat.zero_le _, Nat.zero_le _⟩) (fun t1 H locs hr hW => ?_)
  refine lv_iload_n X.1 X.2.1 dX8_takes_4 rfl (lv_at hl 1 rfl) ?_
  obtain ⟨j_13, e_13, hr⟩ := zjn_some hr
  have J_13 : ∀ (s0 : Int32) (v : zHV) (H : Heap) (locs : List Loc) (ls : Array Slot), j_13 s0 v = some r → zW E A s (mdW E a v) H locs → lv_has ls 3 [(0, .ref (a 0)), (1, .int p1)] → W p l e rm_X8_takes s m ([.ref (a 0), .int p1] : List Value).toArray below meth c H locs 0 0 (MQ below (zQi E A r.1 (mdW E a r.2)) ([.ref (a 0), .int p1] : List Value).toArray s 0 0 A) (F0 m 13 ls [.int s0]) := by
    intro s0 v H locs ls hr hW hl
    rw [e_13] at hr
    refine lv_istore_n (lv' := [(2, .int s0), (0, .ref (a 0)), (1, .int p1)]) X.1 X.2.1 dX8_takes_13 rfl hl (by decide) rfl (fun ls hl => ?_)
    refine lv_aload_n X.1 X.2.1 dX8_takes_14 rfl (lv_at hl 1 rfl) ?_
    refine lv_dup X.1 X.2.1 dX8_takes_15 rfl ?_
    refine z_get X hW 0 8 8 (C := RX8) (T := TX8) (N := 12) rfl rfl hn_X8 (by decide) q_0 rfl dX8_takes_16 ?_
    refine lv_iload_n X.1 X.2.1 dX8_takes_19 rfl (lv_at hl 0 rfl) ?_
    refine z_ifeq X 27 hr dX8_takes_20 (by decide) (fun hr => ?_) (fun hr => ?_)
    · refine lv_iconst (v := 0) X.1 X.2.1 dX8_takes_27 (by decide) ?_
      refine z_iadd X hr dX8_takes_28 (fun t28 hr => ?_)
      refine z_put X hW hr (fun v29 => (mdW E a v29)) tyX8 tyX8_ok nmX8 0 8 8 (C := RX8) (T := TX8) (N := 12) rfl rfl hn_X8 (by decide) q_0 rfl rfl rfl (Nat.le_of_ble_eq_true rfl) rfl dX8_takes_29 (fun v29 H locs hr hW => ?_)
      refine lv_iload_n X.1 X.2.1 dX8_takes_32 rfl (lv_at hl 0 rfl) ?_
      obtain ⟨hg, hr⟩ := zgb_some hr
      cases hr
      exact z_zret X hW rfl (zgb_n hg) dX8_takes_33
    · refine lv_iconst (v := 1) X.1 X.2.1 dX8_takes_23 (by decide) ?_
      refine lv_goto (tgt := 28) X.1 X.2.1 dX8_takes_24 (by decide) ?_
      refine z_iadd X hr dX8_takes_28 (fun t28 hr => ?_)
      refine z_put X hW hr (fun v29 => (mdW E a v29)) tyX8 tyX8_ok nmX8 0 8 8 (C := RX8) (T := TX8) (N := 12) rfl rfl hn_X8 (by decide) q_0 rfl rfl rfl (Nat.le_of_ble_eq_true rfl) rfl dX8_takes_29 (fun v29 H locs hr hW => ?_)
      refine lv_iload_n X.1 X.2.1 dX8_takes_32 rfl (lv_at hl 0 rfl) ?_
      obtain ⟨hg, hr⟩ := zgb_some hr
      cases hr
      exact z_zret X hW rfl (zgb_n hg) dX8_takes_33
  refine z_cmpne X 12 hr dX8_takes_5 (by decide) (fun hr => ?_) (fun hr => ?_)
  · refine lv_iconst (v := 0) X.1 X.2.1 dX8_takes_12 (by decide) ?_
    exact J_13 0 v _ _ _ hr hW (lv_sub hl [0, 1] rfl)
  · refine lv_iconst (v := 1) X.1 X.2.1 dX8_takes_8 (by decide) ?_
    refine lv_goto (tgt := 13) X.1 X.2.1 dX8_takes_9 (by decide) ?_
    exact J_13 1 v _ _ _ hr hW (lv_sub hl [0, 1] rfl)
abbrev rm_X8_takeDigit : Room := { frames := 1, cells := 0, slots := 0, locals := 22 }
theorem hy_X8_takeDigit : zY yX8_takeDigit wsX8_takeDigit cX8_takeDigit 3 (some .int) 0 := ⟨⟨_, rfl⟩, by decide, by decide, by decide +kernel⟩
def d_X8_takeDigit (v : zHV) : Option (Int32 × zHV) :=
zcl (d_X8_code v) fun t1 =>
zlet (t1 - 48) fun t6 =>
zcl (d_X8_within t6 0 9) fun t12 =>
zjn (fun (x1 : Int32) (x2 : Int32) (s0 : Int32) (s1 : Int32) (v : zHV) =>
zlet (s1 + s0) fun t30 =>
zlet (zs v 6 2 t30) fun v31 =>
(if x2 = 0 then
some ((-6), v31)
else
some (x1, v31))) fun j_30 =>
(if t12 = 0 then
j_30 t6 t12 0 (v 6 2) v
else
j_30 t6 t12 1 (v 6 2) v)
set_option maxHeartbeats 4000000 in
set_option maxRecDepth 100000 in
theorem c_X8_takeDigit (l : Launch) (E : zE) (a : Nat → Nat) (v : zHV) (r : Int32 × zHV) (h : d_X8_takeDigit v = some r) : zMi l E yX8_takeDigit wsX8_takeDigit rm_X8_takeDigit [.ref (a 0)] (mdW E a v) r.1 (mdW E a r.2) := by
  intro sz
  refine z_entry (Qc := fun A => zQi E A r.1 (mdW E a r.2)) (by decide) rfl (Nat.le_of_ble_eq_true rfl) ?_
  intro p e s m below meth c A X hW ls hl
  have X : zX E wsX8_takeDigit RX8 cX8_takeDigit 3 (some .int) yX8_takeDigit p s m ([.ref (a 0)] : List Value).toArray meth c A := X
  have hl : lv_has ls 3 [(0, .ref (a 0))] := hl
  have hr : d_X8_takeDigit v = some r := h
  clear h
  have q_0 : Cond.fieldLink RX8 155 "ApplauseTalliesModel" "at" "I" ∈ wsX8_takeDigit := List.mem_of_getElem? (i := 1) rfl
  have hn_X8 : ∀ x ∈ wsX80, x ∈ wsX8_takeDigit := zz_in [12, 13, 14, 15, 16, 17, 18, 19, 20, 21, 22, 23] (by decide +kernel)
  unfold d_X8_takeDigit at hr
  refine lv_aload_n X.1 X.2.1 dX8_takeDigit_0 rfl (lv_at hl 0 rfl) ?_
  have hp_1 := (z_all (mdW E a v))
  refine z_callp X hW hr hp_1 (fun x h => z_runV (As := []) (rest := []) X hW hp_1 (c_X8_code l E a v x h _) hy_X8_code 0 8 (C := RX8) (T := TX8) (N := 12) rfl rfl rfl gX8_takeDigit_X8_code rfl rfl ⟨by decide, by decide⟩ rfl hl rfl rfl (Nat.le_of_ble_eq_true rfl) dX8_takeDigit_1 ⟨Nat.zero_le _, Nat.zero_le _⟩) (fun t1 H locs hr hW => ?_)
  refine lv_bipush (v := 48) X.1 X.2.1 dX8_takeDigit_4 (by decide) ?_
  refine z_isub X hr dX8_takeDigit_6 (fun t6 hr => ?_)
  refine lv_istore_n (lv' := [(1, .int t6), (0, .ref (a 0))]) X.1 X.2.1 dX8_takeDigit_7 rfl hl (by decide) rfl (fun ls hl => ?_)
  refine lv_iload_n X.1 X.2.1 dX8_takeDigit_8 rfl (lv_at hl 0 rfl) ?_
  refine lv_iconst (v := 0) X.1 X.2.1 dX8_takeDigit_9 (by decide) ?_
  refine lv_bipush (v := 9) X.1 X.2.1 dX8_takeDigit_10 (by decide) ?_
  have hp_12 := (List.Perm.refl ((mdW E a v)))
  refine z_callp X hW hr hp_12 (fun x h => z_runS (As := [.int t6, .int 0, .int 9]) (rest := []) X hW hp_12 (c_X8_within l E t6 0 9 x h _) hy_X8_within gX8_takeDigit_X8_within rfl rfl ⟨by decide, by decide⟩ rfl hl rfl rfl (Nat.le_of_ble_eq_true rfl) dX8_takeDigit_12 ⟨Nat.zero_le _, Nat.zero_le _⟩) (fun t12 H locs hr hW => ?_)
  refine lv_istore_n (lv' := [(2, .int t12), (1, .int t6), (0, .ref (a 0))]) X.1 X.2.1 dX8_takeDigit_15 rfl hl (by decide) rfl (fun ls hl => ?_)
  refine lv_aload_n X.1 X.2.1 dX8_takeDigit_16 rfl (lv_at hl 2 rfl) ?_
  refine lv_dup X.1 X.2.1 dX8_takeDigit_17 rfl ?_
  refine z_get X hW 0 8 8 (C := RX8) (T := TX8) (N := 12) rfl rfl hn_X8 (by decide) q_0 rfl dX8_takeDigit_18 ?_
  refine lv_iload_n X.1 X.2.1 dX8_takeDigit_21 rfl (lv_at hl 0 rfl) ?_
  obtain ⟨j_30, e_30, hr⟩ := zjn_some hr
  have J_30 : ∀ (x1 : Int32) (x2 : Int32) (s0 : Int32) (s1 : Int32) (v : zHV) (H : Heap) (locs : List Loc) (ls : Array Slot), j_30 x1 x2 s0 s1 v = some r → zW E A s (mdW E a v) H locs → lv_has ls 3 [(0, .ref (a 0)), (1, .int x1), (2, .int x2)] → W p l e rm_X8_takeDigit s m ([.ref (a 0)] : List Value).toArray below meth c H locs 0 0 (MQ below (zQi E A r.1 (mdW E a r.2)) ([.ref (a 0)] : List Value).toArray s 0 0 A) (F0 m 30 ls [.int s0, .int s1, .ref (a 0)]) := by
    intro x1 x2 s0 s1 v H locs ls hr hW hl
    rw [e_30] at hr
    refine z_iadd X hr dX8_takeDigit_30 (fun t30 hr => ?_)
    refine z_put X hW hr (fun v31 => (mdW E a v31)) tyX8 tyX8_ok nmX8 0 8 8 (C := RX8) (T := TX8) (N := 12) rfl rfl hn_X8 (by decide) q_0 rfl rfl rfl (Nat.le_of_ble_eq_true rfl) rfl dX8_takeDigit_31 (fun v31 H locs hr hW => ?_)
    refine lv_iload_n X.1 X.2.1 dX8_takeDigit_34 rfl (lv_at hl 2 rfl) ?_
    refine z_ifeq X 42 hr dX8_takeDigit_35 (by decide) (fun hr => ?_) (fun hr => ?_)
    · refine lv_bipush (v := (-6)) X.1 X.2.1 dX8_takeDigit_42 (by decide) ?_
      cases hr
      exact z_iret X hW rfl dX8_takeDigit_44
    · refine lv_iload_n X.1 X.2.1 dX8_takeDigit_38 rfl (lv_at hl 1 rfl) ?_
      refine lv_goto (tgt := 44) X.1 X.2.1 dX8_takeDigit_39 (by decide) ?_
      cases hr
      exact z_iret X hW rfl dX8_takeDigit_44
  refine z_ifeq X 29 hr dX8_takeDigit_22 (by decide) (fun hr => ?_) (fun hr => ?_)
  · refine lv_iconst (v := 0) X.1 X.2.1 dX8_takeDigit_29 (by decide) ?_
    exact J_30 t6 t12 0 (v 6 2) v _ _ _ hr hW (lv_sub hl [2, 1, 0] rfl)
  · refine lv_iconst (v := 1) X.1 X.2.1 dX8_takeDigit_25 (by decide) ?_
    refine lv_goto (tgt := 30) X.1 X.2.1 dX8_takeDigit_26 (by decide) ?_
    exact J_30 t6 t12 1 (v 6 2) v _ _ _ hr hW (lv_sub hl [2, 1, 0] rfl)
abbrev rm_X8_readNumber : Room := { frames := 2, cells := 0, slots := 0, locals := 44 }
theorem hy_X8_readNumber : zY yX8_readNumber wsX8_readNumber cX8_readNumber 2 (some .int) 0 := ⟨⟨_, rfl⟩, by decide, by decide, by decide +kernel⟩
def d_X8_readNumber (v : zHV) : Option (Int32 × zHV) :=
zup2 (d_X8_takeDigit v) (fun u => u) fun t1 v1 =>
(if t1 ≤ 0 then
some (t1, v1)
else
zcl (d_X8_code v1) fun t10 =>
zcl (d_X8_within t10 48 57) fun t17 =>
(if t17 = 0 then
some (t1, v1)
else
zlet (10 * t1) fun t26 =>
zup2 (d_X8_takeDigit v1) (fun u => u) fun t28 v28 =>
zlet (t26 + t28) fun t31 =>
some (t31, v28)))
set_option maxHeartbeats 4000000 in
set_option maxRecDepth 100000 in
theorem c_X8_readNumber (l : Launch) (E : zE) (a : Nat → Nat) (v : zHV) (r : Int32 × zHV) (h : d_X8_readNumber v = some r) : zMi l E yX8_readNumber wsX8_readNumber rm_X8_readNumber [.ref (a 0)] (mdW E a v) r.1 (mdW E a r.2) := by
  intro sz
  refine z_entry (Qc := fun A => zQi E A r.1 (mdW E a r.2)) (by decide) rfl (Nat.le_of_ble_eq_true rfl) ?_
  intro p e s m below meth c A X hW ls hl
  have X : zX E wsX8_readNumber RX8 cX8_readNumber 2 (some .int) yX8_readNumber p s m ([.ref (a 0)] : List Value).toArray meth c A := X
  have hl : lv_has ls 2 [(0, .ref (a 0))] := hl
  have hr : d_X8_readNumber v = some r := h
  clear h
  unfold d_X8_readNumber at hr
  refine lv_aload_n X.1 X.2.1 dX8_readNumber_0 rfl (lv_at hl 0 rfl) ?_
  have hp_1 := (z_all (mdW E a v))
  refine z_calli X hW (fun u => u) hr hp_1 (fun u => (mdW E a u)) (fun v1 => (mdW E a v1)) (fun u => (z_lla (mdW E a u))) (fun x u h => z_runV (As := []) (rest := []) X hW hp_1 (c_X8_takeDigit l E a v (x, u) h _) hy_X8_takeDigit 0 8 (C := RX8) (T := TX8) (N := 12) rfl rfl rfl gX8_readNumber_X8_takeDigit rfl rfl ⟨by decide, by decide⟩ rfl hl rfl rfl (Nat.le_of_ble_eq_true rfl) dX8_readNumber_1 ⟨Nat.zero_le _, Nat.zero_le _⟩) (fun t1 v1 H locs hr hW => ?_)
  refine lv_istore_n (lv' := [(1, .int t1), (0, .ref (a 0))]) X.1 X.2.1 dX8_readNumber_4 rfl hl (by decide) rfl (fun ls hl => ?_)
  refine lv_iload_n X.1 X.2.1 dX8_readNumber_5 rfl (lv_at hl 0 rfl) ?_
  refine z_ifle X 35 hr dX8_readNumber_6 (by decide) (fun hr => ?_) (fun hr => ?_)
  · refine lv_iload_n X.1 X.2.1 dX8_readNumber_35 rfl (lv_at hl 0 rfl) ?_
    cases hr
    exact z_iret X hW rfl dX8_readNumber_36
  · refine lv_aload_n X.1 X.2.1 dX8_readNumber_9 rfl (lv_at hl 1 rfl) ?_
    have hp_10 := (z_all (mdW E a v1))
    refine z_callp X hW hr hp_10 (fun x h => z_runV (As := []) (rest := []) X hW hp_10 (c_X8_code l E a v1 x h _) hy_X8_code 0 8 (C := RX8) (T := TX8) (N := 12) rfl rfl rfl gX8_readNumber_X8_code rfl rfl ⟨by decide, by decide⟩ rfl hl rfl rfl (Nat.le_of_ble_eq_true rfl) dX8_readNumber_10 ⟨Nat.zero_le _, Nat.zero_le _⟩) (fun t10 H locs hr hW => ?_)
    refine lv_bipush (v := 48) X.1 X.2.1 dX8_readNumber_13 (by decide) ?_
    refine lv_bipush (v := 57) X.1 X.2.1 dX8_readNumber_15 (by decide) ?_
    have hp_17 := (List.Perm.refl ((mdW E a v1)))
    refine z_callp X hW hr hp_17 (fun x h => z_runS (As := [.int t10, .int 48, .int 57]) (rest := []) X hW hp_17 (c_X8_within l E t10 48 57 x h _) hy_X8_within gX8_readNumber_X8_within rfl rfl ⟨by decide, by decide⟩ rfl hl rfl rfl (Nat.le_of_ble_eq_true rfl) dX8_readNumber_17 ⟨Nat.zero_le _, Nat.zero_le _⟩) (fun t17 H locs hr hW => ?_)
    refine z_ifeq X 35 hr dX8_readNumber_20 (by decide) (fun hr => ?_) (fun hr => ?_)
    · refine lv_iload_n X.1 X.2.1 dX8_readNumber_35 rfl (lv_at hl 0 rfl) ?_
      cases hr
      exact z_iret X hW rfl dX8_readNumber_36
    · refine lv_bipush (v := 10) X.1 X.2.1 dX8_readNumber_23 (by decide) ?_
      refine lv_iload_n X.1 X.2.1 dX8_readNumber_25 rfl (lv_at hl 0 rfl) ?_
      refine z_imul X hr dX8_readNumber_26 (fun t26 hr => ?_)
      refine lv_aload_n X.1 X.2.1 dX8_readNumber_27 rfl (lv_at hl 1 rfl) ?_
      have hp_28 := (z_all (mdW E a v1))
      refine z_calli X hW (fun u => u) hr hp_28 (fun u => (mdW E a u)) (fun v28 => (mdW E a v28)) (fun u => (z_lla (mdW E a u))) (fun x u h => z_runV (As := []) (rest := [.int t26]) X hW hp_28 (c_X8_takeDigit l E a v1 (x, u) h _) hy_X8_takeDigit 0 8 (C := RX8) (T := TX8) (N := 12) rfl rfl rfl gX8_readNumber_X8_takeDigit rfl rfl ⟨by decide, by decide⟩ rfl hl rfl rfl (Nat.le_of_ble_eq_true rfl) dX8_readNumber_28 ⟨Nat.zero_le _, Nat.zero_le _⟩) (fun t28 v28 H locs hr hW => ?_)
      refine z_iadd X hr dX8_readNumber_31 (fun t31 hr => ?_)
      refine lv_goto (tgt := 36) X.1 X.2.1 dX8_readNumber_32 (by decide) ?_
      cases hr
      exact z_iret X hW rfl dX8_readNumber_36
abbrev rm_X8_readsClaps : Room := { frames := 3, cells := 0, slots := 0, locals := 65 }
theorem hy_X8_readsClaps : zY yX8_readsClaps wsX8_readsClaps cX8_readsClaps 1 (some .boolean) 0 := ⟨⟨_, rfl⟩, by decide, by decide, by decide +kernel⟩
def d_X8_readsClaps (v : zHV) : Option (Int32 × zHV) :=
zup2 (d_X8_readNumber v) (fun u => u) fun t2 v2 =>
zlet (zs v2 6 4 t2) fun v5 =>
zjn (fun (v : zHV) =>
(if (v 6 4) = (-6) then
some (0, v)
else
(if (v 6 5) = (-6) then
some (0, v)
else
some (1, v)))) fun j_34 =>
(if (v5 6 4) = (-6) then
j_34 v5
else
zup2 (d_X8_takes v5 42) (fun u => u) fun t20 v20 =>
(if t20 = 0 then
j_34 v20
else
zup2 (d_X8_readNumber v20) (fun u => u) fun t28 v28 =>
zlet (zs v28 6 5 t28) fun v31 =>
j_34 v31))
set_option maxHeartbeats 4000000 in
set_option maxRecDepth 100000 in
theorem c_X8_readsClaps (l : Launch) (E : zE) (a : Nat → Nat) (v : zHV) (r : Int32 × zHV) (h : d_X8_readsClaps v = some r) : zMi l E yX8_readsClaps wsX8_readsClaps rm_X8_readsClaps [.ref (a 0)] (mdW E a v) r.1 (mdW E a r.2) := by
  intro sz
  refine z_entry (Qc := fun A => zQi E A r.1 (mdW E a r.2)) (by decide) rfl (Nat.le_of_ble_eq_true rfl) ?_
  intro p e s m below meth c A X hW ls hl
  have X : zX E wsX8_readsClaps RX8 cX8_readsClaps 1 (some .boolean) yX8_readsClaps p s m ([.ref (a 0)] : List Value).toArray meth c A := X
  have hl : lv_has ls 1 [(0, .ref (a 0))] := hl
  have hr : d_X8_readsClaps v = some r := h
  clear h
  have q_0 : Cond.fieldLink RX8 167 "ApplauseTalliesModel" "first" "I" ∈ wsX8_readsClaps := List.mem_of_getElem? (i := 1) rfl
  have hn_X8 : ∀ x ∈ wsX80, x ∈ wsX8_readsClaps := zz_in [26, 27, 28, 29, 30, 31, 32, 33, 34, 35, 36, 37] (by decide +kernel)
  have q_2 : Cond.fieldLink RX8 173 "ApplauseTalliesModel" "times" "I" ∈ wsX8_readsClaps := List.mem_of_getElem? (i := 2) rfl
  unfold d_X8_readsClaps at hr
  refine lv_aload_n X.1 X.2.1 dX8_readsClaps_0 rfl (lv_at hl 0 rfl) ?_
  refine lv_aload_n X.1 X.2.1 dX8_readsClaps_1 rfl (lv_at hl 0 rfl) ?_
  have hp_2 := (z_all (mdW E a v))
  refine z_calli X hW (fun u => u) hr hp_2 (fun u => (mdW E a u)) (fun v2 => (mdW E a v2)) (fun u => (z_lla (mdW E a u))) (fun x u h => z_runV (As := []) (rest := [.ref (a 0)]) X hW hp_2 (c_X8_readNumber l E a v (x, u) h _) hy_X8_readNumber 0 8 (C := RX8) (T := TX8) (N := 12) rfl rfl rfl gX8_readsClaps_X8_readNumber rfl rfl ⟨by decide, by decide⟩ rfl hl rfl rfl (Nat.le_of_ble_eq_true rfl) dX8_readsClaps_2 ⟨Nat.zero_le _, Nat.zero_le _⟩) (fun t2 v2 H locs hr hW => ?_)
  refine z_put X hW hr (fun v5 => (mdW E a v5)) tyX8 tyX8_ok nmX8 0 8 10 (C := RX8) (T := TX8) (N := 12) rfl rfl hn_X8 (by decide) q_0 rfl rfl rfl (Nat.le_of_ble_eq_true rfl) rfl dX8_readsClaps_5 (fun v5 H locs hr hW => ?_)
  refine lv_aload_n X.1 X.2.1 dX8_readsClaps_8 rfl (lv_at hl 0 rfl) ?_
  refine z_get X hW 0 8 10 (C := RX8) (T := TX8) (N := 12) rfl rfl hn_X8 (by decide) q_0 rfl dX8_readsClaps_9 ?_
  refine lv_bipush (v := (-6)) X.1 X.2.1 dX8_readsClaps_12 (by decide) ?_
  obtain ⟨j_34, e_34, hr⟩ := zjn_some hr
  have J_34 : ∀ (v : zHV) (H : Heap) (locs : List Loc) (ls : Array Slot), j_34 v = some r → zW E A s (mdW E a v) H locs → lv_has ls 1 [(0, .ref (a 0))] → W p l e rm_X8_readsClaps s m ([.ref (a 0)] : List Value).toArray below meth c H locs 0 0 (MQ below (zQi E A r.1 (mdW E a r.2)) ([.ref (a 0)] : List Value).toArray s 0 0 A) (F0 m 34 ls []) := by
    intro v H locs ls hr hW hl
    rw [e_34] at hr
    refine lv_aload_n X.1 X.2.1 dX8_readsClaps_34 rfl (lv_at hl 0 rfl) ?_
    refine z_get X hW 0 8 10 (C := RX8) (T := TX8) (N := 12) rfl rfl hn_X8 (by decide) q_0 rfl dX8_readsClaps_35 ?_
    refine lv_bipush (v := (-6)) X.1 X.2.1 dX8_readsClaps_38 (by decide) ?_
    refine z_cmpeq X 56 hr dX8_readsClaps_40 (by decide) (fun hr => ?_) (fun hr => ?_)
    · refine lv_iconst (v := 0) X.1 X.2.1 dX8_readsClaps_56 (by decide) ?_
      cases hr
      exact z_zret X hW rfl rfl dX8_readsClaps_57
    · refine lv_aload_n X.1 X.2.1 dX8_readsClaps_43 rfl (lv_at hl 0 rfl) ?_
      refine z_get X hW 0 8 11 (C := RX8) (T := TX8) (N := 12) rfl rfl hn_X8 (by decide) q_2 rfl dX8_readsClaps_44 ?_
      refine lv_bipush (v := (-6)) X.1 X.2.1 dX8_readsClaps_47 (by decide) ?_
      refine z_cmpeq X 56 hr dX8_readsClaps_49 (by decide) (fun hr => ?_) (fun hr => ?_)
      · refine lv_iconst (v := 0) X.1 X.2.1 dX8_readsClaps_56 (by decide) ?_
        cases hr
        exact z_zret X hW rfl rfl dX8_readsClaps_57
      · refine lv_iconst (v := 1) X.1 X.2.1 dX8_readsClaps_52 (by decide) ?_
        refine lv_goto (tgt := 57) X.1 X.2.1 dX8_readsClaps_53 (by decide) ?_
        cases hr
        exact z_zret X hW rfl rfl dX8_readsClaps_57
  refine z_cmpeq X 34 hr dX8_readsClaps_14 (by decide) (fun hr => ?_) (fun hr => ?_)
  · exact J_34 v5 _ _ _ hr hW (lv_sub hl [0] rfl)
  · refine lv_aload_n X.1 X.2.1 dX8_readsClaps_17 rfl (lv_at hl 0 rfl) ?_
    refine lv_bipush (v := 42) X.1 X.2.1 dX8_readsClaps_18 (by decide) ?_
    have hp_20 := (z_all (mdW E a v5))
    refine z_calli X hW (fun u => u) hr hp_20 (fun u => (mdW E a u)) (fun v20 => (mdW E a v20)) (fun u => (z_lla (mdW E a u))) (fun x u h => z_runV (As := [.int 42]) (rest := []) X hW hp_20 (c_X8_takes l E a v5 42 (x, u) h _) hy_X8_takes 0 8 (C := RX8) (T := TX8) (N := 12) rfl rfl rfl gX8_readsClaps_X8_takes rfl rfl ⟨by decide, by decide⟩ rfl hl rfl rfl (Nat.le_of_ble_eq_true rfl) dX8_readsClaps_20 ⟨Nat.zero_le _, Nat.zero_le _⟩) (fun t20 v20 H locs hr hW => ?_)
    refine z_ifeq X 34 hr dX8_readsClaps_23 (by decide) (fun hr => ?_) (fun hr => ?_)
    · exact J_34 v20 _ _ _ hr hW (lv_sub hl [0] rfl)
    · refine lv_aload_n X.1 X.2.1 dX8_readsClaps_26 rfl (lv_at hl 0 rfl) ?_
      refine lv_aload_n X.1 X.2.1 dX8_readsClaps_27 rfl (lv_at hl 0 rfl) ?_
      have hp_28 := (z_all (mdW E a v20))
      refine z_calli X hW (fun u => u) hr hp_28 (fun u => (mdW E a u)) (fun v28 => (mdW E a v28)) (fun u => (z_lla (mdW E a u))) (fun x u h => z_runV (As := []) (rest := [.ref (a 0)]) X hW hp_28 (c_X8_readNumber l E a v20 (x, u) h _) hy_X8_readNumber 0 8 (C := RX8) (T := TX8) (N := 12) rfl rfl rfl gX8_readsClaps_X8_readNumber rfl rfl ⟨by decide, by decide⟩ rfl hl rfl rfl (Nat.le_of_ble_eq_true rfl) dX8_readsClaps_28 ⟨Nat.zero_le _, Nat.zero_le _⟩) (fun t28 v28 H locs hr hW => ?_)
      refine z_put X hW hr (fun v31 => (mdW E a v31)) tyX8 tyX8_ok nmX8 0 8 11 (C := RX8) (T := TX8) (N := 12) rfl rfl hn_X8 (by decide) q_2 rfl rfl rfl (Nat.le_of_ble_eq_true rfl) rfl dX8_readsClaps_31 (fun v31 H locs hr hW => ?_)
      exact J_34 v31 _ _ _ hr hW (lv_sub hl [0] rfl)
abbrev rm_X8_readsOrder : Room := { frames := 4, cells := 0, slots := 0, locals := 85 }
theorem hy_X8_readsOrder : zY yX8_readsOrder wsX8_readsOrder cX8_readsOrder 1 (some .boolean) 0 := ⟨⟨_, rfl⟩, by decide, by decide, by decide +kernel⟩
def d_X8_readsOrder (v : zHV) : Option (Int32 × zHV) :=
zcl (d_X8_code v) fun t2 =>
zlet (zs v 6 3 t2) fun v5 =>
zlet (zs v5 6 5 1) fun v10 =>
(if (v10 6 3) = 99 then
zlet ((v10 6 2) + 1) fun t188 =>
zlet (zs v10 6 2 t188) fun v189 =>
zup2 (d_X8_readsClaps v189) (fun u => u) fun t193 v193 =>
zgb t193 (some (t193, v193))
else
(if (v10 6 3) = 100 then
some (0, v10)
else
(if (v10 6 3) = 101 then
zlet ((v10 6 2) + 1) fun t122 =>
zlet (zs v10 6 2 t122) fun v123 =>
zup2 (d_X8_takeDigit v123) (fun u => u) fun t128 v128 =>
zlet (zs v128 6 4 t128) fun v131 =>
(if (v131 6 4) = (-6) then
some (0, v131)
else
some (1, v131))
else
(if (v10 6 3) = 102 then
some (0, v10)
else
(if (v10 6 3) = 103 then
some (0, v10)
else
(if (v10 6 3) = 104 then
zlet ((v10 6 2) + 1) fun t155 =>
zlet (zs v10 6 2 t155) fun v156 =>
zup2 (d_X8_readNumber v156) (fun u => u) fun t161 v161 =>
zlet (zs v161 6 4 t161) fun v164 =>
(if (v164 6 4) = (-6) then
some (0, v164)
else
some (1, v164))
else
(if (v10 6 3) = 105 then
some (0, v10)
else
(if (v10 6 3) = 106 then
some (0, v10)
else
(if (v10 6 3) = 107 then
zlet ((v10 6 2) + 1) fun t203 =>
zlet (zs v10 6 2 t203) fun v204 =>
some (1, v204)
else
(if (v10 6 3) = 108 then
some (0, v10)
else
(if (v10 6 3) = 109 then
some (0, v10)
else
(if (v10 6 3) = 110 then
zlet ((v10 6 2) + 1) fun t203 =>
zlet (zs v10 6 2 t203) fun v204 =>
some (1, v204)
else
(if (v10 6 3) = 111 then
some (0, v10)
else
(if (v10 6 3) = 112 then
zlet ((v10 6 2) + 1) fun t122 =>
zlet (zs v10 6 2 t122) fun v123 =>
zup2 (d_X8_takeDigit v123) (fun u => u) fun t128 v128 =>
zlet (zs v128 6 4 t128) fun v131 =>
(if (v131 6 4) = (-6) then
some (0, v131)
else
some (1, v131))
else
(if (v10 6 3) = 113 then
some (0, v10)
else
(if (v10 6 3) = 114 then
some (0, v10)
else
(if (v10 6 3) = 115 then
some (0, v10)
else
(if (v10 6 3) = 116 then
some (0, v10)
else
(if (v10 6 3) = 117 then
some (0, v10)
else
(if (v10 6 3) = 118 then
some (0, v10)
else
(if (v10 6 3) = 119 then
zlet ((v10 6 2) + 1) fun t155 =>
zlet (zs v10 6 2 t155) fun v156 =>
zup2 (d_X8_readNumber v156) (fun u => u) fun t161 v161 =>
zlet (zs v161 6 4 t161) fun v164 =>
(if (v164 6 4) = (-6) then
some (0, v164)
else
some (1, v164))
else
some (0, v10))))))))))))))))))))))
set_option maxHeartbeats 4000000 in
set_option maxRecDepth 100000 in
theorem c_X8_readsOrder (l : Launch) (E : zE) (a : Nat → Nat) (v : zHV) (r : Int32 × zHV) (h : d_X8_readsOrder v = some r) : zMi l E yX8_readsOrder wsX8_readsOrder rm_X8_readsOrder [.ref (a 0)] (mdW E a v) r.1 (mdW E a r.2) := by
  intro sz
  refine z_entry (Qc := fun A => zQi E A r.1 (mdW E a r.2)) (by decide) rfl (Nat.le_of_ble_eq_true rfl) ?_
  intro p e s m below meth c A X hW ls hl
  have X : zX E wsX8_readsOrder RX8 cX8_readsOrder 1 (some .boolean) yX8_readsOrder p s m ([.ref (a 0)] : List Value).toArray meth c A := X
  have hl : lv_has ls 1 [(0, .ref (a 0))] := hl
  have hr : d_X8_readsOrder v = some r := h
  clear h
  have q_0 : Cond.fieldLink RX8 176 "ApplauseTalliesModel" "sign" "I" ∈ wsX8_readsOrder := List.mem_of_getElem? (i := 1) rfl
  have q_1 : Cond.fieldLink RX8 173 "ApplauseTalliesModel" "times" "I" ∈ wsX8_readsOrder := List.mem_of_getElem? (i := 2) rfl
  have hn_X8 : ∀ x ∈ wsX80, x ∈ wsX8_readsOrder := zz_in [31, 32, 33, 34, 35, 36, 37, 38, 39, 40, 41, 42] (by decide +kernel)
  have q_3 : Cond.fieldLink RX8 155 "ApplauseTalliesModel" "at" "I" ∈ wsX8_readsOrder := List.mem_of_getElem? (i := 3) rfl
  have q_4 : Cond.fieldLink RX8 167 "ApplauseTalliesModel" "first" "I" ∈ wsX8_readsOrder := List.mem_of_getElem? (i := 4) rfl
  unfold d_X8_readsOrder at hr
  refine lv_aload_n X.1 X.2.1 dX8_readsOrder_0 rfl (lv_at hl 0 rfl) ?_
  refine lv_aload_n X.1 X.2.1 dX8_readsOrder_1 rfl (lv_at hl 0 rfl) ?_
  have hp_2 := (z_all (mdW E a v))
  refine z_callp X hW hr hp_2 (fun x h => z_runV (As := []) (rest := [.ref (a 0)]) X hW hp_2 (c_X8_code l E a v x h _) hy_X8_code 0 8 (C := RX8) (T := TX8) (N := 12) rfl rfl rfl gX8_readsOrder_X8_code rfl rfl ⟨by decide, by decide⟩ rfl hl rfl rfl (Nat.le_of_ble_eq_true rfl) dX8_readsOrder_2 ⟨Nat.zero_le _, Nat.zero_le _⟩) (fun t2 H locs hr hW => ?_)
  refine z_put X hW hr (fun v5 => (mdW E a v5)) tyX8 tyX8_ok nmX8 0 8 9 (C := RX8) (T := TX8) (N := 12) rfl rfl hn_X8 (by decide) q_0 rfl rfl rfl (Nat.le_of_ble_eq_true rfl) rfl dX8_readsOrder_5 (fun v5 H locs hr hW => ?_)
  refine lv_aload_n X.1 X.2.1 dX8_readsOrder_8 rfl (lv_at hl 0 rfl) ?_
  refine lv_iconst (v := 1) X.1 X.2.1 dX8_readsOrder_9 (by decide) ?_
  refine z_put X hW hr (fun v10 => (mdW E a v10)) tyX8 tyX8_ok nmX8 0 8 11 (C := RX8) (T := TX8) (N := 12) rfl rfl hn_X8 (by decide) q_1 rfl rfl rfl (Nat.le_of_ble_eq_true rfl) rfl dX8_readsOrder_10 (fun v10 H locs hr hW => ?_)
  refine lv_aload_n X.1 X.2.1 dX8_readsOrder_13 rfl (lv_at hl 0 rfl) ?_
  refine z_get X hW 0 8 9 (C := RX8) (T := TX8) (N := 12) rfl rfl hn_X8 (by decide) q_0 rfl dX8_readsOrder_14 ?_
  refine z_if hr (fun h_99 hr => ?_) (fun h_99 hr => ?_)
  · refine lv_tableIn (off := 165) (tgt := 182) X.1 X.2.1 dX8_readsOrder_17 (by rw [h_99]; decide) (by rw [h_99]; decide) (by rw [h_99]; rfl) (by decide) ?_
    refine lv_aload_n X.1 X.2.1 dX8_readsOrder_182 rfl (lv_at hl 0 rfl) ?_
    refine lv_dup X.1 X.2.1 dX8_readsOrder_183 rfl ?_
    refine z_get X hW 0 8 8 (C := RX8) (T := TX8) (N := 12) rfl rfl hn_X8 (by decide) q_3 rfl dX8_readsOrder_184 ?_
    refine lv_iconst (v := 1) X.1 X.2.1 dX8_readsOrder_187 (by decide) ?_
    refine z_iadd X hr dX8_readsOrder_188 (fun t188 hr => ?_)
    refine z_put X hW hr (fun v189 => (mdW E a v189)) tyX8 tyX8_ok nmX8 0 8 8 (C := RX8) (T := TX8) (N := 12) rfl rfl hn_X8 (by decide) q_3 rfl rfl rfl (Nat.le_of_ble_eq_true rfl) rfl dX8_readsOrder_189 (fun v189 H locs hr hW => ?_)
    refine lv_aload_n X.1 X.2.1 dX8_readsOrder_192 rfl (lv_at hl 0 rfl) ?_
    have hp_193 := (z_all (mdW E a v189))
    refine z_calli X hW (fun u => u) hr hp_193 (fun u => (mdW E a u)) (fun v193 => (mdW E a v193)) (fun u => (z_lla (mdW E a u))) (fun x u h => z_runV (As := []) (rest := []) X hW hp_193 (c_X8_readsClaps l E a v189 (x, u) h _) hy_X8_readsClaps 0 8 (C := RX8) (T := TX8) (N := 12) rfl rfl rfl gX8_readsOrder_X8_readsClaps rfl rfl ⟨by decide, by decide⟩ rfl hl rfl rfl (Nat.le_of_ble_eq_true rfl) dX8_readsOrder_193 ⟨Nat.zero_le _, Nat.zero_le _⟩) (fun t193 v193 H locs hr hW => ?_)
    obtain ⟨hg, hr⟩ := zgb_some hr
    cases hr
    exact z_zret X hW rfl (zgb_n hg) dX8_readsOrder_196
  · refine z_if hr (fun h_100 hr => ?_) (fun h_100 hr => ?_)
    · refine lv_tableIn (off := 192) (tgt := 209) X.1 X.2.1 dX8_readsOrder_17 (by rw [h_100]; decide) (by rw [h_100]; decide) (by rw [h_100]; rfl) (by decide) ?_
      refine lv_iconst (v := 0) X.1 X.2.1 dX8_readsOrder_209 (by decide) ?_
      cases hr
      exact z_zret X hW rfl rfl dX8_readsOrder_210
    · refine z_if hr (fun h_101 hr => ?_) (fun h_101 hr => ?_)
      · refine lv_tableIn (off := 99) (tgt := 116) X.1 X.2.1 dX8_readsOrder_17 (by rw [h_101]; decide) (by rw [h_101]; decide) (by rw [h_101]; rfl) (by decide) ?_
        refine lv_aload_n X.1 X.2.1 dX8_readsOrder_116 rfl (lv_at hl 0 rfl) ?_
        refine lv_dup X.1 X.2.1 dX8_readsOrder_117 rfl ?_
        refine z_get X hW 0 8 8 (C := RX8) (T := TX8) (N := 12) rfl rfl hn_X8 (by decide) q_3 rfl dX8_readsOrder_118 ?_
        refine lv_iconst (v := 1) X.1 X.2.1 dX8_readsOrder_121 (by decide) ?_
        refine z_iadd X hr dX8_readsOrder_122 (fun t122 hr => ?_)
        refine z_put X hW hr (fun v123 => (mdW E a v123)) tyX8 tyX8_ok nmX8 0 8 8 (C := RX8) (T := TX8) (N := 12) rfl rfl hn_X8 (by decide) q_3 rfl rfl rfl (Nat.le_of_ble_eq_true rfl) rfl dX8_readsOrder_123 (fun v123 H locs hr hW => ?_)
        refine lv_aload_n X.1 X.2.1 dX8_readsOrder_126 rfl (lv_at hl 0 rfl) ?_
        refine lv_aload_n X.1 X.2.1 dX8_readsOrder_127 rfl (lv_at hl 0 rfl) ?_
        have hp_128 := (z_all (mdW E a v123))
        refine z_calli X hW (fun u => u) hr hp_128 (fun u => (mdW E a u)) (fun v128 => (mdW E a v128)) (fun u => (z_lla (mdW E a u))) (fun x u h => z_runV (As := []) (rest := [.ref (a 0)]) X hW hp_128 (c_X8_takeDigit l E a v123 (x, u) h _) hy_X8_takeDigit 0 8 (C := RX8) (T := TX8) (N := 12) rfl rfl rfl gX8_readsOrder_X8_takeDigit rfl rfl ⟨by decide, by decide⟩ rfl hl rfl rfl (Nat.le_of_ble_eq_true rfl) dX8_readsOrder_128 ⟨Nat.zero_le _, Nat.zero_le _⟩) (fun t128 v128 H locs hr hW => ?_)
        refine z_put X hW hr (fun v131 => (mdW E a v131)) tyX8 tyX8_ok nmX8 0 8 10 (C := RX8) (T := TX8) (N := 12) rfl rfl hn_X8 (by decide) q_4 rfl rfl rfl (Nat.le_of_ble_eq_true rfl) rfl dX8_readsOrder_131 (fun v131 H locs hr hW => ?_)
        refine lv_aload_n X.1 X.2.1 dX8_readsOrder_134 rfl (lv_at hl 0 rfl) ?_
        refine z_get X hW 0 8 10 (C := RX8) (T := TX8) (N := 12) rfl rfl hn_X8 (by decide) q_4 rfl dX8_readsOrder_135 ?_
        refine lv_bipush (v := (-6)) X.1 X.2.1 dX8_readsOrder_138 (by decide) ?_
        refine z_cmpeq X 147 hr dX8_readsOrder_140 (by decide) (fun hr => ?_) (fun hr => ?_)
        · refine lv_iconst (v := 0) X.1 X.2.1 dX8_readsOrder_147 (by decide) ?_
          cases hr
          exact z_zret X hW rfl rfl dX8_readsOrder_148
        · refine lv_iconst (v := 1) X.1 X.2.1 dX8_readsOrder_143 (by decide) ?_
          refine lv_goto (tgt := 148) X.1 X.2.1 dX8_readsOrder_144 (by decide) ?_
          cases hr
          exact z_zret X hW rfl rfl dX8_readsOrder_148
      · refine z_if hr (fun h_102 hr => ?_) (fun h_102 hr => ?_)
        · refine lv_tableIn (off := 192) (tgt := 209) X.1 X.2.1 dX8_readsOrder_17 (by rw [h_102]; decide) (by rw [h_102]; decide) (by rw [h_102]; rfl) (by decide) ?_
          refine lv_iconst (v := 0) X.1 X.2.1 dX8_readsOrder_209 (by decide) ?_
          cases hr
          exact z_zret X hW rfl rfl dX8_readsOrder_210
        · refine z_if hr (fun h_103 hr => ?_) (fun h_103 hr => ?_)
          · refine lv_tableIn (off := 192) (tgt := 209) X.1 X.2.1 dX8_readsOrder_17 (by rw [h_103]; decide) (by rw [h_103]; decide) (by rw [h_103]; rfl) (by decide) ?_
            refine lv_iconst (v := 0) X.1 X.2.1 dX8_readsOrder_209 (by decide) ?_
            cases hr
            exact z_zret X hW rfl rfl dX8_readsOrder_210
          · refine z_if hr (fun h_104 hr => ?_) (fun h_104 hr => ?_)
            · refine lv_tableIn (off := 132) (tgt := 149) X.1 X.2.1 dX8_readsOrder_17 (by rw [h_104]; decide) (by rw [h_104]; decide) (by rw [h_104]; rfl) (by decide) ?_
              refine lv_aload_n X.1 X.2.1 dX8_readsOrder_149 rfl (lv_at hl 0 rfl) ?_
              refine lv_dup X.1 X.2.1 dX8_readsOrder_150 rfl ?_
              refine z_get X hW 0 8 8 (C := RX8) (T := TX8) (N := 12) rfl rfl hn_X8 (by decide) q_3 rfl dX8_readsOrder_151 ?_
              refine lv_iconst (v := 1) X.1 X.2.1 dX8_readsOrder_154 (by decide) ?_
              refine z_iadd X hr dX8_readsOrder_155 (fun t155 hr => ?_)
              refine z_put X hW hr (fun v156 => (mdW E a v156)) tyX8 tyX8_ok nmX8 0 8 8 (C := RX8) (T := TX8) (N := 12) rfl rfl hn_X8 (by decide) q_3 rfl rfl rfl (Nat.le_of_ble_eq_true rfl) rfl dX8_readsOrder_156 (fun v156 H locs hr hW => ?_)
              refine lv_aload_n X.1 X.2.1 dX8_readsOrder_159 rfl (lv_at hl 0 rfl) ?_
              refine lv_aload_n X.1 X.2.1 dX8_readsOrder_160 rfl (lv_at hl 0 rfl) ?_
              have hp_161 := (z_all (mdW E a v156))
              refine z_calli X hW (fun u => u) hr hp_161 (fun u => (mdW E a u)) (fun v161 => (mdW E a v161)) (fun u => (z_lla (mdW E a u))) (fun x u h => z_runV (As := []) (rest := [.ref (a 0)]) X hW hp_161 (c_X8_readNumber l E a v156 (x, u) h _) hy_X8_readNumber 0 8 (C := RX8) (T := TX8) (N := 12) rfl rfl rfl gX8_readsOrder_X8_readNumber rfl rfl ⟨by decide, by decide⟩ rfl hl rfl rfl (Nat.le_of_ble_eq_true rfl) dX8_readsOrder_161 ⟨Nat.zero_le _, Nat.zero_le _⟩) (fun t161 v161 H locs hr hW => ?_)
              refine z_put X hW hr (fun v164 => (mdW E a v164)) tyX8 tyX8_ok nmX8 0 8 10 (C := RX8) (T := TX8) (N := 12) rfl rfl hn_X8 (by decide) q_4 rfl rfl rfl (Nat.le_of_ble_eq_true rfl) rfl dX8_readsOrder_164 (fun v164 H locs hr hW => ?_)
              refine lv_aload_n X.1 X.2.1 dX8_readsOrder_167 rfl (lv_at hl 0 rfl) ?_
              refine z_get X hW 0 8 10 (C := RX8) (T := TX8) (N := 12) rfl rfl hn_X8 (by decide) q_4 rfl dX8_readsOrder_168 ?_
              refine lv_bipush (v := (-6)) X.1 X.2.1 dX8_readsOrder_171 (by decide) ?_
              refine z_cmpeq X 180 hr dX8_readsOrder_173 (by decide) (fun hr => ?_) (fun hr => ?_)
              · refine lv_iconst (v := 0) X.1 X.2.1 dX8_readsOrder_180 (by decide) ?_
                cases hr
                exact z_zret X hW rfl rfl dX8_readsOrder_181
              · refine lv_iconst (v := 1) X.1 X.2.1 dX8_readsOrder_176 (by decide) ?_
                refine lv_goto (tgt := 181) X.1 X.2.1 dX8_readsOrder_177 (by decide) ?_
                cases hr
                exact z_zret X hW rfl rfl dX8_readsOrder_181
            · refine z_if hr (fun h_105 hr => ?_) (fun h_105 hr => ?_)
              · refine lv_tableIn (off := 192) (tgt := 209) X.1 X.2.1 dX8_readsOrder_17 (by rw [h_105]; decide) (by rw [h_105]; decide) (by rw [h_105]; rfl) (by decide) ?_
                refine lv_iconst (v := 0) X.1 X.2.1 dX8_readsOrder_209 (by decide) ?_
                cases hr
                exact z_zret X hW rfl rfl dX8_readsOrder_210
              · refine z_if hr (fun h_106 hr => ?_) (fun h_106 hr => ?_)
                · refine lv_tableIn (off := 192) (tgt := 209) X.1 X.2.1 dX8_readsOrder_17 (by rw [h_106]; decide) (by rw [h_106]; decide) (by rw [h_106]; rfl) (by decide) ?_
                  refine lv_iconst (v := 0) X.1 X.2.1 dX8_readsOrder_209 (by decide) ?_
                  cases hr
                  exact z_zret X hW rfl rfl dX8_readsOrder_210
                · refine z_if hr (fun h_107 hr => ?_) (fun h_107 hr => ?_)
                  · refine lv_tableIn (off := 180) (tgt := 197) X.1 X.2.1 dX8_readsOrder_17 (by rw [h_107]; decide) (by rw [h_107]; decide) (by rw [h_107]; rfl) (by decide) ?_
                    refine lv_aload_n X.1 X.2.1 dX8_readsOrder_197 rfl (lv_at hl 0 rfl) ?_
                    refine lv_dup X.1 X.2.1 dX8_readsOrder_198 rfl ?_
                    refine z_get X hW 0 8 8 (C := RX8) (T := TX8) (N := 12) rfl rfl hn_X8 (by decide) q_3 rfl dX8_readsOrder_199 ?_
                    refine lv_iconst (v := 1) X.1 X.2.1 dX8_readsOrder_202 (by decide) ?_
                    refine z_iadd X hr dX8_readsOrder_203 (fun t203 hr => ?_)
                    refine z_put X hW hr (fun v204 => (mdW E a v204)) tyX8 tyX8_ok nmX8 0 8 8 (C := RX8) (T := TX8) (N := 12) rfl rfl hn_X8 (by decide) q_3 rfl rfl rfl (Nat.le_of_ble_eq_true rfl) rfl dX8_readsOrder_204 (fun v204 H locs hr hW => ?_)
                    refine lv_iconst (v := 1) X.1 X.2.1 dX8_readsOrder_207 (by decide) ?_
                    cases hr
                    exact z_zret X hW rfl rfl dX8_readsOrder_208
                  · refine z_if hr (fun h_108 hr => ?_) (fun h_108 hr => ?_)
                    · refine lv_tableIn (off := 192) (tgt := 209) X.1 X.2.1 dX8_readsOrder_17 (by rw [h_108]; decide) (by rw [h_108]; decide) (by rw [h_108]; rfl) (by decide) ?_
                      refine lv_iconst (v := 0) X.1 X.2.1 dX8_readsOrder_209 (by decide) ?_
                      cases hr
                      exact z_zret X hW rfl rfl dX8_readsOrder_210
                    · refine z_if hr (fun h_109 hr => ?_) (fun h_109 hr => ?_)
                      · refine lv_tableIn (off := 192) (tgt := 209) X.1 X.2.1 dX8_readsOrder_17 (by rw [h_109]; decide) (by rw [h_109]; decide) (by rw [h_109]; rfl) (by decide) ?_
                        refine lv_iconst (v := 0) X.1 X.2.1 dX8_readsOrder_209 (by decide) ?_
                        cases hr
                        exact z_zret X hW rfl rfl dX8_readsOrder_210
                      · refine z_if hr (fun h_110 hr => ?_) (fun h_110 hr => ?_)
                        · refine lv_tableIn (off := 180) (tgt := 197) X.1 X.2.1 dX8_readsOrder_17 (by rw [h_110]; decide) (by rw [h_110]; decide) (by rw [h_110]; rfl) (by decide) ?_
                          refine lv_aload_n X.1 X.2.1 dX8_readsOrder_197 rfl (lv_at hl 0 rfl) ?_
                          refine lv_dup X.1 X.2.1 dX8_readsOrder_198 rfl ?_
                          refine z_get X hW 0 8 8 (C := RX8) (T := TX8) (N := 12) rfl rfl hn_X8 (by decide) q_3 rfl dX8_readsOrder_199 ?_
                          refine lv_iconst (v := 1) X.1 X.2.1 dX8_readsOrder_202 (by decide) ?_
                          refine z_iadd X hr dX8_readsOrder_203 (fun t203 hr => ?_)
                          refine z_put X hW hr (fun v204 => (mdW E a v204)) tyX8 tyX8_ok nmX8 0 8 8 (C := RX8) (T := TX8) (N := 12) rfl rfl hn_X8 (by decide) q_3 rfl rfl rfl (Nat.le_of_ble_eq_true rfl) rfl dX8_readsOrder_204 (fun v204 H locs hr hW => ?_)
                          refine lv_iconst (v := 1) X.1 X.2.1 dX8_readsOrder_207 (by decide) ?_
                          cases hr
                          exact z_zret X hW rfl rfl dX8_readsOrder_208
                        · refine z_if hr (fun h_111 hr => ?_) (fun h_111 hr => ?_)
                          · refine lv_tableIn (off := 192) (tgt := 209) X.1 X.2.1 dX8_readsOrder_17 (by rw [h_111]; decide) (by rw [h_111]; decide) (by rw [h_111]; rfl) (by decide) ?_
                            refine lv_iconst (v := 0) X.1 X.2.1 dX8_readsOrder_209 (by decide) ?_
                            cases hr
                            exact z_zret X hW rfl rfl dX8_readsOrder_210
                          · refine z_if hr (fun h_112 hr => ?_) (fun h_112 hr => ?_)
                            · refine lv_tableIn (off := 99) (tgt := 116) X.1 X.2.1 dX8_readsOrder_17 (by rw [h_112]; decide) (by rw [h_112]; decide) (by rw [h_112]; rfl) (by decide) ?_
                              refine lv_aload_n X.1 X.2.1 dX8_readsOrder_116 rfl (lv_at hl 0 rfl) ?_
                              refine lv_dup X.1 X.2.1 dX8_readsOrder_117 rfl ?_
                              refine z_get X hW 0 8 8 (C := RX8) (T := TX8) (N := 12) rfl rfl hn_X8 (by decide) q_3 rfl dX8_readsOrder_118 ?_
                              refine lv_iconst (v := 1) X.1 X.2.1 dX8_readsOrder_121 (by decide) ?_
                              refine z_iadd X hr dX8_readsOrder_122 (fun t122 hr => ?_)
                              refine z_put X hW hr (fun v123 => (mdW E a v123)) tyX8 tyX8_ok nmX8 0 8 8 (C := RX8) (T := TX8) (N := 12) rfl rfl hn_X8 (by decide) q_3 rfl rfl rfl (Nat.le_of_ble_eq_true rfl) rfl dX8_readsOrder_123 (fun v123 H locs hr hW => ?_)
                              refine lv_aload_n X.1 X.2.1 dX8_readsOrder_126 rfl (lv_at hl 0 rfl) ?_
                              refine lv_aload_n X.1 X.2.1 dX8_readsOrder_127 rfl (lv_at hl 0 rfl) ?_
                              have hp_128 := (z_all (mdW E a v123))
                              refine z_calli X hW (fun u => u) hr hp_128 (fun u => (mdW E a u)) (fun v128 => (mdW E a v128)) (fun u => (z_lla (mdW E a u))) (fun x u h => z_runV (As := []) (rest := [.ref (a 0)]) X hW hp_128 (c_X8_takeDigit l E a v123 (x, u) h _) hy_X8_takeDigit 0 8 (C := RX8) (T := TX8) (N := 12) rfl rfl rfl gX8_readsOrder_X8_takeDigit rfl rfl ⟨by decide, by decide⟩ rfl hl rfl rfl (Nat.le_of_ble_eq_true rfl) dX8_readsOrder_128 ⟨Nat.zero_le _, Nat.zero_le _⟩) (fun t128 v128 H locs hr hW => ?_)
                              refine z_put X hW hr (fun v131 => (mdW E a v131)) tyX8 tyX8_ok nmX8 0 8 10 (C := RX8) (T := TX8) (N := 12) rfl rfl hn_X8 (by decide) q_4 rfl rfl rfl (Nat.le_of_ble_eq_true rfl) rfl dX8_readsOrder_131 (fun v131 H locs hr hW => ?_)
                              refine lv_aload_n X.1 X.2.1 dX8_readsOrder_134 rfl (lv_at hl 0 rfl) ?_
                              refine z_get X hW 0 8 10 (C := RX8) (T := TX8) (N := 12) rfl rfl hn_X8 (by decide) q_4 rfl dX8_readsOrder_135 ?_
                              refine lv_bipush (v := (-6)) X.1 X.2.1 dX8_readsOrder_138 (by decide) ?_
                              refine z_cmpeq X 147 hr dX8_readsOrder_140 (by decide) (fun hr => ?_) (fun hr => ?_)
                              · refine lv_iconst (v := 0) X.1 X.2.1 dX8_readsOrder_147 (by decide) ?_
                                cases hr
                                exact z_zret X hW rfl rfl dX8_readsOrder_148
                              · refine lv_iconst (v := 1) X.1 X.2.1 dX8_readsOrder_143 (by decide) ?_
                                refine lv_goto (tgt := 148) X.1 X.2.1 dX8_readsOrder_144 (by decide) ?_
                                cases hr
                                exact z_zret X hW rfl rfl dX8_readsOrder_148
                            · refine z_if hr (fun h_113 hr => ?_) (fun h_113 hr => ?_)
                              · refine lv_tableIn (off := 192) (tgt := 209) X.1 X.2.1 dX8_readsOrder_17 (by rw [h_113]; decide) (by rw [h_113]; decide) (by rw [h_113]; rfl) (by decide) ?_
                                refine lv_iconst (v := 0) X.1 X.2.1 dX8_readsOrder_209 (by decide) ?_
                                cases hr
                                exact z_zret X hW rfl rfl dX8_readsOrder_210
                              · refine z_if hr (fun h_114 hr => ?_) (fun h_114 hr => ?_)
                                · refine lv_tableIn (off := 192) (tgt := 209) X.1 X.2.1 dX8_readsOrder_17 (by rw [h_114]; decide) (by rw [h_114]; decide) (by rw [h_114]; rfl) (by decide) ?_
                                  refine lv_iconst (v := 0) X.1 X.2.1 dX8_readsOrder_209 (by decide) ?_
                                  cases hr
                                  exact z_zret X hW rfl rfl dX8_readsOrder_210
                                · refine z_if hr (fun h_115 hr => ?_) (fun h_115 hr => ?_)
                                  · refine lv_tableIn (off := 192) (tgt := 209) X.1 X.2.1 dX8_readsOrder_17 (by rw [h_115]; decide) (by rw [h_115]; decide) (by rw [h_115]; rfl) (by decide) ?_
                                    refine lv_iconst (v := 0) X.1 X.2.1 dX8_readsOrder_209 (by decide) ?_
                                    cases hr
                                    exact z_zret X hW rfl rfl dX8_readsOrder_210
                                  · refine z_if hr (fun h_116 hr => ?_) (fun h_116 hr => ?_)
                                    · refine lv_tableIn (off := 192) (tgt := 209) X.1 X.2.1 dX8_readsOrder_17 (by rw [h_116]; decide) (by rw [h_116]; decide) (by rw [h_116]; rfl) (by decide) ?_
                                      refine lv_iconst (v := 0) X.1 X.2.1 dX8_readsOrder_209 (by decide) ?_
                                      cases hr
                                      exact z_zret X hW rfl rfl dX8_readsOrder_210
                                    · refine z_if hr (fun h_117 hr => ?_) (fun h_117 hr => ?_)
                                      · refine lv_tableIn (off := 192) (tgt := 209) X.1 X.2.1 dX8_readsOrder_17 (by rw [h_117]; decide) (by rw [h_117]; decide) (by rw [h_117]; rfl) (by decide) ?_
                                        refine lv_iconst (v := 0) X.1 X.2.1 dX8_readsOrder_209 (by decide) ?_
                                        cases hr
                                        exact z_zret X hW rfl rfl dX8_readsOrder_210
                                      · refine z_if hr (fun h_118 hr => ?_) (fun h_118 hr => ?_)
                                        · refine lv_tableIn (off := 192) (tgt := 209) X.1 X.2.1 dX8_readsOrder_17 (by rw [h_118]; decide) (by rw [h_118]; decide) (by rw [h_118]; rfl) (by decide) ?_
                                          refine lv_iconst (v := 0) X.1 X.2.1 dX8_readsOrder_209 (by decide) ?_
                                          cases hr
                                          exact z_zret X hW rfl rfl dX8_readsOrder_210
                                        · refine z_if hr (fun h_119 hr => ?_) (fun h_119 hr => ?_)
                                          · refine lv_tableIn (off := 132) (tgt := 149) X.1 X.2.1 dX8_readsOrder_17 (by rw [h_119]; decide) (by rw [h_119]; decide) (by rw [h_119]; rfl) (by decide) ?_
                                            refine lv_aload_n X.1 X.2.1 dX8_readsOrder_149 rfl (lv_at hl 0 rfl) ?_
                                            refine lv_dup X.1 X.2.1 dX8_readsOrder_150 rfl ?_
                                            refine z_get X hW 0 8 8 (C := RX8) (T := TX8) (N := 12) rfl rfl hn_X8 (by decide) q_3 rfl dX8_readsOrder_151 ?_
                                            refine lv_iconst (v := 1) X.1 X.2.1 dX8_readsOrder_154 (by decide) ?_
                                            refine z_iadd X hr dX8_readsOrder_155 (fun t155 hr => ?_)
                                            refine z_put X hW hr (fun v156 => (mdW E a v156)) tyX8 tyX8_ok nmX8 0 8 8 (C := RX8) (T := TX8) (N := 12) rfl rfl hn_X8 (by decide) q_3 rfl rfl rfl (Nat.le_of_ble_eq_true rfl) rfl dX8_readsOrder_156 (fun v156 H locs hr hW => ?_)
                                            refine lv_aload_n X.1 X.2.1 dX8_readsOrder_159 rfl (lv_at hl 0 rfl) ?_
                                            refine lv_aload_n X.1 X.2.1 dX8_readsOrder_160 rfl (lv_at hl 0 rfl) ?_
                                            have hp_161 := (z_all (mdW E a v156))
                                            refine z_calli X hW (fun u => u) hr hp_161 (fun u => (mdW E a u)) (fun v161 => (mdW E a v161)) (fun u => (z_lla (mdW E a u))) (fun x u h => z_runV (As := []) (rest := [.ref (a 0)]) X hW hp_161 (c_X8_readNumber l E a v156 (x, u) h _) hy_X8_readNumber 0 8 (C := RX8) (T := TX8) (N := 12) rfl rfl rfl gX8_readsOrder_X8_readNumber rfl rfl ⟨by decide, by decide⟩ rfl hl rfl rfl (Nat.le_of_ble_eq_true rfl) dX8_readsOrder_161 ⟨Nat.zero_le _, Nat.zero_le _⟩) (fun t161 v161 H locs hr hW => ?_)
                                            refine z_put X hW hr (fun v164 => (mdW E a v164)) tyX8 tyX8_ok nmX8 0 8 10 (C := RX8) (T := TX8) (N := 12) rfl rfl hn_X8 (by decide) q_4 rfl rfl rfl (Nat.le_of_ble_eq_true rfl) rfl dX8_readsOrder_164 (fun v164 H locs hr hW => ?_)
                                            refine lv_aload_n X.1 X.2.1 dX8_readsOrder_167 rfl (lv_at hl 0 rfl) ?_
                                            refine z_get X hW 0 8 10 (C := RX8) (T := TX8) (N := 12) rfl rfl hn_X8 (by decide) q_4 rfl dX8_readsOrder_168 ?_
                                            refine lv_bipush (v := (-6)) X.1 X.2.1 dX8_readsOrder_171 (by decide) ?_
                                            refine z_cmpeq X 180 hr dX8_readsOrder_173 (by decide) (fun hr => ?_) (fun hr => ?_)
                                            · refine lv_iconst (v := 0) X.1 X.2.1 dX8_readsOrder_180 (by decide) ?_
                                              cases hr
                                              exact z_zret X hW rfl rfl dX8_readsOrder_181
                                            · refine lv_iconst (v := 1) X.1 X.2.1 dX8_readsOrder_176 (by decide) ?_
                                              refine lv_goto (tgt := 181) X.1 X.2.1 dX8_readsOrder_177 (by decide) ?_
                                              cases hr
                                              exact z_zret X hW rfl rfl dX8_readsOrder_181
                                          · have e_99 := lv_neT h_99 (a := 99) rfl
                                            have e_100 := lv_neT h_100 (a := 100) rfl
                                            have e_101 := lv_neT h_101 (a := 101) rfl
                                            have e_102 := lv_neT h_102 (a := 102) rfl
                                            have e_103 := lv_neT h_103 (a := 103) rfl
                                            have e_104 := lv_neT h_104 (a := 104) rfl
                                            have e_105 := lv_neT h_105 (a := 105) rfl
                                            have e_106 := lv_neT h_106 (a := 106) rfl
                                            have e_107 := lv_neT h_107 (a := 107) rfl
                                            have e_108 := lv_neT h_108 (a := 108) rfl
                                            have e_109 := lv_neT h_109 (a := 109) rfl
                                            have e_110 := lv_neT h_110 (a := 110) rfl
                                            have e_111 := lv_neT h_111 (a := 111) rfl
                                            have e_112 := lv_neT h_112 (a := 112) rfl
                                            have e_113 := lv_neT h_113 (a := 113) rfl
                                            have e_114 := lv_neT h_114 (a := 114) rfl
                                            have e_115 := lv_neT h_115 (a := 115) rfl
                                            have e_116 := lv_neT h_116 (a := 116) rfl
                                            have e_117 := lv_neT h_117 (a := 117) rfl
                                            have e_118 := lv_neT h_118 (a := 118) rfl
                                            have e_119 := lv_neT h_119 (a := 119) rfl
                                            refine lv_tableOut (tgt := 209) X.1 X.2.1 dX8_readsOrder_17 (by omega) (by decide) ?_
                                            refine lv_iconst (v := 0) X.1 X.2.1 dX8_readsOrder_209 (by decide) ?_
                                            cases hr
                                            exact z_zret X hW rfl rfl dX8_readsOrder_210
abbrev rm_X8_findFault : Room := { frames := 5, cells := 0, slots := 0, locals := 105 }
theorem hy_X8_findFault : zY yX8_findFault wsX8_findFault cX8_findFault 1 (some .int) 0 := ⟨⟨_, rfl⟩, by decide, by decide, by decide +kernel⟩
def lpB_X8_findFault_5   (k_5 : zHV → Option (Int32 × zHV)) (v : zHV) : Option (Int32 × zHV) :=
zup2 (d_X8_readsOrder v) (fun u => u) fun t6 v6 =>
(if t6 = 0 then
some ((v6 6 2), v6)
else
(if (v6 6 2) = (v6 6 1) then
some ((-6), v6)
else
zup2 (d_X8_takes v6 59) (fun u => u) fun t29 v29 =>
(if t29 = 0 then
some ((v29 6 2), v29)
else
k_5 v29)))
def lp_X8_findFault_5   : Nat → zHV → Option (Int32 × zHV)
  | 0 => fun _ => none
  | n_ + 1 => lpB_X8_findFault_5   (lp_X8_findFault_5   n_)
def d_X8_findFault (v : zHV) : Option (Int32 × zHV) :=
zlet (zs v 6 2 0) fun v2 =>
lp_X8_findFault_5   zF v2
set_option maxHeartbeats 4000000 in
set_option maxRecDepth 100000 in
theorem c_X8_findFault (l : Launch) (E : zE) (a : Nat → Nat) (v : zHV) (r : Int32 × zHV) (h : d_X8_findFault v = some r) : zMi l E yX8_findFault wsX8_findFault rm_X8_findFault [.ref (a 0)] (mdW E a v) r.1 (mdW E a r.2) := by
  intro sz
  refine z_entry (Qc := fun A => zQi E A r.1 (mdW E a r.2)) (by decide) rfl (Nat.le_of_ble_eq_true rfl) ?_
  intro p e s m below meth c A X hW ls hl
  have X : zX E wsX8_findFault RX8 cX8_findFault 1 (some .int) yX8_findFault p s m ([.ref (a 0)] : List Value).toArray meth c A := X
  have hl : lv_has ls 1 [(0, .ref (a 0))] := hl
  have hr : d_X8_findFault v = some r := h
  clear h
  have q_0 : Cond.fieldLink RX8 155 "ApplauseTalliesModel" "at" "I" ∈ wsX8_findFault := List.mem_of_getElem? (i := 1) rfl
  have hn_X8 : ∀ x ∈ wsX80, x ∈ wsX8_findFault := zz_in [35, 36, 37, 38, 39, 40, 41, 42, 43, 44, 45, 46] (by decide +kernel)
  have q_2 : Cond.fieldLink RX8 131 "ApplauseTalliesModel" "length" "I" ∈ wsX8_findFault := List.mem_of_getElem? (i := 2) rfl
  unfold d_X8_findFault at hr
  refine lv_aload_n X.1 X.2.1 dX8_findFault_0 rfl (lv_at hl 0 rfl) ?_
  refine lv_iconst (v := 0) X.1 X.2.1 dX8_findFault_1 (by decide) ?_
  refine z_put X hW hr (fun v2 => (mdW E a v2)) tyX8 tyX8_ok nmX8 0 8 8 (C := RX8) (T := TX8) (N := 12) rfl rfl hn_X8 (by decide) q_0 rfl rfl rfl (Nat.le_of_ble_eq_true rfl) rfl dX8_findFault_2 (fun v2 H locs hr hW => ?_)
  have L_5 : ∀ (n_5 : Nat), ∀ (v : zHV) (H : Heap) (locs : List Loc) (ls : Array Slot), lp_X8_findFault_5   n_5 v = some r → zW E A s (mdW E a v) H locs → lv_has ls 1 [(0, .ref (a 0))] → W p l e rm_X8_findFault s m ([.ref (a 0)] : List Value).toArray below meth c H locs 0 0 (MQ below (zQi E A r.1 (mdW E a r.2)) ([.ref (a 0)] : List Value).toArray s 0 0 A) (F0 m 5 ls []) := by
    intro n_5
    induction n_5 with
    | zero => exact fun v H locs ls hr hW hl => absurd (show (none : Option (Int32 × zHV)) = some r from hr) (fun h => by cases h)
    | succ n_5 ih_5 =>
      intro v H locs ls hr hW hl
      have hr : lpB_X8_findFault_5   (lp_X8_findFault_5   n_5) v = some r := hr
      unfold lpB_X8_findFault_5 at hr
      refine lv_aload_n X.1 X.2.1 dX8_findFault_5 rfl (lv_at hl 0 rfl) ?_
      have hp_6 := (z_all (mdW E a v))
      refine z_calli X hW (fun u => u) hr hp_6 (fun u => (mdW E a u)) (fun v6 => (mdW E a v6)) (fun u => (z_lla (mdW E a u))) (fun x u h => z_runV (As := []) (rest := []) X hW hp_6 (c_X8_readsOrder l E a v (x, u) h _) hy_X8_readsOrder 0 8 (C := RX8) (T := TX8) (N := 12) rfl rfl rfl gX8_findFault_X8_readsOrder rfl rfl ⟨by decide, by decide⟩ rfl hl rfl rfl (Nat.le_of_ble_eq_true rfl) dX8_findFault_6 ⟨Nat.zero_le _, Nat.zero_le _⟩) (fun t6 v6 H locs hr hW => ?_)
      refine z_ifeq X 40 hr dX8_findFault_9 (by decide) (fun hr => ?_) (fun hr => ?_)
      · refine lv_aload_n X.1 X.2.1 dX8_findFault_40 rfl (lv_at hl 0 rfl) ?_
        refine z_get X hW 0 8 8 (C := RX8) (T := TX8) (N := 12) rfl rfl hn_X8 (by decide) q_0 rfl dX8_findFault_41 ?_
        cases hr
        exact z_iret X hW rfl dX8_findFault_44
      · refine lv_aload_n X.1 X.2.1 dX8_findFault_12 rfl (lv_at hl 0 rfl) ?_
        refine z_get X hW 0 8 8 (C := RX8) (T := TX8) (N := 12) rfl rfl hn_X8 (by decide) q_0 rfl dX8_findFault_13 ?_
        refine lv_aload_n X.1 X.2.1 dX8_findFault_16 rfl (lv_at hl 0 rfl) ?_
        refine z_get X hW 0 8 7 (C := RX8) (T := TX8) (N := 12) rfl rfl hn_X8 (by decide) q_2 rfl dX8_findFault_17 ?_
        refine z_cmpne X 26 hr dX8_findFault_20 (by decide) (fun hr => ?_) (fun hr => ?_)
        · refine lv_aload_n X.1 X.2.1 dX8_findFault_26 rfl (lv_at hl 0 rfl) ?_
          refine lv_bipush (v := 59) X.1 X.2.1 dX8_findFault_27 (by decide) ?_
          have hp_29 := (z_all (mdW E a v6))
          refine z_calli X hW (fun u => u) hr hp_29 (fun u => (mdW E a u)) (fun v29 => (mdW E a v29)) (fun u => (z_lla (mdW E a u))) (fun x u h => z_runV (As := [.int 59]) (rest := []) X hW hp_29 (c_X8_takes l E a v6 59 (x, u) h _) hy_X8_takes 0 8 (C := RX8) (T := TX8) (N := 12) rfl rfl rfl gX8_findFault_X8_takes rfl rfl ⟨by decide, by decide⟩ rfl hl rfl rfl (Nat.le_of_ble_eq_true rfl) dX8_findFault_29 ⟨Nat.zero_le _, Nat.zero_le _⟩) (fun t29 v29 H locs hr hW => ?_)
          refine z_ifne X 5 hr dX8_findFault_32 (by decide) (fun hr => ?_) (fun hr => ?_)
          · exact ih_5 v29 _ _ _ hr hW (lv_sub hl [0] rfl)
          · refine lv_aload_n X.1 X.2.1 dX8_findFault_35 rfl (lv_at hl 0 rfl) ?_
            refine z_get X hW 0 8 8 (C := RX8) (T := TX8) (N := 12) rfl rfl hn_X8 (by decide) q_0 rfl dX8_findFault_36 ?_
            cases hr
            exact z_iret X hW rfl dX8_findFault_39
        · refine lv_bipush (v := (-6)) X.1 X.2.1 dX8_findFault_23 (by decide) ?_
          cases hr
          exact z_iret X hW rfl dX8_findFault_25
  exact L_5 _ v2 _ _ _ hr hW (lv_sub hl [0] rfl)
abbrev rm_X8_fault : Room := { frames := 6, cells := 0, slots := 0, locals := 125 }
theorem hy_X8_fault : zY yX8_fault wsX8_fault cX8_fault 1 (some .int) 0 := ⟨⟨_, rfl⟩, by decide, by decide, by decide +kernel⟩
def d_X8_fault (v : zHV) : Option (Int32 × zHV) :=
zup2 (d_X8_findFault v) (fun u => u) fun t1 v1 =>
some (t1, v1)
set_option maxHeartbeats 4000000 in
set_option maxRecDepth 100000 in
theorem c_X8_fault (l : Launch) (E : zE) (a : Nat → Nat) (v : zHV) (r : Int32 × zHV) (h : d_X8_fault v = some r) : zMi l E yX8_fault wsX8_fault rm_X8_fault [.ref (a 0)] (mdW E a v) r.1 (mdW E a r.2) := by
  intro sz
  refine z_entry (Qc := fun A => zQi E A r.1 (mdW E a r.2)) (by decide) rfl (Nat.le_of_ble_eq_true rfl) ?_
  intro p e s m below meth c A X hW ls hl
  have X : zX E wsX8_fault RX8 cX8_fault 1 (some .int) yX8_fault p s m ([.ref (a 0)] : List Value).toArray meth c A := X
  have hl : lv_has ls 1 [(0, .ref (a 0))] := hl
  have hr : d_X8_fault v = some r := h
  clear h
  unfold d_X8_fault at hr
  refine lv_aload_n X.1 X.2.1 dX8_fault_0 rfl (lv_at hl 0 rfl) ?_
  have hp_1 := (z_all (mdW E a v))
  refine z_calli X hW (fun u => u) hr hp_1 (fun u => (mdW E a u)) (fun v1 => (mdW E a v1)) (fun u => (z_lla (mdW E a u))) (fun x u h => z_runV (As := []) (rest := []) X hW hp_1 (c_X8_findFault l E a v (x, u) h _) hy_X8_findFault 0 8 (C := RX8) (T := TX8) (N := 12) rfl rfl rfl gX8_fault_X8_findFault rfl rfl ⟨by decide, by decide⟩ rfl hl rfl rfl (Nat.le_of_ble_eq_true rfl) dX8_fault_1 ⟨Nat.zero_le _, Nat.zero_le _⟩) (fun t1 v1 H locs hr hW => ?_)
  cases hr
  exact z_iret X hW rfl dX8_fault_4
abbrev rm_X8_doesOrder : Room := { frames := 3, cells := 0, slots := 0, locals := 69 }
theorem hy_X8_doesOrder : zY yX8_doesOrder wsX8_doesOrder cX8_doesOrder 1 (some .int) 0 := ⟨⟨_, rfl⟩, by decide, by decide, by decide +kernel⟩
def d_X8_doesOrder (v : zHV) : Option (Int32 × zHV) :=
(if (v 6 3) = 99 then
zup2 (d_X8_doClap v (v 6 4)) (fun u => u) fun t78 v78 =>
some (t78, v78)
else
(if (v 6 3) = 101 then
zup2 (d_X8_doEnds v (v 6 4)) (fun u => u) fun t69 v69 =>
some (t69, v69)
else
(if (v 6 3) = 107 then
zup2 (d_X8_doCall v) (fun u => u) fun t101 v101 =>
some (t101, v101)
else
(if (v 6 3) = 110 then
zup2 (d_X8_doNight v) (fun u => u) fun t106 v106 =>
some (t106, v106)
else
(if (v 6 3) = 112 then
zup2 (d_X8_doPlay v (v 6 4)) (fun u => u) fun t96 v96 =>
some (t96, v96)
else
(if (v 6 3) = 119 then
zup2 (d_X8_doPass v (v 6 4)) (fun u => u) fun t87 v87 =>
some (t87, v87)
else
zup2 (d_X8_doPay v (v 6 4)) (fun u => u) fun t115 v115 =>
some (t115, v115)))))))
set_option maxHeartbeats 4000000 in
set_option maxRecDepth 100000 in
theorem c_X8_doesOrder (l : Launch) (E : zE) (a : Nat → Nat) (v : zHV) (r : Int32 × zHV) (h : d_X8_doesOrder v = some r) : zMi l E yX8_doesOrder wsX8_doesOrder rm_X8_doesOrder [.ref (a 0)] (mdW E a v) r.1 (mdW E a r.2) := by
  intro sz
  refine z_entry (Qc := fun A => zQi E A r.1 (mdW E a r.2)) (by decide) rfl (Nat.le_of_ble_eq_true rfl) ?_
  intro p e s m below meth c A X hW ls hl
  have X : zX E wsX8_doesOrder RX8 cX8_doesOrder 1 (some .int) yX8_doesOrder p s m ([.ref (a 0)] : List Value).toArray meth c A := X
  have hl : lv_has ls 1 [(0, .ref (a 0))] := hl
  have hr : d_X8_doesOrder v = some r := h
  clear h
  have q_0 : Cond.fieldLink RX8 176 "ApplauseTalliesModel" "sign" "I" ∈ wsX8_doesOrder := List.mem_of_getElem? (i := 1) rfl
  have hn_X8 : ∀ x ∈ wsX80, x ∈ wsX8_doesOrder := zz_in [99, 100, 101, 102, 103, 104, 105, 106, 107, 108, 109, 110] (by decide +kernel)
  have q_2 : Cond.fieldLink RX8 167 "ApplauseTalliesModel" "first" "I" ∈ wsX8_doesOrder := List.mem_of_getElem? (i := 2) rfl
  unfold d_X8_doesOrder at hr
  refine lv_aload_n X.1 X.2.1 dX8_doesOrder_0 rfl (lv_at hl 0 rfl) ?_
  refine z_get X hW 0 8 9 (C := RX8) (T := TX8) (N := 12) rfl rfl hn_X8 (by decide) q_0 rfl dX8_doesOrder_1 ?_
  refine z_if hr (fun h_0 hr => ?_) (fun h_0 hr => ?_)
  · refine lv_lookup (off := 69) (tgt := 73) X.1 X.2.1 dX8_doesOrder_4 (by decide) (by rw [h_0]; rfl) (by decide) ?_
    refine lv_aload_n X.1 X.2.1 dX8_doesOrder_73 rfl (lv_at hl 0 rfl) ?_
    refine lv_aload_n X.1 X.2.1 dX8_doesOrder_74 rfl (lv_at hl 0 rfl) ?_
    refine z_get X hW 0 8 10 (C := RX8) (T := TX8) (N := 12) rfl rfl hn_X8 (by decide) q_2 rfl dX8_doesOrder_75 ?_
    have hp_78 := (z_all (mdW E a v))
    refine z_calli X hW (fun u => u) hr hp_78 (fun u => (mdW E a u)) (fun v78 => (mdW E a v78)) (fun u => (z_lla (mdW E a u))) (fun x u h => z_runV (As := [.int (v 6 4)]) (rest := []) X hW hp_78 (c_X8_doClap l E a v (v 6 4) (x, u) h _) hy_X8_doClap 0 8 (C := RX8) (T := TX8) (N := 12) rfl rfl rfl gX8_doesOrder_X8_doClap rfl rfl ⟨by decide, by decide⟩ rfl hl rfl rfl (Nat.le_of_ble_eq_true rfl) dX8_doesOrder_78 ⟨Nat.zero_le _, Nat.zero_le _⟩) (fun t78 v78 H locs hr hW => ?_)
    cases hr
    exact z_iret X hW rfl dX8_doesOrder_81
  · refine z_if hr (fun h_1 hr => ?_) (fun h_1 hr => ?_)
    · refine lv_lookup (off := 60) (tgt := 64) X.1 X.2.1 dX8_doesOrder_4 (by decide) (by rw [h_1]; rfl) (by decide) ?_
      refine lv_aload_n X.1 X.2.1 dX8_doesOrder_64 rfl (lv_at hl 0 rfl) ?_
      refine lv_aload_n X.1 X.2.1 dX8_doesOrder_65 rfl (lv_at hl 0 rfl) ?_
      refine z_get X hW 0 8 10 (C := RX8) (T := TX8) (N := 12) rfl rfl hn_X8 (by decide) q_2 rfl dX8_doesOrder_66 ?_
      have hp_69 := (z_all (mdW E a v))
      refine z_calli X hW (fun u => u) hr hp_69 (fun u => (mdW E a u)) (fun v69 => (mdW E a v69)) (fun u => (z_lla (mdW E a u))) (fun x u h => z_runV (As := [.int (v 6 4)]) (rest := []) X hW hp_69 (c_X8_doEnds l E a v (v 6 4) (x, u) h _) hy_X8_doEnds 0 8 (C := RX8) (T := TX8) (N := 12) rfl rfl rfl gX8_doesOrder_X8_doEnds rfl rfl ⟨by decide, by decide⟩ rfl hl rfl rfl (Nat.le_of_ble_eq_true rfl) dX8_doesOrder_69 ⟨Nat.zero_le _, Nat.zero_le _⟩) (fun t69 v69 H locs hr hW => ?_)
      cases hr
      exact z_iret X hW rfl dX8_doesOrder_72
    · refine z_if hr (fun h_2 hr => ?_) (fun h_2 hr => ?_)
      · refine lv_lookup (off := 96) (tgt := 100) X.1 X.2.1 dX8_doesOrder_4 (by decide) (by rw [h_2]; rfl) (by decide) ?_
        refine lv_aload_n X.1 X.2.1 dX8_doesOrder_100 rfl (lv_at hl 0 rfl) ?_
        have hp_101 := (z_all (mdW E a v))
        refine z_calli X hW (fun u => u) hr hp_101 (fun u => (mdW E a u)) (fun v101 => (mdW E a v101)) (fun u => (z_lla (mdW E a u))) (fun x u h => z_runV (As := []) (rest := []) X hW hp_101 (c_X8_doCall l E a v (x, u) h _) hy_X8_doCall 0 8 (C := RX8) (T := TX8) (N := 12) rfl rfl rfl gX8_doesOrder_X8_doCall rfl rfl ⟨by decide, by decide⟩ rfl hl rfl rfl (Nat.le_of_ble_eq_true rfl) dX8_doesOrder_101 ⟨Nat.zero_le _, Nat.zero_le _⟩) (fun t101 v101 H locs hr hW => ?_)
        cases hr
        exact z_iret X hW rfl dX8_doesOrder_104
      · refine z_if hr (fun h_3 hr => ?_) (fun h_3 hr => ?_)
        · refine lv_lookup (off := 101) (tgt := 105) X.1 X.2.1 dX8_doesOrder_4 (by decide) (by rw [h_3]; rfl) (by decide) ?_
          refine lv_aload_n X.1 X.2.1 dX8_doesOrder_105 rfl (lv_at hl 0 rfl) ?_
          have hp_106 := (z_all (mdW E a v))
          refine z_calli X hW (fun u => u) hr hp_106 (fun u => (mdW E a u)) (fun v106 => (mdW E a v106)) (fun u => (z_lla (mdW E a u))) (fun x u h => z_runV (As := []) (rest := []) X hW hp_106 (c_X8_doNight l E a v (x, u) h _) hy_X8_doNight 0 8 (C := RX8) (T := TX8) (N := 12) rfl rfl rfl gX8_doesOrder_X8_doNight rfl rfl ⟨by decide, by decide⟩ rfl hl rfl rfl (Nat.le_of_ble_eq_true rfl) dX8_doesOrder_106 ⟨Nat.zero_le _, Nat.zero_le _⟩) (fun t106 v106 H locs hr hW => ?_)
          cases hr
          exact z_iret X hW rfl dX8_doesOrder_109
        · refine z_if hr (fun h_4 hr => ?_) (fun h_4 hr => ?_)
          · refine lv_lookup (off := 87) (tgt := 91) X.1 X.2.1 dX8_doesOrder_4 (by decide) (by rw [h_4]; rfl) (by decide) ?_
            refine lv_aload_n X.1 X.2.1 dX8_doesOrder_91 rfl (lv_at hl 0 rfl) ?_
            refine lv_aload_n X.1 X.2.1 dX8_doesOrder_92 rfl (lv_at hl 0 rfl) ?_
            refine z_get X hW 0 8 10 (C := RX8) (T := TX8) (N := 12) rfl rfl hn_X8 (by decide) q_2 rfl dX8_doesOrder_93 ?_
            have hp_96 := (z_all (mdW E a v))
            refine z_calli X hW (fun u => u) hr hp_96 (fun u => (mdW E a u)) (fun v96 => (mdW E a v96)) (fun u => (z_lla (mdW E a u))) (fun x u h => z_runV (As := [.int (v 6 4)]) (rest := []) X hW hp_96 (c_X8_doPlay l E a v (v 6 4) (x, u) h _) hy_X8_doPlay 0 8 (C := RX8) (T := TX8) (N := 12) rfl rfl rfl gX8_doesOrder_X8_doPlay rfl rfl ⟨by decide, by decide⟩ rfl hl rfl rfl (Nat.le_of_ble_eq_true rfl) dX8_doesOrder_96 ⟨Nat.zero_le _, Nat.zero_le _⟩) (fun t96 v96 H locs hr hW => ?_)
            cases hr
            exact z_iret X hW rfl dX8_doesOrder_99
          · refine z_if hr (fun h_5 hr => ?_) (fun h_5 hr => ?_)
            · refine lv_lookup (off := 78) (tgt := 82) X.1 X.2.1 dX8_doesOrder_4 (by decide) (by rw [h_5]; rfl) (by decide) ?_
              refine lv_aload_n X.1 X.2.1 dX8_doesOrder_82 rfl (lv_at hl 0 rfl) ?_
              refine lv_aload_n X.1 X.2.1 dX8_doesOrder_83 rfl (lv_at hl 0 rfl) ?_
              refine z_get X hW 0 8 10 (C := RX8) (T := TX8) (N := 12) rfl rfl hn_X8 (by decide) q_2 rfl dX8_doesOrder_84 ?_
              have hp_87 := (z_all (mdW E a v))
              refine z_calli X hW (fun u => u) hr hp_87 (fun u => (mdW E a u)) (fun v87 => (mdW E a v87)) (fun u => (z_lla (mdW E a u))) (fun x u h => z_runV (As := [.int (v 6 4)]) (rest := []) X hW hp_87 (c_X8_doPass l E a v (v 6 4) (x, u) h _) hy_X8_doPass 0 8 (C := RX8) (T := TX8) (N := 12) rfl rfl rfl gX8_doesOrder_X8_doPass rfl rfl ⟨by decide, by decide⟩ rfl hl rfl rfl (Nat.le_of_ble_eq_true rfl) dX8_doesOrder_87 ⟨Nat.zero_le _, Nat.zero_le _⟩) (fun t87 v87 H locs hr hW => ?_)
              cases hr
              exact z_iret X hW rfl dX8_doesOrder_90
            · refine lv_lookup (off := 106) (tgt := 110) X.1 X.2.1 dX8_doesOrder_4 (by decide) ((lv_osw h_0 (by decide)).trans ((lv_osw h_1 (by decide)).trans ((lv_osw h_2 (by decide)).trans ((lv_osw h_3 (by decide)).trans ((lv_osw h_4 (by decide)).trans ((lv_osw h_5 (by decide)).trans (rfl))))))) (by decide) ?_
              refine lv_aload_n X.1 X.2.1 dX8_doesOrder_110 rfl (lv_at hl 0 rfl) ?_
              refine lv_aload_n X.1 X.2.1 dX8_doesOrder_111 rfl (lv_at hl 0 rfl) ?_
              refine z_get X hW 0 8 10 (C := RX8) (T := TX8) (N := 12) rfl rfl hn_X8 (by decide) q_2 rfl dX8_doesOrder_112 ?_
              have hp_115 := (z_all (mdW E a v))
              refine z_calli X hW (fun u => u) hr hp_115 (fun u => (mdW E a u)) (fun v115 => (mdW E a v115)) (fun u => (z_lla (mdW E a u))) (fun x u h => z_runV (As := [.int (v 6 4)]) (rest := []) X hW hp_115 (c_X8_doPay l E a v (v 6 4) (x, u) h _) hy_X8_doPay 0 8 (C := RX8) (T := TX8) (N := 12) rfl rfl rfl gX8_doesOrder_X8_doPay rfl rfl ⟨by decide, by decide⟩ rfl hl rfl rfl (Nat.le_of_ble_eq_true rfl) dX8_doesOrder_115 ⟨Nat.zero_le _, Nat.zero_le _⟩) (fun t115 v115 H locs hr hW => ?_)
              cases hr
              exact z_iret X hW rfl dX8_doesOrder_118
abbrev rm_X8_carryOut : Room := { frames := 6, cells := 0, slots := 0, locals := 125 }
theorem hy_X8_carryOut : zY yX8_carryOut wsX8_carryOut cX8_carryOut 4 (some .int) 0 := ⟨⟨_, rfl⟩, by decide, by decide, by decide +kernel⟩
def lpB_X8_carryOut_51  (k_29 : Int32 → Int32 → zHV → Option (Int32 × zHV)) (j_107 : Int32 → Int32 → zHV → Option (Int32 × zHV)) (k_51 : Int32 → Int32 → Int32 → zHV → Option (Int32 × zHV)) (x1 : Int32) (x2 : Int32) (x3 : Int32) (v : zHV) : Option (Int32 × zHV) :=
zjn (fun (x1 : Int32) (x2 : Int32) (x3 : Int32) (v : zHV) =>
zlet ((v 6 2) + 1) fun t100 =>
zlet (zs v 6 2 t100) fun v101 =>
k_29 x1 x2 v101) fun j_94 =>
(if (v 6 5) ≤ x3 then
j_94 x1 x2 x3 v
else
(if x2 = 0 then
j_94 x1 x2 x3 v
else
zup2 (d_X8_doesOrder v) (fun u => u) fun t64 v64 =>
zjn (fun (x1 : Int32) (x2 : Int32) (x3 : Int32) (s0 : Int32) (v : zHV) =>
(if s0 = 0 then
zlet (x1 + 0) fun t86 =>
zlet (x3 + Int32.ofInt 1) fun x3_88 =>
k_51 t86 s0 x3_88 v
else
zlet (x1 + 1) fun t86 =>
zlet (x3 + Int32.ofInt 1) fun x3_88 =>
k_51 t86 s0 x3_88 v)) fun j_75 =>
(if t64 < 0 then
j_75 x1 x2 x3 0 v64
else
j_75 x1 x2 x3 1 v64)))
def lp_X8_carryOut_51  (k_29 : Int32 → Int32 → zHV → Option (Int32 × zHV)) (j_107 : Int32 → Int32 → zHV → Option (Int32 × zHV)) : Nat → Int32 → Int32 → Int32 → zHV → Option (Int32 × zHV)
  | 0 => fun _ _ _ _ => none
  | n_ + 1 => lpB_X8_carryOut_51  k_29 j_107 (lp_X8_carryOut_51  k_29 j_107 n_)
def lpB_X8_carryOut_29   (k_29 : Int32 → Int32 → zHV → Option (Int32 × zHV)) (x1 : Int32) (x2 : Int32) (v : zHV) : Option (Int32 × zHV) :=
zjn (fun (x1 : Int32) (x2 : Int32) (v : zHV) =>
zlet (zs v 6 1 0) fun v109 =>
some (x1, v109)) fun j_107 =>
(if x2 = 0 then
j_107 x1 x2 v
else
(if (v 6 1) ≤ (v 6 2) then
j_107 x1 x2 v
else
zup2 (d_X8_readsOrder v) (fun u => u) fun t45 v45 =>
lp_X8_carryOut_51  k_29 j_107 zF x1 t45 0 v45))
def lp_X8_carryOut_29   : Nat → Int32 → Int32 → zHV → Option (Int32 × zHV)
  | 0 => fun _ _ _ => none
  | n_ + 1 => lpB_X8_carryOut_29   (lp_X8_carryOut_29   n_)
def d_X8_carryOut (v : zHV) : Option (Int32 × zHV) :=
zup2 (d_X8_findFault v) (fun u => u) fun t1 v1 =>
(if t1 = (-6) then
zup (d_X8_putAside v1) (fun u => u) fun v13 =>
zup (d_X8_push v13) (fun u => u) fun v17 =>
zlet (zs v17 6 2 0) fun v22 =>
lp_X8_carryOut_29   zF 0 1 v22
else
some ((-3), v1))
set_option maxHeartbeats 4000000 in
set_option maxRecDepth 100000 in
theorem c_X8_carryOut (l : Launch) (E : zE) (a : Nat → Nat) (v : zHV) (r : Int32 × zHV) (h : d_X8_carryOut v = some r) : zMi l E yX8_carryOut wsX8_carryOut rm_X8_carryOut [.ref (a 0)] (mdW E a v) r.1 (mdW E a r.2) := by
  intro sz
  refine z_entry (Qc := fun A => zQi E A r.1 (mdW E a r.2)) (by decide) rfl (Nat.le_of_ble_eq_true rfl) ?_
  intro p e s m below meth c A X hW ls hl
  have X : zX E wsX8_carryOut RX8 cX8_carryOut 4 (some .int) yX8_carryOut p s m ([.ref (a 0)] : List Value).toArray meth c A := X
  have hl : lv_has ls 4 [(0, .ref (a 0))] := hl
  have hr : d_X8_carryOut v = some r := h
  clear h
  have q_0 : Cond.fieldLink RX8 155 "ApplauseTalliesModel" "at" "I" ∈ wsX8_carryOut := List.mem_of_getElem? (i := 1) rfl
  have q_1 : Cond.fieldLink RX8 131 "ApplauseTalliesModel" "length" "I" ∈ wsX8_carryOut := List.mem_of_getElem? (i := 2) rfl
  have hn_X8 : ∀ x ∈ wsX80, x ∈ wsX8_carryOut := zz_in [146, 147, 148, 149, 150, 151, 152, 153, 154, 155, 156, 157] (by decide +kernel)
  have q_3 : Cond.fieldLink RX8 173 "ApplauseTalliesModel" "times" "I" ∈ wsX8_carryOut := List.mem_of_getElem? (i := 3) rfl
  unfold d_X8_carryOut at hr
  refine lv_aload_n X.1 X.2.1 dX8_carryOut_0 rfl (lv_at hl 0 rfl) ?_
  have hp_1 := (z_all (mdW E a v))
  refine z_calli X hW (fun u => u) hr hp_1 (fun u => (mdW E a u)) (fun v1 => (mdW E a v1)) (fun u => (z_lla (mdW E a u))) (fun x u h => z_runV (As := []) (rest := []) X hW hp_1 (c_X8_findFault l E a v (x, u) h _) hy_X8_findFault 0 8 (C := RX8) (T := TX8) (N := 12) rfl rfl rfl gX8_carryOut_X8_findFault rfl rfl ⟨by decide, by decide⟩ rfl hl rfl rfl (Nat.le_of_ble_eq_true rfl) dX8_carryOut_1 ⟨Nat.zero_le _, Nat.zero_le _⟩) (fun t1 v1 H locs hr hW => ?_)
  refine lv_bipush (v := (-6)) X.1 X.2.1 dX8_carryOut_4 (by decide) ?_
  refine z_cmpeq X 12 hr dX8_carryOut_6 (by decide) (fun hr => ?_) (fun hr => ?_)
  · refine lv_aload_n X.1 X.2.1 dX8_carryOut_12 rfl (lv_at hl 0 rfl) ?_
    have hp_13 := (z_all (mdW E a v1))
    refine z_callv X hW (fun u => u) hr hp_13 (fun u => (mdW E a u)) (fun v13 => (mdW E a v13)) (fun u => (z_lla (mdW E a u))) (fun u h => z_runV (As := []) (rest := []) X hW hp_13 (c_X8_putAside l E a v1 u h _) hy_X8_putAside 0 8 (C := RX8) (T := TX8) (N := 12) rfl rfl rfl gX8_carryOut_X8_putAside rfl rfl ⟨by decide, by decide⟩ rfl hl rfl rfl (Nat.le_of_ble_eq_true rfl) dX8_carryOut_13 ⟨Nat.zero_le _, Nat.zero_le _⟩) (fun v13 H locs hr hW => ?_)
    refine lv_aload_n X.1 X.2.1 dX8_carryOut_16 rfl (lv_at hl 0 rfl) ?_
    have hp_17 := (z_all (mdW E a v13))
    refine z_callv X hW (fun u => u) hr hp_17 (fun u => (mdW E a u)) (fun v17 => (mdW E a v17)) (fun u => (z_lla (mdW E a u))) (fun u h => z_runV (As := []) (rest := []) X hW hp_17 (c_X8_push l E a v13 u h _) hy_X8_push 0 8 (C := RX8) (T := TX8) (N := 12) rfl rfl rfl gX8_carryOut_X8_push rfl rfl ⟨by decide, by decide⟩ rfl hl rfl rfl (Nat.le_of_ble_eq_true rfl) dX8_carryOut_17 ⟨Nat.zero_le _, Nat.zero_le _⟩) (fun v17 H locs hr hW => ?_)
    refine lv_aload_n X.1 X.2.1 dX8_carryOut_20 rfl (lv_at hl 0 rfl) ?_
    refine lv_iconst (v := 0) X.1 X.2.1 dX8_carryOut_21 (by decide) ?_
    refine z_put X hW hr (fun v22 => (mdW E a v22)) tyX8 tyX8_ok nmX8 0 8 8 (C := RX8) (T := TX8) (N := 12) rfl rfl hn_X8 (by decide) q_0 rfl rfl rfl (Nat.le_of_ble_eq_true rfl) rfl dX8_carryOut_22 (fun v22 H locs hr hW => ?_)
    refine lv_iconst (v := 0) X.1 X.2.1 dX8_carryOut_25 (by decide) ?_
    refine lv_istore_n (lv' := [(1, .int 0), (0, .ref (a 0))]) X.1 X.2.1 dX8_carryOut_26 rfl hl (by decide) rfl (fun ls hl => ?_)
    refine lv_iconst (v := 1) X.1 X.2.1 dX8_carryOut_27 (by decide) ?_
    refine lv_istore_n (lv' := [(2, .int 1), (1, .int 0), (0, .ref (a 0))]) X.1 X.2.1 dX8_carryOut_28 rfl hl (by decide) rfl (fun ls hl => ?_)
    have L_29 : ∀ (n_29 : Nat), ∀ (x1 : Int32) (x2 : Int32) (v : zHV) (H : Heap) (locs : List Loc) (ls : Array Slot), lp_X8_carryOut_29   n_29 x1 x2 v = some r → zW E A s (mdW E a v) H locs → lv_has ls 4 [(0, .ref (a 0)), (1, .int x1), (2, .int x2)] → W p l e rm_X8_carryOut s m ([.ref (a 0)] : List Value).toArray below meth c H locs 0 0 (MQ below (zQi E A r.1 (mdW E a r.2)) ([.ref (a 0)] : List Value).toArray s 0 0 A) (F0 m 29 ls []) := by
      intro n_29
      induction n_29 with
      | zero => exact fun x1 x2 v H locs ls hr hW hl => absurd (show (none : Option (Int32 × zHV)) = some r from hr) (fun h => by cases h)
      | succ n_29 ih_29 =>
        intro x1 x2 v H locs ls hr hW hl
        have hr : lpB_X8_carryOut_29   (lp_X8_carryOut_29   n_29) x1 x2 v = some r := hr
        unfold lpB_X8_carryOut_29 at hr
        refine lv_iload_n X.1 X.2.1 dX8_carryOut_29 rfl (lv_at hl 2 rfl) ?_
        obtain ⟨j_107, e_107, hr⟩ := zjn_some hr
        have J_107 : ∀ (x1 : Int32) (x2 : Int32) (v : zHV) (H : Heap) (locs : List Loc) (ls : Array Slot), j_107 x1 x2 v = some r → zW E A s (mdW E a v) H locs → lv_has ls 4 [(0, .ref (a 0)), (1, .int x1), (2, .int x2)] → W p l e rm_X8_carryOut s m ([.ref (a 0)] : List Value).toArray below meth c H locs 0 0 (MQ below (zQi E A r.1 (mdW E a r.2)) ([.ref (a 0)] : List Value).toArray s 0 0 A) (F0 m 107 ls []) := by
          intro x1 x2 v H locs ls hr hW hl
          rw [e_107] at hr
          refine lv_aload_n X.1 X.2.1 dX8_carryOut_107 rfl (lv_at hl 0 rfl) ?_
          refine lv_iconst (v := 0) X.1 X.2.1 dX8_carryOut_108 (by decide) ?_
          refine z_put X hW hr (fun v109 => (mdW E a v109)) tyX8 tyX8_ok nmX8 0 8 7 (C := RX8) (T := TX8) (N := 12) rfl rfl hn_X8 (by decide) q_1 rfl rfl rfl (Nat.le_of_ble_eq_true rfl) rfl dX8_carryOut_109 (fun v109 H locs hr hW => ?_)
          refine lv_iload_n X.1 X.2.1 dX8_carryOut_112 rfl (lv_at hl 1 rfl) ?_
          cases hr
          exact z_iret X hW rfl dX8_carryOut_113
        refine z_ifeq X 107 hr dX8_carryOut_30 (by decide) (fun hr => ?_) (fun hr => ?_)
        · exact J_107 x1 x2 v _ _ _ hr hW (lv_sub hl [0, 1, 2] rfl)
        · refine lv_aload_n X.1 X.2.1 dX8_carryOut_33 rfl (lv_at hl 0 rfl) ?_
          refine z_get X hW 0 8 8 (C := RX8) (T := TX8) (N := 12) rfl rfl hn_X8 (by decide) q_0 rfl dX8_carryOut_34 ?_
          refine lv_aload_n X.1 X.2.1 dX8_carryOut_37 rfl (lv_at hl 0 rfl) ?_
          refine z_get X hW 0 8 7 (C := RX8) (T := TX8) (N := 12) rfl rfl hn_X8 (by decide) q_1 rfl dX8_carryOut_38 ?_
          refine z_cmpge X 107 hr dX8_carryOut_41 (by decide) (fun hr => ?_) (fun hr => ?_)
          · exact J_107 x1 x2 v _ _ _ hr hW (lv_sub hl [0, 1, 2] rfl)
          · refine lv_aload_n X.1 X.2.1 dX8_carryOut_44 rfl (lv_at hl 0 rfl) ?_
            have hp_45 := (z_all (mdW E a v))
            refine z_calli X hW (fun u => u) hr hp_45 (fun u => (mdW E a u)) (fun v45 => (mdW E a v45)) (fun u => (z_lla (mdW E a u))) (fun x u h => z_runV (As := []) (rest := []) X hW hp_45 (c_X8_readsOrder l E a v (x, u) h _) hy_X8_readsOrder 0 8 (C := RX8) (T := TX8) (N := 12) rfl rfl rfl gX8_carryOut_X8_readsOrder rfl rfl ⟨by decide, by decide⟩ rfl hl rfl rfl (Nat.le_of_ble_eq_true rfl) dX8_carryOut_45 ⟨Nat.zero_le _, Nat.zero_le _⟩) (fun t45 v45 H locs hr hW => ?_)
            refine lv_istore_n (lv' := [(2, .int t45), (0, .ref (a 0)), (1, .int x1)]) X.1 X.2.1 dX8_carryOut_48 rfl hl (by decide) rfl (fun ls hl => ?_)
            refine lv_iconst (v := 0) X.1 X.2.1 dX8_carryOut_49 (by decide) ?_
            refine lv_istore_n (lv' := [(3, .int 0), (2, .int t45), (0, .ref (a 0)), (1, .int x1)]) X.1 X.2.1 dX8_carryOut_50 rfl hl (by decide) rfl (fun ls hl => ?_)
            have L_51 : ∀ (n_51 : Nat), ∀ (x1 : Int32) (x2 : Int32) (x3 : Int32) (v : zHV) (H : Heap) (locs : List Loc) (ls : Array Slot), lp_X8_carryOut_51  (lp_X8_carryOut_29   n_29) j_107 n_51 x1 x2 x3 v = some r → zW E A s (mdW E a v) H locs → lv_has ls 4 [(0, .ref (a 0)), (1, .int x1), (2, .int x2), (3, .int x3)] → W p l e rm_X8_carryOut s m ([.ref (a 0)] : List Value).toArray below meth c H locs 0 0 (MQ below (zQi E A r.1 (mdW E a r.2)) ([.ref (a 0)] : List Value).toArray s 0 0 A) (F0 m 51 ls []) := by
              intro n_51
              induction n_51 with
              | zero => exact fun x1 x2 x3 v H locs ls hr hW hl => absurd (show (none : Option (Int32 × zHV)) = some r from hr) (fun h => by cases h)
              | succ n_51 ih_51 =>
                intro x1 x2 x3 v H locs ls hr hW hl
                have hr : lpB_X8_carryOut_51  (lp_X8_carryOut_29   n_29) j_107 (lp_X8_carryOut_51  (lp_X8_carryOut_29   n_29) j_107 n_51) x1 x2 x3 v = some r := hr
                unfold lpB_X8_carryOut_51 at hr
                refine lv_iload_n X.1 X.2.1 dX8_carryOut_51 rfl (lv_at hl 3 rfl) ?_
                refine lv_aload_n X.1 X.2.1 dX8_carryOut_52 rfl (lv_at hl 0 rfl) ?_
                refine z_get X hW 0 8 11 (C := RX8) (T := TX8) (N := 12) rfl rfl hn_X8 (by decide) q_3 rfl dX8_carryOut_53 ?_
                obtain ⟨j_94, e_94, hr⟩ := zjn_some hr
                have J_94 : ∀ (x1 : Int32) (x2 : Int32) (x3 : Int32) (v : zHV) (H : Heap) (locs : List Loc) (ls : Array Slot), j_94 x1 x2 x3 v = some r → zW E A s (mdW E a v) H locs → lv_has ls 4 [(0, .ref (a 0)), (1, .int x1), (2, .int x2), (3, .int x3)] → W p l e rm_X8_carryOut s m ([.ref (a 0)] : List Value).toArray below meth c H locs 0 0 (MQ below (zQi E A r.1 (mdW E a r.2)) ([.ref (a 0)] : List Value).toArray s 0 0 A) (F0 m 94 ls []) := by
                  intro x1 x2 x3 v H locs ls hr hW hl
                  rw [e_94] at hr
                  refine lv_aload_n X.1 X.2.1 dX8_carryOut_94 rfl (lv_at hl 0 rfl) ?_
                  refine lv_dup X.1 X.2.1 dX8_carryOut_95 rfl ?_
                  refine z_get X hW 0 8 8 (C := RX8) (T := TX8) (N := 12) rfl rfl hn_X8 (by decide) q_0 rfl dX8_carryOut_96 ?_
                  refine lv_iconst (v := 1) X.1 X.2.1 dX8_carryOut_99 (by decide) ?_
                  refine z_iadd X hr dX8_carryOut_100 (fun t100 hr => ?_)
                  refine z_put X hW hr (fun v101 => (mdW E a v101)) tyX8 tyX8_ok nmX8 0 8 8 (C := RX8) (T := TX8) (N := 12) rfl rfl hn_X8 (by decide) q_0 rfl rfl rfl (Nat.le_of_ble_eq_true rfl) rfl dX8_carryOut_101 (fun v101 H locs hr hW => ?_)
                  refine lv_goto (tgt := 29) X.1 X.2.1 dX8_carryOut_104 (by decide) ?_
                  exact ih_29 x1 x2 v101 _ _ _ hr hW (lv_sub hl [0, 1, 2] rfl)
                refine z_cmpge X 94 hr dX8_carryOut_56 (by decide) (fun hr => ?_) (fun hr => ?_)
                · exact J_94 x1 x2 x3 v _ _ _ hr hW (lv_sub hl [0, 1, 2, 3] rfl)
                · refine lv_iload_n X.1 X.2.1 dX8_carryOut_59 rfl (lv_at hl 2 rfl) ?_
                  refine z_ifeq X 94 hr dX8_carryOut_60 (by decide) (fun hr => ?_) (fun hr => ?_)
                  · exact J_94 x1 x2 x3 v _ _ _ hr hW (lv_sub hl [0, 1, 2, 3] rfl)
                  · refine lv_aload_n X.1 X.2.1 dX8_carryOut_63 rfl (lv_at hl 0 rfl) ?_
                    have hp_64 := (z_all (mdW E a v))
                    refine z_calli X hW (fun u => u) hr hp_64 (fun u => (mdW E a u)) (fun v64 => (mdW E a v64)) (fun u => (z_lla (mdW E a u))) (fun x u h => z_runV (As := []) (rest := []) X hW hp_64 (c_X8_doesOrder l E a v (x, u) h _) hy_X8_doesOrder 0 8 (C := RX8) (T := TX8) (N := 12) rfl rfl rfl gX8_carryOut_X8_doesOrder rfl rfl ⟨by decide, by decide⟩ rfl hl rfl rfl (Nat.le_of_ble_eq_true rfl) dX8_carryOut_64 ⟨Nat.zero_le _, Nat.zero_le _⟩) (fun t64 v64 H locs hr hW => ?_)
                    obtain ⟨j_75, e_75, hr⟩ := zjn_some hr
                    have J_75 : ∀ (x1 : Int32) (x2 : Int32) (x3 : Int32) (s0 : Int32) (v : zHV) (H : Heap) (locs : List Loc) (ls : Array Slot), j_75 x1 x2 x3 s0 v = some r → zW E A s (mdW E a v) H locs → lv_has ls 4 [(0, .ref (a 0)), (1, .int x1), (2, .int x2), (3, .int x3)] → W p l e rm_X8_carryOut s m ([.ref (a 0)] : List Value).toArray below meth c H locs 0 0 (MQ below (zQi E A r.1 (mdW E a r.2)) ([.ref (a 0)] : List Value).toArray s 0 0 A) (F0 m 75 ls [.int s0]) := by
                      intro x1 x2 x3 s0 v H locs ls hr hW hl
                      rw [e_75] at hr
                      refine lv_istore_n (lv' := [(2, .int s0), (0, .ref (a 0)), (1, .int x1), (3, .int x3)]) X.1 X.2.1 dX8_carryOut_75 rfl hl (by decide) rfl (fun ls hl => ?_)
                      refine lv_iload_n X.1 X.2.1 dX8_carryOut_76 rfl (lv_at hl 2 rfl) ?_
                      refine lv_iload_n X.1 X.2.1 dX8_carryOut_77 rfl (lv_at hl 0 rfl) ?_
                      refine z_ifeq X 85 hr dX8_carryOut_78 (by decide) (fun hr => ?_) (fun hr => ?_)
                      · refine lv_iconst (v := 0) X.1 X.2.1 dX8_carryOut_85 (by decide) ?_
                        refine z_iadd X hr dX8_carryOut_86 (fun t86 hr => ?_)
                        refine lv_istore_n (lv' := [(1, .int t86), (2, .int s0), (0, .ref (a 0)), (3, .int x3)]) X.1 X.2.1 dX8_carryOut_87 rfl hl (by decide) rfl (fun ls hl => ?_)
                        refine z_iinc X (fun x3_88 => [(3, .int x3_88), (1, .int t86), (2, .int s0), (0, .ref (a 0))]) hr hl (k := 3) rfl (by decide) (fun _ => rfl) dX8_carryOut_88 (fun x3_88 ls hr hl => ?_)
                        refine lv_goto (tgt := 51) X.1 X.2.1 dX8_carryOut_91 (by decide) ?_
                        exact ih_51 t86 s0 x3_88 v _ _ _ hr hW (lv_sub hl [3, 1, 2, 0] rfl)
                      · refine lv_iconst (v := 1) X.1 X.2.1 dX8_carryOut_81 (by decide) ?_
                        refine lv_goto (tgt := 86) X.1 X.2.1 dX8_carryOut_82 (by decide) ?_
                        refine z_iadd X hr dX8_carryOut_86 (fun t86 hr => ?_)
                        refine lv_istore_n (lv' := [(1, .int t86), (2, .int s0), (0, .ref (a 0)), (3, .int x3)]) X.1 X.2.1 dX8_carryOut_87 rfl hl (by decide) rfl (fun ls hl => ?_)
                        refine z_iinc X (fun x3_88 => [(3, .int x3_88), (1, .int t86), (2, .int s0), (0, .ref (a 0))]) hr hl (k := 3) rfl (by decide) (fun _ => rfl) dX8_carryOut_88 (fun x3_88 ls hr hl => ?_)
                        refine lv_goto (tgt := 51) X.1 X.2.1 dX8_carryOut_91 (by decide) ?_
                        exact ih_51 t86 s0 x3_88 v _ _ _ hr hW (lv_sub hl [3, 1, 2, 0] rfl)
                    refine z_iflt X 74 hr dX8_carryOut_67 (by decide) (fun hr => ?_) (fun hr => ?_)
                    · refine lv_iconst (v := 0) X.1 X.2.1 dX8_carryOut_74 (by decide) ?_
                      exact J_75 x1 x2 x3 0 v64 _ _ _ hr hW (lv_sub hl [0, 1, 2, 3] rfl)
                    · refine lv_iconst (v := 1) X.1 X.2.1 dX8_carryOut_70 (by decide) ?_
                      refine lv_goto (tgt := 75) X.1 X.2.1 dX8_carryOut_71 (by decide) ?_
                      exact J_75 x1 x2 x3 1 v64 _ _ _ hr hW (lv_sub hl [0, 1, 2, 3] rfl)
            exact L_51 _ x1 t45 0 v45 _ _ _ hr hW (lv_sub hl [2, 3, 1, 0] rfl)
    exact L_29 _ 0 1 v22 _ _ _ hr hW (lv_sub hl [2, 1, 0] rfl)
  · refine lv_bipush (v := (-3)) X.1 X.2.1 dX8_carryOut_9 (by decide) ?_
    cases hr
    exact z_iret X hW rfl dX8_carryOut_11
