abbrev rm_X3_digitHere : Room := { frames := 1, cells := 0, slots := 0, locals := 21 }
theorem hy_X3_digitHere : zY yX3_digitHere wsX3_digitHere cX3_digitHere 2 (some .int) 0 := ⟨⟨_, rfl⟩, by decide, by decide, by decide +kernel⟩
def d_X3_digitHere (v : zHV) : Option (Int32) :=
zcl (d_X4_codeAt v (v 2 0)) fun t8 =>
(if t8 < 48 then
some (-1)
else
(if 57 < t8 then
some (-1)
else
zlet (t8 - 48) fun t27 =>
some t27))
set_option maxHeartbeats 4000000 in
set_option maxRecDepth 100000 in
theorem c_X3_digitHere (l : Launch) (E : zE) (a : Nat → Nat) (v : zHV) (r : Int32) (h : d_X3_digitHere v = some r) : zMi l E yX3_digitHere wsX3_digitHere rm_X3_digitHere [.ref (a 0)] (rdW E a v) r (rdW E a v) := by
  intro sz
  refine z_entry (Qc := fun A => zQi E A r (rdW E a v)) (by decide) rfl (Nat.le_of_ble_eq_true rfl) ?_
  intro p e s m below meth c A X hW ls hl
  have X : zX E wsX3_digitHere RX3 cX3_digitHere 2 (some .int) yX3_digitHere p s m ([.ref (a 0)] : List Value).toArray meth c A := X
  have hl : lv_has ls 2 [(0, .ref (a 0))] := hl
  have hr : d_X3_digitHere v = some r := h
  clear h
  have q_0 : Cond.fieldLink RX3 9 "ApplauseTallies$OrderReader" "pad" "LApplauseTallies$Pad;" ∈ wsX3_digitHere := List.mem_of_getElem? (i := 1) rfl
  have hn_X3 : ∀ x ∈ wsX30, x ∈ wsX3_digitHere := zz_in [10, 11, 12, 13, 14] (by decide +kernel)
  have q_2 : Cond.fieldLink RX3 15 "ApplauseTallies$OrderReader" "place" "I" ∈ wsX3_digitHere := List.mem_of_getElem? (i := 2) rfl
  unfold d_X3_digitHere at hr
  refine lv_aload_n X.1 X.2.1 dX3_digitHere_0 rfl (lv_at hl 0 rfl) ?_
  refine z_get X hW 0 3 0 (C := RX3) (T := TX3) (N := 5) rfl rfl hn_X3 (by decide) q_0 rfl dX3_digitHere_1 ?_
  refine lv_aload_n X.1 X.2.1 dX3_digitHere_4 rfl (lv_at hl 0 rfl) ?_
  refine z_get X hW 0 3 1 (C := RX3) (T := TX3) (N := 5) rfl rfl hn_X3 (by decide) q_2 rfl dX3_digitHere_5 ?_
  have hp_8 := (sp_rd_1 E a v)
  refine z_callp X hW hr hp_8 (fun x h => z_runV (As := [.int (v 2 0)]) (rest := []) X hW hp_8 (c_X4_codeAt l E (zh a 1) v (v 2 0) x h _) hy_X4_codeAt 1 4 (C := RX4) (T := TX4) (N := 2) rfl rfl rfl gX3_digitHere_X4_codeAt rfl rfl ⟨by decide, by decide⟩ rfl hl rfl rfl (Nat.le_of_ble_eq_true rfl) dX3_digitHere_8 ⟨Nat.zero_le _, Nat.zero_le _⟩) (fun t8 H locs hr hW => ?_)
  refine lv_istore_n (lv' := [(1, .int t8), (0, .ref (a 0))]) X.1 X.2.1 dX3_digitHere_11 rfl hl (by decide) rfl (fun ls hl => ?_)
  refine lv_iload_n X.1 X.2.1 dX3_digitHere_12 rfl (lv_at hl 0 rfl) ?_
  refine lv_bipush (v := 48) X.1 X.2.1 dX3_digitHere_13 (by decide) ?_
  refine z_cmplt X 31 hr dX3_digitHere_15 (by decide) (fun hr => ?_) (fun hr => ?_)
  · refine lv_iconst (v := (-1)) X.1 X.2.1 dX3_digitHere_31 (by decide) ?_
    cases hr
    exact z_iret X hW rfl dX3_digitHere_32
  · refine lv_iload_n X.1 X.2.1 dX3_digitHere_18 rfl (lv_at hl 0 rfl) ?_
    refine lv_bipush (v := 57) X.1 X.2.1 dX3_digitHere_19 (by decide) ?_
    refine z_cmpgt X 31 hr dX3_digitHere_21 (by decide) (fun hr => ?_) (fun hr => ?_)
    · refine lv_iconst (v := (-1)) X.1 X.2.1 dX3_digitHere_31 (by decide) ?_
      cases hr
      exact z_iret X hW rfl dX3_digitHere_32
    · refine lv_iload_n X.1 X.2.1 dX3_digitHere_24 rfl (lv_at hl 0 rfl) ?_
      refine lv_bipush (v := 48) X.1 X.2.1 dX3_digitHere_25 (by decide) ?_
      refine z_isub X hr dX3_digitHere_27 (fun t27 hr => ?_)
      refine lv_goto (tgt := 32) X.1 X.2.1 dX3_digitHere_28 (by decide) ?_
      cases hr
      exact z_iret X hW rfl dX3_digitHere_32
abbrev rm_X3_readNumber : Room := { frames := 2, cells := 0, slots := 0, locals := 42 }
theorem hy_X3_readNumber : zY yX3_readNumber wsX3_readNumber cX3_readNumber 3 (some .boolean) 1 := ⟨⟨_, rfl⟩, by decide, by decide, by decide +kernel⟩
def d_X3_readNumber (v : zHV) (p1 : Int32) : Option (Int32 × zHV) :=
zcl (d_X3_digitHere v) fun t2 =>
zlet (zs v 2 2 t2) fun v5 =>
(if 0 ≤ (v5 2 2) then
zlet ((v5 2 0) + 1) fun t23 =>
zlet (zs v5 2 0 t23) fun v24 =>
zcl (d_X3_digitHere v24) fun t28 =>
(if p1 ≤ 1 then
some (1, v24)
else
(if (v24 2 2) ≤ 0 then
some (1, v24)
else
(if t28 < 0 then
some (1, v24)
else
zlet ((v24 2 2) * 10) fun t55 =>
zlet (t55 + t28) fun t57 =>
zlet (zs v24 2 2 t57) fun v58 =>
zlet ((v58 2 0) + 1) fun t67 =>
zlet (zs v58 2 0 t67) fun v68 =>
some (1, v68))))
else
some (0, v5))
set_option maxHeartbeats 4000000 in
set_option maxRecDepth 100000 in
theorem c_X3_readNumber (l : Launch) (E : zE) (a : Nat → Nat) (v : zHV) (p1 : Int32) (r : Int32 × zHV) (h : d_X3_readNumber v p1 = some r) : zMi l E yX3_readNumber wsX3_readNumber rm_X3_readNumber [.ref (a 0), .int p1] (rdW E a v) r.1 (rdW E a r.2) := by
  intro sz
  refine z_entry (Qc := fun A => zQi E A r.1 (rdW E a r.2)) (by decide) rfl (Nat.le_of_ble_eq_true rfl) ?_
  intro p e s m below meth c A X hW ls hl
  have X : zX E wsX3_readNumber RX3 cX3_readNumber 3 (some .boolean) yX3_readNumber p s m ([.ref (a 0), .int p1] : List Value).toArray meth c A := X
  have hl : lv_has ls 3 [(0, .ref (a 0)), (1, .int p1)] := hl
  have hr : d_X3_readNumber v p1 = some r := h
  clear h
  have q_0 : Cond.fieldLink RX3 43 "ApplauseTallies$OrderReader" "number" "I" ∈ wsX3_readNumber := List.mem_of_getElem? (i := 1) rfl
  have hn_X3 : ∀ x ∈ wsX30, x ∈ wsX3_readNumber := zz_in [16, 17, 18, 19, 20] (by decide +kernel)
  have q_2 : Cond.fieldLink RX3 15 "ApplauseTallies$OrderReader" "place" "I" ∈ wsX3_readNumber := List.mem_of_getElem? (i := 2) rfl
  unfold d_X3_readNumber at hr
  refine lv_aload_n X.1 X.2.1 dX3_readNumber_0 rfl (lv_at hl 0 rfl) ?_
  refine lv_aload_n X.1 X.2.1 dX3_readNumber_1 rfl (lv_at hl 0 rfl) ?_
  have hp_2 := (z_all (rdW E a v))
  refine z_callp X hW hr hp_2 (fun x h => z_runV (As := []) (rest := [.ref (a 0)]) X hW hp_2 (c_X3_digitHere l E a v x h _) hy_X3_digitHere 0 3 (C := RX3) (T := TX3) (N := 5) rfl rfl rfl gX3_readNumber_X3_digitHere rfl rfl ⟨by decide, by decide⟩ rfl hl rfl rfl (Nat.le_of_ble_eq_true rfl) dX3_readNumber_2 ⟨Nat.zero_le _, Nat.zero_le _⟩) (fun t2 H locs hr hW => ?_)
  refine z_put X hW hr (fun v5 => (rdW E a v5)) tyX3 tyX3_ok nmX3 0 3 3 (C := RX3) (T := TX3) (N := 5) rfl rfl hn_X3 (by decide) q_0 rfl rfl rfl (Nat.le_of_ble_eq_true rfl) rfl dX3_readNumber_5 (fun v5 H locs hr hW => ?_)
  refine lv_aload_n X.1 X.2.1 dX3_readNumber_8 rfl (lv_at hl 0 rfl) ?_
  refine z_get X hW 0 3 3 (C := RX3) (T := TX3) (N := 5) rfl rfl hn_X3 (by decide) q_0 rfl dX3_readNumber_9 ?_
  refine z_ifge X 17 hr dX3_readNumber_12 (by decide) (fun hr => ?_) (fun hr => ?_)
  · refine lv_aload_n X.1 X.2.1 dX3_readNumber_17 rfl (lv_at hl 0 rfl) ?_
    refine lv_dup X.1 X.2.1 dX3_readNumber_18 rfl ?_
    refine z_get X hW 0 3 1 (C := RX3) (T := TX3) (N := 5) rfl rfl hn_X3 (by decide) q_2 rfl dX3_readNumber_19 ?_
    refine lv_iconst (v := 1) X.1 X.2.1 dX3_readNumber_22 (by decide) ?_
    refine z_iadd X hr dX3_readNumber_23 (fun t23 hr => ?_)
    refine z_put X hW hr (fun v24 => (rdW E a v24)) tyX3 tyX3_ok nmX3 0 3 1 (C := RX3) (T := TX3) (N := 5) rfl rfl hn_X3 (by decide) q_2 rfl rfl rfl (Nat.le_of_ble_eq_true rfl) rfl dX3_readNumber_24 (fun v24 H locs hr hW => ?_)
    refine lv_aload_n X.1 X.2.1 dX3_readNumber_27 rfl (lv_at hl 0 rfl) ?_
    have hp_28 := (z_all (rdW E a v24))
    refine z_callp X hW hr hp_28 (fun x h => z_runV (As := []) (rest := []) X hW hp_28 (c_X3_digitHere l E a v24 x h _) hy_X3_digitHere 0 3 (C := RX3) (T := TX3) (N := 5) rfl rfl rfl gX3_readNumber_X3_digitHere rfl rfl ⟨by decide, by decide⟩ rfl hl rfl rfl (Nat.le_of_ble_eq_true rfl) dX3_readNumber_28 ⟨Nat.zero_le _, Nat.zero_le _⟩) (fun t28 H locs hr hW => ?_)
    refine lv_istore_n (lv' := [(2, .int t28), (0, .ref (a 0)), (1, .int p1)]) X.1 X.2.1 dX3_readNumber_31 rfl hl (by decide) rfl (fun ls hl => ?_)
    refine lv_iload_n X.1 X.2.1 dX3_readNumber_32 rfl (lv_at hl 2 rfl) ?_
    refine lv_iconst (v := 1) X.1 X.2.1 dX3_readNumber_33 (by decide) ?_
    refine z_cmple X 71 hr dX3_readNumber_34 (by decide) (fun hr => ?_) (fun hr => ?_)
    · refine lv_iconst (v := 1) X.1 X.2.1 dX3_readNumber_71 (by decide) ?_
      cases hr
      exact z_zret X hW rfl rfl dX3_readNumber_72
    · refine lv_aload_n X.1 X.2.1 dX3_readNumber_37 rfl (lv_at hl 1 rfl) ?_
      refine z_get X hW 0 3 3 (C := RX3) (T := TX3) (N := 5) rfl rfl hn_X3 (by decide) q_0 rfl dX3_readNumber_38 ?_
      refine z_ifle X 71 hr dX3_readNumber_41 (by decide) (fun hr => ?_) (fun hr => ?_)
      · refine lv_iconst (v := 1) X.1 X.2.1 dX3_readNumber_71 (by decide) ?_
        cases hr
        exact z_zret X hW rfl rfl dX3_readNumber_72
      · refine lv_iload_n X.1 X.2.1 dX3_readNumber_44 rfl (lv_at hl 0 rfl) ?_
        refine z_iflt X 71 hr dX3_readNumber_45 (by decide) (fun hr => ?_) (fun hr => ?_)
        · refine lv_iconst (v := 1) X.1 X.2.1 dX3_readNumber_71 (by decide) ?_
          cases hr
          exact z_zret X hW rfl rfl dX3_readNumber_72
        · refine lv_aload_n X.1 X.2.1 dX3_readNumber_48 rfl (lv_at hl 1 rfl) ?_
          refine lv_aload_n X.1 X.2.1 dX3_readNumber_49 rfl (lv_at hl 1 rfl) ?_
          refine z_get X hW 0 3 3 (C := RX3) (T := TX3) (N := 5) rfl rfl hn_X3 (by decide) q_0 rfl dX3_readNumber_50 ?_
          refine lv_bipush (v := 10) X.1 X.2.1 dX3_readNumber_53 (by decide) ?_
          refine z_imul X hr dX3_readNumber_55 (fun t55 hr => ?_)
          refine lv_iload_n X.1 X.2.1 dX3_readNumber_56 rfl (lv_at hl 0 rfl) ?_
          refine z_iadd X hr dX3_readNumber_57 (fun t57 hr => ?_)
          refine z_put X hW hr (fun v58 => (rdW E a v58)) tyX3 tyX3_ok nmX3 0 3 3 (C := RX3) (T := TX3) (N := 5) rfl rfl hn_X3 (by decide) q_0 rfl rfl rfl (Nat.le_of_ble_eq_true rfl) rfl dX3_readNumber_58 (fun v58 H locs hr hW => ?_)
          refine lv_aload_n X.1 X.2.1 dX3_readNumber_61 rfl (lv_at hl 1 rfl) ?_
          refine lv_dup X.1 X.2.1 dX3_readNumber_62 rfl ?_
          refine z_get X hW 0 3 1 (C := RX3) (T := TX3) (N := 5) rfl rfl hn_X3 (by decide) q_2 rfl dX3_readNumber_63 ?_
          refine lv_iconst (v := 1) X.1 X.2.1 dX3_readNumber_66 (by decide) ?_
          refine z_iadd X hr dX3_readNumber_67 (fun t67 hr => ?_)
          refine z_put X hW hr (fun v68 => (rdW E a v68)) tyX3 tyX3_ok nmX3 0 3 1 (C := RX3) (T := TX3) (N := 5) rfl rfl hn_X3 (by decide) q_2 rfl rfl rfl (Nat.le_of_ble_eq_true rfl) rfl dX3_readNumber_68 (fun v68 H locs hr hW => ?_)
          refine lv_iconst (v := 1) X.1 X.2.1 dX3_readNumber_71 (by decide) ?_
          cases hr
          exact z_zret X hW rfl rfl dX3_readNumber_72
  · refine lv_iconst (v := 0) X.1 X.2.1 dX3_readNumber_15 (by decide) ?_
    cases hr
    exact z_zret X hW rfl rfl dX3_readNumber_16
abbrev rm_X3_readSign : Room := { frames := 1, cells := 0, slots := 0, locals := 21 }
theorem hy_X3_readSign : zY yX3_readSign wsX3_readSign cX3_readSign 2 (some .boolean) 1 := ⟨⟨_, rfl⟩, by decide, by decide, by decide +kernel⟩
def d_X3_readSign (v : zHV) (p1 : Int32) : Option (Int32 × zHV) :=
zcl (d_X4_codeAt v (v 2 0)) fun t8 =>
(if t8 = p1 then
zlet ((v 2 0) + 1) fun t23 =>
zlet (zs v 2 0 t23) fun v24 =>
some (1, v24)
else
some (0, v))
set_option maxHeartbeats 4000000 in
set_option maxRecDepth 100000 in
theorem c_X3_readSign (l : Launch) (E : zE) (a : Nat → Nat) (v : zHV) (p1 : Int32) (r : Int32 × zHV) (h : d_X3_readSign v p1 = some r) : zMi l E yX3_readSign wsX3_readSign rm_X3_readSign [.ref (a 0), .int p1] (rdW E a v) r.1 (rdW E a r.2) := by
  intro sz
  refine z_entry (Qc := fun A => zQi E A r.1 (rdW E a r.2)) (by decide) rfl (Nat.le_of_ble_eq_true rfl) ?_
  intro p e s m below meth c A X hW ls hl
  have X : zX E wsX3_readSign RX3 cX3_readSign 2 (some .boolean) yX3_readSign p s m ([.ref (a 0), .int p1] : List Value).toArray meth c A := X
  have hl : lv_has ls 2 [(0, .ref (a 0)), (1, .int p1)] := hl
  have hr : d_X3_readSign v p1 = some r := h
  clear h
  have q_0 : Cond.fieldLink RX3 9 "ApplauseTallies$OrderReader" "pad" "LApplauseTallies$Pad;" ∈ wsX3_readSign := List.mem_of_getElem? (i := 1) rfl
  have hn_X3 : ∀ x ∈ wsX30, x ∈ wsX3_readSign := zz_in [10, 11, 12, 13, 14] (by decide +kernel)
  have q_2 : Cond.fieldLink RX3 15 "ApplauseTallies$OrderReader" "place" "I" ∈ wsX3_readSign := List.mem_of_getElem? (i := 2) rfl
  unfold d_X3_readSign at hr
  refine lv_aload_n X.1 X.2.1 dX3_readSign_0 rfl (lv_at hl 0 rfl) ?_
  refine z_get X hW 0 3 0 (C := RX3) (T := TX3) (N := 5) rfl rfl hn_X3 (by decide) q_0 rfl dX3_readSign_1 ?_
  refine lv_aload_n X.1 X.2.1 dX3_readSign_4 rfl (lv_at hl 0 rfl) ?_
  refine z_get X hW 0 3 1 (C := RX3) (T := TX3) (N := 5) rfl rfl hn_X3 (by decide) q_2 rfl dX3_readSign_5 ?_
  have hp_8 := (sp_rd_1 E a v)
  refine z_callp X hW hr hp_8 (fun x h => z_runV (As := [.int (v 2 0)]) (rest := []) X hW hp_8 (c_X4_codeAt l E (zh a 1) v (v 2 0) x h _) hy_X4_codeAt 1 4 (C := RX4) (T := TX4) (N := 2) rfl rfl rfl gX3_readSign_X4_codeAt rfl rfl ⟨by decide, by decide⟩ rfl hl rfl rfl (Nat.le_of_ble_eq_true rfl) dX3_readSign_8 ⟨Nat.zero_le _, Nat.zero_le _⟩) (fun t8 H locs hr hW => ?_)
  refine lv_iload_n X.1 X.2.1 dX3_readSign_11 rfl (lv_at hl 1 rfl) ?_
  refine z_cmpeq X 17 hr dX3_readSign_12 (by decide) (fun hr => ?_) (fun hr => ?_)
  · refine lv_aload_n X.1 X.2.1 dX3_readSign_17 rfl (lv_at hl 0 rfl) ?_
    refine lv_dup X.1 X.2.1 dX3_readSign_18 rfl ?_
    refine z_get X hW 0 3 1 (C := RX3) (T := TX3) (N := 5) rfl rfl hn_X3 (by decide) q_2 rfl dX3_readSign_19 ?_
    refine lv_iconst (v := 1) X.1 X.2.1 dX3_readSign_22 (by decide) ?_
    refine z_iadd X hr dX3_readSign_23 (fun t23 hr => ?_)
    refine z_put X hW hr (fun v24 => (rdW E a v24)) tyX3 tyX3_ok nmX3 0 3 1 (C := RX3) (T := TX3) (N := 5) rfl rfl hn_X3 (by decide) q_2 rfl rfl rfl (Nat.le_of_ble_eq_true rfl) rfl dX3_readSign_24 (fun v24 H locs hr hW => ?_)
    refine lv_iconst (v := 1) X.1 X.2.1 dX3_readSign_27 (by decide) ?_
    cases hr
    exact z_zret X hW rfl rfl dX3_readSign_28
  · refine lv_iconst (v := 0) X.1 X.2.1 dX3_readSign_15 (by decide) ?_
    cases hr
    exact z_zret X hW rfl rfl dX3_readSign_16
abbrev rm_X3_readTimes : Room := { frames := 3, cells := 0, slots := 0, locals := 64 }
theorem hy_X3_readTimes : zY yX3_readTimes wsX3_readTimes cX3_readTimes 3 (some .boolean) 0 := ⟨⟨_, rfl⟩, by decide, by decide, by decide +kernel⟩
def d_X3_readTimes (v : zHV) : Option (Int32 × zHV) :=
zup2 (d_X3_readSign v 42) (fun u => u) fun t3 v3 =>
(if t3 = 0 then
some (1, v3)
else
zup2 (d_X3_readNumber v3 2) (fun u => u) fun t18 v18 =>
zlet (zs v18 2 3 (v18 2 2)) fun v27 =>
zlet (zs v27 2 2 (v3 2 2)) fun v32 =>
zgb t18 (some (t18, v32)))
set_option maxHeartbeats 4000000 in
set_option maxRecDepth 100000 in
theorem c_X3_readTimes (l : Launch) (E : zE) (a : Nat → Nat) (v : zHV) (r : Int32 × zHV) (h : d_X3_readTimes v = some r) : zMi l E yX3_readTimes wsX3_readTimes rm_X3_readTimes [.ref (a 0)] (rdW E a v) r.1 (rdW E a r.2) := by
  intro sz
  refine z_entry (Qc := fun A => zQi E A r.1 (rdW E a r.2)) (by decide) rfl (Nat.le_of_ble_eq_true rfl) ?_
  intro p e s m below meth c A X hW ls hl
  have X : zX E wsX3_readTimes RX3 cX3_readTimes 3 (some .boolean) yX3_readTimes p s m ([.ref (a 0)] : List Value).toArray meth c A := X
  have hl : lv_has ls 3 [(0, .ref (a 0))] := hl
  have hr : d_X3_readTimes v = some r := h
  clear h
  have q_0 : Cond.fieldLink RX3 43 "ApplauseTallies$OrderReader" "number" "I" ∈ wsX3_readTimes := List.mem_of_getElem? (i := 1) rfl
  have hn_X3 : ∀ x ∈ wsX30, x ∈ wsX3_readTimes := zz_in [25, 26, 27, 28, 29] (by decide +kernel)
  have q_2 : Cond.fieldLink RX3 33 "ApplauseTallies$OrderReader" "times" "I" ∈ wsX3_readTimes := List.mem_of_getElem? (i := 2) rfl
  unfold d_X3_readTimes at hr
  refine lv_aload_n X.1 X.2.1 dX3_readTimes_0 rfl (lv_at hl 0 rfl) ?_
  refine lv_bipush (v := 42) X.1 X.2.1 dX3_readTimes_1 (by decide) ?_
  have hp_3 := (z_all (rdW E a v))
  refine z_calli X hW (fun u => u) hr hp_3 (fun u => (rdW E a u)) (fun v3 => (rdW E a v3)) (fun u => (z_lla (rdW E a u))) (fun x u h => z_runV (As := [.int 42]) (rest := []) X hW hp_3 (c_X3_readSign l E a v 42 (x, u) h _) hy_X3_readSign 0 3 (C := RX3) (T := TX3) (N := 5) rfl rfl rfl gX3_readTimes_X3_readSign rfl rfl ⟨by decide, by decide⟩ rfl hl rfl rfl (Nat.le_of_ble_eq_true rfl) dX3_readTimes_3 ⟨Nat.zero_le _, Nat.zero_le _⟩) (fun t3 v3 H locs hr hW => ?_)
  refine z_ifne X 11 hr dX3_readTimes_6 (by decide) (fun hr => ?_) (fun hr => ?_)
  · refine lv_aload_n X.1 X.2.1 dX3_readTimes_11 rfl (lv_at hl 0 rfl) ?_
    refine z_get X hW 0 3 3 (C := RX3) (T := TX3) (N := 5) rfl rfl hn_X3 (by decide) q_0 rfl dX3_readTimes_12 ?_
    refine lv_istore_n (lv' := [(1, .int (v3 2 2)), (0, .ref (a 0))]) X.1 X.2.1 dX3_readTimes_15 rfl hl (by decide) rfl (fun ls hl => ?_)
    refine lv_aload_n X.1 X.2.1 dX3_readTimes_16 rfl (lv_at hl 1 rfl) ?_
    refine lv_iconst (v := 2) X.1 X.2.1 dX3_readTimes_17 (by decide) ?_
    have hp_18 := (z_all (rdW E a v3))
    refine z_calli X hW (fun u => u) hr hp_18 (fun u => (rdW E a u)) (fun v18 => (rdW E a v18)) (fun u => (z_lla (rdW E a u))) (fun x u h => z_runV (As := [.int 2]) (rest := []) X hW hp_18 (c_X3_readNumber l E a v3 2 (x, u) h _) hy_X3_readNumber 0 3 (C := RX3) (T := TX3) (N := 5) rfl rfl rfl gX3_readTimes_X3_readNumber rfl rfl ⟨by decide, by decide⟩ rfl hl rfl rfl (Nat.le_of_ble_eq_true rfl) dX3_readTimes_18 ⟨Nat.zero_le _, Nat.zero_le _⟩) (fun t18 v18 H locs hr hW => ?_)
    refine lv_istore_n (lv' := [(2, .int t18), (1, .int (v3 2 2)), (0, .ref (a 0))]) X.1 X.2.1 dX3_readTimes_21 rfl hl (by decide) rfl (fun ls hl => ?_)
    refine lv_aload_n X.1 X.2.1 dX3_readTimes_22 rfl (lv_at hl 2 rfl) ?_
    refine lv_aload_n X.1 X.2.1 dX3_readTimes_23 rfl (lv_at hl 2 rfl) ?_
    refine z_get X hW 0 3 3 (C := RX3) (T := TX3) (N := 5) rfl rfl hn_X3 (by decide) q_0 rfl dX3_readTimes_24 ?_
    refine z_put X hW hr (fun v27 => (rdW E a v27)) tyX3 tyX3_ok nmX3 0 3 4 (C := RX3) (T := TX3) (N := 5) rfl rfl hn_X3 (by decide) q_2 rfl rfl rfl (Nat.le_of_ble_eq_true rfl) rfl dX3_readTimes_27 (fun v27 H locs hr hW => ?_)
    refine lv_aload_n X.1 X.2.1 dX3_readTimes_30 rfl (lv_at hl 2 rfl) ?_
    refine lv_iload_n X.1 X.2.1 dX3_readTimes_31 rfl (lv_at hl 1 rfl) ?_
    refine z_put X hW hr (fun v32 => (rdW E a v32)) tyX3 tyX3_ok nmX3 0 3 3 (C := RX3) (T := TX3) (N := 5) rfl rfl hn_X3 (by decide) q_0 rfl rfl rfl (Nat.le_of_ble_eq_true rfl) rfl dX3_readTimes_32 (fun v32 H locs hr hW => ?_)
    refine lv_iload_n X.1 X.2.1 dX3_readTimes_35 rfl (lv_at hl 0 rfl) ?_
    obtain ⟨hg, hr⟩ := zgb_some hr
    cases hr
    exact z_zret X hW rfl (zgb_n hg) dX3_readTimes_36
  · refine lv_iconst (v := 1) X.1 X.2.1 dX3_readTimes_9 (by decide) ?_
    cases hr
    exact z_zret X hW rfl rfl dX3_readTimes_10
abbrev rm_X3_readOrder : Room := { frames := 4, cells := 0, slots := 0, locals := 86 }
theorem hy_X3_readOrder : zY yX3_readOrder wsX3_readOrder cX3_readOrder 1 (some .boolean) 0 := ⟨⟨_, rfl⟩, by decide, by decide, by decide +kernel⟩
def d_X3_readOrder (v : zHV) : Option (Int32 × zHV) :=
zcl (d_X4_codeAt v (v 2 0)) fun t9 =>
zlet (zs v 2 1 t9) fun v12 =>
zlet (zs v12 2 3 1) fun v17 =>
(if (v17 2 1) = 99 then
zlet ((v17 2 0) + 1) fun t174 =>
zlet (zs v17 2 0 t174) fun v175 =>
zup2 (d_X3_readNumber v175 2) (fun u => u) fun t180 v180 =>
(if t180 = 0 then
some (0, v180)
else
zup2 (d_X3_readTimes v180) (fun u => u) fun t187 v187 =>
(if t187 = 0 then
some (0, v187)
else
some (1, v187)))
else
(if (v17 2 1) = 100 then
some (0, v17)
else
(if (v17 2 1) = 101 then
zlet ((v17 2 0) + 1) fun t142 =>
zlet (zs v17 2 0 t142) fun v143 =>
zup2 (d_X3_readNumber v143 1) (fun u => u) fun t148 v148 =>
zgb t148 (some (t148, v148))
else
(if (v17 2 1) = 102 then
some (0, v17)
else
(if (v17 2 1) = 103 then
some (0, v17)
else
(if (v17 2 1) = 104 then
zlet ((v17 2 0) + 1) fun t158 =>
zlet (zs v17 2 0 t158) fun v159 =>
zup2 (d_X3_readNumber v159 2) (fun u => u) fun t164 v164 =>
zgb t164 (some (t164, v164))
else
(if (v17 2 1) = 105 then
some (0, v17)
else
(if (v17 2 1) = 106 then
some (0, v17)
else
(if (v17 2 1) = 107 then
zlet ((v17 2 0) + 1) fun t130 =>
zlet (zs v17 2 0 t130) fun v131 =>
some (1, v131)
else
(if (v17 2 1) = 108 then
some (0, v17)
else
(if (v17 2 1) = 109 then
some (0, v17)
else
(if (v17 2 1) = 110 then
zlet ((v17 2 0) + 1) fun t130 =>
zlet (zs v17 2 0 t130) fun v131 =>
some (1, v131)
else
(if (v17 2 1) = 111 then
some (0, v17)
else
(if (v17 2 1) = 112 then
zlet ((v17 2 0) + 1) fun t142 =>
zlet (zs v17 2 0 t142) fun v143 =>
zup2 (d_X3_readNumber v143 1) (fun u => u) fun t148 v148 =>
zgb t148 (some (t148, v148))
else
(if (v17 2 1) = 113 then
some (0, v17)
else
(if (v17 2 1) = 114 then
some (0, v17)
else
(if (v17 2 1) = 115 then
some (0, v17)
else
(if (v17 2 1) = 116 then
some (0, v17)
else
(if (v17 2 1) = 117 then
some (0, v17)
else
(if (v17 2 1) = 118 then
some (0, v17)
else
(if (v17 2 1) = 119 then
zlet ((v17 2 0) + 1) fun t158 =>
zlet (zs v17 2 0 t158) fun v159 =>
zup2 (d_X3_readNumber v159 2) (fun u => u) fun t164 v164 =>
zgb t164 (some (t164, v164))
else
some (0, v17))))))))))))))))))))))
set_option maxHeartbeats 4000000 in
set_option maxRecDepth 100000 in
theorem c_X3_readOrder (l : Launch) (E : zE) (a : Nat → Nat) (v : zHV) (r : Int32 × zHV) (h : d_X3_readOrder v = some r) : zMi l E yX3_readOrder wsX3_readOrder rm_X3_readOrder [.ref (a 0)] (rdW E a v) r.1 (rdW E a r.2) := by
  intro sz
  refine z_entry (Qc := fun A => zQi E A r.1 (rdW E a r.2)) (by decide) rfl (Nat.le_of_ble_eq_true rfl) ?_
  intro p e s m below meth c A X hW ls hl
  have X : zX E wsX3_readOrder RX3 cX3_readOrder 1 (some .boolean) yX3_readOrder p s m ([.ref (a 0)] : List Value).toArray meth c A := X
  have hl : lv_has ls 1 [(0, .ref (a 0))] := hl
  have hr : d_X3_readOrder v = some r := h
  clear h
  have q_0 : Cond.fieldLink RX3 9 "ApplauseTallies$OrderReader" "pad" "LApplauseTallies$Pad;" ∈ wsX3_readOrder := List.mem_of_getElem? (i := 1) rfl
  have hn_X3 : ∀ x ∈ wsX30, x ∈ wsX3_readOrder := zz_in [30, 31, 32, 33, 34] (by decide +kernel)
  have q_2 : Cond.fieldLink RX3 15 "ApplauseTallies$OrderReader" "place" "I" ∈ wsX3_readOrder := List.mem_of_getElem? (i := 2) rfl
  have q_3 : Cond.fieldLink RX3 40 "ApplauseTallies$OrderReader" "kind" "I" ∈ wsX3_readOrder := List.mem_of_getElem? (i := 3) rfl
  have q_4 : Cond.fieldLink RX3 33 "ApplauseTallies$OrderReader" "times" "I" ∈ wsX3_readOrder := List.mem_of_getElem? (i := 4) rfl
  unfold d_X3_readOrder at hr
  refine lv_aload_n X.1 X.2.1 dX3_readOrder_0 rfl (lv_at hl 0 rfl) ?_
  refine lv_aload_n X.1 X.2.1 dX3_readOrder_1 rfl (lv_at hl 0 rfl) ?_
  refine z_get X hW 0 3 0 (C := RX3) (T := TX3) (N := 5) rfl rfl hn_X3 (by decide) q_0 rfl dX3_readOrder_2 ?_
  refine lv_aload_n X.1 X.2.1 dX3_readOrder_5 rfl (lv_at hl 0 rfl) ?_
  refine z_get X hW 0 3 1 (C := RX3) (T := TX3) (N := 5) rfl rfl hn_X3 (by decide) q_2 rfl dX3_readOrder_6 ?_
  have hp_9 := (sp_rd_1 E a v)
  refine z_callp X hW hr hp_9 (fun x h => z_runV (As := [.int (v 2 0)]) (rest := [.ref (a 0)]) X hW hp_9 (c_X4_codeAt l E (zh a 1) v (v 2 0) x h _) hy_X4_codeAt 1 4 (C := RX4) (T := TX4) (N := 2) rfl rfl rfl gX3_readOrder_X4_codeAt rfl rfl ⟨by decide, by decide⟩ rfl hl rfl rfl (Nat.le_of_ble_eq_true rfl) dX3_readOrder_9 ⟨Nat.zero_le _, Nat.zero_le _⟩) (fun t9 H locs hr hW => ?_)
  refine z_put X hW hr (fun v12 => (rdW E a v12)) tyX3 tyX3_ok nmX3 0 3 2 (C := RX3) (T := TX3) (N := 5) rfl rfl hn_X3 (by decide) q_3 rfl rfl rfl (Nat.le_of_ble_eq_true rfl) rfl dX3_readOrder_12 (fun v12 H locs hr hW => ?_)
  refine lv_aload_n X.1 X.2.1 dX3_readOrder_15 rfl (lv_at hl 0 rfl) ?_
  refine lv_iconst (v := 1) X.1 X.2.1 dX3_readOrder_16 (by decide) ?_
  refine z_put X hW hr (fun v17 => (rdW E a v17)) tyX3 tyX3_ok nmX3 0 3 4 (C := RX3) (T := TX3) (N := 5) rfl rfl hn_X3 (by decide) q_4 rfl rfl rfl (Nat.le_of_ble_eq_true rfl) rfl dX3_readOrder_17 (fun v17 H locs hr hW => ?_)
  refine lv_aload_n X.1 X.2.1 dX3_readOrder_20 rfl (lv_at hl 0 rfl) ?_
  refine z_get X hW 0 3 2 (C := RX3) (T := TX3) (N := 5) rfl rfl hn_X3 (by decide) q_3 rfl dX3_readOrder_21 ?_
  refine z_if hr (fun h_99 hr => ?_) (fun h_99 hr => ?_)
  · refine lv_tableIn (off := 144) (tgt := 168) X.1 X.2.1 dX3_readOrder_24 (by rw [h_99]; decide) (by rw [h_99]; decide) (by rw [h_99]; rfl) (by decide) ?_
    refine lv_aload_n X.1 X.2.1 dX3_readOrder_168 rfl (lv_at hl 0 rfl) ?_
    refine lv_dup X.1 X.2.1 dX3_readOrder_169 rfl ?_
    refine z_get X hW 0 3 1 (C := RX3) (T := TX3) (N := 5) rfl rfl hn_X3 (by decide) q_2 rfl dX3_readOrder_170 ?_
    refine lv_iconst (v := 1) X.1 X.2.1 dX3_readOrder_173 (by decide) ?_
    refine z_iadd X hr dX3_readOrder_174 (fun t174 hr => ?_)
    refine z_put X hW hr (fun v175 => (rdW E a v175)) tyX3 tyX3_ok nmX3 0 3 1 (C := RX3) (T := TX3) (N := 5) rfl rfl hn_X3 (by decide) q_2 rfl rfl rfl (Nat.le_of_ble_eq_true rfl) rfl dX3_readOrder_175 (fun v175 H locs hr hW => ?_)
    refine lv_aload_n X.1 X.2.1 dX3_readOrder_178 rfl (lv_at hl 0 rfl) ?_
    refine lv_iconst (v := 2) X.1 X.2.1 dX3_readOrder_179 (by decide) ?_
    have hp_180 := (z_all (rdW E a v175))
    refine z_calli X hW (fun u => u) hr hp_180 (fun u => (rdW E a u)) (fun v180 => (rdW E a v180)) (fun u => (z_lla (rdW E a u))) (fun x u h => z_runV (As := [.int 2]) (rest := []) X hW hp_180 (c_X3_readNumber l E a v175 2 (x, u) h _) hy_X3_readNumber 0 3 (C := RX3) (T := TX3) (N := 5) rfl rfl rfl gX3_readOrder_X3_readNumber rfl rfl ⟨by decide, by decide⟩ rfl hl rfl rfl (Nat.le_of_ble_eq_true rfl) dX3_readOrder_180 ⟨Nat.zero_le _, Nat.zero_le _⟩) (fun t180 v180 H locs hr hW => ?_)
    refine z_ifeq X 197 hr dX3_readOrder_183 (by decide) (fun hr => ?_) (fun hr => ?_)
    · refine lv_iconst (v := 0) X.1 X.2.1 dX3_readOrder_197 (by decide) ?_
      cases hr
      exact z_zret X hW rfl rfl dX3_readOrder_198
    · refine lv_aload_n X.1 X.2.1 dX3_readOrder_186 rfl (lv_at hl 0 rfl) ?_
      have hp_187 := (z_all (rdW E a v180))
      refine z_calli X hW (fun u => u) hr hp_187 (fun u => (rdW E a u)) (fun v187 => (rdW E a v187)) (fun u => (z_lla (rdW E a u))) (fun x u h => z_runV (As := []) (rest := []) X hW hp_187 (c_X3_readTimes l E a v180 (x, u) h _) hy_X3_readTimes 0 3 (C := RX3) (T := TX3) (N := 5) rfl rfl rfl gX3_readOrder_X3_readTimes rfl rfl ⟨by decide, by decide⟩ rfl hl rfl rfl (Nat.le_of_ble_eq_true rfl) dX3_readOrder_187 ⟨Nat.zero_le _, Nat.zero_le _⟩) (fun t187 v187 H locs hr hW => ?_)
      refine z_ifeq X 197 hr dX3_readOrder_190 (by decide) (fun hr => ?_) (fun hr => ?_)
      · refine lv_iconst (v := 0) X.1 X.2.1 dX3_readOrder_197 (by decide) ?_
        cases hr
        exact z_zret X hW rfl rfl dX3_readOrder_198
      · refine lv_iconst (v := 1) X.1 X.2.1 dX3_readOrder_193 (by decide) ?_
        refine lv_goto (tgt := 198) X.1 X.2.1 dX3_readOrder_194 (by decide) ?_
        cases hr
        exact z_zret X hW rfl rfl dX3_readOrder_198
  · refine z_if hr (fun h_100 hr => ?_) (fun h_100 hr => ?_)
    · refine lv_tableIn (off := 175) (tgt := 199) X.1 X.2.1 dX3_readOrder_24 (by rw [h_100]; decide) (by rw [h_100]; decide) (by rw [h_100]; rfl) (by decide) ?_
      refine lv_iconst (v := 0) X.1 X.2.1 dX3_readOrder_199 (by decide) ?_
      cases hr
      exact z_zret X hW rfl rfl dX3_readOrder_200
    · refine z_if hr (fun h_101 hr => ?_) (fun h_101 hr => ?_)
      · refine lv_tableIn (off := 112) (tgt := 136) X.1 X.2.1 dX3_readOrder_24 (by rw [h_101]; decide) (by rw [h_101]; decide) (by rw [h_101]; rfl) (by decide) ?_
        refine lv_aload_n X.1 X.2.1 dX3_readOrder_136 rfl (lv_at hl 0 rfl) ?_
        refine lv_dup X.1 X.2.1 dX3_readOrder_137 rfl ?_
        refine z_get X hW 0 3 1 (C := RX3) (T := TX3) (N := 5) rfl rfl hn_X3 (by decide) q_2 rfl dX3_readOrder_138 ?_
        refine lv_iconst (v := 1) X.1 X.2.1 dX3_readOrder_141 (by decide) ?_
        refine z_iadd X hr dX3_readOrder_142 (fun t142 hr => ?_)
        refine z_put X hW hr (fun v143 => (rdW E a v143)) tyX3 tyX3_ok nmX3 0 3 1 (C := RX3) (T := TX3) (N := 5) rfl rfl hn_X3 (by decide) q_2 rfl rfl rfl (Nat.le_of_ble_eq_true rfl) rfl dX3_readOrder_143 (fun v143 H locs hr hW => ?_)
        refine lv_aload_n X.1 X.2.1 dX3_readOrder_146 rfl (lv_at hl 0 rfl) ?_
        refine lv_iconst (v := 1) X.1 X.2.1 dX3_readOrder_147 (by decide) ?_
        have hp_148 := (z_all (rdW E a v143))
        refine z_calli X hW (fun u => u) hr hp_148 (fun u => (rdW E a u)) (fun v148 => (rdW E a v148)) (fun u => (z_lla (rdW E a u))) (fun x u h => z_runV (As := [.int 1]) (rest := []) X hW hp_148 (c_X3_readNumber l E a v143 1 (x, u) h _) hy_X3_readNumber 0 3 (C := RX3) (T := TX3) (N := 5) rfl rfl rfl gX3_readOrder_X3_readNumber rfl rfl ⟨by decide, by decide⟩ rfl hl rfl rfl (Nat.le_of_ble_eq_true rfl) dX3_readOrder_148 ⟨Nat.zero_le _, Nat.zero_le _⟩) (fun t148 v148 H locs hr hW => ?_)
        obtain ⟨hg, hr⟩ := zgb_some hr
        cases hr
        exact z_zret X hW rfl (zgb_n hg) dX3_readOrder_151
      · refine z_if hr (fun h_102 hr => ?_) (fun h_102 hr => ?_)
        · refine lv_tableIn (off := 175) (tgt := 199) X.1 X.2.1 dX3_readOrder_24 (by rw [h_102]; decide) (by rw [h_102]; decide) (by rw [h_102]; rfl) (by decide) ?_
          refine lv_iconst (v := 0) X.1 X.2.1 dX3_readOrder_199 (by decide) ?_
          cases hr
          exact z_zret X hW rfl rfl dX3_readOrder_200
        · refine z_if hr (fun h_103 hr => ?_) (fun h_103 hr => ?_)
          · refine lv_tableIn (off := 175) (tgt := 199) X.1 X.2.1 dX3_readOrder_24 (by rw [h_103]; decide) (by rw [h_103]; decide) (by rw [h_103]; rfl) (by decide) ?_
            refine lv_iconst (v := 0) X.1 X.2.1 dX3_readOrder_199 (by decide) ?_
            cases hr
            exact z_zret X hW rfl rfl dX3_readOrder_200
          · refine z_if hr (fun h_104 hr => ?_) (fun h_104 hr => ?_)
            · refine lv_tableIn (off := 128) (tgt := 152) X.1 X.2.1 dX3_readOrder_24 (by rw [h_104]; decide) (by rw [h_104]; decide) (by rw [h_104]; rfl) (by decide) ?_
              refine lv_aload_n X.1 X.2.1 dX3_readOrder_152 rfl (lv_at hl 0 rfl) ?_
              refine lv_dup X.1 X.2.1 dX3_readOrder_153 rfl ?_
              refine z_get X hW 0 3 1 (C := RX3) (T := TX3) (N := 5) rfl rfl hn_X3 (by decide) q_2 rfl dX3_readOrder_154 ?_
              refine lv_iconst (v := 1) X.1 X.2.1 dX3_readOrder_157 (by decide) ?_
              refine z_iadd X hr dX3_readOrder_158 (fun t158 hr => ?_)
              refine z_put X hW hr (fun v159 => (rdW E a v159)) tyX3 tyX3_ok nmX3 0 3 1 (C := RX3) (T := TX3) (N := 5) rfl rfl hn_X3 (by decide) q_2 rfl rfl rfl (Nat.le_of_ble_eq_true rfl) rfl dX3_readOrder_159 (fun v159 H locs hr hW => ?_)
              refine lv_aload_n X.1 X.2.1 dX3_readOrder_162 rfl (lv_at hl 0 rfl) ?_
              refine lv_iconst (v := 2) X.1 X.2.1 dX3_readOrder_163 (by decide) ?_
              have hp_164 := (z_all (rdW E a v159))
              refine z_calli X hW (fun u => u) hr hp_164 (fun u => (rdW E a u)) (fun v164 => (rdW E a v164)) (fun u => (z_lla (rdW E a u))) (fun x u h => z_runV (As := [.int 2]) (rest := []) X hW hp_164 (c_X3_readNumber l E a v159 2 (x, u) h _) hy_X3_readNumber 0 3 (C := RX3) (T := TX3) (N := 5) rfl rfl rfl gX3_readOrder_X3_readNumber rfl rfl ⟨by decide, by decide⟩ rfl hl rfl rfl (Nat.le_of_ble_eq_true rfl) dX3_readOrder_164 ⟨Nat.zero_le _, Nat.zero_le _⟩) (fun t164 v164 H locs hr hW => ?_)
              obtain ⟨hg, hr⟩ := zgb_some hr
              cases hr
              exact z_zret X hW rfl (zgb_n hg) dX3_readOrder_167
            · refine z_if hr (fun h_105 hr => ?_) (fun h_105 hr => ?_)
              · refine lv_tableIn (off := 175) (tgt := 199) X.1 X.2.1 dX3_readOrder_24 (by rw [h_105]; decide) (by rw [h_105]; decide) (by rw [h_105]; rfl) (by decide) ?_
                refine lv_iconst (v := 0) X.1 X.2.1 dX3_readOrder_199 (by decide) ?_
                cases hr
                exact z_zret X hW rfl rfl dX3_readOrder_200
              · refine z_if hr (fun h_106 hr => ?_) (fun h_106 hr => ?_)
                · refine lv_tableIn (off := 175) (tgt := 199) X.1 X.2.1 dX3_readOrder_24 (by rw [h_106]; decide) (by rw [h_106]; decide) (by rw [h_106]; rfl) (by decide) ?_
                  refine lv_iconst (v := 0) X.1 X.2.1 dX3_readOrder_199 (by decide) ?_
                  cases hr
                  exact z_zret X hW rfl rfl dX3_readOrder_200
                · refine z_if hr (fun h_107 hr => ?_) (fun h_107 hr => ?_)
                  · refine lv_tableIn (off := 100) (tgt := 124) X.1 X.2.1 dX3_readOrder_24 (by rw [h_107]; decide) (by rw [h_107]; decide) (by rw [h_107]; rfl) (by decide) ?_
                    refine lv_aload_n X.1 X.2.1 dX3_readOrder_124 rfl (lv_at hl 0 rfl) ?_
                    refine lv_dup X.1 X.2.1 dX3_readOrder_125 rfl ?_
                    refine z_get X hW 0 3 1 (C := RX3) (T := TX3) (N := 5) rfl rfl hn_X3 (by decide) q_2 rfl dX3_readOrder_126 ?_
                    refine lv_iconst (v := 1) X.1 X.2.1 dX3_readOrder_129 (by decide) ?_
                    refine z_iadd X hr dX3_readOrder_130 (fun t130 hr => ?_)
                    refine z_put X hW hr (fun v131 => (rdW E a v131)) tyX3 tyX3_ok nmX3 0 3 1 (C := RX3) (T := TX3) (N := 5) rfl rfl hn_X3 (by decide) q_2 rfl rfl rfl (Nat.le_of_ble_eq_true rfl) rfl dX3_readOrder_131 (fun v131 H locs hr hW => ?_)
                    refine lv_iconst (v := 1) X.1 X.2.1 dX3_readOrder_134 (by decide) ?_
                    cases hr
                    exact z_zret X hW rfl rfl dX3_readOrder_135
                  · refine z_if hr (fun h_108 hr => ?_) (fun h_108 hr => ?_)
                    · refine lv_tableIn (off := 175) (tgt := 199) X.1 X.2.1 dX3_readOrder_24 (by rw [h_108]; decide) (by rw [h_108]; decide) (by rw [h_108]; rfl) (by decide) ?_
                      refine lv_iconst (v := 0) X.1 X.2.1 dX3_readOrder_199 (by decide) ?_
                      cases hr
                      exact z_zret X hW rfl rfl dX3_readOrder_200
                    · refine z_if hr (fun h_109 hr => ?_) (fun h_109 hr => ?_)
                      · refine lv_tableIn (off := 175) (tgt := 199) X.1 X.2.1 dX3_readOrder_24 (by rw [h_109]; decide) (by rw [h_109]; decide) (by rw [h_109]; rfl) (by decide) ?_
                        refine lv_iconst (v := 0) X.1 X.2.1 dX3_readOrder_199 (by decide) ?_
                        cases hr
                        exact z_zret X hW rfl rfl dX3_readOrder_200
                      · refine z_if hr (fun h_110 hr => ?_) (fun h_110 hr => ?_)
                        · refine lv_tableIn (off := 100) (tgt := 124) X.1 X.2.1 dX3_readOrder_24 (by rw [h_110]; decide) (by rw [h_110]; decide) (by rw [h_110]; rfl) (by decide) ?_
                          refine lv_aload_n X.1 X.2.1 dX3_readOrder_124 rfl (lv_at hl 0 rfl) ?_
                          refine lv_dup X.1 X.2.1 dX3_readOrder_125 rfl ?_
                          refine z_get X hW 0 3 1 (C := RX3) (T := TX3) (N := 5) rfl rfl hn_X3 (by decide) q_2 rfl dX3_readOrder_126 ?_
                          refine lv_iconst (v := 1) X.1 X.2.1 dX3_readOrder_129 (by decide) ?_
                          refine z_iadd X hr dX3_readOrder_130 (fun t130 hr => ?_)
                          refine z_put X hW hr (fun v131 => (rdW E a v131)) tyX3 tyX3_ok nmX3 0 3 1 (C := RX3) (T := TX3) (N := 5) rfl rfl hn_X3 (by decide) q_2 rfl rfl rfl (Nat.le_of_ble_eq_true rfl) rfl dX3_readOrder_131 (fun v131 H locs hr hW => ?_)
                          refine lv_iconst (v := 1) X.1 X.2.1 dX3_readOrder_134 (by decide) ?_
                          cases hr
                          exact z_zret X hW rfl rfl dX3_readOrder_135
                        · refine z_if hr (fun h_111 hr => ?_) (fun h_111 hr => ?_)
                          · refine lv_tableIn (off := 175) (tgt := 199) X.1 X.2.1 dX3_readOrder_24 (by rw [h_111]; decide) (by rw [h_111]; decide) (by rw [h_111]; rfl) (by decide) ?_
                            refine lv_iconst (v := 0) X.1 X.2.1 dX3_readOrder_199 (by decide) ?_
                            cases hr
                            exact z_zret X hW rfl rfl dX3_readOrder_200
                          · refine z_if hr (fun h_112 hr => ?_) (fun h_112 hr => ?_)
                            · refine lv_tableIn (off := 112) (tgt := 136) X.1 X.2.1 dX3_readOrder_24 (by rw [h_112]; decide) (by rw [h_112]; decide) (by rw [h_112]; rfl) (by decide) ?_
                              refine lv_aload_n X.1 X.2.1 dX3_readOrder_136 rfl (lv_at hl 0 rfl) ?_
                              refine lv_dup X.1 X.2.1 dX3_readOrder_137 rfl ?_
                              refine z_get X hW 0 3 1 (C := RX3) (T := TX3) (N := 5) rfl rfl hn_X3 (by decide) q_2 rfl dX3_readOrder_138 ?_
                              refine lv_iconst (v := 1) X.1 X.2.1 dX3_readOrder_141 (by decide) ?_
                              refine z_iadd X hr dX3_readOrder_142 (fun t142 hr => ?_)
                              refine z_put X hW hr (fun v143 => (rdW E a v143)) tyX3 tyX3_ok nmX3 0 3 1 (C := RX3) (T := TX3) (N := 5) rfl rfl hn_X3 (by decide) q_2 rfl rfl rfl (Nat.le_of_ble_eq_true rfl) rfl dX3_readOrder_143 (fun v143 H locs hr hW => ?_)
                              refine lv_aload_n X.1 X.2.1 dX3_readOrder_146 rfl (lv_at hl 0 rfl) ?_
                              refine lv_iconst (v := 1) X.1 X.2.1 dX3_readOrder_147 (by decide) ?_
                              have hp_148 := (z_all (rdW E a v143))
                              refine z_calli X hW (fun u => u) hr hp_148 (fun u => (rdW E a u)) (fun v148 => (rdW E a v148)) (fun u => (z_lla (rdW E a u))) (fun x u h => z_runV (As := [.int 1]) (rest := []) X hW hp_148 (c_X3_readNumber l E a v143 1 (x, u) h _) hy_X3_readNumber 0 3 (C := RX3) (T := TX3) (N := 5) rfl rfl rfl gX3_readOrder_X3_readNumber rfl rfl ⟨by decide, by decide⟩ rfl hl rfl rfl (Nat.le_of_ble_eq_true rfl) dX3_readOrder_148 ⟨Nat.zero_le _, Nat.zero_le _⟩) (fun t148 v148 H locs hr hW => ?_)
                              obtain ⟨hg, hr⟩ := zgb_some hr
                              cases hr
                              exact z_zret X hW rfl (zgb_n hg) dX3_readOrder_151
                            · refine z_if hr (fun h_113 hr => ?_) (fun h_113 hr => ?_)
                              · refine lv_tableIn (off := 175) (tgt := 199) X.1 X.2.1 dX3_readOrder_24 (by rw [h_113]; decide) (by rw [h_113]; decide) (by rw [h_113]; rfl) (by decide) ?_
                                refine lv_iconst (v := 0) X.1 X.2.1 dX3_readOrder_199 (by decide) ?_
                                cases hr
                                exact z_zret X hW rfl rfl dX3_readOrder_200
                              · refine z_if hr (fun h_114 hr => ?_) (fun h_114 hr => ?_)
                                · refine lv_tableIn (off := 175) (tgt := 199) X.1 X.2.1 dX3_readOrder_24 (by rw [h_114]; decide) (by rw [h_114]; decide) (by rw [h_114]; rfl) (by decide) ?_
                                  refine lv_iconst (v := 0) X.1 X.2.1 dX3_readOrder_199 (by decide) ?_
                                  cases hr
                                  exact z_zret X hW rfl rfl dX3_readOrder_200
                                · refine z_if hr (fun h_115 hr => ?_) (fun h_115 hr => ?_)
                                  · refine lv_tableIn (off := 175) (tgt := 199) X.1 X.2.1 dX3_readOrder_24 (by rw [h_115]; decide) (by rw [h_115]; decide) (by rw [h_115]; rfl) (by decide) ?_
                                    refine lv_iconst (v := 0) X.1 X.2.1 dX3_readOrder_199 (by decide) ?_
                                    cases hr
                                    exact z_zret X hW rfl rfl dX3_readOrder_200
                                  · refine z_if hr (fun h_116 hr => ?_) (fun h_116 hr => ?_)
                                    · refine lv_tableIn (off := 175) (tgt := 199) X.1 X.2.1 dX3_readOrder_24 (by rw [h_116]; decide) (by rw [h_116]; decide) (by rw [h_116]; rfl) (by decide) ?_
                                      refine lv_iconst (v := 0) X.1 X.2.1 dX3_readOrder_199 (by decide) ?_
                                      cases hr
                                      exact z_zret X hW rfl rfl dX3_readOrder_200
                                    · refine z_if hr (fun h_117 hr => ?_) (fun h_117 hr => ?_)
                                      · refine lv_tableIn (off := 175) (tgt := 199) X.1 X.2.1 dX3_readOrder_24 (by rw [h_117]; decide) (by rw [h_117]; decide) (by rw [h_117]; rfl) (by decide) ?_
                                        refine lv_iconst (v := 0) X.1 X.2.1 dX3_readOrder_199 (by decide) ?_
                                        cases hr
                                        exact z_zret X hW rfl rfl dX3_readOrder_200
                                      · refine z_if hr (fun h_118 hr => ?_) (fun h_118 hr => ?_)
                                        · refine lv_tableIn (off := 175) (tgt := 199) X.1 X.2.1 dX3_readOrder_24 (by rw [h_118]; decide) (by rw [h_118]; decide) (by rw [h_118]; rfl) (by decide) ?_
                                          refine lv_iconst (v := 0) X.1 X.2.1 dX3_readOrder_199 (by decide) ?_
                                          cases hr
                                          exact z_zret X hW rfl rfl dX3_readOrder_200
                                        · refine z_if hr (fun h_119 hr => ?_) (fun h_119 hr => ?_)
                                          · refine lv_tableIn (off := 128) (tgt := 152) X.1 X.2.1 dX3_readOrder_24 (by rw [h_119]; decide) (by rw [h_119]; decide) (by rw [h_119]; rfl) (by decide) ?_
                                            refine lv_aload_n X.1 X.2.1 dX3_readOrder_152 rfl (lv_at hl 0 rfl) ?_
                                            refine lv_dup X.1 X.2.1 dX3_readOrder_153 rfl ?_
                                            refine z_get X hW 0 3 1 (C := RX3) (T := TX3) (N := 5) rfl rfl hn_X3 (by decide) q_2 rfl dX3_readOrder_154 ?_
                                            refine lv_iconst (v := 1) X.1 X.2.1 dX3_readOrder_157 (by decide) ?_
                                            refine z_iadd X hr dX3_readOrder_158 (fun t158 hr => ?_)
                                            refine z_put X hW hr (fun v159 => (rdW E a v159)) tyX3 tyX3_ok nmX3 0 3 1 (C := RX3) (T := TX3) (N := 5) rfl rfl hn_X3 (by decide) q_2 rfl rfl rfl (Nat.le_of_ble_eq_true rfl) rfl dX3_readOrder_159 (fun v159 H locs hr hW => ?_)
                                            refine lv_aload_n X.1 X.2.1 dX3_readOrder_162 rfl (lv_at hl 0 rfl) ?_
                                            refine lv_iconst (v := 2) X.1 X.2.1 dX3_readOrder_163 (by decide) ?_
                                            have hp_164 := (z_all (rdW E a v159))
                                            refine z_calli X hW (fun u => u) hr hp_164 (fun u => (rdW E a u)) (fun v164 => (rdW E a v164)) (fun u => (z_lla (rdW E a u))) (fun x u h => z_runV (As := [.int 2]) (rest := []) X hW hp_164 (c_X3_readNumber l E a v159 2 (x, u) h _) hy_X3_readNumber 0 3 (C := RX3) (T := TX3) (N := 5) rfl rfl rfl gX3_readOrder_X3_readNumber rfl rfl ⟨by decide, by decide⟩ rfl hl rfl rfl (Nat.le_of_ble_eq_true rfl) dX3_readOrder_164 ⟨Nat.zero_le _, Nat.zero_le _⟩) (fun t164 v164 H locs hr hW => ?_)
                                            obtain ⟨hg, hr⟩ := zgb_some hr
                                            cases hr
                                            exact z_zret X hW rfl (zgb_n hg) dX3_readOrder_167
                                          · have e_99 := lv_neT h_99 (a := 99) rfl
                                            have e_100 := lv_neT h_100 (a := 100) rfl
                                            have e_101 := lv_neT h_101 (a := 101) rfl
                                            have e_102 := lv_neT h_102 (a := 102) rfl
                                            have e_103 := lv_neT h_103 (a := 103) rfl
                                            have e_104 := lv_neT h_104 (a := 104) rfl
                                            have e_105 := lv_neT h_105 (a := 105) rfl
                                            have e_106 := lv_neT h_106 (a := 106) rfl
                                            have e_107 := lv_neT h_107 (a := 107) rfl
                                            have e_108 := lv_neT h_108 (a := 108) rfl
                                            have e_109 := lv_neT h_109 (a := 109) rfl
                                            have e_110 := lv_neT h_110 (a := 110) rfl
                                            have e_111 := lv_neT h_111 (a := 111) rfl
                                            have e_112 := lv_neT h_112 (a := 112) rfl
                                            have e_113 := lv_neT h_113 (a := 113) rfl
                                            have e_114 := lv_neT h_114 (a := 114) rfl
                                            have e_115 := lv_neT h_115 (a := 115) rfl
                                            have e_116 := lv_neT h_116 (a := 116) rfl
                                            have e_117 := lv_neT h_117 (a := 117) rfl
                                            have e_118 := lv_neT h_118 (a := 118) rfl
                                            have e_119 := lv_neT h_119 (a := 119) rfl
                                            refine lv_tableOut (tgt := 199) X.1 X.2.1 dX3_readOrder_24 (by omega) (by decide) ?_
                                            refine lv_iconst (v := 0) X.1 X.2.1 dX3_readOrder_199 (by decide) ?_
                                            cases hr
                                            exact z_zret X hW rfl rfl dX3_readOrder_200
abbrev rm_X3_faultPlace : Room := { frames := 5, cells := 0, slots := 0, locals := 106 }
theorem hy_X3_faultPlace : zY yX3_faultPlace wsX3_faultPlace cX3_faultPlace 2 (some .int) 0 := ⟨⟨_, rfl⟩, by decide, by decide, by decide +kernel⟩
def lpB_X3_faultPlace_7   (k_7 : Int32 → zHV → Option (Int32 × zHV)) (x1 : Int32) (v : zHV) : Option (Int32 × zHV) :=
(if 80 < x1 then
some ((-6), v)
else
zup2 (d_X3_readOrder v) (fun u => u) fun t14 v14 =>
(if t14 = 0 then
some ((v14 2 0), v14)
else
zcl (d_X4_length v14) fun t33 =>
(if (v14 2 0) < t33 then
zup2 (d_X3_readSign v14 59) (fun u => u) fun t45 v45 =>
(if t45 = 0 then
some ((v45 2 0), v45)
else
zlet (x1 + Int32.ofInt 1) fun x1_56 =>
k_7 x1_56 v45)
else
some ((-6), v14))))
def lp_X3_faultPlace_7   : Nat → Int32 → zHV → Option (Int32 × zHV)
  | 0 => fun _ _ => none
  | n_ + 1 => lpB_X3_faultPlace_7   (lp_X3_faultPlace_7   n_)
def d_X3_faultPlace (v : zHV) : Option (Int32 × zHV) :=
zlet (zs v 2 0 0) fun v2 =>
lp_X3_faultPlace_7   zF 0 v2
set_option maxHeartbeats 4000000 in
set_option maxRecDepth 100000 in
theorem c_X3_faultPlace (l : Launch) (E : zE) (a : Nat → Nat) (v : zHV) (r : Int32 × zHV) (h : d_X3_faultPlace v = some r) : zMi l E yX3_faultPlace wsX3_faultPlace rm_X3_faultPlace [.ref (a 0)] (rdW E a v) r.1 (rdW E a r.2) := by
  intro sz
  refine z_entry (Qc := fun A => zQi E A r.1 (rdW E a r.2)) (by decide) rfl (Nat.le_of_ble_eq_true rfl) ?_
  intro p e s m below meth c A X hW ls hl
  have X : zX E wsX3_faultPlace RX3 cX3_faultPlace 2 (some .int) yX3_faultPlace p s m ([.ref (a 0)] : List Value).toArray meth c A := X
  have hl : lv_has ls 2 [(0, .ref (a 0))] := hl
  have hr : d_X3_faultPlace v = some r := h
  clear h
  have q_0 : Cond.fieldLink RX3 15 "ApplauseTallies$OrderReader" "place" "I" ∈ wsX3_faultPlace := List.mem_of_getElem? (i := 1) rfl
  have hn_X3 : ∀ x ∈ wsX30, x ∈ wsX3_faultPlace := zz_in [38, 39, 40, 41, 42] (by decide +kernel)
  have q_2 : Cond.fieldLink RX3 9 "ApplauseTallies$OrderReader" "pad" "LApplauseTallies$Pad;" ∈ wsX3_faultPlace := List.mem_of_getElem? (i := 2) rfl
  unfold d_X3_faultPlace at hr
  refine lv_aload_n X.1 X.2.1 dX3_faultPlace_0 rfl (lv_at hl 0 rfl) ?_
  refine lv_iconst (v := 0) X.1 X.2.1 dX3_faultPlace_1 (by decide) ?_
  refine z_put X hW hr (fun v2 => (rdW E a v2)) tyX3 tyX3_ok nmX3 0 3 1 (C := RX3) (T := TX3) (N := 5) rfl rfl hn_X3 (by decide) q_0 rfl rfl rfl (Nat.le_of_ble_eq_true rfl) rfl dX3_faultPlace_2 (fun v2 H locs hr hW => ?_)
  refine lv_iconst (v := 0) X.1 X.2.1 dX3_faultPlace_5 (by decide) ?_
  refine lv_istore_n (lv' := [(1, .int 0), (0, .ref (a 0))]) X.1 X.2.1 dX3_faultPlace_6 rfl hl (by decide) rfl (fun ls hl => ?_)
  have L_7 : ∀ (n_7 : Nat), ∀ (x1 : Int32) (v : zHV) (H : Heap) (locs : List Loc) (ls : Array Slot), lp_X3_faultPlace_7   n_7 x1 v = some r → zW E A s (rdW E a v) H locs → lv_has ls 2 [(0, .ref (a 0)), (1, .int x1)] → W p l e rm_X3_faultPlace s m ([.ref (a 0)] : List Value).toArray below meth c H locs 0 0 (MQ below (zQi E A r.1 (rdW E a r.2)) ([.ref (a 0)] : List Value).toArray s 0 0 A) (F0 m 7 ls []) := by
    intro n_7
    induction n_7 with
    | zero => exact fun x1 v H locs ls hr hW hl => absurd (show (none : Option (Int32 × zHV)) = some r from hr) (fun h => by cases h)
    | succ n_7 ih_7 =>
      intro x1 v H locs ls hr hW hl
      have hr : lpB_X3_faultPlace_7   (lp_X3_faultPlace_7   n_7) x1 v = some r := hr
      unfold lpB_X3_faultPlace_7 at hr
      refine lv_iload_n X.1 X.2.1 dX3_faultPlace_7 rfl (lv_at hl 1 rfl) ?_
      refine lv_bipush (v := 80) X.1 X.2.1 dX3_faultPlace_8 (by decide) ?_
      refine z_cmpgt X 62 hr dX3_faultPlace_10 (by decide) (fun hr => ?_) (fun hr => ?_)
      · refine lv_bipush (v := (-6)) X.1 X.2.1 dX3_faultPlace_62 (by decide) ?_
        cases hr
        exact z_iret X hW rfl dX3_faultPlace_64
      · refine lv_aload_n X.1 X.2.1 dX3_faultPlace_13 rfl (lv_at hl 0 rfl) ?_
        have hp_14 := (z_all (rdW E a v))
        refine z_calli X hW (fun u => u) hr hp_14 (fun u => (rdW E a u)) (fun v14 => (rdW E a v14)) (fun u => (z_lla (rdW E a u))) (fun x u h => z_runV (As := []) (rest := []) X hW hp_14 (c_X3_readOrder l E a v (x, u) h _) hy_X3_readOrder 0 3 (C := RX3) (T := TX3) (N := 5) rfl rfl rfl gX3_faultPlace_X3_readOrder rfl rfl ⟨by decide, by decide⟩ rfl hl rfl rfl (Nat.le_of_ble_eq_true rfl) dX3_faultPlace_14 ⟨Nat.zero_le _, Nat.zero_le _⟩) (fun t14 v14 H locs hr hW => ?_)
        refine z_ifne X 25 hr dX3_faultPlace_17 (by decide) (fun hr => ?_) (fun hr => ?_)
        · refine lv_aload_n X.1 X.2.1 dX3_faultPlace_25 rfl (lv_at hl 0 rfl) ?_
          refine z_get X hW 0 3 1 (C := RX3) (T := TX3) (N := 5) rfl rfl hn_X3 (by decide) q_0 rfl dX3_faultPlace_26 ?_
          refine lv_aload_n X.1 X.2.1 dX3_faultPlace_29 rfl (lv_at hl 0 rfl) ?_
          refine z_get X hW 0 3 0 (C := RX3) (T := TX3) (N := 5) rfl rfl hn_X3 (by decide) q_2 rfl dX3_faultPlace_30 ?_
          have hp_33 := (sp_rd_1 E a v14)
          refine z_callp X hW hr hp_33 (fun x h => z_runV (As := []) (rest := [.int (v14 2 0)]) X hW hp_33 (c_X4_length l E (zh a 1) v14 x h _) hy_X4_length 1 4 (C := RX4) (T := TX4) (N := 2) rfl rfl rfl gX3_faultPlace_X4_length rfl rfl ⟨by decide, by decide⟩ rfl hl rfl rfl (Nat.le_of_ble_eq_true rfl) dX3_faultPlace_33 ⟨Nat.zero_le _, Nat.zero_le _⟩) (fun t33 H locs hr hW => ?_)
          refine z_cmplt X 42 hr dX3_faultPlace_36 (by decide) (fun hr => ?_) (fun hr => ?_)
          · refine lv_aload_n X.1 X.2.1 dX3_faultPlace_42 rfl (lv_at hl 0 rfl) ?_
            refine lv_bipush (v := 59) X.1 X.2.1 dX3_faultPlace_43 (by decide) ?_
            have hp_45 := (z_all (rdW E a v14))
            refine z_calli X hW (fun u => u) hr hp_45 (fun u => (rdW E a u)) (fun v45 => (rdW E a v45)) (fun u => (z_lla (rdW E a u))) (fun x u h => z_runV (As := [.int 59]) (rest := []) X hW hp_45 (c_X3_readSign l E a v14 59 (x, u) h _) hy_X3_readSign 0 3 (C := RX3) (T := TX3) (N := 5) rfl rfl rfl gX3_faultPlace_X3_readSign rfl rfl ⟨by decide, by decide⟩ rfl hl rfl rfl (Nat.le_of_ble_eq_true rfl) dX3_faultPlace_45 ⟨Nat.zero_le _, Nat.zero_le _⟩) (fun t45 v45 H locs hr hW => ?_)
            refine z_ifne X 56 hr dX3_faultPlace_48 (by decide) (fun hr => ?_) (fun hr => ?_)
            · refine z_iinc X (fun x1_56 => [(1, .int x1_56), (0, .ref (a 0))]) hr hl (k := 1) rfl (by decide) (fun _ => rfl) dX3_faultPlace_56 (fun x1_56 ls hr hl => ?_)
              refine lv_goto (tgt := 7) X.1 X.2.1 dX3_faultPlace_59 (by decide) ?_
              exact ih_7 x1_56 v45 _ _ _ hr hW (lv_sub hl [1, 0] rfl)
            · refine lv_aload_n X.1 X.2.1 dX3_faultPlace_51 rfl (lv_at hl 0 rfl) ?_
              refine z_get X hW 0 3 1 (C := RX3) (T := TX3) (N := 5) rfl rfl hn_X3 (by decide) q_0 rfl dX3_faultPlace_52 ?_
              cases hr
              exact z_iret X hW rfl dX3_faultPlace_55
          · refine lv_bipush (v := (-6)) X.1 X.2.1 dX3_faultPlace_39 (by decide) ?_
            cases hr
            exact z_iret X hW rfl dX3_faultPlace_41
        · refine lv_aload_n X.1 X.2.1 dX3_faultPlace_20 rfl (lv_at hl 0 rfl) ?_
          refine z_get X hW 0 3 1 (C := RX3) (T := TX3) (N := 5) rfl rfl hn_X3 (by decide) q_0 rfl dX3_faultPlace_21 ?_
          cases hr
          exact z_iret X hW rfl dX3_faultPlace_24
  exact L_7 _ 0 v2 _ _ _ hr hW (lv_sub hl [1, 0] rfl)
abbrev rm_X3_carryOrderOutIn : Room := { frames := 4, cells := 0, slots := 0, locals := 87 }
theorem hy_X3_carryOrderOutIn : zY yX3_carryOrderOutIn wsX3_carryOrderOutIn cX3_carryOrderOutIn 2 (some .int) 1 := ⟨⟨_, rfl⟩, by decide, by decide, by decide +kernel⟩
def d_X3_carryOrderOutIn (v : zHV) (w : zHV) : Option (Int32 × zHV) :=
(if (w 2 1) = 99 then
zup2 (d_X2_takeClap v (w 2 2)) (fun u => u) fun t78 v78 =>
some (t78, v78)
else
(if (w 2 1) = 101 then
zup2 (d_X2_endPiece v (w 2 2)) (fun u => u) fun t69 v69 =>
some (t69, v69)
else
(if (w 2 1) = 107 then
zup2 (d_X2_takeCurtain v) (fun u => u) fun t101 v101 =>
some (t101, v101)
else
(if (w 2 1) = 110 then
zup2 (d_X2_endNight v) (fun u => u) fun t106 v106 =>
some (t106, v106)
else
(if (w 2 1) = 112 then
zup2 (d_X2_playEncore v (w 2 2)) (fun u => u) fun t96 v96 =>
some (t96, v96)
else
(if (w 2 1) = 119 then
zup2 (d_X2_letPass v (w 2 2)) (fun u => u) fun t87 v87 =>
some (t87, v87)
else
zup2 (d_X2_switchPay v (w 2 2)) (fun u => u) fun t115 v115 =>
some (t115, v115)))))))
set_option maxHeartbeats 4000000 in
set_option maxRecDepth 100000 in
theorem c_X3_carryOrderOutIn (l : Launch) (E : zE) (a b : Nat → Nat) (v : zHV) (w : zHV) (r : Int32 × zHV) (h : d_X3_carryOrderOutIn v w = some r) : zMi l E yX3_carryOrderOutIn wsX3_carryOrderOutIn rm_X3_carryOrderOutIn [.ref (b 0), .ref (a 0)] ((hsW E a v) ++ (rdW E b w)) r.1 ((hsW E a r.2) ++ (rdW E b w)) := by
  intro sz
  refine z_entry (Qc := fun A => zQi E A r.1 ((hsW E a r.2) ++ (rdW E b w))) (by decide) rfl (Nat.le_of_ble_eq_true rfl) ?_
  intro p e s m below meth c A X hW ls hl
  have X : zX E wsX3_carryOrderOutIn RX3 cX3_carryOrderOutIn 2 (some .int) yX3_carryOrderOutIn p s m ([.ref (b 0), .ref (a 0)] : List Value).toArray meth c A := X
  have hl : lv_has ls 2 [(0, .ref (b 0)), (1, .ref (a 0))] := hl
  have hr : d_X3_carryOrderOutIn v w = some r := h
  clear h
  have q_0 : Cond.fieldLink RX3 40 "ApplauseTallies$OrderReader" "kind" "I" ∈ wsX3_carryOrderOutIn := List.mem_of_getElem? (i := 1) rfl
  have hn_X3 : ∀ x ∈ wsX30, x ∈ wsX3_carryOrderOutIn := zz_in [143, 144, 145, 146, 147] (by decide +kernel)
  have q_2 : Cond.fieldLink RX3 43 "ApplauseTallies$OrderReader" "number" "I" ∈ wsX3_carryOrderOutIn := List.mem_of_getElem? (i := 2) rfl
  unfold d_X3_carryOrderOutIn at hr
  refine lv_aload_n X.1 X.2.1 dX3_carryOrderOutIn_0 rfl (lv_at hl 0 rfl) ?_
  refine z_get X hW 29 3 2 (C := RX3) (T := TX3) (N := 5) rfl rfl hn_X3 (by decide) q_0 rfl dX3_carryOrderOutIn_1 ?_
  refine z_if hr (fun h_0 hr => ?_) (fun h_0 hr => ?_)
  · refine lv_lookup (off := 69) (tgt := 73) X.1 X.2.1 dX3_carryOrderOutIn_4 (by decide) (by rw [h_0]; rfl) (by decide) ?_
    refine lv_aload_n X.1 X.2.1 dX3_carryOrderOutIn_73 rfl (lv_at hl 1 rfl) ?_
    refine lv_aload_n X.1 X.2.1 dX3_carryOrderOutIn_74 rfl (lv_at hl 0 rfl) ?_
    refine z_get X hW 29 3 3 (C := RX3) (T := TX3) (N := 5) rfl rfl hn_X3 (by decide) q_2 rfl dX3_carryOrderOutIn_75 ?_
    have hp_78 := (z_spl (rdW E b w) (z_all (hsW E a v)))
    refine z_calli X hW (fun u => u) hr hp_78 (fun u => (hsW E a u)) (fun v78 => ((hsW E a v78) ++ (rdW E b w))) (fun u => (z_jnl (rdW E b w) (z_lla (hsW E a u)))) (fun x u h => z_runV (As := [.int (w 2 2)]) (rest := []) X hW hp_78 (c_X2_takeClap l E a v (w 2 2) (x, u) h _) hy_X2_takeClap 0 2 (C := RX2) (T := TX2) (N := 11) rfl rfl rfl gX3_carryOrderOutIn_X2_takeClap rfl rfl ⟨by decide, by decide⟩ rfl hl rfl rfl (Nat.le_of_ble_eq_true rfl) dX3_carryOrderOutIn_78 ⟨Nat.zero_le _, Nat.zero_le _⟩) (fun t78 v78 H locs hr hW => ?_)
    cases hr
    exact z_iret X hW rfl dX3_carryOrderOutIn_81
  · refine z_if hr (fun h_1 hr => ?_) (fun h_1 hr => ?_)
    · refine lv_lookup (off := 60) (tgt := 64) X.1 X.2.1 dX3_carryOrderOutIn_4 (by decide) (by rw [h_1]; rfl) (by decide) ?_
      refine lv_aload_n X.1 X.2.1 dX3_carryOrderOutIn_64 rfl (lv_at hl 1 rfl) ?_
      refine lv_aload_n X.1 X.2.1 dX3_carryOrderOutIn_65 rfl (lv_at hl 0 rfl) ?_
      refine z_get X hW 29 3 3 (C := RX3) (T := TX3) (N := 5) rfl rfl hn_X3 (by decide) q_2 rfl dX3_carryOrderOutIn_66 ?_
      have hp_69 := (z_spl (rdW E b w) (z_all (hsW E a v)))
      refine z_calli X hW (fun u => u) hr hp_69 (fun u => (hsW E a u)) (fun v69 => ((hsW E a v69) ++ (rdW E b w))) (fun u => (z_jnl (rdW E b w) (z_lla (hsW E a u)))) (fun x u h => z_runV (As := [.int (w 2 2)]) (rest := []) X hW hp_69 (c_X2_endPiece l E a v (w 2 2) (x, u) h _) hy_X2_endPiece 0 2 (C := RX2) (T := TX2) (N := 11) rfl rfl rfl gX3_carryOrderOutIn_X2_endPiece rfl rfl ⟨by decide, by decide⟩ rfl hl rfl rfl (Nat.le_of_ble_eq_true rfl) dX3_carryOrderOutIn_69 ⟨Nat.zero_le _, Nat.zero_le _⟩) (fun t69 v69 H locs hr hW => ?_)
      cases hr
      exact z_iret X hW rfl dX3_carryOrderOutIn_72
    · refine z_if hr (fun h_2 hr => ?_) (fun h_2 hr => ?_)
      · refine lv_lookup (off := 96) (tgt := 100) X.1 X.2.1 dX3_carryOrderOutIn_4 (by decide) (by rw [h_2]; rfl) (by decide) ?_
        refine lv_aload_n X.1 X.2.1 dX3_carryOrderOutIn_100 rfl (lv_at hl 1 rfl) ?_
        have hp_101 := (z_spl (rdW E b w) (z_all (hsW E a v)))
        refine z_calli X hW (fun u => u) hr hp_101 (fun u => (hsW E a u)) (fun v101 => ((hsW E a v101) ++ (rdW E b w))) (fun u => (z_jnl (rdW E b w) (z_lla (hsW E a u)))) (fun x u h => z_runV (As := []) (rest := []) X hW hp_101 (c_X2_takeCurtain l E a v (x, u) h _) hy_X2_takeCurtain 0 2 (C := RX2) (T := TX2) (N := 11) rfl rfl rfl gX3_carryOrderOutIn_X2_takeCurtain rfl rfl ⟨by decide, by decide⟩ rfl hl rfl rfl (Nat.le_of_ble_eq_true rfl) dX3_carryOrderOutIn_101 ⟨Nat.zero_le _, Nat.zero_le _⟩) (fun t101 v101 H locs hr hW => ?_)
        cases hr
        exact z_iret X hW rfl dX3_carryOrderOutIn_104
      · refine z_if hr (fun h_3 hr => ?_) (fun h_3 hr => ?_)
        · refine lv_lookup (off := 101) (tgt := 105) X.1 X.2.1 dX3_carryOrderOutIn_4 (by decide) (by rw [h_3]; rfl) (by decide) ?_
          refine lv_aload_n X.1 X.2.1 dX3_carryOrderOutIn_105 rfl (lv_at hl 1 rfl) ?_
          have hp_106 := (z_spl (rdW E b w) (z_all (hsW E a v)))
          refine z_calli X hW (fun u => u) hr hp_106 (fun u => (hsW E a u)) (fun v106 => ((hsW E a v106) ++ (rdW E b w))) (fun u => (z_jnl (rdW E b w) (z_lla (hsW E a u)))) (fun x u h => z_runV (As := []) (rest := []) X hW hp_106 (c_X2_endNight l E a v (x, u) h _) hy_X2_endNight 0 2 (C := RX2) (T := TX2) (N := 11) rfl rfl rfl gX3_carryOrderOutIn_X2_endNight rfl rfl ⟨by decide, by decide⟩ rfl hl rfl rfl (Nat.le_of_ble_eq_true rfl) dX3_carryOrderOutIn_106 ⟨Nat.zero_le _, Nat.zero_le _⟩) (fun t106 v106 H locs hr hW => ?_)
          cases hr
          exact z_iret X hW rfl dX3_carryOrderOutIn_109
        · refine z_if hr (fun h_4 hr => ?_) (fun h_4 hr => ?_)
          · refine lv_lookup (off := 87) (tgt := 91) X.1 X.2.1 dX3_carryOrderOutIn_4 (by decide) (by rw [h_4]; rfl) (by decide) ?_
            refine lv_aload_n X.1 X.2.1 dX3_carryOrderOutIn_91 rfl (lv_at hl 1 rfl) ?_
            refine lv_aload_n X.1 X.2.1 dX3_carryOrderOutIn_92 rfl (lv_at hl 0 rfl) ?_
            refine z_get X hW 29 3 3 (C := RX3) (T := TX3) (N := 5) rfl rfl hn_X3 (by decide) q_2 rfl dX3_carryOrderOutIn_93 ?_
            have hp_96 := (z_spl (rdW E b w) (z_all (hsW E a v)))
            refine z_calli X hW (fun u => u) hr hp_96 (fun u => (hsW E a u)) (fun v96 => ((hsW E a v96) ++ (rdW E b w))) (fun u => (z_jnl (rdW E b w) (z_lla (hsW E a u)))) (fun x u h => z_runV (As := [.int (w 2 2)]) (rest := []) X hW hp_96 (c_X2_playEncore l E a v (w 2 2) (x, u) h _) hy_X2_playEncore 0 2 (C := RX2) (T := TX2) (N := 11) rfl rfl rfl gX3_carryOrderOutIn_X2_playEncore rfl rfl ⟨by decide, by decide⟩ rfl hl rfl rfl (Nat.le_of_ble_eq_true rfl) dX3_carryOrderOutIn_96 ⟨Nat.zero_le _, Nat.zero_le _⟩) (fun t96 v96 H locs hr hW => ?_)
            cases hr
            exact z_iret X hW rfl dX3_carryOrderOutIn_99
          · refine z_if hr (fun h_5 hr => ?_) (fun h_5 hr => ?_)
            · refine lv_lookup (off := 78) (tgt := 82) X.1 X.2.1 dX3_carryOrderOutIn_4 (by decide) (by rw [h_5]; rfl) (by decide) ?_
              refine lv_aload_n X.1 X.2.1 dX3_carryOrderOutIn_82 rfl (lv_at hl 1 rfl) ?_
              refine lv_aload_n X.1 X.2.1 dX3_carryOrderOutIn_83 rfl (lv_at hl 0 rfl) ?_
              refine z_get X hW 29 3 3 (C := RX3) (T := TX3) (N := 5) rfl rfl hn_X3 (by decide) q_2 rfl dX3_carryOrderOutIn_84 ?_
              have hp_87 := (z_spl (rdW E b w) (z_all (hsW E a v)))
              refine z_calli X hW (fun u => u) hr hp_87 (fun u => (hsW E a u)) (fun v87 => ((hsW E a v87) ++ (rdW E b w))) (fun u => (z_jnl (rdW E b w) (z_lla (hsW E a u)))) (fun x u h => z_runV (As := [.int (w 2 2)]) (rest := []) X hW hp_87 (c_X2_letPass l E a v (w 2 2) (x, u) h _) hy_X2_letPass 0 2 (C := RX2) (T := TX2) (N := 11) rfl rfl rfl gX3_carryOrderOutIn_X2_letPass rfl rfl ⟨by decide, by decide⟩ rfl hl rfl rfl (Nat.le_of_ble_eq_true rfl) dX3_carryOrderOutIn_87 ⟨Nat.zero_le _, Nat.zero_le _⟩) (fun t87 v87 H locs hr hW => ?_)
              cases hr
              exact z_iret X hW rfl dX3_carryOrderOutIn_90
            · refine lv_lookup (off := 106) (tgt := 110) X.1 X.2.1 dX3_carryOrderOutIn_4 (by decide) ((lv_osw h_0 (by decide)).trans ((lv_osw h_1 (by decide)).trans ((lv_osw h_2 (by decide)).trans ((lv_osw h_3 (by decide)).trans ((lv_osw h_4 (by decide)).trans ((lv_osw h_5 (by decide)).trans (rfl))))))) (by decide) ?_
              refine lv_aload_n X.1 X.2.1 dX3_carryOrderOutIn_110 rfl (lv_at hl 1 rfl) ?_
              refine lv_aload_n X.1 X.2.1 dX3_carryOrderOutIn_111 rfl (lv_at hl 0 rfl) ?_
              refine z_get X hW 29 3 3 (C := RX3) (T := TX3) (N := 5) rfl rfl hn_X3 (by decide) q_2 rfl dX3_carryOrderOutIn_112 ?_
              have hp_115 := (z_spl (rdW E b w) (z_all (hsW E a v)))
              refine z_calli X hW (fun u => u) hr hp_115 (fun u => (hsW E a u)) (fun v115 => ((hsW E a v115) ++ (rdW E b w))) (fun u => (z_jnl (rdW E b w) (z_lla (hsW E a u)))) (fun x u h => z_runV (As := [.int (w 2 2)]) (rest := []) X hW hp_115 (c_X2_switchPay l E a v (w 2 2) (x, u) h _) hy_X2_switchPay 0 2 (C := RX2) (T := TX2) (N := 11) rfl rfl rfl gX3_carryOrderOutIn_X2_switchPay rfl rfl ⟨by decide, by decide⟩ rfl hl rfl rfl (Nat.le_of_ble_eq_true rfl) dX3_carryOrderOutIn_115 ⟨Nat.zero_le _, Nat.zero_le _⟩) (fun t115 v115 H locs hr hW => ?_)
              cases hr
              exact z_iret X hW rfl dX3_carryOrderOutIn_118
abbrev rm_X3_carryOutIn : Room := { frames := 5, cells := 0, slots := 0, locals := 108 }
theorem hy_X3_carryOutIn : zY yX3_carryOutIn wsX3_carryOutIn cX3_carryOutIn 5 (some .int) 1 := ⟨⟨_, rfl⟩, by decide, by decide, by decide +kernel⟩
def lpB_X3_carryOutIn_25  (k_9 : Int32 → Int32 → zHV → zHV → Option (Int32 × zHV × zHV)) (k_25 : Int32 → Int32 → Int32 → zHV → zHV → Option (Int32 × zHV × zHV)) (x2 : Int32) (x3 : Int32) (x4 : Int32) (v : zHV) (w : zHV) : Option (Int32 × zHV × zHV) :=
(if (w 2 3) ≤ x4 then
zup2 (d_X3_readSign w 59) (fun u => u) fun t56 w56 =>
zlet (x3 + Int32.ofInt 1) fun x3_60 =>
k_9 x2 x3_60 v w56
else
zup2 (d_X3_carryOrderOutIn v w) (fun u => u) fun t36 v36 =>
(if 0 ≤ t36 then
zlet (x2 + Int32.ofInt 1) fun x2_44 =>
zlet (x4 + Int32.ofInt 1) fun x4_47 =>
k_25 x2_44 x3 x4_47 v36 w
else
some (x2, v36, w)))
def lp_X3_carryOutIn_25  (k_9 : Int32 → Int32 → zHV → zHV → Option (Int32 × zHV × zHV)) : Nat → Int32 → Int32 → Int32 → zHV → zHV → Option (Int32 × zHV × zHV)
  | 0 => fun _ _ _ _ _ => none
  | n_ + 1 => lpB_X3_carryOutIn_25  k_9  (lp_X3_carryOutIn_25  k_9  n_)
def lpB_X3_carryOutIn_9   (k_9 : Int32 → Int32 → zHV → zHV → Option (Int32 × zHV × zHV)) (x2 : Int32) (x3 : Int32) (v : zHV) (w : zHV) : Option (Int32 × zHV × zHV) :=
(if 80 < x3 then
some (x2, v, w)
else
zup2 (d_X3_readOrder w) (fun u => u) fun t16 w16 =>
(if t16 = 0 then
some (x2, v, w16)
else
lp_X3_carryOutIn_25  k_9  zF x2 x3 0 v w16))
def lp_X3_carryOutIn_9   : Nat → Int32 → Int32 → zHV → zHV → Option (Int32 × zHV × zHV)
  | 0 => fun _ _ _ _ => none
  | n_ + 1 => lpB_X3_carryOutIn_9   (lp_X3_carryOutIn_9   n_)
def d_X3_carryOutIn (v : zHV) (w : zHV) : Option (Int32 × zHV × zHV) :=
zlet (zs w 2 0 0) fun w2 =>
lp_X3_carryOutIn_9   zF 0 0 v w2
set_option maxHeartbeats 4000000 in
set_option maxRecDepth 100000 in
theorem c_X3_carryOutIn (l : Launch) (E : zE) (a b : Nat → Nat) (v : zHV) (w : zHV) (r : Int32 × zHV × zHV) (h : d_X3_carryOutIn v w = some r) : zMi l E yX3_carryOutIn wsX3_carryOutIn rm_X3_carryOutIn [.ref (b 0), .ref (a 0)] ((hsW E a v) ++ (rdW E b w)) r.1 ((hsW E a r.2.1) ++ (rdW E b r.2.2)) := by
  intro sz
  refine z_entry (Qc := fun A => zQi E A r.1 ((hsW E a r.2.1) ++ (rdW E b r.2.2))) (by decide) rfl (Nat.le_of_ble_eq_true rfl) ?_
  intro p e s m below meth c A X hW ls hl
  have X : zX E wsX3_carryOutIn RX3 cX3_carryOutIn 5 (some .int) yX3_carryOutIn p s m ([.ref (b 0), .ref (a 0)] : List Value).toArray meth c A := X
  have hl : lv_has ls 5 [(0, .ref (b 0)), (1, .ref (a 0))] := hl
  have hr : d_X3_carryOutIn v w = some r := h
  clear h
  have q_0 : Cond.fieldLink RX3 15 "ApplauseTallies$OrderReader" "place" "I" ∈ wsX3_carryOutIn := List.mem_of_getElem? (i := 1) rfl
  have q_1 : Cond.fieldLink RX3 33 "ApplauseTallies$OrderReader" "times" "I" ∈ wsX3_carryOutIn := List.mem_of_getElem? (i := 2) rfl
  have hn_X3 : ∀ x ∈ wsX30, x ∈ wsX3_carryOutIn := zz_in [178, 179, 180, 181, 182] (by decide +kernel)
  unfold d_X3_carryOutIn at hr
  refine lv_aload_n X.1 X.2.1 dX3_carryOutIn_0 rfl (lv_at hl 0 rfl) ?_
  refine lv_iconst (v := 0) X.1 X.2.1 dX3_carryOutIn_1 (by decide) ?_
  refine z_put X hW hr (fun w2 => ((hsW E a v) ++ (rdW E b w2))) tyX3 tyX3_ok nmX3 29 3 1 (C := RX3) (T := TX3) (N := 5) rfl rfl hn_X3 (by decide) q_0 rfl rfl rfl (Nat.le_of_ble_eq_true rfl) rfl dX3_carryOutIn_2 (fun w2 H locs hr hW => ?_)
  refine lv_iconst (v := 0) X.1 X.2.1 dX3_carryOutIn_5 (by decide) ?_
  refine lv_istore_n (lv' := [(2, .int 0), (0, .ref (b 0)), (1, .ref (a 0))]) X.1 X.2.1 dX3_carryOutIn_6 rfl hl (by decide) rfl (fun ls hl => ?_)
  refine lv_iconst (v := 0) X.1 X.2.1 dX3_carryOutIn_7 (by decide) ?_
  refine lv_istore_n (lv' := [(3, .int 0), (2, .int 0), (0, .ref (b 0)), (1, .ref (a 0))]) X.1 X.2.1 dX3_carryOutIn_8 rfl hl (by decide) rfl (fun ls hl => ?_)
  have L_9 : ∀ (n_9 : Nat), ∀ (x2 : Int32) (x3 : Int32) (v : zHV) (w : zHV) (H : Heap) (locs : List Loc) (ls : Array Slot), lp_X3_carryOutIn_9   n_9 x2 x3 v w = some r → zW E A s ((hsW E a v) ++ (rdW E b w)) H locs → lv_has ls 5 [(0, .ref (b 0)), (1, .ref (a 0)), (2, .int x2), (3, .int x3)] → W p l e rm_X3_carryOutIn s m ([.ref (b 0), .ref (a 0)] : List Value).toArray below meth c H locs 0 0 (MQ below (zQi E A r.1 ((hsW E a r.2.1) ++ (rdW E b r.2.2))) ([.ref (b 0), .ref (a 0)] : List Value).toArray s 0 0 A) (F0 m 9 ls []) := by
    intro n_9
    induction n_9 with
    | zero => exact fun x2 x3 v w H locs ls hr hW hl => absurd (show (none : Option (Int32 × zHV × zHV)) = some r from hr) (fun h => by cases h)
    | succ n_9 ih_9 =>
      intro x2 x3 v w H locs ls hr hW hl
      have hr : lpB_X3_carryOutIn_9   (lp_X3_carryOutIn_9   n_9) x2 x3 v w = some r := hr
      unfold lpB_X3_carryOutIn_9 at hr
      refine lv_iload_n X.1 X.2.1 dX3_carryOutIn_9 rfl (lv_at hl 3 rfl) ?_
      refine lv_bipush (v := 80) X.1 X.2.1 dX3_carryOutIn_10 (by decide) ?_
      refine z_cmpgt X 66 hr dX3_carryOutIn_12 (by decide) (fun hr => ?_) (fun hr => ?_)
      · refine lv_iload_n X.1 X.2.1 dX3_carryOutIn_66 rfl (lv_at hl 2 rfl) ?_
        cases hr
        exact z_iret X hW rfl dX3_carryOutIn_67
      · refine lv_aload_n X.1 X.2.1 dX3_carryOutIn_15 rfl (lv_at hl 0 rfl) ?_
        have hp_16 := (z_spr (hsW E a v) (z_all (rdW E b w)))
        refine z_calli X hW (fun u => u) hr hp_16 (fun u => (rdW E b u)) (fun w16 => ((hsW E a v) ++ (rdW E b w16))) (fun u => (z_jnr (hsW E a v) (z_lla (rdW E b u)))) (fun x u h => z_runV (As := []) (rest := []) X hW hp_16 (c_X3_readOrder l E b w (x, u) h _) hy_X3_readOrder 29 3 (C := RX3) (T := TX3) (N := 5) rfl rfl rfl gX3_carryOutIn_X3_readOrder rfl rfl ⟨by decide, by decide⟩ rfl hl rfl rfl (Nat.le_of_ble_eq_true rfl) dX3_carryOutIn_16 ⟨Nat.zero_le _, Nat.zero_le _⟩) (fun t16 w16 H locs hr hW => ?_)
        refine z_ifeq X 66 hr dX3_carryOutIn_19 (by decide) (fun hr => ?_) (fun hr => ?_)
        · refine lv_iload_n X.1 X.2.1 dX3_carryOutIn_66 rfl (lv_at hl 2 rfl) ?_
          cases hr
          exact z_iret X hW rfl dX3_carryOutIn_67
        · refine lv_iconst (v := 0) X.1 X.2.1 dX3_carryOutIn_22 (by decide) ?_
          refine lv_istore (lv' := [(4, .int 0), (0, .ref (b 0)), (1, .ref (a 0)), (2, .int x2), (3, .int x3)]) X.1 X.2.1 dX3_carryOutIn_23 hl (by decide) rfl (fun ls hl => ?_)
          have L_25 : ∀ (n_25 : Nat), ∀ (x2 : Int32) (x3 : Int32) (x4 : Int32) (v : zHV) (w : zHV) (H : Heap) (locs : List Loc) (ls : Array Slot), lp_X3_carryOutIn_25  (lp_X3_carryOutIn_9   n_9)  n_25 x2 x3 x4 v w = some r → zW E A s ((hsW E a v) ++ (rdW E b w)) H locs → lv_has ls 5 [(0, .ref (b 0)), (1, .ref (a 0)), (2, .int x2), (3, .int x3), (4, .int x4)] → W p l e rm_X3_carryOutIn s m ([.ref (b 0), .ref (a 0)] : List Value).toArray below meth c H locs 0 0 (MQ below (zQi E A r.1 ((hsW E a r.2.1) ++ (rdW E b r.2.2))) ([.ref (b 0), .ref (a 0)] : List Value).toArray s 0 0 A) (F0 m 25 ls []) := by
            intro n_25
            induction n_25 with
            | zero => exact fun x2 x3 x4 v w H locs ls hr hW hl => absurd (show (none : Option (Int32 × zHV × zHV)) = some r from hr) (fun h => by cases h)
            | succ n_25 ih_25 =>
              intro x2 x3 x4 v w H locs ls hr hW hl
              have hr : lpB_X3_carryOutIn_25  (lp_X3_carryOutIn_9   n_9)  (lp_X3_carryOutIn_25  (lp_X3_carryOutIn_9   n_9)  n_25) x2 x3 x4 v w = some r := hr
              unfold lpB_X3_carryOutIn_25 at hr
              refine lv_iload X.1 X.2.1 dX3_carryOutIn_25 (lv_at hl 4 rfl) ?_
              refine lv_aload_n X.1 X.2.1 dX3_carryOutIn_27 rfl (lv_at hl 0 rfl) ?_
              refine z_get X hW 29 3 4 (C := RX3) (T := TX3) (N := 5) rfl rfl hn_X3 (by decide) q_1 rfl dX3_carryOutIn_28 ?_
              refine z_cmpge X 53 hr dX3_carryOutIn_31 (by decide) (fun hr => ?_) (fun hr => ?_)
              · refine lv_aload_n X.1 X.2.1 dX3_carryOutIn_53 rfl (lv_at hl 0 rfl) ?_
                refine lv_bipush (v := 59) X.1 X.2.1 dX3_carryOutIn_54 (by decide) ?_
                have hp_56 := (z_spr (hsW E a v) (z_all (rdW E b w)))
                refine z_calli X hW (fun u => u) hr hp_56 (fun u => (rdW E b u)) (fun w56 => ((hsW E a v) ++ (rdW E b w56))) (fun u => (z_jnr (hsW E a v) (z_lla (rdW E b u)))) (fun x u h => z_runV (As := [.int 59]) (rest := []) X hW hp_56 (c_X3_readSign l E b w 59 (x, u) h _) hy_X3_readSign 29 3 (C := RX3) (T := TX3) (N := 5) rfl rfl rfl gX3_carryOutIn_X3_readSign rfl rfl ⟨by decide, by decide⟩ rfl hl rfl rfl (Nat.le_of_ble_eq_true rfl) dX3_carryOutIn_56 ⟨Nat.zero_le _, Nat.zero_le _⟩) (fun t56 w56 H locs hr hW => ?_)
                refine lv_pop X.1 X.2.1 dX3_carryOutIn_59 rfl ?_
                refine z_iinc X (fun x3_60 => [(3, .int x3_60), (0, .ref (b 0)), (1, .ref (a 0)), (2, .int x2), (4, .int x4)]) hr hl (k := 3) rfl (by decide) (fun _ => rfl) dX3_carryOutIn_60 (fun x3_60 ls hr hl => ?_)
                refine lv_goto (tgt := 9) X.1 X.2.1 dX3_carryOutIn_63 (by decide) ?_
                exact ih_9 x2 x3_60 v w56 _ _ _ hr hW (lv_sub hl [1, 2, 3, 0] rfl)
              · refine lv_aload_n X.1 X.2.1 dX3_carryOutIn_34 rfl (lv_at hl 0 rfl) ?_
                refine lv_aload_n X.1 X.2.1 dX3_carryOutIn_35 rfl (lv_at hl 1 rfl) ?_
                have hp_36 := (z_sp2 (z_all (hsW E a v)) (z_all (rdW E b w)))
                refine z_calli X hW (fun u => u) hr hp_36 (fun u => ((hsW E a u) ++ (rdW E b w))) (fun v36 => ((hsW E a v36) ++ (rdW E b w))) (fun u => (z_jn2 (z_lla (hsW E a u)) (z_lla (rdW E b w)))) (fun x u h => z_runV (As := [.ref (a 0)]) (rest := []) X hW hp_36 (c_X3_carryOrderOutIn l E a b v w (x, u) h _) hy_X3_carryOrderOutIn 29 3 (C := RX3) (T := TX3) (N := 5) rfl rfl rfl gX3_carryOutIn_X3_carryOrderOutIn rfl rfl ⟨by decide, by decide⟩ rfl hl rfl rfl (Nat.le_of_ble_eq_true rfl) dX3_carryOutIn_36 ⟨Nat.zero_le _, Nat.zero_le _⟩) (fun t36 v36 H locs hr hW => ?_)
                refine z_ifge X 44 hr dX3_carryOutIn_39 (by decide) (fun hr => ?_) (fun hr => ?_)
                · refine z_iinc X (fun x2_44 => [(2, .int x2_44), (0, .ref (b 0)), (1, .ref (a 0)), (3, .int x3), (4, .int x4)]) hr hl (k := 2) rfl (by decide) (fun _ => rfl) dX3_carryOutIn_44 (fun x2_44 ls hr hl => ?_)
                  refine z_iinc X (fun x4_47 => [(4, .int x4_47), (2, .int x2_44), (0, .ref (b 0)), (1, .ref (a 0)), (3, .int x3)]) hr hl (k := 4) rfl (by decide) (fun _ => rfl) dX3_carryOutIn_47 (fun x4_47 ls hr hl => ?_)
                  refine lv_goto (tgt := 25) X.1 X.2.1 dX3_carryOutIn_50 (by decide) ?_
                  exact ih_25 x2_44 x3 x4_47 v36 w _ _ _ hr hW (lv_sub hl [2, 3, 1, 4, 0] rfl)
                · refine lv_iload_n X.1 X.2.1 dX3_carryOutIn_42 rfl (lv_at hl 2 rfl) ?_
                  cases hr
                  exact z_iret X hW rfl dX3_carryOutIn_43
          exact L_25 _ x2 x3 0 v w16 _ _ _ hr hW (lv_sub hl [1, 2, 3, 4, 0] rfl)
  exact L_9 _ 0 0 v w2 _ _ _ hr hW (lv_sub hl [2, 3, 1, 0] rfl)
