abbrev rm_X4_length : Room := { frames := 0, cells := 0, slots := 0, locals := 0 }
theorem hy_X4_length : zY yX4_length wsX4_length cX4_length 1 (some .int) 0 := ⟨⟨_, rfl⟩, by decide, by decide, by decide +kernel⟩
def d_X4_length (v : zHV) : Option (Int32) :=
some (v 1 0)
set_option maxHeartbeats 4000000 in
set_option maxRecDepth 100000 in
theorem c_X4_length (l : Launch) (E : zE) (a : Nat → Nat) (v : zHV) (r : Int32) (h : d_X4_length v = some r) : zMi l E yX4_length wsX4_length rm_X4_length [.ref (a 0)] (pdW E a v) r (pdW E a v) := by
  intro sz
  refine z_entry (Qc := fun A => zQi E A r (pdW E a v)) (by decide) rfl (Nat.le_of_ble_eq_true rfl) ?_
  intro p e s m below meth c A X hW ls hl
  have X : zX E wsX4_length RX4 cX4_length 1 (some .int) yX4_length p s m ([.ref (a 0)] : List Value).toArray meth c A := X
  have hl : lv_has ls 1 [(0, .ref (a 0))] := hl
  have hr : d_X4_length v = some r := h
  clear h
  have q_0 : Cond.fieldLink RX4 15 "ApplauseTallies$Pad" "length" "I" ∈ wsX4_length := List.mem_of_getElem? (i := 1) rfl
  have hn_X4 : ∀ x ∈ wsX40, x ∈ wsX4_length := zz_in [2, 3] (by decide +kernel)
  unfold d_X4_length at hr
  refine lv_aload_n X.1 X.2.1 dX4_length_0 rfl (lv_at hl 0 rfl) ?_
  refine z_get X hW 0 4 1 (C := RX4) (T := TX4) (N := 2) rfl rfl hn_X4 (by decide) q_0 rfl dX4_length_1 ?_
  cases hr
  exact z_iret X hW rfl dX4_length_4
abbrev rm_X4_has : Room := { frames := 0, cells := 0, slots := 0, locals := 0 }
theorem hy_X4_has : zY yX4_has wsX4_has cX4_has 2 (some .boolean) 1 := ⟨⟨_, rfl⟩, by decide, by decide, by decide +kernel⟩
def d_X4_has (v : zHV) (p1 : Int32) : Option (Int32) :=
(if p1 < 0 then
some 0
else
(if (v 1 0) ≤ p1 then
some 0
else
some 1))
set_option maxHeartbeats 4000000 in
set_option maxRecDepth 100000 in
theorem c_X4_has (l : Launch) (E : zE) (a : Nat → Nat) (v : zHV) (p1 : Int32) (r : Int32) (h : d_X4_has v p1 = some r) : zMi l E yX4_has wsX4_has rm_X4_has [.ref (a 0), .int p1] (pdW E a v) r (pdW E a v) := by
  intro sz
  refine z_entry (Qc := fun A => zQi E A r (pdW E a v)) (by decide) rfl (Nat.le_of_ble_eq_true rfl) ?_
  intro p e s m below meth c A X hW ls hl
  have X : zX E wsX4_has RX4 cX4_has 2 (some .boolean) yX4_has p s m ([.ref (a 0), .int p1] : List Value).toArray meth c A := X
  have hl : lv_has ls 2 [(0, .ref (a 0)), (1, .int p1)] := hl
  have hr : d_X4_has v p1 = some r := h
  clear h
  have q_0 : Cond.fieldLink RX4 15 "ApplauseTallies$Pad" "length" "I" ∈ wsX4_has := List.mem_of_getElem? (i := 1) rfl
  have hn_X4 : ∀ x ∈ wsX40, x ∈ wsX4_has := zz_in [2, 3] (by decide +kernel)
  unfold d_X4_has at hr
  refine lv_iload_n X.1 X.2.1 dX4_has_0 rfl (lv_at hl 1 rfl) ?_
  refine z_iflt X 16 hr dX4_has_1 (by decide) (fun hr => ?_) (fun hr => ?_)
  · refine lv_iconst (v := 0) X.1 X.2.1 dX4_has_16 (by decide) ?_
    cases hr
    exact z_zret X hW rfl rfl dX4_has_17
  · refine lv_iload_n X.1 X.2.1 dX4_has_4 rfl (lv_at hl 1 rfl) ?_
    refine lv_aload_n X.1 X.2.1 dX4_has_5 rfl (lv_at hl 0 rfl) ?_
    refine z_get X hW 0 4 1 (C := RX4) (T := TX4) (N := 2) rfl rfl hn_X4 (by decide) q_0 rfl dX4_has_6 ?_
    refine z_cmpge X 16 hr dX4_has_9 (by decide) (fun hr => ?_) (fun hr => ?_)
    · refine lv_iconst (v := 0) X.1 X.2.1 dX4_has_16 (by decide) ?_
      cases hr
      exact z_zret X hW rfl rfl dX4_has_17
    · refine lv_iconst (v := 1) X.1 X.2.1 dX4_has_12 (by decide) ?_
      refine lv_goto (tgt := 17) X.1 X.2.1 dX4_has_13 (by decide) ?_
      cases hr
      exact z_zret X hW rfl rfl dX4_has_17
abbrev rm_X4_codeAt : Room := { frames := 0, cells := 0, slots := 0, locals := 0 }
theorem hy_X4_codeAt : zY yX4_codeAt wsX4_codeAt cX4_codeAt 2 (some .int) 1 := ⟨⟨_, rfl⟩, by decide, by decide, by decide +kernel⟩
def d_X4_codeAt (v : zHV) (p1 : Int32) : Option (Int32) :=
(if p1 < 0 then
some 0
else
(if (v 1 0) ≤ p1 then
some 0
else
(if (nI 80) ≤ p1 then
some 0
else
zld 80 (v 0) p1 fun t26 =>
some t26)))
set_option maxHeartbeats 4000000 in
set_option maxRecDepth 100000 in
theorem c_X4_codeAt (l : Launch) (E : zE) (a : Nat → Nat) (v : zHV) (p1 : Int32) (r : Int32) (h : d_X4_codeAt v p1 = some r) : zMi l E yX4_codeAt wsX4_codeAt rm_X4_codeAt [.ref (a 0), .int p1] (pdW E a v) r (pdW E a v) := by
  intro sz
  refine z_entry (Qc := fun A => zQi E A r (pdW E a v)) (by decide) rfl (Nat.le_of_ble_eq_true rfl) ?_
  intro p e s m below meth c A X hW ls hl
  have X : zX E wsX4_codeAt RX4 cX4_codeAt 2 (some .int) yX4_codeAt p s m ([.ref (a 0), .int p1] : List Value).toArray meth c A := X
  have hl : lv_has ls 2 [(0, .ref (a 0)), (1, .int p1)] := hl
  have hr : d_X4_codeAt v p1 = some r := h
  clear h
  have q_0 : Cond.fieldLink RX4 15 "ApplauseTallies$Pad" "length" "I" ∈ wsX4_codeAt := List.mem_of_getElem? (i := 1) rfl
  have hn_X4 : ∀ x ∈ wsX40, x ∈ wsX4_codeAt := zz_in [3, 4] (by decide +kernel)
  have q_2 : Cond.fieldLink RX4 9 "ApplauseTallies$Pad" "codes" "[I" ∈ wsX4_codeAt := List.mem_of_getElem? (i := 2) rfl
  unfold d_X4_codeAt at hr
  refine lv_iload_n X.1 X.2.1 dX4_codeAt_0 rfl (lv_at hl 1 rfl) ?_
  refine z_iflt X 30 hr dX4_codeAt_1 (by decide) (fun hr => ?_) (fun hr => ?_)
  · refine lv_iconst (v := 0) X.1 X.2.1 dX4_codeAt_30 (by decide) ?_
    cases hr
    exact z_iret X hW rfl dX4_codeAt_31
  · refine lv_iload_n X.1 X.2.1 dX4_codeAt_4 rfl (lv_at hl 1 rfl) ?_
    refine lv_aload_n X.1 X.2.1 dX4_codeAt_5 rfl (lv_at hl 0 rfl) ?_
    refine z_get X hW 0 4 1 (C := RX4) (T := TX4) (N := 2) rfl rfl hn_X4 (by decide) q_0 rfl dX4_codeAt_6 ?_
    refine z_cmpge X 30 hr dX4_codeAt_9 (by decide) (fun hr => ?_) (fun hr => ?_)
    · refine lv_iconst (v := 0) X.1 X.2.1 dX4_codeAt_30 (by decide) ?_
      cases hr
      exact z_iret X hW rfl dX4_codeAt_31
    · refine lv_iload_n X.1 X.2.1 dX4_codeAt_12 rfl (lv_at hl 1 rfl) ?_
      refine lv_aload_n X.1 X.2.1 dX4_codeAt_13 rfl (lv_at hl 0 rfl) ?_
      refine z_get X hW 0 4 0 (C := RX4) (T := TX4) (N := 2) rfl rfl hn_X4 (by decide) q_2 rfl dX4_codeAt_14 ?_
      refine z_len X hW 1 rfl dX4_codeAt_17 ?_
      refine z_cmpge X 30 hr dX4_codeAt_18 (by decide) (fun hr => ?_) (fun hr => ?_)
      · refine lv_iconst (v := 0) X.1 X.2.1 dX4_codeAt_30 (by decide) ?_
        cases hr
        exact z_iret X hW rfl dX4_codeAt_31
      · refine lv_aload_n X.1 X.2.1 dX4_codeAt_21 rfl (lv_at hl 0 rfl) ?_
        refine z_get X hW 0 4 0 (C := RX4) (T := TX4) (N := 2) rfl rfl hn_X4 (by decide) q_2 rfl dX4_codeAt_22 ?_
        refine lv_iload_n X.1 X.2.1 dX4_codeAt_25 rfl (lv_at hl 1 rfl) ?_
        refine z_ald X hW 1 hr rfl dX4_codeAt_26 (fun t26 hr => ?_)
        refine lv_goto (tgt := 31) X.1 X.2.1 dX4_codeAt_27 (by decide) ?_
        cases hr
        exact z_iret X hW rfl dX4_codeAt_31
abbrev rm_X4_clear : Room := { frames := 0, cells := 0, slots := 0, locals := 0 }
theorem hy_X4_clear : zY yX4_clear wsX4_clear cX4_clear 1 none 0 := ⟨⟨_, rfl⟩, by decide, by decide, by decide +kernel⟩
def d_X4_clear (v : zHV) : Option (zHV) :=
zlet (zs v 1 0 0) fun v2 =>
some v2
set_option maxHeartbeats 4000000 in
set_option maxRecDepth 100000 in
theorem c_X4_clear (l : Launch) (E : zE) (a : Nat → Nat) (v : zHV) (r : zHV) (h : d_X4_clear v = some r) : zMv l E yX4_clear wsX4_clear rm_X4_clear [.ref (a 0)] (pdW E a v) (pdW E a r) := by
  intro sz
  refine z_entry (Qc := fun A => zQv E A (pdW E a r)) (by decide) rfl (Nat.le_of_ble_eq_true rfl) ?_
  intro p e s m below meth c A X hW ls hl
  have X : zX E wsX4_clear RX4 cX4_clear 1 none yX4_clear p s m ([.ref (a 0)] : List Value).toArray meth c A := X
  have hl : lv_has ls 1 [(0, .ref (a 0))] := hl
  have hr : d_X4_clear v = some r := h
  clear h
  have q_0 : Cond.fieldLink RX4 15 "ApplauseTallies$Pad" "length" "I" ∈ wsX4_clear := List.mem_of_getElem? (i := 1) rfl
  have hn_X4 : ∀ x ∈ wsX40, x ∈ wsX4_clear := zz_in [2, 3] (by decide +kernel)
  unfold d_X4_clear at hr
  refine lv_aload_n X.1 X.2.1 dX4_clear_0 rfl (lv_at hl 0 rfl) ?_
  refine lv_iconst (v := 0) X.1 X.2.1 dX4_clear_1 (by decide) ?_
  refine z_put X hW hr (fun v2 => (pdW E a v2)) tyX4 tyX4_ok nmX4 0 4 1 (C := RX4) (T := TX4) (N := 2) rfl rfl hn_X4 (by decide) q_0 rfl rfl rfl (Nat.le_of_ble_eq_true rfl) rfl dX4_clear_2 (fun v2 H locs hr hW => ?_)
  cases hr
  exact z_vret X hW dX4_clear_5
abbrev rm_X4_append : Room := { frames := 0, cells := 0, slots := 0, locals := 0 }
theorem hy_X4_append : zY yX4_append wsX4_append cX4_append 2 none 1 := ⟨⟨_, rfl⟩, by decide, by decide, by decide +kernel⟩
def d_X4_append (v : zHV) (p1 : Int32) : Option (zHV) :=
(if (v 1 0) < 0 then
some v
else
(if (nI 80) ≤ (v 1 0) then
some v
else
zsv 80 v 0 (v 1 0) p1 fun v28 =>
zlet ((v28 1 0) + 1) fun t35 =>
zlet (zs v28 1 0 t35) fun v36 =>
some v36))
set_option maxHeartbeats 4000000 in
set_option maxRecDepth 100000 in
theorem c_X4_append (l : Launch) (E : zE) (a : Nat → Nat) (v : zHV) (p1 : Int32) (r : zHV) (h : d_X4_append v p1 = some r) : zMv l E yX4_append wsX4_append rm_X4_append [.ref (a 0), .int p1] (pdW E a v) (pdW E a r) := by
  intro sz
  refine z_entry (Qc := fun A => zQv E A (pdW E a r)) (by decide) rfl (Nat.le_of_ble_eq_true rfl) ?_
  intro p e s m below meth c A X hW ls hl
  have X : zX E wsX4_append RX4 cX4_append 2 none yX4_append p s m ([.ref (a 0), .int p1] : List Value).toArray meth c A := X
  have hl : lv_has ls 2 [(0, .ref (a 0)), (1, .int p1)] := hl
  have hr : d_X4_append v p1 = some r := h
  clear h
  have q_0 : Cond.fieldLink RX4 15 "ApplauseTallies$Pad" "length" "I" ∈ wsX4_append := List.mem_of_getElem? (i := 1) rfl
  have hn_X4 : ∀ x ∈ wsX40, x ∈ wsX4_append := zz_in [3, 4] (by decide +kernel)
  have q_2 : Cond.fieldLink RX4 9 "ApplauseTallies$Pad" "codes" "[I" ∈ wsX4_append := List.mem_of_getElem? (i := 2) rfl
  unfold d_X4_append at hr
  refine lv_aload_n X.1 X.2.1 dX4_append_0 rfl (lv_at hl 0 rfl) ?_
  refine z_get X hW 0 4 1 (C := RX4) (T := TX4) (N := 2) rfl rfl hn_X4 (by decide) q_0 rfl dX4_append_1 ?_
  refine z_iflt X 39 hr dX4_append_4 (by decide) (fun hr => ?_) (fun hr => ?_)
  · cases hr
    exact z_vret X hW dX4_append_39
  · refine lv_aload_n X.1 X.2.1 dX4_append_7 rfl (lv_at hl 0 rfl) ?_
    refine z_get X hW 0 4 1 (C := RX4) (T := TX4) (N := 2) rfl rfl hn_X4 (by decide) q_0 rfl dX4_append_8 ?_
    refine lv_aload_n X.1 X.2.1 dX4_append_11 rfl (lv_at hl 0 rfl) ?_
    refine z_get X hW 0 4 0 (C := RX4) (T := TX4) (N := 2) rfl rfl hn_X4 (by decide) q_2 rfl dX4_append_12 ?_
    refine z_len X hW 1 rfl dX4_append_15 ?_
    refine z_cmpge X 39 hr dX4_append_16 (by decide) (fun hr => ?_) (fun hr => ?_)
    · cases hr
      exact z_vret X hW dX4_append_39
    · refine lv_aload_n X.1 X.2.1 dX4_append_19 rfl (lv_at hl 0 rfl) ?_
      refine z_get X hW 0 4 0 (C := RX4) (T := TX4) (N := 2) rfl rfl hn_X4 (by decide) q_2 rfl dX4_append_20 ?_
      refine lv_aload_n X.1 X.2.1 dX4_append_23 rfl (lv_at hl 0 rfl) ?_
      refine z_get X hW 0 4 1 (C := RX4) (T := TX4) (N := 2) rfl rfl hn_X4 (by decide) q_0 rfl dX4_append_24 ?_
      refine lv_iload_n X.1 X.2.1 dX4_append_27 rfl (lv_at hl 1 rfl) ?_
      refine z_asv X hW 1 hr (fun v28 => (pdW E a v28)) rfl rfl dX4_append_28 (fun v28 H locs hr hW => ?_)
      refine lv_aload_n X.1 X.2.1 dX4_append_29 rfl (lv_at hl 0 rfl) ?_
      refine lv_dup X.1 X.2.1 dX4_append_30 rfl ?_
      refine z_get X hW 0 4 1 (C := RX4) (T := TX4) (N := 2) rfl rfl hn_X4 (by decide) q_0 rfl dX4_append_31 ?_
      refine lv_iconst (v := 1) X.1 X.2.1 dX4_append_34 (by decide) ?_
      refine z_iadd X hr dX4_append_35 (fun t35 hr => ?_)
      refine z_put X hW hr (fun v36 => (pdW E a v36)) tyX4 tyX4_ok nmX4 0 4 1 (C := RX4) (T := TX4) (N := 2) rfl rfl hn_X4 (by decide) q_0 rfl rfl rfl (Nat.le_of_ble_eq_true rfl) rfl dX4_append_36 (fun v36 H locs hr hW => ?_)
      cases hr
      exact z_vret X hW dX4_append_39
abbrev rm_X4_appendPart : Room := { frames := 1, cells := 0, slots := 0, locals := 21 }
theorem hy_X4_appendPart : zY yX4_appendPart wsX4_appendPart cX4_appendPart 6 none 2 := ⟨⟨_, rfl⟩, by decide, by decide, by decide +kernel⟩
def lpB_X4_appendPart_11 (p1 : Int32) (p2 : Int32)  (k_11 : Int32 → Int32 → zHV → Option (zHV)) (x3 : Int32) (x4 : Int32) (v : zHV) : Option (zHV) :=
(if x4 ≤ 0 then
some v
else
zdv p2 x4 fun t19 =>
zrm t19 10 fun t22 =>
zjn (fun (x3 : Int32) (x4 : Int32) (x5 : Int32) (s0 : Int32) (v : zHV) =>
zjn (fun (x3 : Int32) (x4 : Int32) (x5 : Int32) (v : zHV) =>
zdv x4 10 fun t63 =>
k_11 x3 t63 v) fun j_59 =>
(if s0 = 0 then
j_59 s0 x4 x5 v
else
zlet (48 + x5) fun t55 =>
zup (d_X4_append v t55) (fun u => u) fun v56 =>
j_59 s0 x4 x5 v56)) fun j_45 =>
zjn (fun (x3 : Int32) (x4 : Int32) (x5 : Int32) (v : zHV) =>
j_45 x3 x4 x5 1 v) fun j_40 =>
(if x3 = 0 then
(if 0 < t22 then
j_40 x3 x4 t22 v
else
(if x4 = 1 then
j_40 x3 x4 t22 v
else
j_45 x3 x4 t22 0 v))
else
j_40 x3 x4 t22 v))
def lp_X4_appendPart_11 (p1 : Int32) (p2 : Int32)  : Nat → Int32 → Int32 → zHV → Option (zHV)
  | 0 => fun _ _ _ => none
  | n_ + 1 => lpB_X4_appendPart_11 p1 p2  (lp_X4_appendPart_11 p1 p2  n_)
def d_X4_appendPart (v : zHV) (p1 : Int32) (p2 : Int32) : Option (zHV) :=
zup (d_X4_append v p1) (fun u => u) fun v2 =>
lp_X4_appendPart_11 p1 p2  zF 0 1000000000 v2
set_option maxHeartbeats 4000000 in
set_option maxRecDepth 100000 in
theorem c_X4_appendPart (l : Launch) (E : zE) (a : Nat → Nat) (v : zHV) (p1 : Int32) (p2 : Int32) (r : zHV) (h : d_X4_appendPart v p1 p2 = some r) : zMv l E yX4_appendPart wsX4_appendPart rm_X4_appendPart [.ref (a 0), .int p1, .int p2] (pdW E a v) (pdW E a r) := by
  intro sz
  refine z_entry (Qc := fun A => zQv E A (pdW E a r)) (by decide) rfl (Nat.le_of_ble_eq_true rfl) ?_
  intro p e s m below meth c A X hW ls hl
  have X : zX E wsX4_appendPart RX4 cX4_appendPart 6 none yX4_appendPart p s m ([.ref (a 0), .int p1, .int p2] : List Value).toArray meth c A := X
  have hl : lv_has ls 6 [(0, .ref (a 0)), (1, .int p1), (2, .int p2)] := hl
  have hr : d_X4_appendPart v p1 p2 = some r := h
  clear h
  have q_0 : Cond.constant RX4 23 1000000000 ∈ wsX4_appendPart := List.mem_of_getElem? (i := 1) rfl
  unfold d_X4_appendPart at hr
  refine lv_aload_n X.1 X.2.1 dX4_appendPart_0 rfl (lv_at hl 0 rfl) ?_
  refine lv_iload_n X.1 X.2.1 dX4_appendPart_1 rfl (lv_at hl 1 rfl) ?_
  have hp_2 := (z_all (pdW E a v))
  refine z_callv X hW (fun u => u) hr hp_2 (fun u => (pdW E a u)) (fun v2 => (pdW E a v2)) (fun u => (z_lla (pdW E a u))) (fun u h => z_runV (As := [.int p1]) (rest := []) X hW hp_2 (c_X4_append l E a v p1 u h _) hy_X4_append 0 4 (C := RX4) (T := TX4) (N := 2) rfl rfl rfl gX4_appendPart_X4_append rfl rfl ⟨by decide, by decide⟩ rfl hl rfl rfl (Nat.le_of_ble_eq_true rfl) dX4_appendPart_2 ⟨Nat.zero_le _, Nat.zero_le _⟩) (fun v2 H locs hr hW => ?_)
  refine lv_iconst (v := 0) X.1 X.2.1 dX4_appendPart_5 (by decide) ?_
  refine lv_istore_n (lv' := [(3, .int 0), (0, .ref (a 0)), (1, .int p1), (2, .int p2)]) X.1 X.2.1 dX4_appendPart_6 rfl hl (by decide) rfl (fun ls hl => ?_)
  refine lv_ldc (v := 1000000000) X.1 X.2.1 X.2.2.2.1 (X.2.2.2.2.1 _ q_0) dX4_appendPart_7 ?_
  refine lv_istore (lv' := [(4, .int 1000000000), (3, .int 0), (0, .ref (a 0)), (1, .int p1), (2, .int p2)]) X.1 X.2.1 dX4_appendPart_9 hl (by decide) rfl (fun ls hl => ?_)
  have L_11 : ∀ (n_11 : Nat), ∀ (x3 : Int32) (x4 : Int32) (v : zHV) (H : Heap) (locs : List Loc) (ls : Array Slot), lp_X4_appendPart_11 p1 p2  n_11 x3 x4 v = some r → zW E A s (pdW E a v) H locs → lv_has ls 6 [(0, .ref (a 0)), (1, .int p1), (2, .int p2), (3, .int x3), (4, .int x4)] → W p l e rm_X4_appendPart s m ([.ref (a 0), .int p1, .int p2] : List Value).toArray below meth c H locs 0 0 (MQ below (zQv E A (pdW E a r)) ([.ref (a 0), .int p1, .int p2] : List Value).toArray s 0 0 A) (F0 m 11 ls []) := by
    intro n_11
    induction n_11 with
    | zero => exact fun x3 x4 v H locs ls hr hW hl => absurd (show (none : Option (zHV)) = some r from hr) (fun h => by cases h)
    | succ n_11 ih_11 =>
      intro x3 x4 v H locs ls hr hW hl
      have hr : lpB_X4_appendPart_11 p1 p2  (lp_X4_appendPart_11 p1 p2  n_11) x3 x4 v = some r := hr
      unfold lpB_X4_appendPart_11 at hr
      refine lv_iload X.1 X.2.1 dX4_appendPart_11 (lv_at hl 4 rfl) ?_
      refine z_ifle X 69 hr dX4_appendPart_13 (by decide) (fun hr => ?_) (fun hr => ?_)
      · cases hr
        exact z_vret X hW dX4_appendPart_69
      · refine lv_iload_n X.1 X.2.1 dX4_appendPart_16 rfl (lv_at hl 2 rfl) ?_
        refine lv_iload X.1 X.2.1 dX4_appendPart_17 (lv_at hl 4 rfl) ?_
        refine z_idiv X hr dX4_appendPart_19 (fun t19 hr => ?_)
        refine lv_bipush (v := 10) X.1 X.2.1 dX4_appendPart_20 (by decide) ?_
        refine z_irem X hr dX4_appendPart_22 (fun t22 hr => ?_)
        refine lv_istore (lv' := [(5, .int t22), (0, .ref (a 0)), (1, .int p1), (2, .int p2), (3, .int x3), (4, .int x4)]) X.1 X.2.1 dX4_appendPart_23 hl (by decide) rfl (fun ls hl => ?_)
        refine lv_iload_n X.1 X.2.1 dX4_appendPart_25 rfl (lv_at hl 4 rfl) ?_
        obtain ⟨j_45, e_45, hr⟩ := zjn_some hr
        have J_45 : ∀ (x3 : Int32) (x4 : Int32) (x5 : Int32) (s0 : Int32) (v : zHV) (H : Heap) (locs : List Loc) (ls : Array Slot), j_45 x3 x4 x5 s0 v = some r → zW E A s (pdW E a v) H locs → lv_has ls 6 [(0, .ref (a 0)), (1, .int p1), (2, .int p2), (3, .int x3), (4, .int x4), (5, .int x5)] → W p l e rm_X4_appendPart s m ([.ref (a 0), .int p1, .int p2] : List Value).toArray below meth c H locs 0 0 (MQ below (zQv E A (pdW E a r)) ([.ref (a 0), .int p1, .int p2] : List Value).toArray s 0 0 A) (F0 m 45 ls [.int s0]) := by
          intro x3 x4 x5 s0 v H locs ls hr hW hl
          rw [e_45] at hr
          refine lv_istore_n (lv' := [(3, .int s0), (0, .ref (a 0)), (1, .int p1), (2, .int p2), (4, .int x4), (5, .int x5)]) X.1 X.2.1 dX4_appendPart_45 rfl hl (by decide) rfl (fun ls hl => ?_)
          refine lv_iload_n X.1 X.2.1 dX4_appendPart_46 rfl (lv_at hl 0 rfl) ?_
          obtain ⟨j_59, e_59, hr⟩ := zjn_some hr
          have J_59 : ∀ (x3 : Int32) (x4 : Int32) (x5 : Int32) (v : zHV) (H : Heap) (locs : List Loc) (ls : Array Slot), j_59 x3 x4 x5 v = some r → zW E A s (pdW E a v) H locs → lv_has ls 6 [(0, .ref (a 0)), (1, .int p1), (2, .int p2), (3, .int x3), (4, .int x4), (5, .int x5)] → W p l e rm_X4_appendPart s m ([.ref (a 0), .int p1, .int p2] : List Value).toArray below meth c H locs 0 0 (MQ below (zQv E A (pdW E a r)) ([.ref (a 0), .int p1, .int p2] : List Value).toArray s 0 0 A) (F0 m 59 ls []) := by
            intro x3 x4 x5 v H locs ls hr hW hl
            rw [e_59] at hr
            refine lv_iload X.1 X.2.1 dX4_appendPart_59 (lv_at hl 4 rfl) ?_
            refine lv_bipush (v := 10) X.1 X.2.1 dX4_appendPart_61 (by decide) ?_
            refine z_idiv X hr dX4_appendPart_63 (fun t63 hr => ?_)
            refine lv_istore (lv' := [(4, .int t63), (0, .ref (a 0)), (1, .int p1), (2, .int p2), (3, .int x3), (5, .int x5)]) X.1 X.2.1 dX4_appendPart_64 hl (by decide) rfl (fun ls hl => ?_)
            refine lv_goto (tgt := 11) X.1 X.2.1 dX4_appendPart_66 (by decide) ?_
            exact ih_11 x3 t63 v _ _ _ hr hW (lv_sub hl [1, 2, 3, 4, 0] rfl)
          refine z_ifeq X 59 hr dX4_appendPart_47 (by decide) (fun hr => ?_) (fun hr => ?_)
          · exact J_59 s0 x4 x5 v _ _ _ hr hW (lv_sub hl [1, 2, 3, 0, 4, 5] rfl)
          · refine lv_aload_n X.1 X.2.1 dX4_appendPart_50 rfl (lv_at hl 1 rfl) ?_
            refine lv_bipush (v := 48) X.1 X.2.1 dX4_appendPart_51 (by decide) ?_
            refine lv_iload X.1 X.2.1 dX4_appendPart_53 (lv_at hl 5 rfl) ?_
            refine z_iadd X hr dX4_appendPart_55 (fun t55 hr => ?_)
            have hp_56 := (z_all (pdW E a v))
            refine z_callv X hW (fun u => u) hr hp_56 (fun u => (pdW E a u)) (fun v56 => (pdW E a v56)) (fun u => (z_lla (pdW E a u))) (fun u h => z_runV (As := [.int t55]) (rest := []) X hW hp_56 (c_X4_append l E a v t55 u h _) hy_X4_append 0 4 (C := RX4) (T := TX4) (N := 2) rfl rfl rfl gX4_appendPart_X4_append rfl rfl ⟨by decide, by decide⟩ rfl hl rfl rfl (Nat.le_of_ble_eq_true rfl) dX4_appendPart_56 ⟨Nat.zero_le _, Nat.zero_le _⟩) (fun v56 H locs hr hW => ?_)
            exact J_59 s0 x4 x5 v56 _ _ _ hr hW (lv_sub hl [1, 2, 3, 0, 4, 5] rfl)
        obtain ⟨j_40, e_40, hr⟩ := zjn_some hr
        have J_40 : ∀ (x3 : Int32) (x4 : Int32) (x5 : Int32) (v : zHV) (H : Heap) (locs : List Loc) (ls : Array Slot), j_40 x3 x4 x5 v = some r → zW E A s (pdW E a v) H locs → lv_has ls 6 [(0, .ref (a 0)), (1, .int p1), (2, .int p2), (3, .int x3), (4, .int x4), (5, .int x5)] → W p l e rm_X4_appendPart s m ([.ref (a 0), .int p1, .int p2] : List Value).toArray below meth c H locs 0 0 (MQ below (zQv E A (pdW E a r)) ([.ref (a 0), .int p1, .int p2] : List Value).toArray s 0 0 A) (F0 m 40 ls []) := by
          intro x3 x4 x5 v H locs ls hr hW hl
          rw [e_40] at hr
          refine lv_iconst (v := 1) X.1 X.2.1 dX4_appendPart_40 (by decide) ?_
          refine lv_goto (tgt := 45) X.1 X.2.1 dX4_appendPart_41 (by decide) ?_
          exact J_45 x3 x4 x5 1 v _ _ _ hr hW (lv_sub hl [0, 1, 2, 3, 4, 5] rfl)
        refine z_ifne X 40 hr dX4_appendPart_26 (by decide) (fun hr => ?_) (fun hr => ?_)
        · exact J_40 x3 x4 t22 v _ _ _ hr hW (lv_sub hl [1, 2, 3, 4, 5, 0] rfl)
        · refine lv_iload X.1 X.2.1 dX4_appendPart_29 (lv_at hl 0 rfl) ?_
          refine z_ifgt X 40 hr dX4_appendPart_31 (by decide) (fun hr => ?_) (fun hr => ?_)
          · exact J_40 x3 x4 t22 v _ _ _ hr hW (lv_sub hl [1, 2, 3, 4, 5, 0] rfl)
          · refine lv_iload X.1 X.2.1 dX4_appendPart_34 (lv_at hl 5 rfl) ?_
            refine lv_iconst (v := 1) X.1 X.2.1 dX4_appendPart_36 (by decide) ?_
            refine z_cmpne X 44 hr dX4_appendPart_37 (by decide) (fun hr => ?_) (fun hr => ?_)
            · refine lv_iconst (v := 0) X.1 X.2.1 dX4_appendPart_44 (by decide) ?_
              exact J_45 x3 x4 t22 0 v _ _ _ hr hW (lv_sub hl [1, 2, 3, 4, 5, 0] rfl)
            · exact J_40 x3 x4 t22 v _ _ _ hr hW (lv_sub hl [1, 2, 3, 4, 5, 0] rfl)
  exact L_11 _ 0 1000000000 v2 _ _ _ hr hW (lv_sub hl [2, 3, 4, 1, 0] rfl)
abbrev rm_X4_amountOf : Room := { frames := 0, cells := 0, slots := 0, locals := 0 }
theorem hy_X4_amountOf : zY yX4_amountOf wsX4_amountOf cX4_amountOf 6 (some .int) 1 := ⟨⟨_, rfl⟩, by decide, by decide, by decide +kernel⟩
def lpB_X4_amountOf_4 (p0 : Int64)  (k_4 : Int32 → Int64 → Option (Int32)) (x2 : Int32) (x3 : Int64) : Option (Int32) :=
zjn (fun (x2 : Int32) (x3 : Int64) =>
(if x2 = 0 then
some (-2)
else
some x2)) fun j_52 =>
(if 8 ≤ x2 then
j_52 x2 x3
else
zlet (lg_cmp x3 0) fun t12 =>
(if t12 = 0 then
j_52 x2 x3
else
zlet ((x3 &&& 255 : Int64)) fun t20 =>
zlet ((t20 : Int64).toInt32) fun t21 =>
(if t21 < 33 then
some (-2)
else
(if t21 ≤ 126 then
zlet ((x3.toUInt64 >>> ((8 : Int32).toInt64.toUInt64 &&& Int64.toUInt64 63)).toInt64) fun t44 =>
zlet (x2 + Int32.ofInt 1) fun x2_46 =>
k_4 x2_46 t44
else
some (-2)))))
def lp_X4_amountOf_4 (p0 : Int64)  : Nat → Int32 → Int64 → Option (Int32)
  | 0 => fun _ _ => none
  | n_ + 1 => lpB_X4_amountOf_4 p0  (lp_X4_amountOf_4 p0  n_)
def d_X4_amountOf (p0 : Int64) : Option (Int32) :=
lp_X4_amountOf_4 p0  zF 0 p0
set_option maxHeartbeats 4000000 in
set_option maxRecDepth 100000 in
theorem c_X4_amountOf (l : Launch) (E : zE) (p0 : Int64) (r : Int32) (h : d_X4_amountOf p0 = some r) : zMi l E yX4_amountOf wsX4_amountOf rm_X4_amountOf [.long p0] ([] : va_W) r ([] : va_W) := by
  intro sz
  refine z_entry (Qc := fun A => zQi E A r ([] : va_W)) (by decide) rfl (Nat.le_of_ble_eq_true rfl) ?_
  intro p e s m below meth c A X hW ls hl
  have X : zX E wsX4_amountOf RX4 cX4_amountOf 6 (some .int) yX4_amountOf p s m ([.long p0] : List Value).toArray meth c A := X
  have hl : lv_has ls 6 [(0, .long p0)] := hl
  have hr : d_X4_amountOf p0 = some r := h
  clear h
  have q_0 : Cond.constantLong RX4 28 255 ∈ wsX4_amountOf := List.mem_of_getElem? (i := 1) rfl
  unfold d_X4_amountOf at hr
  refine lv_iconst (v := 0) X.1 X.2.1 dX4_amountOf_0 (by decide) ?_
  refine lv_istore_n (lv' := [(2, .int 0), (0, .long p0)]) X.1 X.2.1 dX4_amountOf_1 rfl hl (by decide) rfl (fun ls hl => ?_)
  refine lv_lload_n X.1 X.2.1 dX4_amountOf_2 rfl (lv_at hl 1 rfl) ?_
  refine lv_lstore_n (lv' := [(3, .long p0), (2, .int 0), (0, .long p0)]) X.1 X.2.1 dX4_amountOf_3 rfl hl (by decide) rfl (fun ls hl => ?_)
  have L_4 : ∀ (n_4 : Nat), ∀ (x2 : Int32) (x3 : Int64) (H : Heap) (locs : List Loc) (ls : Array Slot), lp_X4_amountOf_4 p0  n_4 x2 x3 = some r → zW E A s ([] : va_W) H locs → lv_has ls 6 [(0, .long p0), (2, .int x2), (3, .long x3)] → W p l e rm_X4_amountOf s m ([.long p0] : List Value).toArray below meth c H locs 0 0 (MQ below (zQi E A r ([] : va_W)) ([.long p0] : List Value).toArray s 0 0 A) (F0 m 4 ls []) := by
    intro n_4
    induction n_4 with
    | zero => exact fun x2 x3 H locs ls hr hW hl => absurd (show (none : Option (Int32)) = some r from hr) (fun h => by cases h)
    | succ n_4 ih_4 =>
      intro x2 x3 H locs ls hr hW hl
      have hr : lpB_X4_amountOf_4 p0  (lp_X4_amountOf_4 p0  n_4) x2 x3 = some r := hr
      unfold lpB_X4_amountOf_4 at hr
      refine lv_iload_n X.1 X.2.1 dX4_amountOf_4 rfl (lv_at hl 1 rfl) ?_
      refine lv_bipush (v := 8) X.1 X.2.1 dX4_amountOf_5 (by decide) ?_
      obtain ⟨j_52, e_52, hr⟩ := zjn_some hr
      have J_52 : ∀ (x2 : Int32) (x3 : Int64) (H : Heap) (locs : List Loc) (ls : Array Slot), j_52 x2 x3 = some r → zW E A s ([] : va_W) H locs → lv_has ls 6 [(0, .long p0), (2, .int x2), (3, .long x3)] → W p l e rm_X4_amountOf s m ([.long p0] : List Value).toArray below meth c H locs 0 0 (MQ below (zQi E A r ([] : va_W)) ([.long p0] : List Value).toArray s 0 0 A) (F0 m 52 ls []) := by
        intro x2 x3 H locs ls hr hW hl
        rw [e_52] at hr
        refine lv_iload_n X.1 X.2.1 dX4_amountOf_52 rfl (lv_at hl 1 rfl) ?_
        refine z_ifne X 61 hr dX4_amountOf_53 (by decide) (fun hr => ?_) (fun hr => ?_)
        · refine lv_iload_n X.1 X.2.1 dX4_amountOf_61 rfl (lv_at hl 1 rfl) ?_
          cases hr
          exact z_iret X hW rfl dX4_amountOf_62
        · refine lv_bipush (v := (-2)) X.1 X.2.1 dX4_amountOf_56 (by decide) ?_
          refine lv_goto (tgt := 62) X.1 X.2.1 dX4_amountOf_58 (by decide) ?_
          cases hr
          exact z_iret X hW rfl dX4_amountOf_62
      refine z_cmpge X 52 hr dX4_amountOf_7 (by decide) (fun hr => ?_) (fun hr => ?_)
      · exact J_52 x2 x3 _ _ _ hr hW (lv_sub hl [0, 1, 2] rfl)
      · refine lv_lload_n X.1 X.2.1 dX4_amountOf_10 rfl (lv_at hl 2 rfl) ?_
        refine lv_lconst (v := 0) X.1 X.2.1 dX4_amountOf_11 (by decide) ?_
        refine z_lcmp X hr dX4_amountOf_12 (fun t12 hr => ?_)
        refine z_ifeq X 52 hr dX4_amountOf_13 (by decide) (fun hr => ?_) (fun hr => ?_)
        · exact J_52 x2 x3 _ _ _ hr hW (lv_sub hl [0, 1, 2] rfl)
        · refine lv_lload_n X.1 X.2.1 dX4_amountOf_16 rfl (lv_at hl 2 rfl) ?_
          refine lv_ldc2 (v := 255) X.1 X.2.1 X.2.2.2.1 (X.2.2.2.2.1 _ q_0) dX4_amountOf_17 ?_
          refine z_land X hr dX4_amountOf_20 (fun t20 hr => ?_)
          refine z_l2i X hr dX4_amountOf_21 (fun t21 hr => ?_)
          refine lv_istore (lv' := [(5, .int t21), (0, .long p0), (2, .int x2), (3, .long x3)]) X.1 X.2.1 dX4_amountOf_22 hl (by decide) rfl (fun ls hl => ?_)
          refine lv_iload X.1 X.2.1 dX4_amountOf_24 (lv_at hl 0 rfl) ?_
          refine lv_bipush (v := 33) X.1 X.2.1 dX4_amountOf_26 (by decide) ?_
          refine z_cmplt X 38 hr dX4_amountOf_28 (by decide) (fun hr => ?_) (fun hr => ?_)
          · refine lv_bipush (v := (-2)) X.1 X.2.1 dX4_amountOf_38 (by decide) ?_
            cases hr
            exact z_iret X hW rfl dX4_amountOf_40
          · refine lv_iload X.1 X.2.1 dX4_amountOf_31 (lv_at hl 0 rfl) ?_
            refine lv_bipush (v := 126) X.1 X.2.1 dX4_amountOf_33 (by decide) ?_
            refine z_cmple X 41 hr dX4_amountOf_35 (by decide) (fun hr => ?_) (fun hr => ?_)
            · refine lv_lload_n X.1 X.2.1 dX4_amountOf_41 rfl (lv_at hl 3 rfl) ?_
              refine lv_bipush (v := 8) X.1 X.2.1 dX4_amountOf_42 (by decide) ?_
              refine z_lushr X hr dX4_amountOf_44 (fun t44 hr => ?_)
              refine lv_lstore_n (lv' := [(3, .long t44), (5, .int t21), (0, .long p0), (2, .int x2)]) X.1 X.2.1 dX4_amountOf_45 rfl hl (by decide) rfl (fun ls hl => ?_)
              refine z_iinc X (fun x2_46 => [(2, .int x2_46), (3, .long t44), (5, .int t21), (0, .long p0)]) hr hl (k := 3) rfl (by decide) (fun _ => rfl) dX4_amountOf_46 (fun x2_46 ls hr hl => ?_)
              refine lv_goto (tgt := 4) X.1 X.2.1 dX4_amountOf_49 (by decide) ?_
              exact ih_4 x2_46 t44 _ _ _ hr hW (lv_sub hl [3, 0, 1] rfl)
            · refine lv_bipush (v := (-2)) X.1 X.2.1 dX4_amountOf_38 (by decide) ?_
              cases hr
              exact z_iret X hW rfl dX4_amountOf_40
  exact L_4 _ 0 p0 _ _ _ hr hW (lv_sub hl [2, 1, 0] rfl)
abbrev rm_X4_appendAll : Room := { frames := 1, cells := 0, slots := 0, locals := 25 }
theorem hy_X4_appendAll : zY yX4_appendAll wsX4_appendAll cX4_appendAll 5 (some .int) 1 := ⟨⟨_, rfl⟩, by decide, by decide, by decide +kernel⟩
def lpB_X4_appendAll_30 (p1 : Int64)  (k_30 : Int32 → Int32 → zHV → Option (Int32 × zHV)) (x3 : Int32) (x4 : Int32) (v : zHV) : Option (Int32 × zHV) :=
(if x4 < 0 then
some ((v 1 0), v)
else
zlet (8 * x4) fun t41 =>
zlet ((p1.toUInt64 >>> ((t41 : Int32).toInt64.toUInt64 &&& Int64.toUInt64 63)).toInt64) fun t42 =>
zlet ((t42 &&& 255 : Int64)) fun t46 =>
zlet ((t46 : Int64).toInt32) fun t47 =>
zup (d_X4_append v t47) (fun u => u) fun v48 =>
zlet (x4 + Int32.ofInt (-1)) fun x4_51 =>
k_30 x3 x4_51 v48)
def lp_X4_appendAll_30 (p1 : Int64)  : Nat → Int32 → Int32 → zHV → Option (Int32 × zHV)
  | 0 => fun _ _ _ => none
  | n_ + 1 => lpB_X4_appendAll_30 p1  (lp_X4_appendAll_30 p1  n_)
def d_X4_appendAll (v : zHV) (p1 : Int64) : Option (Int32 × zHV) :=
zcl (d_X4_amountOf p1) fun t1 =>
(if 0 ≤ t1 then
zlet ((v 1 0) + t1) fun t16 =>
(if t16 ≤ 80 then
zlet (t1 - 1) fun t27 =>
lp_X4_appendAll_30 p1  zF t1 t27 v
else
some ((-4), v))
else
some (t1, v))
set_option maxHeartbeats 4000000 in
set_option maxRecDepth 100000 in
theorem c_X4_appendAll (l : Launch) (E : zE) (a : Nat → Nat) (v : zHV) (p1 : Int64) (r : Int32 × zHV) (h : d_X4_appendAll v p1 = some r) : zMi l E yX4_appendAll wsX4_appendAll rm_X4_appendAll [.ref (a 0), .long p1] (pdW E a v) r.1 (pdW E a r.2) := by
  intro sz
  refine z_entry (Qc := fun A => zQi E A r.1 (pdW E a r.2)) (by decide) rfl (Nat.le_of_ble_eq_true rfl) ?_
  intro p e s m below meth c A X hW ls hl
  have X : zX E wsX4_appendAll RX4 cX4_appendAll 5 (some .int) yX4_appendAll p s m ([.ref (a 0), .long p1] : List Value).toArray meth c A := X
  have hl : lv_has ls 5 [(0, .ref (a 0)), (1, .long p1)] := hl
  have hr : d_X4_appendAll v p1 = some r := h
  clear h
  have q_0 : Cond.fieldLink RX4 15 "ApplauseTallies$Pad" "length" "I" ∈ wsX4_appendAll := List.mem_of_getElem? (i := 1) rfl
  have hn_X4 : ∀ x ∈ wsX40, x ∈ wsX4_appendAll := zz_in [12, 13] (by decide +kernel)
  have q_2 : Cond.constantLong RX4 28 255 ∈ wsX4_appendAll := List.mem_of_getElem? (i := 2) rfl
  unfold d_X4_appendAll at hr
  refine lv_lload_n X.1 X.2.1 dX4_appendAll_0 rfl (lv_at hl 1 rfl) ?_
  have hp_1 := (List.Perm.refl ((pdW E a v)))
  refine z_callp X hW hr hp_1 (fun x h => z_runS (As := [.long p1]) (rest := []) X hW hp_1 (c_X4_amountOf l E p1 x h _) hy_X4_amountOf gX4_appendAll_X4_amountOf rfl rfl ⟨by decide, by decide⟩ rfl hl rfl rfl (Nat.le_of_ble_eq_true rfl) dX4_appendAll_1 ⟨Nat.zero_le _, Nat.zero_le _⟩) (fun t1 H locs hr hW => ?_)
  refine lv_istore_n (lv' := [(3, .int t1), (0, .ref (a 0)), (1, .long p1)]) X.1 X.2.1 dX4_appendAll_4 rfl hl (by decide) rfl (fun ls hl => ?_)
  refine lv_iload_n X.1 X.2.1 dX4_appendAll_5 rfl (lv_at hl 0 rfl) ?_
  refine z_ifge X 11 hr dX4_appendAll_6 (by decide) (fun hr => ?_) (fun hr => ?_)
  · refine lv_aload_n X.1 X.2.1 dX4_appendAll_11 rfl (lv_at hl 1 rfl) ?_
    refine z_get X hW 0 4 1 (C := RX4) (T := TX4) (N := 2) rfl rfl hn_X4 (by decide) q_0 rfl dX4_appendAll_12 ?_
    refine lv_iload_n X.1 X.2.1 dX4_appendAll_15 rfl (lv_at hl 0 rfl) ?_
    refine z_iadd X hr dX4_appendAll_16 (fun t16 hr => ?_)
    refine lv_bipush (v := 80) X.1 X.2.1 dX4_appendAll_17 (by decide) ?_
    refine z_cmple X 25 hr dX4_appendAll_19 (by decide) (fun hr => ?_) (fun hr => ?_)
    · refine lv_iload_n X.1 X.2.1 dX4_appendAll_25 rfl (lv_at hl 0 rfl) ?_
      refine lv_iconst (v := 1) X.1 X.2.1 dX4_appendAll_26 (by decide) ?_
      refine z_isub X hr dX4_appendAll_27 (fun t27 hr => ?_)
      refine lv_istore (lv' := [(4, .int t27), (3, .int t1), (0, .ref (a 0)), (1, .long p1)]) X.1 X.2.1 dX4_appendAll_28 hl (by decide) rfl (fun ls hl => ?_)
      have L_30 : ∀ (n_30 : Nat), ∀ (x3 : Int32) (x4 : Int32) (v : zHV) (H : Heap) (locs : List Loc) (ls : Array Slot), lp_X4_appendAll_30 p1  n_30 x3 x4 v = some r → zW E A s (pdW E a v) H locs → lv_has ls 5 [(0, .ref (a 0)), (1, .long p1), (3, .int x3), (4, .int x4)] → W p l e rm_X4_appendAll s m ([.ref (a 0), .long p1] : List Value).toArray below meth c H locs 0 0 (MQ below (zQi E A r.1 (pdW E a r.2)) ([.ref (a 0), .long p1] : List Value).toArray s 0 0 A) (F0 m 30 ls []) := by
        intro n_30
        induction n_30 with
        | zero => exact fun x3 x4 v H locs ls hr hW hl => absurd (show (none : Option (Int32 × zHV)) = some r from hr) (fun h => by cases h)
        | succ n_30 ih_30 =>
          intro x3 x4 v H locs ls hr hW hl
          have hr : lpB_X4_appendAll_30 p1  (lp_X4_appendAll_30 p1  n_30) x3 x4 v = some r := hr
          unfold lpB_X4_appendAll_30 at hr
          refine lv_iload X.1 X.2.1 dX4_appendAll_30 (lv_at hl 3 rfl) ?_
          refine z_iflt X 57 hr dX4_appendAll_32 (by decide) (fun hr => ?_) (fun hr => ?_)
          · refine lv_aload_n X.1 X.2.1 dX4_appendAll_57 rfl (lv_at hl 0 rfl) ?_
            refine z_get X hW 0 4 1 (C := RX4) (T := TX4) (N := 2) rfl rfl hn_X4 (by decide) q_0 rfl dX4_appendAll_58 ?_
            cases hr
            exact z_iret X hW rfl dX4_appendAll_61
          · refine lv_aload_n X.1 X.2.1 dX4_appendAll_35 rfl (lv_at hl 0 rfl) ?_
            refine lv_lload_n X.1 X.2.1 dX4_appendAll_36 rfl (lv_at hl 1 rfl) ?_
            refine lv_bipush (v := 8) X.1 X.2.1 dX4_appendAll_37 (by decide) ?_
            refine lv_iload X.1 X.2.1 dX4_appendAll_39 (lv_at hl 3 rfl) ?_
            refine z_imul X hr dX4_appendAll_41 (fun t41 hr => ?_)
            refine z_lushr X hr dX4_appendAll_42 (fun t42 hr => ?_)
            refine lv_ldc2 (v := 255) X.1 X.2.1 X.2.2.2.1 (X.2.2.2.2.1 _ q_2) dX4_appendAll_43 ?_
            refine z_land X hr dX4_appendAll_46 (fun t46 hr => ?_)
            refine z_l2i X hr dX4_appendAll_47 (fun t47 hr => ?_)
            have hp_48 := (z_all (pdW E a v))
            refine z_callv X hW (fun u => u) hr hp_48 (fun u => (pdW E a u)) (fun v48 => (pdW E a v48)) (fun u => (z_lla (pdW E a u))) (fun u h => z_runV (As := [.int t47]) (rest := []) X hW hp_48 (c_X4_append l E a v t47 u h _) hy_X4_append 0 4 (C := RX4) (T := TX4) (N := 2) rfl rfl rfl gX4_appendAll_X4_append rfl rfl ⟨by decide, by decide⟩ rfl hl rfl rfl (Nat.le_of_ble_eq_true rfl) dX4_appendAll_48 ⟨Nat.zero_le _, Nat.zero_le _⟩) (fun v48 H locs hr hW => ?_)
            refine z_iinc X (fun x4_51 => [(4, .int x4_51), (0, .ref (a 0)), (1, .long p1), (3, .int x3)]) hr hl (k := 3) rfl (by decide) (fun _ => rfl) dX4_appendAll_51 (fun x4_51 ls hr hl => ?_)
            refine lv_goto (tgt := 30) X.1 X.2.1 dX4_appendAll_54 (by decide) ?_
            exact ih_30 x3 x4_51 v48 _ _ _ hr hW (lv_sub hl [1, 2, 3, 0] rfl)
      exact L_30 _ t1 t27 v _ _ _ hr hW (lv_sub hl [2, 3, 1, 0] rfl)
    · refine lv_bipush (v := (-4)) X.1 X.2.1 dX4_appendAll_22 (by decide) ?_
      cases hr
      exact z_iret X hW rfl dX4_appendAll_24
  · refine lv_iload_n X.1 X.2.1 dX4_appendAll_9 rfl (lv_at hl 0 rfl) ?_
    cases hr
    exact z_iret X hW rfl dX4_appendAll_10
