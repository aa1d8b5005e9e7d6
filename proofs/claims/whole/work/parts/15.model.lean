abbrev rm_X8_within : Room := { frames := 0, cells := 0, slots := 0, locals := 0 }
theorem hy_X8_within : zY yX8_within wsX8_within cX8_within 3 (some .boolean) 3 := ⟨⟨_, rfl⟩, by decide, by decide, by decide +kernel⟩
def d_X8_within (p0 : Int32) (p1 : Int32) (p2 : Int32) : Option (Int32) :=
(if p0 < p1 then
some 0
else
(if p2 < p0 then
some 0
else
some 1))
set_option maxHeartbeats 4000000 in
set_option maxRecDepth 100000 in
theorem c_X8_within (l : Launch) (E : zE) (p0 : Int32) (p1 : Int32) (p2 : Int32) (r : Int32) (h : d_X8_within p0 p1 p2 = some r) : zMi l E yX8_within wsX8_within rm_X8_within [.int p0, .int p1, .int p2] ([] : va_W) r ([] : va_W) := by
  intro sz
  refine z_entry (Qc := fun A => zQi E A r ([] : va_W)) (by decide) rfl (Nat.le_of_ble_eq_true rfl) ?_
  intro p e s m below meth c A X hW ls hl
  have X : zX E wsX8_within RX8 cX8_within 3 (some .boolean) yX8_within p s m ([.int p0, .int p1, .int p2] : List Value).toArray meth c A := X
  have hl : lv_has ls 3 [(0, .int p0), (1, .int p1), (2, .int p2)] := hl
  have hr : d_X8_within p0 p1 p2 = some r := h
  clear h
  unfold d_X8_within at hr
  refine lv_iload_n X.1 X.2.1 dX8_within_0 rfl (lv_at hl 0 rfl) ?_
  refine lv_iload_n X.1 X.2.1 dX8_within_1 rfl (lv_at hl 1 rfl) ?_
  refine z_cmplt X 14 hr dX8_within_2 (by decide) (fun hr => ?_) (fun hr => ?_)
  · refine lv_iconst (v := 0) X.1 X.2.1 dX8_within_14 (by decide) ?_
    cases hr
    exact z_zret X hW rfl rfl dX8_within_15
  · refine lv_iload_n X.1 X.2.1 dX8_within_5 rfl (lv_at hl 0 rfl) ?_
    refine lv_iload_n X.1 X.2.1 dX8_within_6 rfl (lv_at hl 2 rfl) ?_
    refine z_cmpgt X 14 hr dX8_within_7 (by decide) (fun hr => ?_) (fun hr => ?_)
    · refine lv_iconst (v := 0) X.1 X.2.1 dX8_within_14 (by decide) ?_
      cases hr
      exact z_zret X hW rfl rfl dX8_within_15
    · refine lv_iconst (v := 1) X.1 X.2.1 dX8_within_10 (by decide) ?_
      refine lv_goto (tgt := 15) X.1 X.2.1 dX8_within_11 (by decide) ?_
      cases hr
      exact z_zret X hW rfl rfl dX8_within_15
abbrev rm_X8_isSeat : Room := { frames := 1, cells := 0, slots := 0, locals := 22 }
theorem hy_X8_isSeat : zY yX8_isSeat wsX8_isSeat cX8_isSeat 1 (some .boolean) 1 := ⟨⟨_, rfl⟩, by decide, by decide, by decide +kernel⟩
def d_X8_isSeat (p0 : Int32) : Option (Int32) :=
zcl (d_X8_within p0 0 29) fun t4 =>
zgb t4 (some t4)
set_option maxHeartbeats 4000000 in
set_option maxRecDepth 100000 in
theorem c_X8_isSeat (l : Launch) (E : zE) (p0 : Int32) (r : Int32) (h : d_X8_isSeat p0 = some r) : zMi l E yX8_isSeat wsX8_isSeat rm_X8_isSeat [.int p0] ([] : va_W) r ([] : va_W) := by
  intro sz
  refine z_entry (Qc := fun A => zQi E A r ([] : va_W)) (by decide) rfl (Nat.le_of_ble_eq_true rfl) ?_
  intro p e s m below meth c A X hW ls hl
  have X : zX E wsX8_isSeat RX8 cX8_isSeat 1 (some .boolean) yX8_isSeat p s m ([.int p0] : List Value).toArray meth c A := X
  have hl : lv_has ls 1 [(0, .int p0)] := hl
  have hr : d_X8_isSeat p0 = some r := h
  clear h
  unfold d_X8_isSeat at hr
  refine lv_iload_n X.1 X.2.1 dX8_isSeat_0 rfl (lv_at hl 0 rfl) ?_
  refine lv_iconst (v := 0) X.1 X.2.1 dX8_isSeat_1 (by decide) ?_
  refine lv_bipush (v := 29) X.1 X.2.1 dX8_isSeat_2 (by decide) ?_
  have hp_4 := (List.Perm.refl (([] : va_W)))
  refine z_callp X hW hr hp_4 (fun x h => z_runS (As := [.int p0, .int 0, .int 29]) (rest := []) X hW hp_4 (c_X8_within l E p0 0 29 x h _) hy_X8_within gX8_isSeat_X8_within rfl rfl ⟨by decide, by decide⟩ rfl hl rfl rfl (Nat.le_of_ble_eq_true rfl) dX8_isSeat_4 ⟨Nat.zero_le _, Nat.zero_le _⟩) (fun t4 H locs hr hW => ?_)
  obtain ⟨hg, hr⟩ := zgb_some hr
  cases hr
  exact z_zret X hW rfl (zgb_n hg) dX8_isSeat_7
abbrev rm_X8_isPerformer : Room := { frames := 1, cells := 0, slots := 0, locals := 22 }
theorem hy_X8_isPerformer : zY yX8_isPerformer wsX8_isPerformer cX8_isPerformer 1 (some .boolean) 1 := ⟨⟨_, rfl⟩, by decide, by decide, by decide +kernel⟩
def d_X8_isPerformer (p0 : Int32) : Option (Int32) :=
zcl (d_X8_within p0 0 5) fun t3 =>
zgb t3 (some t3)
set_option maxHeartbeats 4000000 in
set_option maxRecDepth 100000 in
theorem c_X8_isPerformer (l : Launch) (E : zE) (p0 : Int32) (r : Int32) (h : d_X8_isPerformer p0 = some r) : zMi l E yX8_isPerformer wsX8_isPerformer rm_X8_isPerformer [.int p0] ([] : va_W) r ([] : va_W) := by
  intro sz
  refine z_entry (Qc := fun A => zQi E A r ([] : va_W)) (by decide) rfl (Nat.le_of_ble_eq_true rfl) ?_
  intro p e s m below meth c A X hW ls hl
  have X : zX E wsX8_isPerformer RX8 cX8_isPerformer 1 (some .boolean) yX8_isPerformer p s m ([.int p0] : List Value).toArray meth c A := X
  have hl : lv_has ls 1 [(0, .int p0)] := hl
  have hr : d_X8_isPerformer p0 = some r := h
  clear h
  unfold d_X8_isPerformer at hr
  refine lv_iload_n X.1 X.2.1 dX8_isPerformer_0 rfl (lv_at hl 0 rfl) ?_
  refine lv_iconst (v := 0) X.1 X.2.1 dX8_isPerformer_1 (by decide) ?_
  refine lv_iconst (v := 5) X.1 X.2.1 dX8_isPerformer_2 (by decide) ?_
  have hp_3 := (List.Perm.refl (([] : va_W)))
  refine z_callp X hW hr hp_3 (fun x h => z_runS (As := [.int p0, .int 0, .int 5]) (rest := []) X hW hp_3 (c_X8_within l E p0 0 5 x h _) hy_X8_within gX8_isPerformer_X8_within rfl rfl ⟨by decide, by decide⟩ rfl hl rfl rfl (Nat.le_of_ble_eq_true rfl) dX8_isPerformer_3 ⟨Nat.zero_le _, Nat.zero_le _⟩) (fun t3 H locs hr hW => ?_)
  obtain ⟨hg, hr⟩ := zgb_some hr
  cases hr
  exact z_zret X hW rfl (zgb_n hg) dX8_isPerformer_6
abbrev rm_X8_seat : Room := { frames := 0, cells := 0, slots := 0, locals := 0 }
theorem hy_X8_seat : zY yX8_seat wsX8_seat cX8_seat 3 (some .int) 2 := ⟨⟨_, rfl⟩, by decide, by decide, by decide +kernel⟩
def d_X8_seat (v : zHV) (p1 : Int32) (p2 : Int32) : Option (Int32) :=
zlet (6 * p1) fun t9 =>
zlet (20 + t9) fun t10 =>
zlet (t10 + p2) fun t12 =>
zld 288 (v 0) t12 fun t13 =>
some t13
set_option maxHeartbeats 4000000 in
set_option maxRecDepth 100000 in
theorem c_X8_seat (l : Launch) (E : zE) (a : Nat → Nat) (v : zHV) (p1 : Int32) (p2 : Int32) (r : Int32) (h : d_X8_seat v p1 p2 = some r) : zMi l E yX8_seat wsX8_seat rm_X8_seat [.ref (a 0), .int p1, .int p2] (mdW E a v) r (mdW E a v) := by
  intro sz
  refine z_entry (Qc := fun A => zQi E A r (mdW E a v)) (by decide) rfl (Nat.le_of_ble_eq_true rfl) ?_
  intro p e s m below meth c A X hW ls hl
  have X : zX E wsX8_seat RX8 cX8_seat 3 (some .int) yX8_seat p s m ([.ref (a 0), .int p1, .int p2] : List Value).toArray meth c A := X
  have hl : lv_has ls 3 [(0, .ref (a 0)), (1, .int p1), (2, .int p2)] := hl
  have hr : d_X8_seat v p1 p2 = some r := h
  clear h
  have q_0 : Cond.fieldLink RX8 7 "ApplauseTalliesModel" "state" "[I" ∈ wsX8_seat := List.mem_of_getElem? (i := 1) rfl
  have hn_X8 : ∀ x ∈ wsX80, x ∈ wsX8_seat := zz_in [2, 3, 4, 5, 6, 7, 8, 9, 10, 11, 12, 13] (by decide +kernel)
  unfold d_X8_seat at hr
  refine lv_aload_n X.1 X.2.1 dX8_seat_0 rfl (lv_at hl 0 rfl) ?_
  refine z_get X hW 0 8 0 (C := RX8) (T := TX8) (N := 12) rfl rfl hn_X8 (by decide) q_0 rfl dX8_seat_1 ?_
  refine lv_bipush (v := 20) X.1 X.2.1 dX8_seat_4 (by decide) ?_
  refine lv_bipush (v := 6) X.1 X.2.1 dX8_seat_6 (by decide) ?_
  refine lv_iload_n X.1 X.2.1 dX8_seat_8 rfl (lv_at hl 1 rfl) ?_
  refine z_imul X hr dX8_seat_9 (fun t9 hr => ?_)
  refine z_iadd X hr dX8_seat_10 (fun t10 hr => ?_)
  refine lv_iload_n X.1 X.2.1 dX8_seat_11 rfl (lv_at hl 2 rfl) ?_
  refine z_iadd X hr dX8_seat_12 (fun t12 hr => ?_)
  refine z_ald X hW 1 hr rfl dX8_seat_13 (fun t13 hr => ?_)
  cases hr
  exact z_iret X hW rfl dX8_seat_14
abbrev rm_X8_setSeat : Room := { frames := 0, cells := 0, slots := 0, locals := 0 }
theorem hy_X8_setSeat : zY yX8_setSeat wsX8_setSeat cX8_setSeat 4 none 3 := ⟨⟨_, rfl⟩, by decide, by decide, by decide +kernel⟩
def d_X8_setSeat (v : zHV) (p1 : Int32) (p2 : Int32) (p3 : Int32) : Option (zHV) :=
zlet (6 * p1) fun t9 =>
zlet (20 + t9) fun t10 =>
zlet (t10 + p2) fun t12 =>
zsv 288 v 0 t12 p3 fun v14 =>
some v14
set_option maxHeartbeats 4000000 in
set_option maxRecDepth 100000 in
theorem c_X8_setSeat (l : Launch) (E : zE) (a : Nat → Nat) (v : zHV) (p1 : Int32) (p2 : Int32) (p3 : Int32) (r : zHV) (h : d_X8_setSeat v p1 p2 p3 = some r) : zMv l E yX8_setSeat wsX8_setSeat rm_X8_setSeat [.ref (a 0), .int p1, .int p2, .int p3] (mdW E a v) (mdW E a r) := by
  intro sz
  refine z_entry (Qc := fun A => zQv E A (mdW E a r)) (by decide) rfl (Nat.le_of_ble_eq_true rfl) ?_
  intro p e s m below meth c A X hW ls hl
  have X : zX E wsX8_setSeat RX8 cX8_setSeat 4 none yX8_setSeat p s m ([.ref (a 0), .int p1, .int p2, .int p3] : List Value).toArray meth c A := X
  have hl : lv_has ls 4 [(0, .ref (a 0)), (1, .int p1), (2, .int p2), (3, .int p3)] := hl
  have hr : d_X8_setSeat v p1 p2 p3 = some r := h
  clear h
  have q_0 : Cond.fieldLink RX8 7 "ApplauseTalliesModel" "state" "[I" ∈ wsX8_setSeat := List.mem_of_getElem? (i := 1) rfl
  have hn_X8 : ∀ x ∈ wsX80, x ∈ wsX8_setSeat := zz_in [2, 3, 4, 5, 6, 7, 8, 9, 10, 11, 12, 13] (by decide +kernel)
  unfold d_X8_setSeat at hr
  refine lv_aload_n X.1 X.2.1 dX8_setSeat_0 rfl (lv_at hl 0 rfl) ?_
  refine z_get X hW 0 8 0 (C := RX8) (T := TX8) (N := 12) rfl rfl hn_X8 (by decide) q_0 rfl dX8_setSeat_1 ?_
  refine lv_bipush (v := 20) X.1 X.2.1 dX8_setSeat_4 (by decide) ?_
  refine lv_bipush (v := 6) X.1 X.2.1 dX8_setSeat_6 (by decide) ?_
  refine lv_iload_n X.1 X.2.1 dX8_setSeat_8 rfl (lv_at hl 1 rfl) ?_
  refine z_imul X hr dX8_setSeat_9 (fun t9 hr => ?_)
  refine z_iadd X hr dX8_setSeat_10 (fun t10 hr => ?_)
  refine lv_iload_n X.1 X.2.1 dX8_setSeat_11 rfl (lv_at hl 2 rfl) ?_
  refine z_iadd X hr dX8_setSeat_12 (fun t12 hr => ?_)
  refine lv_iload_n X.1 X.2.1 dX8_setSeat_13 rfl (lv_at hl 3 rfl) ?_
  refine z_asv X hW 1 hr (fun v14 => (mdW E a v14)) rfl rfl dX8_setSeat_14 (fun v14 H locs hr hW => ?_)
  cases hr
  exact z_vret X hW dX8_setSeat_15
abbrev rm_X8_ofPerformer : Room := { frames := 0, cells := 0, slots := 0, locals := 0 }
theorem hy_X8_ofPerformer : zY yX8_ofPerformer wsX8_ofPerformer cX8_ofPerformer 3 (some .int) 2 := ⟨⟨_, rfl⟩, by decide, by decide, by decide +kernel⟩
def d_X8_ofPerformer (v : zHV) (p1 : Int32) (p2 : Int32) : Option (Int32) :=
zlet (3 * p1) fun t9 =>
zlet (200 + t9) fun t10 =>
zlet (t10 + p2) fun t12 =>
zld 288 (v 0) t12 fun t13 =>
some t13
set_option maxHeartbeats 4000000 in
set_option maxRecDepth 100000 in
theorem c_X8_ofPerformer (l : Launch) (E : zE) (a : Nat → Nat) (v : zHV) (p1 : Int32) (p2 : Int32) (r : Int32) (h : d_X8_ofPerformer v p1 p2 = some r) : zMi l E yX8_ofPerformer wsX8_ofPerformer rm_X8_ofPerformer [.ref (a 0), .int p1, .int p2] (mdW E a v) r (mdW E a v) := by
  intro sz
  refine z_entry (Qc := fun A => zQi E A r (mdW E a v)) (by decide) rfl (Nat.le_of_ble_eq_true rfl) ?_
  intro p e s m below meth c A X hW ls hl
  have X : zX E wsX8_ofPerformer RX8 cX8_ofPerformer 3 (some .int) yX8_ofPerformer p s m ([.ref (a 0), .int p1, .int p2] : List Value).toArray meth c A := X
  have hl : lv_has ls 3 [(0, .ref (a 0)), (1, .int p1), (2, .int p2)] := hl
  have hr : d_X8_ofPerformer v p1 p2 = some r := h
  clear h
  have q_0 : Cond.fieldLink RX8 7 "ApplauseTalliesModel" "state" "[I" ∈ wsX8_ofPerformer := List.mem_of_getElem? (i := 1) rfl
  have hn_X8 : ∀ x ∈ wsX80, x ∈ wsX8_ofPerformer := zz_in [2, 3, 4, 5, 6, 7, 8, 9, 10, 11, 12, 13] (by decide +kernel)
  unfold d_X8_ofPerformer at hr
  refine lv_aload_n X.1 X.2.1 dX8_ofPerformer_0 rfl (lv_at hl 0 rfl) ?_
  refine z_get X hW 0 8 0 (C := RX8) (T := TX8) (N := 12) rfl rfl hn_X8 (by decide) q_0 rfl dX8_ofPerformer_1 ?_
  refine lv_sipush (v := 200) X.1 X.2.1 dX8_ofPerformer_4 (by decide) ?_
  refine lv_iconst (v := 3) X.1 X.2.1 dX8_ofPerformer_7 (by decide) ?_
  refine lv_iload_n X.1 X.2.1 dX8_ofPerformer_8 rfl (lv_at hl 1 rfl) ?_
  refine z_imul X hr dX8_ofPerformer_9 (fun t9 hr => ?_)
  refine z_iadd X hr dX8_ofPerformer_10 (fun t10 hr => ?_)
  refine lv_iload_n X.1 X.2.1 dX8_ofPerformer_11 rfl (lv_at hl 2 rfl) ?_
  refine z_iadd X hr dX8_ofPerformer_12 (fun t12 hr => ?_)
  refine z_ald X hW 1 hr rfl dX8_ofPerformer_13 (fun t13 hr => ?_)
  cases hr
  exact z_iret X hW rfl dX8_ofPerformer_14
abbrev rm_X8_putAside : Room := { frames := 0, cells := 0, slots := 0, locals := 0 }
theorem hy_X8_putAside : zY yX8_putAside wsX8_putAside cX8_putAside 2 none 0 := ⟨⟨_, rfl⟩, by decide, by decide, by decide +kernel⟩
def lpB_X8_putAside_2   (k_2 : Int32 → zHV → Option (zHV)) (x1 : Int32) (v : zHV) : Option (zHV) :=
(if 288 ≤ x1 then
some v
else
zld 288 (v 0) x1 fun t19 =>
zsv 288 v 1 x1 t19 fun v20 =>
zlet (x1 + Int32.ofInt 1) fun x1_21 =>
k_2 x1_21 v20)
def lp_X8_putAside_2   : Nat → Int32 → zHV → Option (zHV)
  | 0 => fun _ _ => none
  | n_ + 1 => lpB_X8_putAside_2   (lp_X8_putAside_2   n_)
def d_X8_putAside (v : zHV) : Option (zHV) :=
lp_X8_putAside_2   zF 0 v
set_option maxHeartbeats 4000000 in
set_option maxRecDepth 100000 in
theorem c_X8_putAside (l : Launch) (E : zE) (a : Nat → Nat) (v : zHV) (r : zHV) (h : d_X8_putAside v = some r) : zMv l E yX8_putAside wsX8_putAside rm_X8_putAside [.ref (a 0)] (mdW E a v) (mdW E a r) := by
  intro sz
  refine z_entry (Qc := fun A => zQv E A (mdW E a r)) (by decide) rfl (Nat.le_of_ble_eq_true rfl) ?_
  intro p e s m below meth c A X hW ls hl
  have X : zX E wsX8_putAside RX8 cX8_putAside 2 none yX8_putAside p s m ([.ref (a 0)] : List Value).toArray meth c A := X
  have hl : lv_has ls 2 [(0, .ref (a 0))] := hl
  have hr : d_X8_putAside v = some r := h
  clear h
  have q_0 : Cond.fieldLink RX8 13 "ApplauseTalliesModel" "spare" "[I" ∈ wsX8_putAside := List.mem_of_getElem? (i := 1) rfl
  have hn_X8 : ∀ x ∈ wsX80, x ∈ wsX8_putAside := zz_in [3, 4, 5, 6, 7, 8, 9, 10, 11, 12, 13, 14] (by decide +kernel)
  have q_2 : Cond.fieldLink RX8 7 "ApplauseTalliesModel" "state" "[I" ∈ wsX8_putAside := List.mem_of_getElem? (i := 2) rfl
  unfold d_X8_putAside at hr
  refine lv_iconst (v := 0) X.1 X.2.1 dX8_putAside_0 (by decide) ?_
  refine lv_istore_n (lv' := [(1, .int 0), (0, .ref (a 0))]) X.1 X.2.1 dX8_putAside_1 rfl hl (by decide) rfl (fun ls hl => ?_)
  have L_2 : ∀ (n_2 : Nat), ∀ (x1 : Int32) (v : zHV) (H : Heap) (locs : List Loc) (ls : Array Slot), lp_X8_putAside_2   n_2 x1 v = some r → zW E A s (mdW E a v) H locs → lv_has ls 2 [(0, .ref (a 0)), (1, .int x1)] → W p l e rm_X8_putAside s m ([.ref (a 0)] : List Value).toArray below meth c H locs 0 0 (MQ below (zQv E A (mdW E a r)) ([.ref (a 0)] : List Value).toArray s 0 0 A) (F0 m 2 ls []) := by
    intro n_2
    induction n_2 with
    | zero => exact fun x1 v H locs ls hr hW hl => absurd (show (none : Option (zHV)) = some r from hr) (fun h => by cases h)
    | succ n_2 ih_2 =>
      intro x1 v H locs ls hr hW hl
      have hr : lpB_X8_putAside_2   (lp_X8_putAside_2   n_2) x1 v = some r := hr
      unfold lpB_X8_putAside_2 at hr
      refine lv_iload_n X.1 X.2.1 dX8_putAside_2 rfl (lv_at hl 1 rfl) ?_
      refine lv_sipush (v := 288) X.1 X.2.1 dX8_putAside_3 (by decide) ?_
      refine z_cmpge X 27 hr dX8_putAside_6 (by decide) (fun hr => ?_) (fun hr => ?_)
      · cases hr
        exact z_vret X hW dX8_putAside_27
      · refine lv_aload_n X.1 X.2.1 dX8_putAside_9 rfl (lv_at hl 0 rfl) ?_
        refine z_get X hW 0 8 1 (C := RX8) (T := TX8) (N := 12) rfl rfl hn_X8 (by decide) q_0 rfl dX8_putAside_10 ?_
        refine lv_iload_n X.1 X.2.1 dX8_putAside_13 rfl (lv_at hl 1 rfl) ?_
        refine lv_aload_n X.1 X.2.1 dX8_putAside_14 rfl (lv_at hl 0 rfl) ?_
        refine z_get X hW 0 8 0 (C := RX8) (T := TX8) (N := 12) rfl rfl hn_X8 (by decide) q_2 rfl dX8_putAside_15 ?_
        refine lv_iload_n X.1 X.2.1 dX8_putAside_18 rfl (lv_at hl 1 rfl) ?_
        refine z_ald X hW 1 hr rfl dX8_putAside_19 (fun t19 hr => ?_)
        refine z_asv X hW 2 hr (fun v20 => (mdW E a v20)) rfl rfl dX8_putAside_20 (fun v20 H locs hr hW => ?_)
        refine z_iinc X (fun x1_21 => [(1, .int x1_21), (0, .ref (a 0))]) hr hl (k := 1) rfl (by decide) (fun _ => rfl) dX8_putAside_21 (fun x1_21 ls hr hl => ?_)
        refine lv_goto (tgt := 2) X.1 X.2.1 dX8_putAside_24 (by decide) ?_
        exact ih_2 x1_21 v20 _ _ _ hr hW (lv_sub hl [1, 0] rfl)
  exact L_2 _ 0 v _ _ _ hr hW (lv_sub hl [1, 0] rfl)
abbrev rm_X8_push : Room := { frames := 0, cells := 0, slots := 0, locals := 0 }
theorem hy_X8_push : zY yX8_push wsX8_push cX8_push 2 none 0 := ⟨⟨_, rfl⟩, by decide, by decide, by decide +kernel⟩
def lpB_X8_push_52   (k_52 : Int32 → zHV → Option (zHV)) (x1 : Int32) (v : zHV) : Option (zHV) :=
(if 288 ≤ x1 then
zlet ((v 6 0) + 1) fun t92 =>
zlet (zs v 6 0 t92) fun v93 =>
some v93
else
zlet ((v 6 0) * 288) fun t70 =>
zlet (t70 + x1) fun t72 =>
zld 288 (v 1) x1 fun t78 =>
zsv 1728 v 2 t72 t78 fun v79 =>
zlet (x1 + Int32.ofInt 1) fun x1_80 =>
k_52 x1_80 v79)
def lp_X8_push_52   : Nat → Int32 → zHV → Option (zHV)
  | 0 => fun _ _ => none
  | n_ + 1 => lpB_X8_push_52   (lp_X8_push_52   n_)
def lpB_X8_push_11  (j_50 : zHV → Option (zHV)) (k_11 : Int32 → zHV → Option (zHV)) (x1 : Int32) (v : zHV) : Option (zHV) :=
(if 1440 ≤ x1 then
zlet ((v 6 0) - 1) fun t46 =>
zlet (zs v 6 0 t46) fun v47 =>
j_50 v47
else
zlet (x1 + 288) fun t31 =>
zld 1728 (v 2) t31 fun t32 =>
zsv 1728 v 2 x1 t32 fun v33 =>
zlet (x1 + Int32.ofInt 1) fun x1_34 =>
k_11 x1_34 v33)
def lp_X8_push_11  (j_50 : zHV → Option (zHV)) : Nat → Int32 → zHV → Option (zHV)
  | 0 => fun _ _ => none
  | n_ + 1 => lpB_X8_push_11  j_50 (lp_X8_push_11  j_50 n_)
def d_X8_push (v : zHV) : Option (zHV) :=
zjn (fun (v : zHV) =>
lp_X8_push_52   zF 0 v) fun j_50 =>
(if (v 6 0) = 6 then
lp_X8_push_11  j_50 zF 0 v
else
j_50 v)
set_option maxHeartbeats 4000000 in
set_option maxRecDepth 100000 in
theorem c_X8_push (l : Launch) (E : zE) (a : Nat → Nat) (v : zHV) (r : zHV) (h : d_X8_push v = some r) : zMv l E yX8_push wsX8_push rm_X8_push [.ref (a 0)] (mdW E a v) (mdW E a r) := by
  intro sz
  refine z_entry (Qc := fun A => zQv E A (mdW E a r)) (by decide) rfl (Nat.le_of_ble_eq_true rfl) ?_
  intro p e s m below meth c A X hW ls hl
  have X : zX E wsX8_push RX8 cX8_push 2 none yX8_push p s m ([.ref (a 0)] : List Value).toArray meth c A := X
  have hl : lv_has ls 2 [(0, .ref (a 0))] := hl
  have hr : d_X8_push v = some r := h
  clear h
  have q_0 : Cond.fieldLink RX8 36 "ApplauseTalliesModel" "states" "I" ∈ wsX8_push := List.mem_of_getElem? (i := 1) rfl
  have hn_X8 : ∀ x ∈ wsX80, x ∈ wsX8_push := zz_in [4, 5, 6, 7, 8, 9, 10, 11, 12, 13, 14, 15] (by decide +kernel)
  have q_2 : Cond.fieldLink RX8 16 "ApplauseTalliesModel" "history" "[I" ∈ wsX8_push := List.mem_of_getElem? (i := 2) rfl
  have q_3 : Cond.fieldLink RX8 13 "ApplauseTalliesModel" "spare" "[I" ∈ wsX8_push := List.mem_of_getElem? (i := 3) rfl
  unfold d_X8_push at hr
  refine lv_aload_n X.1 X.2.1 dX8_push_0 rfl (lv_at hl 0 rfl) ?_
  refine z_get X hW 0 8 3 (C := RX8) (T := TX8) (N := 12) rfl rfl hn_X8 (by decide) q_0 rfl dX8_push_1 ?_
  refine lv_bipush (v := 6) X.1 X.2.1 dX8_push_4 (by decide) ?_
  obtain ⟨j_50, e_50, hr⟩ := zjn_some hr
  have J_50 : ∀ (v : zHV) (H : Heap) (locs : List Loc) (ls : Array Slot), j_50 v = some r → zW E A s (mdW E a v) H locs → lv_has ls 2 [(0, .ref (a 0))] → W p l e rm_X8_push s m ([.ref (a 0)] : List Value).toArray below meth c H locs 0 0 (MQ below (zQv E A (mdW E a r)) ([.ref (a 0)] : List Value).toArray s 0 0 A) (F0 m 50 ls []) := by
    intro v H locs ls hr hW hl
    rw [e_50] at hr
    refine lv_iconst (v := 0) X.1 X.2.1 dX8_push_50 (by decide) ?_
    refine lv_istore_n (lv' := [(1, .int 0), (0, .ref (a 0))]) X.1 X.2.1 dX8_push_51 rfl hl (by decide) rfl (fun ls hl => ?_)
    have L_52 : ∀ (n_52 : Nat), ∀ (x1 : Int32) (v : zHV) (H : Heap) (locs : List Loc) (ls : Array Slot), lp_X8_push_52   n_52 x1 v = some r → zW E A s (mdW E a v) H locs → lv_has ls 2 [(0, .ref (a 0)), (1, .int x1)] → W p l e rm_X8_push s m ([.ref (a 0)] : List Value).toArray below meth c H locs 0 0 (MQ below (zQv E A (mdW E a r)) ([.ref (a 0)] : List Value).toArray s 0 0 A) (F0 m 52 ls []) := by
      intro n_52
      induction n_52 with
      | zero => exact fun x1 v H locs ls hr hW hl => absurd (show (none : Option (zHV)) = some r from hr) (fun h => by cases h)
      | succ n_52 ih_52 =>
        intro x1 v H locs ls hr hW hl
        have hr : lpB_X8_push_52   (lp_X8_push_52   n_52) x1 v = some r := hr
        unfold lpB_X8_push_52 at hr
        refine lv_iload_n X.1 X.2.1 dX8_push_52 rfl (lv_at hl 1 rfl) ?_
        refine lv_sipush (v := 288) X.1 X.2.1 dX8_push_53 (by decide) ?_
        refine z_cmpge X 86 hr dX8_push_56 (by decide) (fun hr => ?_) (fun hr => ?_)
        · refine lv_aload_n X.1 X.2.1 dX8_push_86 rfl (lv_at hl 0 rfl) ?_
          refine lv_dup X.1 X.2.1 dX8_push_87 rfl ?_
          refine z_get X hW 0 8 3 (C := RX8) (T := TX8) (N := 12) rfl rfl hn_X8 (by decide) q_0 rfl dX8_push_88 ?_
          refine lv_iconst (v := 1) X.1 X.2.1 dX8_push_91 (by decide) ?_
          refine z_iadd X hr dX8_push_92 (fun t92 hr => ?_)
          refine z_put X hW hr (fun v93 => (mdW E a v93)) tyX8 tyX8_ok nmX8 0 8 3 (C := RX8) (T := TX8) (N := 12) rfl rfl hn_X8 (by decide) q_0 rfl rfl rfl (Nat.le_of_ble_eq_true rfl) rfl dX8_push_93 (fun v93 H locs hr hW => ?_)
          cases hr
          exact z_vret X hW dX8_push_96
        · refine lv_aload_n X.1 X.2.1 dX8_push_59 rfl (lv_at hl 0 rfl) ?_
          refine z_get X hW 0 8 2 (C := RX8) (T := TX8) (N := 12) rfl rfl hn_X8 (by decide) q_2 rfl dX8_push_60 ?_
          refine lv_aload_n X.1 X.2.1 dX8_push_63 rfl (lv_at hl 0 rfl) ?_
          refine z_get X hW 0 8 3 (C := RX8) (T := TX8) (N := 12) rfl rfl hn_X8 (by decide) q_0 rfl dX8_push_64 ?_
          refine lv_sipush (v := 288) X.1 X.2.1 dX8_push_67 (by decide) ?_
          refine z_imul X hr dX8_push_70 (fun t70 hr => ?_)
          refine lv_iload_n X.1 X.2.1 dX8_push_71 rfl (lv_at hl 1 rfl) ?_
          refine z_iadd X hr dX8_push_72 (fun t72 hr => ?_)
          refine lv_aload_n X.1 X.2.1 dX8_push_73 rfl (lv_at hl 0 rfl) ?_
          refine z_get X hW 0 8 1 (C := RX8) (T := TX8) (N := 12) rfl rfl hn_X8 (by decide) q_3 rfl dX8_push_74 ?_
          refine lv_iload_n X.1 X.2.1 dX8_push_77 rfl (lv_at hl 1 rfl) ?_
          refine z_ald X hW 2 hr rfl dX8_push_78 (fun t78 hr => ?_)
          refine z_asv X hW 3 hr (fun v79 => (mdW E a v79)) rfl rfl dX8_push_79 (fun v79 H locs hr hW => ?_)
          refine z_iinc X (fun x1_80 => [(1, .int x1_80), (0, .ref (a 0))]) hr hl (k := 1) rfl (by decide) (fun _ => rfl) dX8_push_80 (fun x1_80 ls hr hl => ?_)
          refine lv_goto (tgt := 52) X.1 X.2.1 dX8_push_83 (by decide) ?_
          exact ih_52 x1_80 v79 _ _ _ hr hW (lv_sub hl [1, 0] rfl)
    exact L_52 _ 0 v _ _ _ hr hW (lv_sub hl [1, 0] rfl)
  refine z_cmpne X 50 hr dX8_push_6 (by decide) (fun hr => ?_) (fun hr => ?_)
  · exact J_50 v _ _ _ hr hW (lv_sub hl [0] rfl)
  · refine lv_iconst (v := 0) X.1 X.2.1 dX8_push_9 (by decide) ?_
    refine lv_istore_n (lv' := [(1, .int 0), (0, .ref (a 0))]) X.1 X.2.1 dX8_push_10 rfl hl (by decide) rfl (fun ls hl => ?_)
    have L_11 : ∀ (n_11 : Nat), ∀ (x1 : Int32) (v : zHV) (H : Heap) (locs : List Loc) (ls : Array Slot), lp_X8_push_11  j_50 n_11 x1 v = some r → zW E A s (mdW E a v) H locs → lv_has ls 2 [(0, .ref (a 0)), (1, .int x1)] → W p l e rm_X8_push s m ([.ref (a 0)] : List Value).toArray below meth c H locs 0 0 (MQ below (zQv E A (mdW E a r)) ([.ref (a 0)] : List Value).toArray s 0 0 A) (F0 m 11 ls []) := by
      intro n_11
      induction n_11 with
      | zero => exact fun x1 v H locs ls hr hW hl => absurd (show (none : Option (zHV)) = some r from hr) (fun h => by cases h)
      | succ n_11 ih_11 =>
        intro x1 v H locs ls hr hW hl
        have hr : lpB_X8_push_11  j_50 (lp_X8_push_11  j_50 n_11) x1 v = some r := hr
        unfold lpB_X8_push_11 at hr
        refine lv_iload_n X.1 X.2.1 dX8_push_11 rfl (lv_at hl 1 rfl) ?_
        refine lv_sipush (v := 1440) X.1 X.2.1 dX8_push_12 (by decide) ?_
        refine z_cmpge X 40 hr dX8_push_15 (by decide) (fun hr => ?_) (fun hr => ?_)
        · refine lv_aload_n X.1 X.2.1 dX8_push_40 rfl (lv_at hl 0 rfl) ?_
          refine lv_dup X.1 X.2.1 dX8_push_41 rfl ?_
          refine z_get X hW 0 8 3 (C := RX8) (T := TX8) (N := 12) rfl rfl hn_X8 (by decide) q_0 rfl dX8_push_42 ?_
          refine lv_iconst (v := 1) X.1 X.2.1 dX8_push_45 (by decide) ?_
          refine z_isub X hr dX8_push_46 (fun t46 hr => ?_)
          refine z_put X hW hr (fun v47 => (mdW E a v47)) tyX8 tyX8_ok nmX8 0 8 3 (C := RX8) (T := TX8) (N := 12) rfl rfl hn_X8 (by decide) q_0 rfl rfl rfl (Nat.le_of_ble_eq_true rfl) rfl dX8_push_47 (fun v47 H locs hr hW => ?_)
          exact J_50 v47 _ _ _ hr hW (lv_sub hl [0] rfl)
        · refine lv_aload_n X.1 X.2.1 dX8_push_18 rfl (lv_at hl 0 rfl) ?_
          refine z_get X hW 0 8 2 (C := RX8) (T := TX8) (N := 12) rfl rfl hn_X8 (by decide) q_2 rfl dX8_push_19 ?_
          refine lv_iload_n X.1 X.2.1 dX8_push_22 rfl (lv_at hl 1 rfl) ?_
          refine lv_aload_n X.1 X.2.1 dX8_push_23 rfl (lv_at hl 0 rfl) ?_
          refine z_get X hW 0 8 2 (C := RX8) (T := TX8) (N := 12) rfl rfl hn_X8 (by decide) q_2 rfl dX8_push_24 ?_
          refine lv_iload_n X.1 X.2.1 dX8_push_27 rfl (lv_at hl 1 rfl) ?_
          refine lv_sipush (v := 288) X.1 X.2.1 dX8_push_28 (by decide) ?_
          refine z_iadd X hr dX8_push_31 (fun t31 hr => ?_)
          refine z_ald X hW 3 hr rfl dX8_push_32 (fun t32 hr => ?_)
          refine z_asv X hW 3 hr (fun v33 => (mdW E a v33)) rfl rfl dX8_push_33 (fun v33 H locs hr hW => ?_)
          refine z_iinc X (fun x1_34 => [(1, .int x1_34), (0, .ref (a 0))]) hr hl (k := 1) rfl (by decide) (fun _ => rfl) dX8_push_34 (fun x1_34 ls hr hl => ?_)
          refine lv_goto (tgt := 11) X.1 X.2.1 dX8_push_37 (by decide) ?_
          exact ih_11 x1_34 v33 _ _ _ hr hW (lv_sub hl [1, 0] rfl)
    exact L_11 _ 0 v _ _ _ hr hW (lv_sub hl [1, 0] rfl)
abbrev rm_X8_recorded : Room := { frames := 1, cells := 0, slots := 0, locals := 21 }
theorem hy_X8_recorded : zY yX8_recorded wsX8_recorded cX8_recorded 2 (some .int) 1 := ⟨⟨_, rfl⟩, by decide, by decide, by decide +kernel⟩
def d_X8_recorded (v : zHV) (p1 : Int32) : Option (Int32 × zHV) :=
(if p1 < 0 then
some (p1, v)
else
zup (d_X8_push v) (fun u => u) fun v5 =>
some (p1, v5))
set_option maxHeartbeats 4000000 in
set_option maxRecDepth 100000 in
theorem c_X8_recorded (l : Launch) (E : zE) (a : Nat → Nat) (v : zHV) (p1 : Int32) (r : Int32 × zHV) (h : d_X8_recorded v p1 = some r) : zMi l E yX8_recorded wsX8_recorded rm_X8_recorded [.ref (a 0), .int p1] (mdW E a v) r.1 (mdW E a r.2) := by
  intro sz
  refine z_entry (Qc := fun A => zQi E A r.1 (mdW E a r.2)) (by decide) rfl (Nat.le_of_ble_eq_true rfl) ?_
  intro p e s m below meth c A X hW ls hl
  have X : zX E wsX8_recorded RX8 cX8_recorded 2 (some .int) yX8_recorded p s m ([.ref (a 0), .int p1] : List Value).toArray meth c A := X
  have hl : lv_has ls 2 [(0, .ref (a 0)), (1, .int p1)] := hl
  have hr : d_X8_recorded v p1 = some r := h
  clear h
  unfold d_X8_recorded at hr
  refine lv_iload_n X.1 X.2.1 dX8_recorded_0 rfl (lv_at hl 1 rfl) ?_
  refine z_iflt X 8 hr dX8_recorded_1 (by decide) (fun hr => ?_) (fun hr => ?_)
  · refine lv_iload_n X.1 X.2.1 dX8_recorded_8 rfl (lv_at hl 1 rfl) ?_
    cases hr
    exact z_iret X hW rfl dX8_recorded_9
  · refine lv_aload_n X.1 X.2.1 dX8_recorded_4 rfl (lv_at hl 0 rfl) ?_
    have hp_5 := (z_all (mdW E a v))
    refine z_callv X hW (fun u => u) hr hp_5 (fun u => (mdW E a u)) (fun v5 => (mdW E a v5)) (fun u => (z_lla (mdW E a u))) (fun u h => z_runV (As := []) (rest := []) X hW hp_5 (c_X8_push l E a v u h _) hy_X8_push 0 8 (C := RX8) (T := TX8) (N := 12) rfl rfl rfl gX8_recorded_X8_push rfl rfl ⟨by decide, by decide⟩ rfl hl rfl rfl (Nat.le_of_ble_eq_true rfl) dX8_recorded_5 ⟨Nat.zero_le _, Nat.zero_le _⟩) (fun v5 H locs hr hW => ?_)
    refine lv_iload_n X.1 X.2.1 dX8_recorded_8 rfl (lv_at hl 1 rfl) ?_
    cases hr
    exact z_iret X hW rfl dX8_recorded_9
abbrev rm_X8_undo : Room := { frames := 0, cells := 0, slots := 0, locals := 0 }
theorem hy_X8_undo : zY yX8_undo wsX8_undo cX8_undo 2 (some .int) 0 := ⟨⟨_, rfl⟩, by decide, by decide, by decide +kernel⟩
def lpB_X8_undo_22   (k_22 : Int32 → zHV → Option (Int32 × zHV)) (x1 : Int32) (v : zHV) : Option (Int32 × zHV) :=
(if 288 ≤ x1 then
some ((v 6 0), v)
else
zlet ((v 6 0) * 288) fun t45 =>
zlet (t45 + x1) fun t47 =>
zld 1728 (v 2) t47 fun t48 =>
zsv 288 v 0 x1 t48 fun v49 =>
zlet (x1 + Int32.ofInt 1) fun x1_50 =>
k_22 x1_50 v49)
def lp_X8_undo_22   : Nat → Int32 → zHV → Option (Int32 × zHV)
  | 0 => fun _ _ => none
  | n_ + 1 => lpB_X8_undo_22   (lp_X8_undo_22   n_)
def d_X8_undo (v : zHV) : Option (Int32 × zHV) :=
(if (v 6 0) = 0 then
some ((-5), v)
else
zlet ((v 6 0) - 1) fun t16 =>
zlet (zs v 6 0 t16) fun v17 =>
lp_X8_undo_22   zF 0 v17)
set_option maxHeartbeats 4000000 in
set_option maxRecDepth 100000 in
theorem c_X8_undo (l : Launch) (E : zE) (a : Nat → Nat) (v : zHV) (r : Int32 × zHV) (h : d_X8_undo v = some r) : zMi l E yX8_undo wsX8_undo rm_X8_undo [.ref (a 0)] (mdW E a v) r.1 (mdW E a r.2) := by
  intro sz
  refine z_entry (Qc := fun A => zQi E A r.1 (mdW E a r.2)) (by decide) rfl (Nat.le_of_ble_eq_true rfl) ?_
  intro p e s m below meth c A X hW ls hl
  have X : zX E wsX8_undo RX8 cX8_undo 2 (some .int) yX8_undo p s m ([.ref (a 0)] : List Value).toArray meth c A := X
  have hl : lv_has ls 2 [(0, .ref (a 0))] := hl
  have hr : d_X8_undo v = some r := h
  clear h
  have q_0 : Cond.fieldLink RX8 36 "ApplauseTalliesModel" "states" "I" ∈ wsX8_undo := List.mem_of_getElem? (i := 1) rfl
  have hn_X8 : ∀ x ∈ wsX80, x ∈ wsX8_undo := zz_in [4, 5, 6, 7, 8, 9, 10, 11, 12, 13, 14, 15] (by decide +kernel)
  have q_2 : Cond.fieldLink RX8 7 "ApplauseTalliesModel" "state" "[I" ∈ wsX8_undo := List.mem_of_getElem? (i := 2) rfl
  have q_3 : Cond.fieldLink RX8 16 "ApplauseTalliesModel" "history" "[I" ∈ wsX8_undo := List.mem_of_getElem? (i := 3) rfl
  unfold d_X8_undo at hr
  refine lv_aload_n X.1 X.2.1 dX8_undo_0 rfl (lv_at hl 0 rfl) ?_
  refine z_get X hW 0 8 3 (C := RX8) (T := TX8) (N := 12) rfl rfl hn_X8 (by decide) q_0 rfl dX8_undo_1 ?_
  refine z_ifne X 10 hr dX8_undo_4 (by decide) (fun hr => ?_) (fun hr => ?_)
  · refine lv_aload_n X.1 X.2.1 dX8_undo_10 rfl (lv_at hl 0 rfl) ?_
    refine lv_dup X.1 X.2.1 dX8_undo_11 rfl ?_
    refine z_get X hW 0 8 3 (C := RX8) (T := TX8) (N := 12) rfl rfl hn_X8 (by decide) q_0 rfl dX8_undo_12 ?_
    refine lv_iconst (v := 1) X.1 X.2.1 dX8_undo_15 (by decide) ?_
    refine z_isub X hr dX8_undo_16 (fun t16 hr => ?_)
    refine z_put X hW hr (fun v17 => (mdW E a v17)) tyX8 tyX8_ok nmX8 0 8 3 (C := RX8) (T := TX8) (N := 12) rfl rfl hn_X8 (by decide) q_0 rfl rfl rfl (Nat.le_of_ble_eq_true rfl) rfl dX8_undo_17 (fun v17 H locs hr hW => ?_)
    refine lv_iconst (v := 0) X.1 X.2.1 dX8_undo_20 (by decide) ?_
    refine lv_istore_n (lv' := [(1, .int 0), (0, .ref (a 0))]) X.1 X.2.1 dX8_undo_21 rfl hl (by decide) rfl (fun ls hl => ?_)
    have L_22 : ∀ (n_22 : Nat), ∀ (x1 : Int32) (v : zHV) (H : Heap) (locs : List Loc) (ls : Array Slot), lp_X8_undo_22   n_22 x1 v = some r → zW E A s (mdW E a v) H locs → lv_has ls 2 [(0, .ref (a 0)), (1, .int x1)] → W p l e rm_X8_undo s m ([.ref (a 0)] : List Value).toArray below meth c H locs 0 0 (MQ below (zQi E A r.1 (mdW E a r.2)) ([.ref (a 0)] : List Value).toArray s 0 0 A) (F0 m 22 ls []) := by
      intro n_22
      induction n_22 with
      | zero => exact fun x1 v H locs ls hr hW hl => absurd (show (none : Option (Int32 × zHV)) = some r from hr) (fun h => by cases h)
      | succ n_22 ih_22 =>
        intro x1 v H locs ls hr hW hl
        have hr : lpB_X8_undo_22   (lp_X8_undo_22   n_22) x1 v = some r := hr
        unfold lpB_X8_undo_22 at hr
        refine lv_iload_n X.1 X.2.1 dX8_undo_22 rfl (lv_at hl 1 rfl) ?_
        refine lv_sipush (v := 288) X.1 X.2.1 dX8_undo_23 (by decide) ?_
        refine z_cmpge X 56 hr dX8_undo_26 (by decide) (fun hr => ?_) (fun hr => ?_)
        · refine lv_aload_n X.1 X.2.1 dX8_undo_56 rfl (lv_at hl 0 rfl) ?_
          refine z_get X hW 0 8 3 (C := RX8) (T := TX8) (N := 12) rfl rfl hn_X8 (by decide) q_0 rfl dX8_undo_57 ?_
          cases hr
          exact z_iret X hW rfl dX8_undo_60
        · refine lv_aload_n X.1 X.2.1 dX8_undo_29 rfl (lv_at hl 0 rfl) ?_
          refine z_get X hW 0 8 0 (C := RX8) (T := TX8) (N := 12) rfl rfl hn_X8 (by decide) q_2 rfl dX8_undo_30 ?_
          refine lv_iload_n X.1 X.2.1 dX8_undo_33 rfl (lv_at hl 1 rfl) ?_
          refine lv_aload_n X.1 X.2.1 dX8_undo_34 rfl (lv_at hl 0 rfl) ?_
          refine z_get X hW 0 8 2 (C := RX8) (T := TX8) (N := 12) rfl rfl hn_X8 (by decide) q_3 rfl dX8_undo_35 ?_
          refine lv_aload_n X.1 X.2.1 dX8_undo_38 rfl (lv_at hl 0 rfl) ?_
          refine z_get X hW 0 8 3 (C := RX8) (T := TX8) (N := 12) rfl rfl hn_X8 (by decide) q_0 rfl dX8_undo_39 ?_
          refine lv_sipush (v := 288) X.1 X.2.1 dX8_undo_42 (by decide) ?_
          refine z_imul X hr dX8_undo_45 (fun t45 hr => ?_)
          refine lv_iload_n X.1 X.2.1 dX8_undo_46 rfl (lv_at hl 1 rfl) ?_
          refine z_iadd X hr dX8_undo_47 (fun t47 hr => ?_)
          refine z_ald X hW 3 hr rfl dX8_undo_48 (fun t48 hr => ?_)
          refine z_asv X hW 1 hr (fun v49 => (mdW E a v49)) rfl rfl dX8_undo_49 (fun v49 H locs hr hW => ?_)
          refine z_iinc X (fun x1_50 => [(1, .int x1_50), (0, .ref (a 0))]) hr hl (k := 1) rfl (by decide) (fun _ => rfl) dX8_undo_50 (fun x1_50 ls hr hl => ?_)
          refine lv_goto (tgt := 22) X.1 X.2.1 dX8_undo_53 (by decide) ?_
          exact ih_22 x1_50 v49 _ _ _ hr hW (lv_sub hl [1, 0] rfl)
    exact L_22 _ 0 v17 _ _ _ hr hW (lv_sub hl [1, 0] rfl)
  · refine lv_bipush (v := (-5)) X.1 X.2.1 dX8_undo_7 (by decide) ?_
    cases hr
    exact z_iret X hW rfl dX8_undo_9
abbrev rm_X8_isSlot : Room := { frames := 1, cells := 0, slots := 0, locals := 22 }
theorem hy_X8_isSlot : zY yX8_isSlot wsX8_isSlot cX8_isSlot 1 (some .boolean) 1 := ⟨⟨_, rfl⟩, by decide, by decide, by decide +kernel⟩
def d_X8_isSlot (p0 : Int32) : Option (Int32) :=
zcl (d_X8_within p0 0 1) fun t3 =>
zgb t3 (some t3)
set_option maxHeartbeats 4000000 in
set_option maxRecDepth 100000 in
theorem c_X8_isSlot (l : Launch) (E : zE) (p0 : Int32) (r : Int32) (h : d_X8_isSlot p0 = some r) : zMi l E yX8_isSlot wsX8_isSlot rm_X8_isSlot [.int p0] ([] : va_W) r ([] : va_W) := by
  intro sz
  refine z_entry (Qc := fun A => zQi E A r ([] : va_W)) (by decide) rfl (Nat.le_of_ble_eq_true rfl) ?_
  intro p e s m below meth c A X hW ls hl
  have X : zX E wsX8_isSlot RX8 cX8_isSlot 1 (some .boolean) yX8_isSlot p s m ([.int p0] : List Value).toArray meth c A := X
  have hl : lv_has ls 1 [(0, .int p0)] := hl
  have hr : d_X8_isSlot p0 = some r := h
  clear h
  unfold d_X8_isSlot at hr
  refine lv_iload_n X.1 X.2.1 dX8_isSlot_0 rfl (lv_at hl 0 rfl) ?_
  refine lv_iconst (v := 0) X.1 X.2.1 dX8_isSlot_1 (by decide) ?_
  refine lv_iconst (v := 1) X.1 X.2.1 dX8_isSlot_2 (by decide) ?_
  have hp_3 := (List.Perm.refl (([] : va_W)))
  refine z_callp X hW hr hp_3 (fun x h => z_runS (As := [.int p0, .int 0, .int 1]) (rest := []) X hW hp_3 (c_X8_within l E p0 0 1 x h _) hy_X8_within gX8_isSlot_X8_within rfl rfl ⟨by decide, by decide⟩ rfl hl rfl rfl (Nat.le_of_ble_eq_true rfl) dX8_isSlot_3 ⟨Nat.zero_le _, Nat.zero_le _⟩) (fun t3 H locs hr hW => ?_)
  obtain ⟨hg, hr⟩ := zgb_some hr
  cases hr
  exact z_zret X hW rfl (zgb_n hg) dX8_isSlot_6
abbrev rm_X8_save : Room := { frames := 2, cells := 0, slots := 0, locals := 42 }
theorem hy_X8_save : zY yX8_save wsX8_save cX8_save 3 (some .int) 1 := ⟨⟨_, rfl⟩, by decide, by decide, by decide +kernel⟩
def lpB_X8_save_12 (p1 : Int32)  (k_12 : Int32 → zHV → Option (Int32 × zHV)) (x2 : Int32) (v : zHV) : Option (Int32 × zHV) :=
(if 288 ≤ x2 then
zsv 2 v 4 p1 1 fun v49 =>
zld 288 (v49 0) 8 fun t56 =>
some (t56, v49)
else
zlet (p1 * 288) fun t27 =>
zlet (t27 + x2) fun t29 =>
zld 288 (v 0) x2 fun t35 =>
zsv 576 v 3 t29 t35 fun v36 =>
zlet (x2 + Int32.ofInt 1) fun x2_37 =>
k_12 x2_37 v36)
def lp_X8_save_12 (p1 : Int32)  : Nat → Int32 → zHV → Option (Int32 × zHV)
  | 0 => fun _ _ => none
  | n_ + 1 => lpB_X8_save_12 p1  (lp_X8_save_12 p1  n_)
def d_X8_save (v : zHV) (p1 : Int32) : Option (Int32 × zHV) :=
zcl (d_X8_isSlot p1) fun t1 =>
(if t1 = 0 then
some ((-2), v)
else
lp_X8_save_12 p1  zF 0 v)
set_option maxHeartbeats 4000000 in
set_option maxRecDepth 100000 in
theorem c_X8_save (l : Launch) (E : zE) (a : Nat → Nat) (v : zHV) (p1 : Int32) (r : Int32 × zHV) (h : d_X8_save v p1 = some r) : zMi l E yX8_save wsX8_save rm_X8_save [.ref (a 0), .int p1] (mdW E a v) r.1 (mdW E a r.2) := by
  intro sz
  refine z_entry (Qc := fun A => zQi E A r.1 (mdW E a r.2)) (by decide) rfl (Nat.le_of_ble_eq_true rfl) ?_
  intro p e s m below meth c A X hW ls hl
  have X : zX E wsX8_save RX8 cX8_save 3 (some .int) yX8_save p s m ([.ref (a 0), .int p1] : List Value).toArray meth c A := X
  have hl : lv_has ls 3 [(0, .ref (a 0)), (1, .int p1)] := hl
  have hr : d_X8_save v p1 = some r := h
  clear h
  have q_0 : Cond.fieldLink RX8 22 "ApplauseTalliesModel" "isSaved" "[I" ∈ wsX8_save := List.mem_of_getElem? (i := 3) rfl
  have hn_X8 : ∀ x ∈ wsX80, x ∈ wsX8_save := zz_in [11, 12, 13, 14, 15, 16, 17, 18, 19, 20, 21, 22] (by decide +kernel)
  have q_2 : Cond.fieldLink RX8 7 "ApplauseTalliesModel" "state" "[I" ∈ wsX8_save := List.mem_of_getElem? (i := 2) rfl
  have q_3 : Cond.fieldLink RX8 19 "ApplauseTalliesModel" "slots" "[I" ∈ wsX8_save := List.mem_of_getElem? (i := 1) rfl
  unfold d_X8_save at hr
  refine lv_iload_n X.1 X.2.1 dX8_save_0 rfl (lv_at hl 1 rfl) ?_
  have hp_1 := (List.Perm.refl ((mdW E a v)))
  refine z_callp X hW hr hp_1 (fun x h => z_runS (As := [.int p1]) (rest := []) X hW hp_1 (c_X8_isSlot l E p1 x h _) hy_X8_isSlot gX8_save_X8_isSlot rfl rfl ⟨by decide, by decide⟩ rfl hl rfl rfl (Nat.le_of_ble_eq_true rfl) dX8_save_1 ⟨Nat.zero_le _, Nat.zero_le _⟩) (fun t1 H locs hr hW => ?_)
  refine z_ifne X 10 hr dX8_save_4 (by decide) (fun hr => ?_) (fun hr => ?_)
  · refine lv_iconst (v := 0) X.1 X.2.1 dX8_save_10 (by decide) ?_
    refine lv_istore_n (lv' := [(2, .int 0), (0, .ref (a 0)), (1, .int p1)]) X.1 X.2.1 dX8_save_11 rfl hl (by decide) rfl (fun ls hl => ?_)
    have L_12 : ∀ (n_12 : Nat), ∀ (x2 : Int32) (v : zHV) (H : Heap) (locs : List Loc) (ls : Array Slot), lp_X8_save_12 p1  n_12 x2 v = some r → zW E A s (mdW E a v) H locs → lv_has ls 3 [(0, .ref (a 0)), (1, .int p1), (2, .int x2)] → W p l e rm_X8_save s m ([.ref (a 0), .int p1] : List Value).toArray below meth c H locs 0 0 (MQ below (zQi E A r.1 (mdW E a r.2)) ([.ref (a 0), .int p1] : List Value).toArray s 0 0 A) (F0 m 12 ls []) := by
      intro n_12
      induction n_12 with
      | zero => exact fun x2 v H locs ls hr hW hl => absurd (show (none : Option (Int32 × zHV)) = some r from hr) (fun h => by cases h)
      | succ n_12 ih_12 =>
        intro x2 v H locs ls hr hW hl
        have hr : lpB_X8_save_12 p1  (lp_X8_save_12 p1  n_12) x2 v = some r := hr
        unfold lpB_X8_save_12 at hr
        refine lv_iload_n X.1 X.2.1 dX8_save_12 rfl (lv_at hl 2 rfl) ?_
        refine lv_sipush (v := 288) X.1 X.2.1 dX8_save_13 (by decide) ?_
        refine z_cmpge X 43 hr dX8_save_16 (by decide) (fun hr => ?_) (fun hr => ?_)
        · refine lv_aload_n X.1 X.2.1 dX8_save_43 rfl (lv_at hl 0 rfl) ?_
          refine z_get X hW 0 8 5 (C := RX8) (T := TX8) (N := 12) rfl rfl hn_X8 (by decide) q_0 rfl dX8_save_44 ?_
          refine lv_iload_n X.1 X.2.1 dX8_save_47 rfl (lv_at hl 1 rfl) ?_
          refine lv_iconst (v := 1) X.1 X.2.1 dX8_save_48 (by decide) ?_
          refine z_asv X hW 5 hr (fun v49 => (mdW E a v49)) rfl rfl dX8_save_49 (fun v49 H locs hr hW => ?_)
          refine lv_aload_n X.1 X.2.1 dX8_save_50 rfl (lv_at hl 0 rfl) ?_
          refine z_get X hW 0 8 0 (C := RX8) (T := TX8) (N := 12) rfl rfl hn_X8 (by decide) q_2 rfl dX8_save_51 ?_
          refine lv_bipush (v := 8) X.1 X.2.1 dX8_save_54 (by decide) ?_
          refine z_ald X hW 1 hr rfl dX8_save_56 (fun t56 hr => ?_)
          cases hr
          exact z_iret X hW rfl dX8_save_57
        · refine lv_aload_n X.1 X.2.1 dX8_save_19 rfl (lv_at hl 0 rfl) ?_
          refine z_get X hW 0 8 4 (C := RX8) (T := TX8) (N := 12) rfl rfl hn_X8 (by decide) q_3 rfl dX8_save_20 ?_
          refine lv_iload_n X.1 X.2.1 dX8_save_23 rfl (lv_at hl 1 rfl) ?_
          refine lv_sipush (v := 288) X.1 X.2.1 dX8_save_24 (by decide) ?_
          refine z_imul X hr dX8_save_27 (fun t27 hr => ?_)
          refine lv_iload_n X.1 X.2.1 dX8_save_28 rfl (lv_at hl 2 rfl) ?_
          refine z_iadd X hr dX8_save_29 (fun t29 hr => ?_)
          refine lv_aload_n X.1 X.2.1 dX8_save_30 rfl (lv_at hl 0 rfl) ?_
          refine z_get X hW 0 8 0 (C := RX8) (T := TX8) (N := 12) rfl rfl hn_X8 (by decide) q_2 rfl dX8_save_31 ?_
          refine lv_iload_n X.1 X.2.1 dX8_save_34 rfl (lv_at hl 2 rfl) ?_
          refine z_ald X hW 1 hr rfl dX8_save_35 (fun t35 hr => ?_)
          refine z_asv X hW 4 hr (fun v36 => (mdW E a v36)) rfl rfl dX8_save_36 (fun v36 H locs hr hW => ?_)
          refine z_iinc X (fun x2_37 => [(2, .int x2_37), (0, .ref (a 0)), (1, .int p1)]) hr hl (k := 2) rfl (by decide) (fun _ => rfl) dX8_save_37 (fun x2_37 ls hr hl => ?_)
          refine lv_goto (tgt := 12) X.1 X.2.1 dX8_save_40 (by decide) ?_
          exact ih_12 x2_37 v36 _ _ _ hr hW (lv_sub hl [1, 2, 0] rfl)
    exact L_12 _ 0 v _ _ _ hr hW (lv_sub hl [1, 2, 0] rfl)
  · refine lv_bipush (v := (-2)) X.1 X.2.1 dX8_save_7 (by decide) ?_
    cases hr
    exact z_iret X hW rfl dX8_save_9
abbrev rm_X8_restore : Room := { frames := 2, cells := 0, slots := 0, locals := 42 }
theorem hy_X8_restore : zY yX8_restore wsX8_restore cX8_restore 3 (some .int) 1 := ⟨⟨_, rfl⟩, by decide, by decide, by decide +kernel⟩
def lpB_X8_restore_32 (p1 : Int32)  (k_32 : Int32 → zHV → Option (Int32 × zHV)) (x2 : Int32) (v : zHV) : Option (Int32 × zHV) :=
(if 288 ≤ x2 then
zld 288 (v 0) 8 fun t69 =>
some (t69, v)
else
zlet (p1 * 288) fun t52 =>
zlet (t52 + x2) fun t54 =>
zld 576 (v 3) t54 fun t55 =>
zsv 288 v 0 x2 t55 fun v56 =>
zlet (x2 + Int32.ofInt 1) fun x2_57 =>
k_32 x2_57 v56)
def lp_X8_restore_32 (p1 : Int32)  : Nat → Int32 → zHV → Option (Int32 × zHV)
  | 0 => fun _ _ => none
  | n_ + 1 => lpB_X8_restore_32 p1  (lp_X8_restore_32 p1  n_)
def d_X8_restore (v : zHV) (p1 : Int32) : Option (Int32 × zHV) :=
zcl (d_X8_isSlot p1) fun t1 =>
(if t1 = 0 then
some ((-2), v)
else
zld 2 (v 4) p1 fun t15 =>
(if t15 = 0 then
some ((-5), v)
else
zup (d_X8_putAside v) (fun u => u) fun v23 =>
zup (d_X8_push v23) (fun u => u) fun v27 =>
lp_X8_restore_32 p1  zF 0 v27))
set_option maxHeartbeats 4000000 in
set_option maxRecDepth 100000 in
theorem c_X8_restore (l : Launch) (E : zE) (a : Nat → Nat) (v : zHV) (p1 : Int32) (r : Int32 × zHV) (h : d_X8_restore v p1 = some r) : zMi l E yX8_restore wsX8_restore rm_X8_restore [.ref (a 0), .int p1] (mdW E a v) r.1 (mdW E a r.2) := by
  intro sz
  refine z_entry (Qc := fun A => zQi E A r.1 (mdW E a r.2)) (by decide) rfl (Nat.le_of_ble_eq_true rfl) ?_
  intro p e s m below meth c A X hW ls hl
  have X : zX E wsX8_restore RX8 cX8_restore 3 (some .int) yX8_restore p s m ([.ref (a 0), .int p1] : List Value).toArray meth c A := X
  have hl : lv_has ls 3 [(0, .ref (a 0)), (1, .int p1)] := hl
  have hr : d_X8_restore v p1 = some r := h
  clear h
  have q_0 : Cond.fieldLink RX8 22 "ApplauseTalliesModel" "isSaved" "[I" ∈ wsX8_restore := List.mem_of_getElem? (i := 1) rfl
  have hn_X8 : ∀ x ∈ wsX80, x ∈ wsX8_restore := zz_in [22, 23, 24, 25, 26, 27, 28, 29, 30, 31, 32, 33] (by decide +kernel)
  have q_2 : Cond.fieldLink RX8 7 "ApplauseTalliesModel" "state" "[I" ∈ wsX8_restore := List.mem_of_getElem? (i := 2) rfl
  have q_3 : Cond.fieldLink RX8 19 "ApplauseTalliesModel" "slots" "[I" ∈ wsX8_restore := List.mem_of_getElem? (i := 3) rfl
  unfold d_X8_restore at hr
  refine lv_iload_n X.1 X.2.1 dX8_restore_0 rfl (lv_at hl 1 rfl) ?_
  have hp_1 := (List.Perm.refl ((mdW E a v)))
  refine z_callp X hW hr hp_1 (fun x h => z_runS (As := [.int p1]) (rest := []) X hW hp_1 (c_X8_isSlot l E p1 x h _) hy_X8_isSlot gX8_restore_X8_isSlot rfl rfl ⟨by decide, by decide⟩ rfl hl rfl rfl (Nat.le_of_ble_eq_true rfl) dX8_restore_1 ⟨Nat.zero_le _, Nat.zero_le _⟩) (fun t1 H locs hr hW => ?_)
  refine z_ifne X 10 hr dX8_restore_4 (by decide) (fun hr => ?_) (fun hr => ?_)
  · refine lv_aload_n X.1 X.2.1 dX8_restore_10 rfl (lv_at hl 0 rfl) ?_
    refine z_get X hW 0 8 5 (C := RX8) (T := TX8) (N := 12) rfl rfl hn_X8 (by decide) q_0 rfl dX8_restore_11 ?_
    refine lv_iload_n X.1 X.2.1 dX8_restore_14 rfl (lv_at hl 1 rfl) ?_
    refine z_ald X hW 5 hr rfl dX8_restore_15 (fun t15 hr => ?_)
    refine z_ifne X 22 hr dX8_restore_16 (by decide) (fun hr => ?_) (fun hr => ?_)
    · refine lv_aload_n X.1 X.2.1 dX8_restore_22 rfl (lv_at hl 0 rfl) ?_
      have hp_23 := (z_all (mdW E a v))
      refine z_callv X hW (fun u => u) hr hp_23 (fun u => (mdW E a u)) (fun v23 => (mdW E a v23)) (fun u => (z_lla (mdW E a u))) (fun u h => z_runV (As := []) (rest := []) X hW hp_23 (c_X8_putAside l E a v u h _) hy_X8_putAside 0 8 (C := RX8) (T := TX8) (N := 12) rfl rfl rfl gX8_restore_X8_putAside rfl rfl ⟨by decide, by decide⟩ rfl hl rfl rfl (Nat.le_of_ble_eq_true rfl) dX8_restore_23 ⟨Nat.zero_le _, Nat.zero_le _⟩) (fun v23 H locs hr hW => ?_)
      refine lv_aload_n X.1 X.2.1 dX8_restore_26 rfl (lv_at hl 0 rfl) ?_
      have hp_27 := (z_all (mdW E a v23))
      refine z_callv X hW (fun u => u) hr hp_27 (fun u => (mdW E a u)) (fun v27 => (mdW E a v27)) (fun u => (z_lla (mdW E a u))) (fun u h => z_runV (As := []) (rest := []) X hW hp_27 (c_X8_push l E a v23 u h _) hy_X8_push 0 8 (C := RX8) (T := TX8) (N := 12) rfl rfl rfl gX8_restore_X8_push rfl rfl ⟨by decide, by decide⟩ rfl hl rfl rfl (Nat.le_of_ble_eq_true rfl) dX8_restore_27 ⟨Nat.zero_le _, Nat.zero_le _⟩) (fun v27 H locs hr hW => ?_)
      refine lv_iconst (v := 0) X.1 X.2.1 dX8_restore_30 (by decide) ?_
      refine lv_istore_n (lv' := [(2, .int 0), (0, .ref (a 0)), (1, .int p1)]) X.1 X.2.1 dX8_restore_31 rfl hl (by decide) rfl (fun ls hl => ?_)
      have L_32 : ∀ (n_32 : Nat), ∀ (x2 : Int32) (v : zHV) (H : Heap) (locs : List Loc) (ls : Array Slot), lp_X8_restore_32 p1  n_32 x2 v = some r → zW E A s (mdW E a v) H locs → lv_has ls 3 [(0, .ref (a 0)), (1, .int p1), (2, .int x2)] → W p l e rm_X8_restore s m ([.ref (a 0), .int p1] : List Value).toArray below meth c H locs 0 0 (MQ below (zQi E A r.1 (mdW E a r.2)) ([.ref (a 0), .int p1] : List Value).toArray s 0 0 A) (F0 m 32 ls []) := by
        intro n_32
        induction n_32 with
        | zero => exact fun x2 v H locs ls hr hW hl => absurd (show (none : Option (Int32 × zHV)) = some r from hr) (fun h => by cases h)
        | succ n_32 ih_32 =>
          intro x2 v H locs ls hr hW hl
          have hr : lpB_X8_restore_32 p1  (lp_X8_restore_32 p1  n_32) x2 v = some r := hr
          unfold lpB_X8_restore_32 at hr
          refine lv_iload_n X.1 X.2.1 dX8_restore_32 rfl (lv_at hl 2 rfl) ?_
          refine lv_sipush (v := 288) X.1 X.2.1 dX8_restore_33 (by decide) ?_
          refine z_cmpge X 63 hr dX8_restore_36 (by decide) (fun hr => ?_) (fun hr => ?_)
          · refine lv_aload_n X.1 X.2.1 dX8_restore_63 rfl (lv_at hl 0 rfl) ?_
            refine z_get X hW 0 8 0 (C := RX8) (T := TX8) (N := 12) rfl rfl hn_X8 (by decide) q_2 rfl dX8_restore_64 ?_
            refine lv_bipush (v := 8) X.1 X.2.1 dX8_restore_67 (by decide) ?_
            refine z_ald X hW 1 hr rfl dX8_restore_69 (fun t69 hr => ?_)
            cases hr
            exact z_iret X hW rfl dX8_restore_70
          · refine lv_aload_n X.1 X.2.1 dX8_restore_39 rfl (lv_at hl 0 rfl) ?_
            refine z_get X hW 0 8 0 (C := RX8) (T := TX8) (N := 12) rfl rfl hn_X8 (by decide) q_2 rfl dX8_restore_40 ?_
            refine lv_iload_n X.1 X.2.1 dX8_restore_43 rfl (lv_at hl 2 rfl) ?_
            refine lv_aload_n X.1 X.2.1 dX8_restore_44 rfl (lv_at hl 0 rfl) ?_
            refine z_get X hW 0 8 4 (C := RX8) (T := TX8) (N := 12) rfl rfl hn_X8 (by decide) q_3 rfl dX8_restore_45 ?_
            refine lv_iload_n X.1 X.2.1 dX8_restore_48 rfl (lv_at hl 1 rfl) ?_
            refine lv_sipush (v := 288) X.1 X.2.1 dX8_restore_49 (by decide) ?_
            refine z_imul X hr dX8_restore_52 (fun t52 hr => ?_)
            refine lv_iload_n X.1 X.2.1 dX8_restore_53 rfl (lv_at hl 2 rfl) ?_
            refine z_iadd X hr dX8_restore_54 (fun t54 hr => ?_)
            refine z_ald X hW 4 hr rfl dX8_restore_55 (fun t55 hr => ?_)
            refine z_asv X hW 1 hr (fun v56 => (mdW E a v56)) rfl rfl dX8_restore_56 (fun v56 H locs hr hW => ?_)
            refine z_iinc X (fun x2_57 => [(2, .int x2_57), (0, .ref (a 0)), (1, .int p1)]) hr hl (k := 2) rfl (by decide) (fun _ => rfl) dX8_restore_57 (fun x2_57 ls hr hl => ?_)
            refine lv_goto (tgt := 32) X.1 X.2.1 dX8_restore_60 (by decide) ?_
            exact ih_32 x2_57 v56 _ _ _ hr hW (lv_sub hl [1, 2, 0] rfl)
      exact L_32 _ 0 v27 _ _ _ hr hW (lv_sub hl [1, 2, 0] rfl)
    · refine lv_bipush (v := (-5)) X.1 X.2.1 dX8_restore_19 (by decide) ?_
      cases hr
      exact z_iret X hW rfl dX8_restore_21
  · refine lv_bipush (v := (-2)) X.1 X.2.1 dX8_restore_7 (by decide) ?_
    cases hr
    exact z_iret X hW rfl dX8_restore_9
abbrev rm_X8_owedFor : Room := { frames := 0, cells := 0, slots := 0, locals := 0 }
theorem hy_X8_owedFor : zY yX8_owedFor wsX8_owedFor cX8_owedFor 2 (some .int) 1 := ⟨⟨_, rfl⟩, by decide, by decide, by decide +kernel⟩
def d_X8_owedFor (v : zHV) (p1 : Int32) : Option (Int32) :=
zld 288 (v 0) 7 fun t6 =>
zlet (2 * p1) fun t16 =>
zlet (218 + t16) fun t17 =>
zlet (t17 + 1) fun t19 =>
zld 288 (v 0) t19 fun t20 =>
zlet (t6 - t20) fun t21 =>
some t21
set_option maxHeartbeats 4000000 in
set_option maxRecDepth 100000 in
theorem c_X8_owedFor (l : Launch) (E : zE) (a : Nat → Nat) (v : zHV) (p1 : Int32) (r : Int32) (h : d_X8_owedFor v p1 = some r) : zMi l E yX8_owedFor wsX8_owedFor rm_X8_owedFor [.ref (a 0), .int p1] (mdW E a v) r (mdW E a v) := by
  intro sz
  refine z_entry (Qc := fun A => zQi E A r (mdW E a v)) (by decide) rfl (Nat.le_of_ble_eq_true rfl) ?_
  intro p e s m below meth c A X hW ls hl
  have X : zX E wsX8_owedFor RX8 cX8_owedFor 2 (some .int) yX8_owedFor p s m ([.ref (a 0), .int p1] : List Value).toArray meth c A := X
  have hl : lv_has ls 2 [(0, .ref (a 0)), (1, .int p1)] := hl
  have hr : d_X8_owedFor v p1 = some r := h
  clear h
  have q_0 : Cond.fieldLink RX8 7 "ApplauseTalliesModel" "state" "[I" ∈ wsX8_owedFor := List.mem_of_getElem? (i := 1) rfl
  have hn_X8 : ∀ x ∈ wsX80, x ∈ wsX8_owedFor := zz_in [2, 3, 4, 5, 6, 7, 8, 9, 10, 11, 12, 13] (by decide +kernel)
  unfold d_X8_owedFor at hr
  refine lv_aload_n X.1 X.2.1 dX8_owedFor_0 rfl (lv_at hl 0 rfl) ?_
  refine z_get X hW 0 8 0 (C := RX8) (T := TX8) (N := 12) rfl rfl hn_X8 (by decide) q_0 rfl dX8_owedFor_1 ?_
  refine lv_bipush (v := 7) X.1 X.2.1 dX8_owedFor_4 (by decide) ?_
  refine z_ald X hW 1 hr rfl dX8_owedFor_6 (fun t6 hr => ?_)
  refine lv_aload_n X.1 X.2.1 dX8_owedFor_7 rfl (lv_at hl 0 rfl) ?_
  refine z_get X hW 0 8 0 (C := RX8) (T := TX8) (N := 12) rfl rfl hn_X8 (by decide) q_0 rfl dX8_owedFor_8 ?_
  refine lv_sipush (v := 218) X.1 X.2.1 dX8_owedFor_11 (by decide) ?_
  refine lv_iconst (v := 2) X.1 X.2.1 dX8_owedFor_14 (by decide) ?_
  refine lv_iload_n X.1 X.2.1 dX8_owedFor_15 rfl (lv_at hl 1 rfl) ?_
  refine z_imul X hr dX8_owedFor_16 (fun t16 hr => ?_)
  refine z_iadd X hr dX8_owedFor_17 (fun t17 hr => ?_)
  refine lv_iconst (v := 1) X.1 X.2.1 dX8_owedFor_18 (by decide) ?_
  refine z_iadd X hr dX8_owedFor_19 (fun t19 hr => ?_)
  refine z_ald X hW 1 hr rfl dX8_owedFor_20 (fun t20 hr => ?_)
  refine z_isub X hr dX8_owedFor_21 (fun t21 hr => ?_)
  cases hr
  exact z_iret X hW rfl dX8_owedFor_22
abbrev rm_X8_countLapse : Room := { frames := 0, cells := 0, slots := 0, locals := 0 }
theorem hy_X8_countLapse : zY yX8_countLapse wsX8_countLapse cX8_countLapse 2 none 1 := ⟨⟨_, rfl⟩, by decide, by decide, by decide +kernel⟩
def d_X8_countLapse (v : zHV) (p1 : Int32) : Option (zHV) :=
zlet (3 * p1) fun t9 =>
zlet (200 + t9) fun t10 =>
zlet (t10 + 1) fun t12 =>
zld 288 (v 0) t12 fun t14 =>
zlet (t14 + 1) fun t16 =>
zsv 288 v 0 t12 t16 fun v17 =>
zld 288 (v17 0) 11 fun t25 =>
zlet (t25 + 1) fun t27 =>
zsv 288 v17 0 11 t27 fun v28 =>
some v28
set_option maxHeartbeats 4000000 in
set_option maxRecDepth 100000 in
theorem c_X8_countLapse (l : Launch) (E : zE) (a : Nat → Nat) (v : zHV) (p1 : Int32) (r : zHV) (h : d_X8_countLapse v p1 = some r) : zMv l E yX8_countLapse wsX8_countLapse rm_X8_countLapse [.ref (a 0), .int p1] (mdW E a v) (mdW E a r) := by
  intro sz
  refine z_entry (Qc := fun A => zQv E A (mdW E a r)) (by decide) rfl (Nat.le_of_ble_eq_true rfl) ?_
  intro p e s m below meth c A X hW ls hl
  have X : zX E wsX8_countLapse RX8 cX8_countLapse 2 none yX8_countLapse p s m ([.ref (a 0), .int p1] : List Value).toArray meth c A := X
  have hl : lv_has ls 2 [(0, .ref (a 0)), (1, .int p1)] := hl
  have hr : d_X8_countLapse v p1 = some r := h
  clear h
  have q_0 : Cond.fieldLink RX8 7 "ApplauseTalliesModel" "state" "[I" ∈ wsX8_countLapse := List.mem_of_getElem? (i := 1) rfl
  have hn_X8 : ∀ x ∈ wsX80, x ∈ wsX8_countLapse := zz_in [2, 3, 4, 5, 6, 7, 8, 9, 10, 11, 12, 13] (by decide +kernel)
  unfold d_X8_countLapse at hr
  refine lv_aload_n X.1 X.2.1 dX8_countLapse_0 rfl (lv_at hl 0 rfl) ?_
  refine z_get X hW 0 8 0 (C := RX8) (T := TX8) (N := 12) rfl rfl hn_X8 (by decide) q_0 rfl dX8_countLapse_1 ?_
  refine lv_sipush (v := 200) X.1 X.2.1 dX8_countLapse_4 (by decide) ?_
  refine lv_iconst (v := 3) X.1 X.2.1 dX8_countLapse_7 (by decide) ?_
  refine lv_iload_n X.1 X.2.1 dX8_countLapse_8 rfl (lv_at hl 1 rfl) ?_
  refine z_imul X hr dX8_countLapse_9 (fun t9 hr => ?_)
  refine z_iadd X hr dX8_countLapse_10 (fun t10 hr => ?_)
  refine lv_iconst (v := 1) X.1 X.2.1 dX8_countLapse_11 (by decide) ?_
  refine z_iadd X hr dX8_countLapse_12 (fun t12 hr => ?_)
  refine lv_dup2_11 X.1 X.2.1 dX8_countLapse_13 rfl rfl ?_
  refine z_ald X hW 1 hr rfl dX8_countLapse_14 (fun t14 hr => ?_)
  refine lv_iconst (v := 1) X.1 X.2.1 dX8_countLapse_15 (by decide) ?_
  refine z_iadd X hr dX8_countLapse_16 (fun t16 hr => ?_)
  refine z_asv X hW 1 hr (fun v17 => (mdW E a v17)) rfl rfl dX8_countLapse_17 (fun v17 H locs hr hW => ?_)
  refine lv_aload_n X.1 X.2.1 dX8_countLapse_18 rfl (lv_at hl 0 rfl) ?_
  refine z_get X hW 0 8 0 (C := RX8) (T := TX8) (N := 12) rfl rfl hn_X8 (by decide) q_0 rfl dX8_countLapse_19 ?_
  refine lv_bipush (v := 11) X.1 X.2.1 dX8_countLapse_22 (by decide) ?_
  refine lv_dup2_11 X.1 X.2.1 dX8_countLapse_24 rfl rfl ?_
  refine z_ald X hW 1 hr rfl dX8_countLapse_25 (fun t25 hr => ?_)
  refine lv_iconst (v := 1) X.1 X.2.1 dX8_countLapse_26 (by decide) ?_
  refine z_iadd X hr dX8_countLapse_27 (fun t27 hr => ?_)
  refine z_asv X hW 1 hr (fun v28 => (mdW E a v28)) rfl rfl dX8_countLapse_28 (fun v28 H locs hr hW => ?_)
  cases hr
  exact z_vret X hW dX8_countLapse_29
abbrev rm_X8_owe : Room := { frames := 1, cells := 0, slots := 0, locals := 21 }
theorem hy_X8_owe : zY yX8_owe wsX8_owe cX8_owe 2 none 1 := ⟨⟨_, rfl⟩, by decide, by decide, by decide +kernel⟩
def d_X8_owe (v : zHV) (p1 : Int32) : Option (zHV) :=
zsv 288 v 0 16 1 fun v7 =>
zld 288 (v7 0) 17 fun t14 =>
(if t14 = 8 then
zup (d_X8_countLapse v7 p1) (fun u => u) fun v22 =>
some v22
else
zld 288 (v7 0) 17 fun t42 =>
zlet (2 * t42) fun t43 =>
zlet (218 + t43) fun t44 =>
zsv 288 v7 0 t44 p1 fun v46 =>
zld 288 (v46 0) 17 fun t61 =>
zlet (2 * t61) fun t62 =>
zlet (218 + t62) fun t63 =>
zlet (t63 + 1) fun t65 =>
zld 288 (v46 0) 7 fun t72 =>
zsv 288 v46 0 t65 t72 fun v73 =>
zld 288 (v73 0) 17 fun t81 =>
zlet (t81 + 1) fun t83 =>
zsv 288 v73 0 17 t83 fun v84 =>
some v84)
set_option maxHeartbeats 4000000 in
set_option maxRecDepth 100000 in
theorem c_X8_owe (l : Launch) (E : zE) (a : Nat → Nat) (v : zHV) (p1 : Int32) (r : zHV) (h : d_X8_owe v p1 = some r) : zMv l E yX8_owe wsX8_owe rm_X8_owe [.ref (a 0), .int p1] (mdW E a v) (mdW E a r) := by
  intro sz
  refine z_entry (Qc := fun A => zQv E A (mdW E a r)) (by decide) rfl (Nat.le_of_ble_eq_true rfl) ?_
  intro p e s m below meth c A X hW ls hl
  have X : zX E wsX8_owe RX8 cX8_owe 2 none yX8_owe p s m ([.ref (a 0), .int p1] : List Value).toArray meth c A := X
  have hl : lv_has ls 2 [(0, .ref (a 0)), (1, .int p1)] := hl
  have hr : d_X8_owe v p1 = some r := h
  clear h
  have q_0 : Cond.fieldLink RX8 7 "ApplauseTalliesModel" "state" "[I" ∈ wsX8_owe := List.mem_of_getElem? (i := 1) rfl
  have hn_X8 : ∀ x ∈ wsX80, x ∈ wsX8_owe := zz_in [7, 8, 9, 10, 11, 12, 13, 14, 15, 16, 17, 18] (by decide +kernel)
  unfold d_X8_owe at hr
  refine lv_aload_n X.1 X.2.1 dX8_owe_0 rfl (lv_at hl 0 rfl) ?_
  refine z_get X hW 0 8 0 (C := RX8) (T := TX8) (N := 12) rfl rfl hn_X8 (by decide) q_0 rfl dX8_owe_1 ?_
  refine lv_bipush (v := 16) X.1 X.2.1 dX8_owe_4 (by decide) ?_
  refine lv_iconst (v := 1) X.1 X.2.1 dX8_owe_6 (by decide) ?_
  refine z_asv X hW 1 hr (fun v7 => (mdW E a v7)) rfl rfl dX8_owe_7 (fun v7 H locs hr hW => ?_)
  refine lv_aload_n X.1 X.2.1 dX8_owe_8 rfl (lv_at hl 0 rfl) ?_
  refine z_get X hW 0 8 0 (C := RX8) (T := TX8) (N := 12) rfl rfl hn_X8 (by decide) q_0 rfl dX8_owe_9 ?_
  refine lv_bipush (v := 17) X.1 X.2.1 dX8_owe_12 (by decide) ?_
  refine z_ald X hW 1 hr rfl dX8_owe_14 (fun t14 hr => ?_)
  refine lv_bipush (v := 8) X.1 X.2.1 dX8_owe_15 (by decide) ?_
  refine z_cmpne X 28 hr dX8_owe_17 (by decide) (fun hr => ?_) (fun hr => ?_)
  · refine lv_aload_n X.1 X.2.1 dX8_owe_28 rfl (lv_at hl 0 rfl) ?_
    refine z_get X hW 0 8 0 (C := RX8) (T := TX8) (N := 12) rfl rfl hn_X8 (by decide) q_0 rfl dX8_owe_29 ?_
    refine lv_sipush (v := 218) X.1 X.2.1 dX8_owe_32 (by decide) ?_
    refine lv_iconst (v := 2) X.1 X.2.1 dX8_owe_35 (by decide) ?_
    refine lv_aload_n X.1 X.2.1 dX8_owe_36 rfl (lv_at hl 0 rfl) ?_
    refine z_get X hW 0 8 0 (C := RX8) (T := TX8) (N := 12) rfl rfl hn_X8 (by decide) q_0 rfl dX8_owe_37 ?_
    refine lv_bipush (v := 17) X.1 X.2.1 dX8_owe_40 (by decide) ?_
    refine z_ald X hW 1 hr rfl dX8_owe_42 (fun t42 hr => ?_)
    refine z_imul X hr dX8_owe_43 (fun t43 hr => ?_)
    refine z_iadd X hr dX8_owe_44 (fun t44 hr => ?_)
    refine lv_iload_n X.1 X.2.1 dX8_owe_45 rfl (lv_at hl 1 rfl) ?_
    refine z_asv X hW 1 hr (fun v46 => (mdW E a v46)) rfl rfl dX8_owe_46 (fun v46 H locs hr hW => ?_)
    refine lv_aload_n X.1 X.2.1 dX8_owe_47 rfl (lv_at hl 0 rfl) ?_
    refine z_get X hW 0 8 0 (C := RX8) (T := TX8) (N := 12) rfl rfl hn_X8 (by decide) q_0 rfl dX8_owe_48 ?_
    refine lv_sipush (v := 218) X.1 X.2.1 dX8_owe_51 (by decide) ?_
    refine lv_iconst (v := 2) X.1 X.2.1 dX8_owe_54 (by decide) ?_
    refine lv_aload_n X.1 X.2.1 dX8_owe_55 rfl (lv_at hl 0 rfl) ?_
    refine z_get X hW 0 8 0 (C := RX8) (T := TX8) (N := 12) rfl rfl hn_X8 (by decide) q_0 rfl dX8_owe_56 ?_
    refine lv_bipush (v := 17) X.1 X.2.1 dX8_owe_59 (by decide) ?_
    refine z_ald X hW 1 hr rfl dX8_owe_61 (fun t61 hr => ?_)
    refine z_imul X hr dX8_owe_62 (fun t62 hr => ?_)
    refine z_iadd X hr dX8_owe_63 (fun t63 hr => ?_)
    refine lv_iconst (v := 1) X.1 X.2.1 dX8_owe_64 (by decide) ?_
    refine z_iadd X hr dX8_owe_65 (fun t65 hr => ?_)
    refine lv_aload_n X.1 X.2.1 dX8_owe_66 rfl (lv_at hl 0 rfl) ?_
    refine z_get X hW 0 8 0 (C := RX8) (T := TX8) (N := 12) rfl rfl hn_X8 (by decide) q_0 rfl dX8_owe_67 ?_
    refine lv_bipush (v := 7) X.1 X.2.1 dX8_owe_70 (by decide) ?_
    refine z_ald X hW 1 hr rfl dX8_owe_72 (fun t72 hr => ?_)
    refine z_asv X hW 1 hr (fun v73 => (mdW E a v73)) rfl rfl dX8_owe_73 (fun v73 H locs hr hW => ?_)
    refine lv_aload_n X.1 X.2.1 dX8_owe_74 rfl (lv_at hl 0 rfl) ?_
    refine z_get X hW 0 8 0 (C := RX8) (T := TX8) (N := 12) rfl rfl hn_X8 (by decide) q_0 rfl dX8_owe_75 ?_
    refine lv_bipush (v := 17) X.1 X.2.1 dX8_owe_78 (by decide) ?_
    refine lv_dup2_11 X.1 X.2.1 dX8_owe_80 rfl rfl ?_
    refine z_ald X hW 1 hr rfl dX8_owe_81 (fun t81 hr => ?_)
    refine lv_iconst (v := 1) X.1 X.2.1 dX8_owe_82 (by decide) ?_
    refine z_iadd X hr dX8_owe_83 (fun t83 hr => ?_)
    refine z_asv X hW 1 hr (fun v84 => (mdW E a v84)) rfl rfl dX8_owe_84 (fun v84 H locs hr hW => ?_)
    cases hr
    exact z_vret X hW dX8_owe_85
  · refine lv_aload_n X.1 X.2.1 dX8_owe_20 rfl (lv_at hl 0 rfl) ?_
    refine lv_iload_n X.1 X.2.1 dX8_owe_21 rfl (lv_at hl 1 rfl) ?_
    have hp_22 := (z_all (mdW E a v7))
    refine z_callv X hW (fun u => u) hr hp_22 (fun u => (mdW E a u)) (fun v22 => (mdW E a v22)) (fun u => (z_lla (mdW E a u))) (fun u h => z_runV (As := [.int p1]) (rest := []) X hW hp_22 (c_X8_countLapse l E a v7 p1 u h _) hy_X8_countLapse 0 8 (C := RX8) (T := TX8) (N := 12) rfl rfl rfl gX8_owe_X8_countLapse rfl rfl ⟨by decide, by decide⟩ rfl hl rfl rfl (Nat.le_of_ble_eq_true rfl) dX8_owe_22 ⟨Nat.zero_le _, Nat.zero_le _⟩) (fun v22 H locs hr hW => ?_)
    refine lv_goto (tgt := 85) X.1 X.2.1 dX8_owe_25 (by decide) ?_
    cases hr
    exact z_vret X hW dX8_owe_85
abbrev rm_X8_drop : Room := { frames := 0, cells := 0, slots := 0, locals := 0 }
theorem hy_X8_drop : zY yX8_drop wsX8_drop cX8_drop 3 none 1 := ⟨⟨_, rfl⟩, by decide, by decide, by decide +kernel⟩
def lpB_X8_drop_19 (p1 : Int32)  (k_19 : Int32 → zHV → Option (zHV)) (x2 : Int32) (v : zHV) : Option (zHV) :=
zld 288 (v 0) 17 fun t30 =>
zlet (2 * t30) fun t31 =>
zlet (218 + t31) fun t32 =>
(if t32 ≤ x2 then
some v
else
zlet (x2 + 2) fun t47 =>
zld 288 (v 0) t47 fun t48 =>
zsv 288 v 0 x2 t48 fun v49 =>
zlet (x2 + Int32.ofInt 1) fun x2_50 =>
k_19 x2_50 v49)
def lp_X8_drop_19 (p1 : Int32)  : Nat → Int32 → zHV → Option (zHV)
  | 0 => fun _ _ => none
  | n_ + 1 => lpB_X8_drop_19 p1  (lp_X8_drop_19 p1  n_)
def d_X8_drop (v : zHV) (p1 : Int32) : Option (zHV) :=
zld 288 (v 0) 17 fun t7 =>
zlet (t7 - 1) fun t9 =>
zsv 288 v 0 17 t9 fun v10 =>
zlet (2 * p1) fun t16 =>
zlet (218 + t16) fun t17 =>
lp_X8_drop_19 p1  zF t17 v10
set_option maxHeartbeats 4000000 in
set_option maxRecDepth 100000 in
theorem c_X8_drop (l : Launch) (E : zE) (a : Nat → Nat) (v : zHV) (p1 : Int32) (r : zHV) (h : d_X8_drop v p1 = some r) : zMv l E yX8_drop wsX8_drop rm_X8_drop [.ref (a 0), .int p1] (mdW E a v) (mdW E a r) := by
  intro sz
  refine z_entry (Qc := fun A => zQv E A (mdW E a r)) (by decide) rfl (Nat.le_of_ble_eq_true rfl) ?_
  intro p e s m below meth c A X hW ls hl
  have X : zX E wsX8_drop RX8 cX8_drop 3 none yX8_drop p s m ([.ref (a 0), .int p1] : List Value).toArray meth c A := X
  have hl : lv_has ls 3 [(0, .ref (a 0)), (1, .int p1)] := hl
  have hr : d_X8_drop v p1 = some r := h
  clear h
  have q_0 : Cond.fieldLink RX8 7 "ApplauseTalliesModel" "state" "[I" ∈ wsX8_drop := List.mem_of_getElem? (i := 1) rfl
  have hn_X8 : ∀ x ∈ wsX80, x ∈ wsX8_drop := zz_in [2, 3, 4, 5, 6, 7, 8, 9, 10, 11, 12, 13] (by decide +kernel)
  unfold d_X8_drop at hr
  refine lv_aload_n X.1 X.2.1 dX8_drop_0 rfl (lv_at hl 0 rfl) ?_
  refine z_get X hW 0 8 0 (C := RX8) (T := TX8) (N := 12) rfl rfl hn_X8 (by decide) q_0 rfl dX8_drop_1 ?_
  refine lv_bipush (v := 17) X.1 X.2.1 dX8_drop_4 (by decide) ?_
  refine lv_dup2_11 X.1 X.2.1 dX8_drop_6 rfl rfl ?_
  refine z_ald X hW 1 hr rfl dX8_drop_7 (fun t7 hr => ?_)
  refine lv_iconst (v := 1) X.1 X.2.1 dX8_drop_8 (by decide) ?_
  refine z_isub X hr dX8_drop_9 (fun t9 hr => ?_)
  refine z_asv X hW 1 hr (fun v10 => (mdW E a v10)) rfl rfl dX8_drop_10 (fun v10 H locs hr hW => ?_)
  refine lv_sipush (v := 218) X.1 X.2.1 dX8_drop_11 (by decide) ?_
  refine lv_iconst (v := 2) X.1 X.2.1 dX8_drop_14 (by decide) ?_
  refine lv_iload_n X.1 X.2.1 dX8_drop_15 rfl (lv_at hl 1 rfl) ?_
  refine z_imul X hr dX8_drop_16 (fun t16 hr => ?_)
  refine z_iadd X hr dX8_drop_17 (fun t17 hr => ?_)
  refine lv_istore_n (lv' := [(2, .int t17), (0, .ref (a 0)), (1, .int p1)]) X.1 X.2.1 dX8_drop_18 rfl hl (by decide) rfl (fun ls hl => ?_)
  have L_19 : ∀ (n_19 : Nat), ∀ (x2 : Int32) (v : zHV) (H : Heap) (locs : List Loc) (ls : Array Slot), lp_X8_drop_19 p1  n_19 x2 v = some r → zW E A s (mdW E a v) H locs → lv_has ls 3 [(0, .ref (a 0)), (1, .int p1), (2, .int x2)] → W p l e rm_X8_drop s m ([.ref (a 0), .int p1] : List Value).toArray below meth c H locs 0 0 (MQ below (zQv E A (mdW E a r)) ([.ref (a 0), .int p1] : List Value).toArray s 0 0 A) (F0 m 19 ls []) := by
    intro n_19
    induction n_19 with
    | zero => exact fun x2 v H locs ls hr hW hl => absurd (show (none : Option (zHV)) = some r from hr) (fun h => by cases h)
    | succ n_19 ih_19 =>
      intro x2 v H locs ls hr hW hl
      have hr : lpB_X8_drop_19 p1  (lp_X8_drop_19 p1  n_19) x2 v = some r := hr
      unfold lpB_X8_drop_19 at hr
      refine lv_iload_n X.1 X.2.1 dX8_drop_19 rfl (lv_at hl 2 rfl) ?_
      refine lv_sipush (v := 218) X.1 X.2.1 dX8_drop_20 (by decide) ?_
      refine lv_iconst (v := 2) X.1 X.2.1 dX8_drop_23 (by decide) ?_
      refine lv_aload_n X.1 X.2.1 dX8_drop_24 rfl (lv_at hl 0 rfl) ?_
      refine z_get X hW 0 8 0 (C := RX8) (T := TX8) (N := 12) rfl rfl hn_X8 (by decide) q_0 rfl dX8_drop_25 ?_
      refine lv_bipush (v := 17) X.1 X.2.1 dX8_drop_28 (by decide) ?_
      refine z_ald X hW 1 hr rfl dX8_drop_30 (fun t30 hr => ?_)
      refine z_imul X hr dX8_drop_31 (fun t31 hr => ?_)
      refine z_iadd X hr dX8_drop_32 (fun t32 hr => ?_)
      refine z_cmpge X 56 hr dX8_drop_33 (by decide) (fun hr => ?_) (fun hr => ?_)
      · cases hr
        exact z_vret X hW dX8_drop_56
      · refine lv_aload_n X.1 X.2.1 dX8_drop_36 rfl (lv_at hl 0 rfl) ?_
        refine z_get X hW 0 8 0 (C := RX8) (T := TX8) (N := 12) rfl rfl hn_X8 (by decide) q_0 rfl dX8_drop_37 ?_
        refine lv_iload_n X.1 X.2.1 dX8_drop_40 rfl (lv_at hl 2 rfl) ?_
        refine lv_aload_n X.1 X.2.1 dX8_drop_41 rfl (lv_at hl 0 rfl) ?_
        refine z_get X hW 0 8 0 (C := RX8) (T := TX8) (N := 12) rfl rfl hn_X8 (by decide) q_0 rfl dX8_drop_42 ?_
        refine lv_iload_n X.1 X.2.1 dX8_drop_45 rfl (lv_at hl 2 rfl) ?_
        refine lv_iconst (v := 2) X.1 X.2.1 dX8_drop_46 (by decide) ?_
        refine z_iadd X hr dX8_drop_47 (fun t47 hr => ?_)
        refine z_ald X hW 1 hr rfl dX8_drop_48 (fun t48 hr => ?_)
        refine z_asv X hW 1 hr (fun v49 => (mdW E a v49)) rfl rfl dX8_drop_49 (fun v49 H locs hr hW => ?_)
        refine z_iinc X (fun x2_50 => [(2, .int x2_50), (0, .ref (a 0)), (1, .int p1)]) hr hl (k := 2) rfl (by decide) (fun _ => rfl) dX8_drop_50 (fun x2_50 ls hr hl => ?_)
        refine lv_goto (tgt := 19) X.1 X.2.1 dX8_drop_53 (by decide) ?_
        exact ih_19 x2_50 v49 _ _ _ hr hW (lv_sub hl [1, 2, 0] rfl)
  exact L_19 _ t17 v10 _ _ _ hr hW (lv_sub hl [1, 2, 0] rfl)
abbrev rm_X8_owes : Room := { frames := 0, cells := 0, slots := 0, locals := 0 }
theorem hy_X8_owes : zY yX8_owes wsX8_owes cX8_owes 4 (some .int) 1 := ⟨⟨_, rfl⟩, by decide, by decide, by decide +kernel⟩
def lpB_X8_owes_4 (v : zHV) (p1 : Int32)  (k_4 : Int32 → Int32 → Option (Int32)) (x2 : Int32) (x3 : Int32) : Option (Int32) :=
zld 288 (v 0) 17 fun t11 =>
(if t11 ≤ x3 then
some x2
else
zlet (2 * x3) fun t25 =>
zlet (218 + t25) fun t26 =>
zld 288 (v 0) t26 fun t27 =>
(if t27 = p1 then
zlet (x2 + 1) fun t37 =>
zlet (x3 + Int32.ofInt 1) fun x3_39 =>
k_4 t37 x3_39
else
zlet (x2 + 0) fun t37 =>
zlet (x3 + Int32.ofInt 1) fun x3_39 =>
k_4 t37 x3_39))
def lp_X8_owes_4 (v : zHV) (p1 : Int32)  : Nat → Int32 → Int32 → Option (Int32)
  | 0 => fun _ _ => none
  | n_ + 1 => lpB_X8_owes_4 v p1  (lp_X8_owes_4 v p1  n_)
def d_X8_owes (v : zHV) (p1 : Int32) : Option (Int32) :=
lp_X8_owes_4 v p1  zF 0 0
set_option maxHeartbeats 4000000 in
set_option maxRecDepth 100000 in
theorem c_X8_owes (l : Launch) (E : zE) (a : Nat → Nat) (v : zHV) (p1 : Int32) (r : Int32) (h : d_X8_owes v p1 = some r) : zMi l E yX8_owes wsX8_owes rm_X8_owes [.ref (a 0), .int p1] (mdW E a v) r (mdW E a v) := by
  intro sz
  refine z_entry (Qc := fun A => zQi E A r (mdW E a v)) (by decide) rfl (Nat.le_of_ble_eq_true rfl) ?_
  intro p e s m below meth c A X hW ls hl
  have X : zX E wsX8_owes RX8 cX8_owes 4 (some .int) yX8_owes p s m ([.ref (a 0), .int p1] : List Value).toArray meth c A := X
  have hl : lv_has ls 4 [(0, .ref (a 0)), (1, .int p1)] := hl
  have hr : d_X8_owes v p1 = some r := h
  clear h
  have q_0 : Cond.fieldLink RX8 7 "ApplauseTalliesModel" "state" "[I" ∈ wsX8_owes := List.mem_of_getElem? (i := 1) rfl
  have hn_X8 : ∀ x ∈ wsX80, x ∈ wsX8_owes := zz_in [2, 3, 4, 5, 6, 7, 8, 9, 10, 11, 12, 13] (by decide +kernel)
  unfold d_X8_owes at hr
  refine lv_iconst (v := 0) X.1 X.2.1 dX8_owes_0 (by decide) ?_
  refine lv_istore_n (lv' := [(2, .int 0), (0, .ref (a 0)), (1, .int p1)]) X.1 X.2.1 dX8_owes_1 rfl hl (by decide) rfl (fun ls hl => ?_)
  refine lv_iconst (v := 0) X.1 X.2.1 dX8_owes_2 (by decide) ?_
  refine lv_istore_n (lv' := [(3, .int 0), (2, .int 0), (0, .ref (a 0)), (1, .int p1)]) X.1 X.2.1 dX8_owes_3 rfl hl (by decide) rfl (fun ls hl => ?_)
  have L_4 : ∀ (n_4 : Nat), ∀ (x2 : Int32) (x3 : Int32) (H : Heap) (locs : List Loc) (ls : Array Slot), lp_X8_owes_4 v p1  n_4 x2 x3 = some r → zW E A s (mdW E a v) H locs → lv_has ls 4 [(0, .ref (a 0)), (1, .int p1), (2, .int x2), (3, .int x3)] → W p l e rm_X8_owes s m ([.ref (a 0), .int p1] : List Value).toArray below meth c H locs 0 0 (MQ below (zQi E A r (mdW E a v)) ([.ref (a 0), .int p1] : List Value).toArray s 0 0 A) (F0 m 4 ls []) := by
    intro n_4
    induction n_4 with
    | zero => exact fun x2 x3 H locs ls hr hW hl => absurd (show (none : Option (Int32)) = some r from hr) (fun h => by cases h)
    | succ n_4 ih_4 =>
      intro x2 x3 H locs ls hr hW hl
      have hr : lpB_X8_owes_4 v p1  (lp_X8_owes_4 v p1  n_4) x2 x3 = some r := hr
      unfold lpB_X8_owes_4 at hr
      refine lv_iload_n X.1 X.2.1 dX8_owes_4 rfl (lv_at hl 3 rfl) ?_
      refine lv_aload_n X.1 X.2.1 dX8_owes_5 rfl (lv_at hl 0 rfl) ?_
      refine z_get X hW 0 8 0 (C := RX8) (T := TX8) (N := 12) rfl rfl hn_X8 (by decide) q_0 rfl dX8_owes_6 ?_
      refine lv_bipush (v := 17) X.1 X.2.1 dX8_owes_9 (by decide) ?_
      refine z_ald X hW 1 hr rfl dX8_owes_11 (fun t11 hr => ?_)
      refine z_cmpge X 45 hr dX8_owes_12 (by decide) (fun hr => ?_) (fun hr => ?_)
      · refine lv_iload_n X.1 X.2.1 dX8_owes_45 rfl (lv_at hl 2 rfl) ?_
        cases hr
        exact z_iret X hW rfl dX8_owes_46
      · refine lv_iload_n X.1 X.2.1 dX8_owes_15 rfl (lv_at hl 2 rfl) ?_
        refine lv_aload_n X.1 X.2.1 dX8_owes_16 rfl (lv_at hl 0 rfl) ?_
        refine z_get X hW 0 8 0 (C := RX8) (T := TX8) (N := 12) rfl rfl hn_X8 (by decide) q_0 rfl dX8_owes_17 ?_
        refine lv_sipush (v := 218) X.1 X.2.1 dX8_owes_20 (by decide) ?_
        refine lv_iconst (v := 2) X.1 X.2.1 dX8_owes_23 (by decide) ?_
        refine lv_iload_n X.1 X.2.1 dX8_owes_24 rfl (lv_at hl 3 rfl) ?_
        refine z_imul X hr dX8_owes_25 (fun t25 hr => ?_)
        refine z_iadd X hr dX8_owes_26 (fun t26 hr => ?_)
        refine z_ald X hW 1 hr rfl dX8_owes_27 (fun t27 hr => ?_)
        refine lv_iload_n X.1 X.2.1 dX8_owes_28 rfl (lv_at hl 1 rfl) ?_
        refine z_cmpne X 36 hr dX8_owes_29 (by decide) (fun hr => ?_) (fun hr => ?_)
        · refine lv_iconst (v := 0) X.1 X.2.1 dX8_owes_36 (by decide) ?_
          refine z_iadd X hr dX8_owes_37 (fun t37 hr => ?_)
          refine lv_istore_n (lv' := [(2, .int t37), (0, .ref (a 0)), (1, .int p1), (3, .int x3)]) X.1 X.2.1 dX8_owes_38 rfl hl (by decide) rfl (fun ls hl => ?_)
          refine z_iinc X (fun x3_39 => [(3, .int x3_39), (2, .int t37), (0, .ref (a 0)), (1, .int p1)]) hr hl (k := 3) rfl (by decide) (fun _ => rfl) dX8_owes_39 (fun x3_39 ls hr hl => ?_)
          refine lv_goto (tgt := 4) X.1 X.2.1 dX8_owes_42 (by decide) ?_
          exact ih_4 t37 x3_39 _ _ _ hr hW (lv_sub hl [2, 3, 1, 0] rfl)
        · refine lv_iconst (v := 1) X.1 X.2.1 dX8_owes_32 (by decide) ?_
          refine lv_goto (tgt := 37) X.1 X.2.1 dX8_owes_33 (by decide) ?_
          refine z_iadd X hr dX8_owes_37 (fun t37 hr => ?_)
          refine lv_istore_n (lv' := [(2, .int t37), (0, .ref (a 0)), (1, .int p1), (3, .int x3)]) X.1 X.2.1 dX8_owes_38 rfl hl (by decide) rfl (fun ls hl => ?_)
          refine z_iinc X (fun x3_39 => [(3, .int x3_39), (2, .int t37), (0, .ref (a 0)), (1, .int p1)]) hr hl (k := 3) rfl (by decide) (fun _ => rfl) dX8_owes_39 (fun x3_39 ls hr hl => ?_)
          refine lv_goto (tgt := 4) X.1 X.2.1 dX8_owes_42 (by decide) ?_
          exact ih_4 t37 x3_39 _ _ _ hr hW (lv_sub hl [2, 3, 1, 0] rfl)
  exact L_4 _ 0 0 _ _ _ hr hW (lv_sub hl [2, 3, 1, 0] rfl)
abbrev rm_X8_earliest : Room := { frames := 0, cells := 0, slots := 0, locals := 0 }
theorem hy_X8_earliest : zY yX8_earliest wsX8_earliest cX8_earliest 3 (some .int) 1 := ⟨⟨_, rfl⟩, by decide, by decide, by decide +kernel⟩
def lpB_X8_earliest_2 (v : zHV) (p1 : Int32)  (k_2 : Int32 → Option (Int32)) (x2 : Int32) : Option (Int32) :=
zld 288 (v 0) 17 fun t9 =>
(if t9 ≤ x2 then
some (-6)
else
zlet (2 * x2) fun t22 =>
zlet (218 + t22) fun t23 =>
zld 288 (v 0) t23 fun t24 =>
(if t24 = p1 then
some x2
else
zlet (x2 + Int32.ofInt 1) fun x2_31 =>
k_2 x2_31))
def lp_X8_earliest_2 (v : zHV) (p1 : Int32)  : Nat → Int32 → Option (Int32)
  | 0 => fun _ => none
  | n_ + 1 => lpB_X8_earliest_2 v p1  (lp_X8_earliest_2 v p1  n_)
def d_X8_earliest (v : zHV) (p1 : Int32) : Option (Int32) :=
lp_X8_earliest_2 v p1  zF 0
set_option maxHeartbeats 4000000 in
set_option maxRecDepth 100000 in
theorem c_X8_earliest (l : Launch) (E : zE) (a : Nat → Nat) (v : zHV) (p1 : Int32) (r : Int32) (h : d_X8_earliest v p1 = some r) : zMi l E yX8_earliest wsX8_earliest rm_X8_earliest [.ref (a 0), .int p1] (mdW E a v) r (mdW E a v) := by
  intro sz
  refine z_entry (Qc := fun A => zQi E A r (mdW E a v)) (by decide) rfl (Nat.le_of_ble_eq_true rfl) ?_
  intro p e s m below meth c A X hW ls hl
  have X : zX E wsX8_earliest RX8 cX8_earliest 3 (some .int) yX8_earliest p s m ([.ref (a 0), .int p1] : List Value).toArray meth c A := X
  have hl : lv_has ls 3 [(0, .ref (a 0)), (1, .int p1)] := hl
  have hr : d_X8_earliest v p1 = some r := h
  clear h
  have q_0 : Cond.fieldLink RX8 7 "ApplauseTalliesModel" "state" "[I" ∈ wsX8_earliest := List.mem_of_getElem? (i := 1) rfl
  have hn_X8 : ∀ x ∈ wsX80, x ∈ wsX8_earliest := zz_in [2, 3, 4, 5, 6, 7, 8, 9, 10, 11, 12, 13] (by decide +kernel)
  unfold d_X8_earliest at hr
  refine lv_iconst (v := 0) X.1 X.2.1 dX8_earliest_0 (by decide) ?_
  refine lv_istore_n (lv' := [(2, .int 0), (0, .ref (a 0)), (1, .int p1)]) X.1 X.2.1 dX8_earliest_1 rfl hl (by decide) rfl (fun ls hl => ?_)
  have L_2 : ∀ (n_2 : Nat), ∀ (x2 : Int32) (H : Heap) (locs : List Loc) (ls : Array Slot), lp_X8_earliest_2 v p1  n_2 x2 = some r → zW E A s (mdW E a v) H locs → lv_has ls 3 [(0, .ref (a 0)), (1, .int p1), (2, .int x2)] → W p l e rm_X8_earliest s m ([.ref (a 0), .int p1] : List Value).toArray below meth c H locs 0 0 (MQ below (zQi E A r (mdW E a v)) ([.ref (a 0), .int p1] : List Value).toArray s 0 0 A) (F0 m 2 ls []) := by
    intro n_2
    induction n_2 with
    | zero => exact fun x2 H locs ls hr hW hl => absurd (show (none : Option (Int32)) = some r from hr) (fun h => by cases h)
    | succ n_2 ih_2 =>
      intro x2 H locs ls hr hW hl
      have hr : lpB_X8_earliest_2 v p1  (lp_X8_earliest_2 v p1  n_2) x2 = some r := hr
      unfold lpB_X8_earliest_2 at hr
      refine lv_iload_n X.1 X.2.1 dX8_earliest_2 rfl (lv_at hl 2 rfl) ?_
      refine lv_aload_n X.1 X.2.1 dX8_earliest_3 rfl (lv_at hl 0 rfl) ?_
      refine z_get X hW 0 8 0 (C := RX8) (T := TX8) (N := 12) rfl rfl hn_X8 (by decide) q_0 rfl dX8_earliest_4 ?_
      refine lv_bipush (v := 17) X.1 X.2.1 dX8_earliest_7 (by decide) ?_
      refine z_ald X hW 1 hr rfl dX8_earliest_9 (fun t9 hr => ?_)
      refine z_cmpge X 37 hr dX8_earliest_10 (by decide) (fun hr => ?_) (fun hr => ?_)
      · refine lv_bipush (v := (-6)) X.1 X.2.1 dX8_earliest_37 (by decide) ?_
        cases hr
        exact z_iret X hW rfl dX8_earliest_39
      · refine lv_aload_n X.1 X.2.1 dX8_earliest_13 rfl (lv_at hl 0 rfl) ?_
        refine z_get X hW 0 8 0 (C := RX8) (T := TX8) (N := 12) rfl rfl hn_X8 (by decide) q_0 rfl dX8_earliest_14 ?_
        refine lv_sipush (v := 218) X.1 X.2.1 dX8_earliest_17 (by decide) ?_
        refine lv_iconst (v := 2) X.1 X.2.1 dX8_earliest_20 (by decide) ?_
        refine lv_iload_n X.1 X.2.1 dX8_earliest_21 rfl (lv_at hl 2 rfl) ?_
        refine z_imul X hr dX8_earliest_22 (fun t22 hr => ?_)
        refine z_iadd X hr dX8_earliest_23 (fun t23 hr => ?_)
        refine z_ald X hW 1 hr rfl dX8_earliest_24 (fun t24 hr => ?_)
        refine lv_iload_n X.1 X.2.1 dX8_earliest_25 rfl (lv_at hl 1 rfl) ?_
        refine z_cmpne X 31 hr dX8_earliest_26 (by decide) (fun hr => ?_) (fun hr => ?_)
        · refine z_iinc X (fun x2_31 => [(2, .int x2_31), (0, .ref (a 0)), (1, .int p1)]) hr hl (k := 2) rfl (by decide) (fun _ => rfl) dX8_earliest_31 (fun x2_31 ls hr hl => ?_)
          refine lv_goto (tgt := 2) X.1 X.2.1 dX8_earliest_34 (by decide) ?_
          exact ih_2 x2_31 _ _ _ hr hW (lv_sub hl [1, 2, 0] rfl)
        · refine lv_iload_n X.1 X.2.1 dX8_earliest_29 rfl (lv_at hl 2 rfl) ?_
          cases hr
          exact z_iret X hW rfl dX8_earliest_30
  exact L_2 _ 0 _ _ _ hr hW (lv_sub hl [1, 2, 0] rfl)
abbrev rm_X8_end : Room := { frames := 1, cells := 0, slots := 0, locals := 23 }
theorem hy_X8_end : zY yX8_end wsX8_end cX8_end 4 (some .int) 1 := ⟨⟨_, rfl⟩, by decide, by decide, by decide +kernel⟩
def lpB_X8_end_74 (p1 : Int32)  (k_74 : Int32 → Int32 → zHV → Option (Int32 × zHV)) (x2 : Int32) (x3 : Int32) (v : zHV) : Option (Int32 × zHV) :=
(if 30 ≤ x3 then
some (x2, v)
else
zup (d_X8_setSeat v x3 4 0) (fun u => u) fun v84 =>
zlet (x3 + Int32.ofInt 1) fun x3_87 =>
k_74 x2 x3_87 v84)
def lp_X8_end_74 (p1 : Int32)  : Nat → Int32 → Int32 → zHV → Option (Int32 × zHV)
  | 0 => fun _ _ _ => none
  | n_ + 1 => lpB_X8_end_74 p1  (lp_X8_end_74 p1  n_)
def d_X8_end (v : zHV) (p1 : Int32) : Option (Int32 × zHV) :=
zld 288 (v 0) 6 fun t6 =>
zsv 288 v 0 6 0 fun v15 =>
zsv 288 v15 0 13 1 fun v23 =>
zld 288 (v23 0) 7 fun t36 =>
zsv 288 v23 0 14 t36 fun v37 =>
zsv 288 v37 0 15 p1 fun v45 =>
zsv 288 v45 0 16 0 fun v53 =>
zlet (3 * p1) fun t63 =>
zlet (200 + t63) fun t64 =>
zlet (t64 + 2) fun t66 =>
zld 288 (v53 0) t66 fun t68 =>
zlet (t68 + 1) fun t70 =>
zsv 288 v53 0 t66 t70 fun v71 =>
lp_X8_end_74 p1  zF t6 0 v71
set_option maxHeartbeats 4000000 in
set_option maxRecDepth 100000 in
theorem c_X8_end (l : Launch) (E : zE) (a : Nat → Nat) (v : zHV) (p1 : Int32) (r : Int32 × zHV) (h : d_X8_end v p1 = some r) : zMi l E yX8_end wsX8_end rm_X8_end [.ref (a 0), .int p1] (mdW E a v) r.1 (mdW E a r.2) := by
  intro sz
  refine z_entry (Qc := fun A => zQi E A r.1 (mdW E a r.2)) (by decide) rfl (Nat.le_of_ble_eq_true rfl) ?_
  intro p e s m below meth c A X hW ls hl
  have X : zX E wsX8_end RX8 cX8_end 4 (some .int) yX8_end p s m ([.ref (a 0), .int p1] : List Value).toArray meth c A := X
  have hl : lv_has ls 4 [(0, .ref (a 0)), (1, .int p1)] := hl
  have hr : d_X8_end v p1 = some r := h
  clear h
  have q_0 : Cond.fieldLink RX8 7 "ApplauseTalliesModel" "state" "[I" ∈ wsX8_end := List.mem_of_getElem? (i := 1) rfl
  have hn_X8 : ∀ x ∈ wsX80, x ∈ wsX8_end := zz_in [7, 8, 9, 10, 11, 12, 13, 14, 15, 16, 17, 18] (by decide +kernel)
  unfold d_X8_end at hr
  refine lv_aload_n X.1 X.2.1 dX8_end_0 rfl (lv_at hl 0 rfl) ?_
  refine z_get X hW 0 8 0 (C := RX8) (T := TX8) (N := 12) rfl rfl hn_X8 (by decide) q_0 rfl dX8_end_1 ?_
  refine lv_bipush (v := 6) X.1 X.2.1 dX8_end_4 (by decide) ?_
  refine z_ald X hW 1 hr rfl dX8_end_6 (fun t6 hr => ?_)
  refine lv_istore_n (lv' := [(2, .int t6), (0, .ref (a 0)), (1, .int p1)]) X.1 X.2.1 dX8_end_7 rfl hl (by decide) rfl (fun ls hl => ?_)
  refine lv_aload_n X.1 X.2.1 dX8_end_8 rfl (lv_at hl 1 rfl) ?_
  refine z_get X hW 0 8 0 (C := RX8) (T := TX8) (N := 12) rfl rfl hn_X8 (by decide) q_0 rfl dX8_end_9 ?_
  refine lv_bipush (v := 6) X.1 X.2.1 dX8_end_12 (by decide) ?_
  refine lv_iconst (v := 0) X.1 X.2.1 dX8_end_14 (by decide) ?_
  refine z_asv X hW 1 hr (fun v15 => (mdW E a v15)) rfl rfl dX8_end_15 (fun v15 H locs hr hW => ?_)
  refine lv_aload_n X.1 X.2.1 dX8_end_16 rfl (lv_at hl 1 rfl) ?_
  refine z_get X hW 0 8 0 (C := RX8) (T := TX8) (N := 12) rfl rfl hn_X8 (by decide) q_0 rfl dX8_end_17 ?_
  refine lv_bipush (v := 13) X.1 X.2.1 dX8_end_20 (by decide) ?_
  refine lv_iconst (v := 1) X.1 X.2.1 dX8_end_22 (by decide) ?_
  refine z_asv X hW 1 hr (fun v23 => (mdW E a v23)) rfl rfl dX8_end_23 (fun v23 H locs hr hW => ?_)
  refine lv_aload_n X.1 X.2.1 dX8_end_24 rfl (lv_at hl 1 rfl) ?_
  refine z_get X hW 0 8 0 (C := RX8) (T := TX8) (N := 12) rfl rfl hn_X8 (by decide) q_0 rfl dX8_end_25 ?_
  refine lv_bipush (v := 14) X.1 X.2.1 dX8_end_28 (by decide) ?_
  refine lv_aload_n X.1 X.2.1 dX8_end_30 rfl (lv_at hl 1 rfl) ?_
  refine z_get X hW 0 8 0 (C := RX8) (T := TX8) (N := 12) rfl rfl hn_X8 (by decide) q_0 rfl dX8_end_31 ?_
  refine lv_bipush (v := 7) X.1 X.2.1 dX8_end_34 (by decide) ?_
  refine z_ald X hW 1 hr rfl dX8_end_36 (fun t36 hr => ?_)
  refine z_asv X hW 1 hr (fun v37 => (mdW E a v37)) rfl rfl dX8_end_37 (fun v37 H locs hr hW => ?_)
  refine lv_aload_n X.1 X.2.1 dX8_end_38 rfl (lv_at hl 1 rfl) ?_
  refine z_get X hW 0 8 0 (C := RX8) (T := TX8) (N := 12) rfl rfl hn_X8 (by decide) q_0 rfl dX8_end_39 ?_
  refine lv_bipush (v := 15) X.1 X.2.1 dX8_end_42 (by decide) ?_
  refine lv_iload_n X.1 X.2.1 dX8_end_44 rfl (lv_at hl 2 rfl) ?_
  refine z_asv X hW 1 hr (fun v45 => (mdW E a v45)) rfl rfl dX8_end_45 (fun v45 H locs hr hW => ?_)
  refine lv_aload_n X.1 X.2.1 dX8_end_46 rfl (lv_at hl 1 rfl) ?_
  refine z_get X hW 0 8 0 (C := RX8) (T := TX8) (N := 12) rfl rfl hn_X8 (by decide) q_0 rfl dX8_end_47 ?_
  refine lv_bipush (v := 16) X.1 X.2.1 dX8_end_50 (by decide) ?_
  refine lv_iconst (v := 0) X.1 X.2.1 dX8_end_52 (by decide) ?_
  refine z_asv X hW 1 hr (fun v53 => (mdW E a v53)) rfl rfl dX8_end_53 (fun v53 H locs hr hW => ?_)
  refine lv_aload_n X.1 X.2.1 dX8_end_54 rfl (lv_at hl 1 rfl) ?_
  refine z_get X hW 0 8 0 (C := RX8) (T := TX8) (N := 12) rfl rfl hn_X8 (by decide) q_0 rfl dX8_end_55 ?_
  refine lv_sipush (v := 200) X.1 X.2.1 dX8_end_58 (by decide) ?_
  refine lv_iconst (v := 3) X.1 X.2.1 dX8_end_61 (by decide) ?_
  refine lv_iload_n X.1 X.2.1 dX8_end_62 rfl (lv_at hl 2 rfl) ?_
  refine z_imul X hr dX8_end_63 (fun t63 hr => ?_)
  refine z_iadd X hr dX8_end_64 (fun t64 hr => ?_)
  refine lv_iconst (v := 2) X.1 X.2.1 dX8_end_65 (by decide) ?_
  refine z_iadd X hr dX8_end_66 (fun t66 hr => ?_)
  refine lv_dup2_11 X.1 X.2.1 dX8_end_67 rfl rfl ?_
  refine z_ald X hW 1 hr rfl dX8_end_68 (fun t68 hr => ?_)
  refine lv_iconst (v := 1) X.1 X.2.1 dX8_end_69 (by decide) ?_
  refine z_iadd X hr dX8_end_70 (fun t70 hr => ?_)
  refine z_asv X hW 1 hr (fun v71 => (mdW E a v71)) rfl rfl dX8_end_71 (fun v71 H locs hr hW => ?_)
  refine lv_iconst (v := 0) X.1 X.2.1 dX8_end_72 (by decide) ?_
  refine lv_istore_n (lv' := [(3, .int 0), (2, .int t6), (0, .ref (a 0)), (1, .int p1)]) X.1 X.2.1 dX8_end_73 rfl hl (by decide) rfl (fun ls hl => ?_)
  have L_74 : ∀ (n_74 : Nat), ∀ (x2 : Int32) (x3 : Int32) (v : zHV) (H : Heap) (locs : List Loc) (ls : Array Slot), lp_X8_end_74 p1  n_74 x2 x3 v = some r → zW E A s (mdW E a v) H locs → lv_has ls 4 [(0, .ref (a 0)), (1, .int p1), (2, .int x2), (3, .int x3)] → W p l e rm_X8_end s m ([.ref (a 0), .int p1] : List Value).toArray below meth c H locs 0 0 (MQ below (zQi E A r.1 (mdW E a r.2)) ([.ref (a 0), .int p1] : List Value).toArray s 0 0 A) (F0 m 74 ls []) := by
    intro n_74
    induction n_74 with
    | zero => exact fun x2 x3 v H locs ls hr hW hl => absurd (show (none : Option (Int32 × zHV)) = some r from hr) (fun h => by cases h)
    | succ n_74 ih_74 =>
      intro x2 x3 v H locs ls hr hW hl
      have hr : lpB_X8_end_74 p1  (lp_X8_end_74 p1  n_74) x2 x3 v = some r := hr
      unfold lpB_X8_end_74 at hr
      refine lv_iload_n X.1 X.2.1 dX8_end_74 rfl (lv_at hl 3 rfl) ?_
      refine lv_bipush (v := 30) X.1 X.2.1 dX8_end_75 (by decide) ?_
      refine z_cmpge X 93 hr dX8_end_77 (by decide) (fun hr => ?_) (fun hr => ?_)
      · refine lv_iload_n X.1 X.2.1 dX8_end_93 rfl (lv_at hl 2 rfl) ?_
        cases hr
        exact z_iret X hW rfl dX8_end_94
      · refine lv_aload_n X.1 X.2.1 dX8_end_80 rfl (lv_at hl 0 rfl) ?_
        refine lv_iload_n X.1 X.2.1 dX8_end_81 rfl (lv_at hl 3 rfl) ?_
        refine lv_iconst (v := 4) X.1 X.2.1 dX8_end_82 (by decide) ?_
        refine lv_iconst (v := 0) X.1 X.2.1 dX8_end_83 (by decide) ?_
        have hp_84 := (z_all (mdW E a v))
        refine z_callv X hW (fun u => u) hr hp_84 (fun u => (mdW E a u)) (fun v84 => (mdW E a v84)) (fun u => (z_lla (mdW E a u))) (fun u h => z_runV (As := [.int x3, .int 4, .int 0]) (rest := []) X hW hp_84 (c_X8_setSeat l E a v x3 4 0 u h _) hy_X8_setSeat 0 8 (C := RX8) (T := TX8) (N := 12) rfl rfl rfl gX8_end_X8_setSeat rfl rfl ⟨by decide, by decide⟩ rfl hl rfl rfl (Nat.le_of_ble_eq_true rfl) dX8_end_84 ⟨Nat.zero_le _, Nat.zero_le _⟩) (fun v84 H locs hr hW => ?_)
        refine z_iinc X (fun x3_87 => [(3, .int x3_87), (0, .ref (a 0)), (1, .int p1), (2, .int x2)]) hr hl (k := 3) rfl (by decide) (fun _ => rfl) dX8_end_87 (fun x3_87 ls hr hl => ?_)
        refine lv_goto (tgt := 74) X.1 X.2.1 dX8_end_90 (by decide) ?_
        exact ih_74 x2 x3_87 v84 _ _ _ hr hW (lv_sub hl [1, 2, 3, 0] rfl)
  exact L_74 _ t6 0 v71 _ _ _ hr hW (lv_sub hl [2, 3, 1, 0] rfl)
abbrev rm_X8_doEnds : Room := { frames := 2, cells := 0, slots := 0, locals := 46 }
theorem hy_X8_doEnds : zY yX8_doEnds wsX8_doEnds cX8_doEnds 2 (some .int) 1 := ⟨⟨_, rfl⟩, by decide, by decide, by decide +kernel⟩
def d_X8_doEnds (v : zHV) (p1 : Int32) : Option (Int32 × zHV) :=
zcl (d_X8_isPerformer p1) fun t1 =>
(if t1 = 0 then
some ((-1), v)
else
zup2 (d_X8_end v p1) (fun u => u) fun t9 v9 =>
some (t9, v9))
set_option maxHeartbeats 4000000 in
set_option maxRecDepth 100000 in
theorem c_X8_doEnds (l : Launch) (E : zE) (a : Nat → Nat) (v : zHV) (p1 : Int32) (r : Int32 × zHV) (h : d_X8_doEnds v p1 = some r) : zMi l E yX8_doEnds wsX8_doEnds rm_X8_doEnds [.ref (a 0), .int p1] (mdW E a v) r.1 (mdW E a r.2) := by
  intro sz
  refine z_entry (Qc := fun A => zQi E A r.1 (mdW E a r.2)) (by decide) rfl (Nat.le_of_ble_eq_true rfl) ?_
  intro p e s m below meth c A X hW ls hl
  have X : zX E wsX8_doEnds RX8 cX8_doEnds 2 (some .int) yX8_doEnds p s m ([.ref (a 0), .int p1] : List Value).toArray meth c A := X
  have hl : lv_has ls 2 [(0, .ref (a 0)), (1, .int p1)] := hl
  have hr : d_X8_doEnds v p1 = some r := h
  clear h
  unfold d_X8_doEnds at hr
  refine lv_iload_n X.1 X.2.1 dX8_doEnds_0 rfl (lv_at hl 1 rfl) ?_
  have hp_1 := (List.Perm.refl ((mdW E a v)))
  refine z_callp X hW hr hp_1 (fun x h => z_runS (As := [.int p1]) (rest := []) X hW hp_1 (c_X8_isPerformer l E p1 x h _) hy_X8_isPerformer gX8_doEnds_X8_isPerformer rfl rfl ⟨by decide, by decide⟩ rfl hl rfl rfl (Nat.le_of_ble_eq_true rfl) dX8_doEnds_1 ⟨Nat.zero_le _, Nat.zero_le _⟩) (fun t1 H locs hr hW => ?_)
  refine z_ifeq X 15 hr dX8_doEnds_4 (by decide) (fun hr => ?_) (fun hr => ?_)
  · refine lv_iconst (v := (-1)) X.1 X.2.1 dX8_doEnds_15 (by decide) ?_
    cases hr
    exact z_iret X hW rfl dX8_doEnds_16
  · refine lv_aload_n X.1 X.2.1 dX8_doEnds_7 rfl (lv_at hl 0 rfl) ?_
    refine lv_iload_n X.1 X.2.1 dX8_doEnds_8 rfl (lv_at hl 1 rfl) ?_
    have hp_9 := (z_all (mdW E a v))
    refine z_calli X hW (fun u => u) hr hp_9 (fun u => (mdW E a u)) (fun v9 => (mdW E a v9)) (fun u => (z_lla (mdW E a u))) (fun x u h => z_runV (As := [.int p1]) (rest := []) X hW hp_9 (c_X8_end l E a v p1 (x, u) h _) hy_X8_end 0 8 (C := RX8) (T := TX8) (N := 12) rfl rfl rfl gX8_doEnds_X8_end rfl rfl ⟨by decide, by decide⟩ rfl hl rfl rfl (Nat.le_of_ble_eq_true rfl) dX8_doEnds_9 ⟨Nat.zero_le _, Nat.zero_le _⟩) (fun t9 v9 H locs hr hW => ?_)
    refine lv_goto (tgt := 16) X.1 X.2.1 dX8_doEnds_12 (by decide) ?_
    cases hr
    exact z_iret X hW rfl dX8_doEnds_16
abbrev rm_X8_countClap : Room := { frames := 1, cells := 0, slots := 0, locals := 23 }
theorem hy_X8_countClap : zY yX8_countClap wsX8_countClap cX8_countClap 2 none 1 := ⟨⟨_, rfl⟩, by decide, by decide, by decide +kernel⟩
def d_X8_countClap (v : zHV) (p1 : Int32) : Option (zHV) :=
zcl (d_X8_seat v p1 3) fun t3 =>
zjn (fun (v : zHV) =>
zcl (d_X8_seat v p1 4) fun t40 =>
zjn (fun (v : zHV) =>
zcl (d_X8_seat v p1 3) fun t90 =>
zlet (t90 + 1) fun t94 =>
zup (d_X8_setSeat v p1 3 t94) (fun u => u) fun v95 =>
zup (d_X8_setSeat v95 p1 4 1) (fun u => u) fun v102 =>
zcl (d_X8_seat v102 p1 5) fun t111 =>
zlet (t111 + 1) fun t115 =>
zup (d_X8_setSeat v102 p1 5 t115) (fun u => u) fun v116 =>
zld 288 (v116 0) 9 fun t126 =>
zlet (t126 + 1) fun t128 =>
zsv 288 v116 0 9 t128 fun v129 =>
some v129) fun j_84 =>
(if t40 = 0 then
zld 288 (v 0) 7 fun t52 =>
zld 288 (v 0) 14 fun t59 =>
zlet (t52 - t59) fun t60 =>
zld 288 (v 0) 3 fun t66 =>
(if t66 < t60 then
j_84 v
else
zcl (d_X8_seat v p1 2) fun t76 =>
zlet (t76 + 1) fun t80 =>
zup (d_X8_setSeat v p1 2 t80) (fun u => u) fun v81 =>
j_84 v81)
else
j_84 v)) fun j_37 =>
(if t3 = 0 then
zld 288 (v 0) 18 fun t22 =>
zlet (234 + t22) fun t23 =>
zsv 288 v 0 t23 p1 fun v25 =>
zld 288 (v25 0) 18 fun t33 =>
zlet (t33 + 1) fun t35 =>
zsv 288 v25 0 18 t35 fun v36 =>
j_37 v36
else
j_37 v)
set_option maxHeartbeats 4000000 in
set_option maxRecDepth 100000 in
theorem c_X8_countClap (l : Launch) (E : zE) (a : Nat → Nat) (v : zHV) (p1 : Int32) (r : zHV) (h : d_X8_countClap v p1 = some r) : zMv l E yX8_countClap wsX8_countClap rm_X8_countClap [.ref (a 0), .int p1] (mdW E a v) (mdW E a r) := by
  intro sz
  refine z_entry (Qc := fun A => zQv E A (mdW E a r)) (by decide) rfl (Nat.le_of_ble_eq_true rfl) ?_
  intro p e s m below meth c A X hW ls hl
  have X : zX E wsX8_countClap RX8 cX8_countClap 2 none yX8_countClap p s m ([.ref (a 0), .int p1] : List Value).toArray meth c A := X
  have hl : lv_has ls 2 [(0, .ref (a 0)), (1, .int p1)] := hl
  have hr : d_X8_countClap v p1 = some r := h
  clear h
  have q_0 : Cond.fieldLink RX8 7 "ApplauseTalliesModel" "state" "[I" ∈ wsX8_countClap := List.mem_of_getElem? (i := 1) rfl
  have hn_X8 : ∀ x ∈ wsX80, x ∈ wsX8_countClap := zz_in [11, 12, 13, 14, 15, 16, 17, 18, 19, 20, 21, 22] (by decide +kernel)
  unfold d_X8_countClap at hr
  refine lv_aload_n X.1 X.2.1 dX8_countClap_0 rfl (lv_at hl 0 rfl) ?_
  refine lv_iload_n X.1 X.2.1 dX8_countClap_1 rfl (lv_at hl 1 rfl) ?_
  refine lv_iconst (v := 3) X.1 X.2.1 dX8_countClap_2 (by decide) ?_
  have hp_3 := (z_all (mdW E a v))
  refine z_callp X hW hr hp_3 (fun x h => z_runV (As := [.int p1, .int 3]) (rest := []) X hW hp_3 (c_X8_seat l E a v p1 3 x h _) hy_X8_seat 0 8 (C := RX8) (T := TX8) (N := 12) rfl rfl rfl gX8_countClap_X8_seat rfl rfl ⟨by decide, by decide⟩ rfl hl rfl rfl (Nat.le_of_ble_eq_true rfl) dX8_countClap_3 ⟨Nat.zero_le _, Nat.zero_le _⟩) (fun t3 H locs hr hW => ?_)
  obtain ⟨j_37, e_37, hr⟩ := zjn_some hr
  have J_37 : ∀ (v : zHV) (H : Heap) (locs : List Loc) (ls : Array Slot), j_37 v = some r → zW E A s (mdW E a v) H locs → lv_has ls 2 [(0, .ref (a 0)), (1, .int p1)] → W p l e rm_X8_countClap s m ([.ref (a 0), .int p1] : List Value).toArray below meth c H locs 0 0 (MQ below (zQv E A (mdW E a r)) ([.ref (a 0), .int p1] : List Value).toArray s 0 0 A) (F0 m 37 ls []) := by
    intro v H locs ls hr hW hl
    rw [e_37] at hr
    refine lv_aload_n X.1 X.2.1 dX8_countClap_37 rfl (lv_at hl 0 rfl) ?_
    refine lv_iload_n X.1 X.2.1 dX8_countClap_38 rfl (lv_at hl 1 rfl) ?_
    refine lv_iconst (v := 4) X.1 X.2.1 dX8_countClap_39 (by decide) ?_
    have hp_40 := (z_all (mdW E a v))
    refine z_callp X hW hr hp_40 (fun x h => z_runV (As := [.int p1, .int 4]) (rest := []) X hW hp_40 (c_X8_seat l E a v p1 4 x h _) hy_X8_seat 0 8 (C := RX8) (T := TX8) (N := 12) rfl rfl rfl gX8_countClap_X8_seat rfl rfl ⟨by decide, by decide⟩ rfl hl rfl rfl (Nat.le_of_ble_eq_true rfl) dX8_countClap_40 ⟨Nat.zero_le _, Nat.zero_le _⟩) (fun t40 H locs hr hW => ?_)
    obtain ⟨j_84, e_84, hr⟩ := zjn_some hr
    have J_84 : ∀ (v : zHV) (H : Heap) (locs : List Loc) (ls : Array Slot), j_84 v = some r → zW E A s (mdW E a v) H locs → lv_has ls 2 [(0, .ref (a 0)), (1, .int p1)] → W p l e rm_X8_countClap s m ([.ref (a 0), .int p1] : List Value).toArray below meth c H locs 0 0 (MQ below (zQv E A (mdW E a r)) ([.ref (a 0), .int p1] : List Value).toArray s 0 0 A) (F0 m 84 ls []) := by
      intro v H locs ls hr hW hl
      rw [e_84] at hr
      refine lv_aload_n X.1 X.2.1 dX8_countClap_84 rfl (lv_at hl 0 rfl) ?_
      refine lv_iload_n X.1 X.2.1 dX8_countClap_85 rfl (lv_at hl 1 rfl) ?_
      refine lv_iconst (v := 3) X.1 X.2.1 dX8_countClap_86 (by decide) ?_
      refine lv_aload_n X.1 X.2.1 dX8_countClap_87 rfl (lv_at hl 0 rfl) ?_
      refine lv_iload_n X.1 X.2.1 dX8_countClap_88 rfl (lv_at hl 1 rfl) ?_
      refine lv_iconst (v := 3) X.1 X.2.1 dX8_countClap_89 (by decide) ?_
      have hp_90 := (z_all (mdW E a v))
      refine z_callp X hW hr hp_90 (fun x h => z_runV (As := [.int p1, .int 3]) (rest := [.int 3, .int p1, .ref (a 0)]) X hW hp_90 (c_X8_seat l E a v p1 3 x h _) hy_X8_seat 0 8 (C := RX8) (T := TX8) (N := 12) rfl rfl rfl gX8_countClap_X8_seat rfl rfl ⟨by decide, by decide⟩ rfl hl rfl rfl (Nat.le_of_ble_eq_true rfl) dX8_countClap_90 ⟨Nat.zero_le _, Nat.zero_le _⟩) (fun t90 H locs hr hW => ?_)
      refine lv_iconst (v := 1) X.1 X.2.1 dX8_countClap_93 (by decide) ?_
      refine z_iadd X hr dX8_countClap_94 (fun t94 hr => ?_)
      have hp_95 := (z_all (mdW E a v))
      refine z_callv X hW (fun u => u) hr hp_95 (fun u => (mdW E a u)) (fun v95 => (mdW E a v95)) (fun u => (z_lla (mdW E a u))) (fun u h => z_runV (As := [.int p1, .int 3, .int t94]) (rest := []) X hW hp_95 (c_X8_setSeat l E a v p1 3 t94 u h _) hy_X8_setSeat 0 8 (C := RX8) (T := TX8) (N := 12) rfl rfl rfl gX8_countClap_X8_setSeat rfl rfl ⟨by decide, by decide⟩ rfl hl rfl rfl (Nat.le_of_ble_eq_true rfl) dX8_countClap_95 ⟨Nat.zero_le _, Nat.zero_le _⟩) (fun v95 H locs hr hW => ?_)
      refine lv_aload_n X.1 X.2.1 dX8_countClap_98 rfl (lv_at hl 0 rfl) ?_
      refine lv_iload_n X.1 X.2.1 dX8_countClap_99 rfl (lv_at hl 1 rfl) ?_
      refine lv_iconst (v := 4) X.1 X.2.1 dX8_countClap_100 (by decide) ?_
      refine lv_iconst (v := 1) X.1 X.2.1 dX8_countClap_101 (by decide) ?_
      have hp_102 := (z_all (mdW E a v95))
      refine z_callv X hW (fun u => u) hr hp_102 (fun u => (mdW E a u)) (fun v102 => (mdW E a v102)) (fun u => (z_lla (mdW E a u))) (fun u h => z_runV (As := [.int p1, .int 4, .int 1]) (rest := []) X hW hp_102 (c_X8_setSeat l E a v95 p1 4 1 u h _) hy_X8_setSeat 0 8 (C := RX8) (T := TX8) (N := 12) rfl rfl rfl gX8_countClap_X8_setSeat rfl rfl ⟨by decide, by decide⟩ rfl hl rfl rfl (Nat.le_of_ble_eq_true rfl) dX8_countClap_102 ⟨Nat.zero_le _, Nat.zero_le _⟩) (fun v102 H locs hr hW => ?_)
      refine lv_aload_n X.1 X.2.1 dX8_countClap_105 rfl (lv_at hl 0 rfl) ?_
      refine lv_iload_n X.1 X.2.1 dX8_countClap_106 rfl (lv_at hl 1 rfl) ?_
      refine lv_iconst (v := 5) X.1 X.2.1 dX8_countClap_107 (by decide) ?_
      refine lv_aload_n X.1 X.2.1 dX8_countClap_108 rfl (lv_at hl 0 rfl) ?_
      refine lv_iload_n X.1 X.2.1 dX8_countClap_109 rfl (lv_at hl 1 rfl) ?_
      refine lv_iconst (v := 5) X.1 X.2.1 dX8_countClap_110 (by decide) ?_
      have hp_111 := (z_all (mdW E a v102))
      refine z_callp X hW hr hp_111 (fun x h => z_runV (As := [.int p1, .int 5]) (rest := [.int 5, .int p1, .ref (a 0)]) X hW hp_111 (c_X8_seat l E a v102 p1 5 x h _) hy_X8_seat 0 8 (C := RX8) (T := TX8) (N := 12) rfl rfl rfl gX8_countClap_X8_seat rfl rfl ⟨by decide, by decide⟩ rfl hl rfl rfl (Nat.le_of_ble_eq_true rfl) dX8_countClap_111 ⟨Nat.zero_le _, Nat.zero_le _⟩) (fun t111 H locs hr hW => ?_)
      refine lv_iconst (v := 1) X.1 X.2.1 dX8_countClap_114 (by decide) ?_
      refine z_iadd X hr dX8_countClap_115 (fun t115 hr => ?_)
      have hp_116 := (z_all (mdW E a v102))
      refine z_callv X hW (fun u => u) hr hp_116 (fun u => (mdW E a u)) (fun v116 => (mdW E a v116)) (fun u => (z_lla (mdW E a u))) (fun u h => z_runV (As := [.int p1, .int 5, .int t115]) (rest := []) X hW hp_116 (c_X8_setSeat l E a v102 p1 5 t115 u h _) hy_X8_setSeat 0 8 (C := RX8) (T := TX8) (N := 12) rfl rfl rfl gX8_countClap_X8_setSeat rfl rfl ⟨by decide, by decide⟩ rfl hl rfl rfl (Nat.le_of_ble_eq_true rfl) dX8_countClap_116 ⟨Nat.zero_le _, Nat.zero_le _⟩) (fun v116 H locs hr hW => ?_)
      refine lv_aload_n X.1 X.2.1 dX8_countClap_119 rfl (lv_at hl 0 rfl) ?_
      refine z_get X hW 0 8 0 (C := RX8) (T := TX8) (N := 12) rfl rfl hn_X8 (by decide) q_0 rfl dX8_countClap_120 ?_
      refine lv_bipush (v := 9) X.1 X.2.1 dX8_countClap_123 (by decide) ?_
      refine lv_dup2_11 X.1 X.2.1 dX8_countClap_125 rfl rfl ?_
      refine z_ald X hW 1 hr rfl dX8_countClap_126 (fun t126 hr => ?_)
      refine lv_iconst (v := 1) X.1 X.2.1 dX8_countClap_127 (by decide) ?_
      refine z_iadd X hr dX8_countClap_128 (fun t128 hr => ?_)
      refine z_asv X hW 1 hr (fun v129 => (mdW E a v129)) rfl rfl dX8_countClap_129 (fun v129 H locs hr hW => ?_)
      cases hr
      exact z_vret X hW dX8_countClap_130
    refine z_ifne X 84 hr dX8_countClap_43 (by decide) (fun hr => ?_) (fun hr => ?_)
    · exact J_84 v _ _ _ hr hW (lv_sub hl [0, 1] rfl)
    · refine lv_aload_n X.1 X.2.1 dX8_countClap_46 rfl (lv_at hl 0 rfl) ?_
      refine z_get X hW 0 8 0 (C := RX8) (T := TX8) (N := 12) rfl rfl hn_X8 (by decide) q_0 rfl dX8_countClap_47 ?_
      refine lv_bipush (v := 7) X.1 X.2.1 dX8_countClap_50 (by decide) ?_
      refine z_ald X hW 1 hr rfl dX8_countClap_52 (fun t52 hr => ?_)
      refine lv_aload_n X.1 X.2.1 dX8_countClap_53 rfl (lv_at hl 0 rfl) ?_
      refine z_get X hW 0 8 0 (C := RX8) (T := TX8) (N := 12) rfl rfl hn_X8 (by decide) q_0 rfl dX8_countClap_54 ?_
      refine lv_bipush (v := 14) X.1 X.2.1 dX8_countClap_57 (by decide) ?_
      refine z_ald X hW 1 hr rfl dX8_countClap_59 (fun t59 hr => ?_)
      refine z_isub X hr dX8_countClap_60 (fun t60 hr => ?_)
      refine lv_aload_n X.1 X.2.1 dX8_countClap_61 rfl (lv_at hl 0 rfl) ?_
      refine z_get X hW 0 8 0 (C := RX8) (T := TX8) (N := 12) rfl rfl hn_X8 (by decide) q_0 rfl dX8_countClap_62 ?_
      refine lv_iconst (v := 3) X.1 X.2.1 dX8_countClap_65 (by decide) ?_
      refine z_ald X hW 1 hr rfl dX8_countClap_66 (fun t66 hr => ?_)
      refine z_cmpgt X 84 hr dX8_countClap_67 (by decide) (fun hr => ?_) (fun hr => ?_)
      · exact J_84 v _ _ _ hr hW (lv_sub hl [0, 1] rfl)
      · refine lv_aload_n X.1 X.2.1 dX8_countClap_70 rfl (lv_at hl 0 rfl) ?_
        refine lv_iload_n X.1 X.2.1 dX8_countClap_71 rfl (lv_at hl 1 rfl) ?_
        refine lv_iconst (v := 2) X.1 X.2.1 dX8_countClap_72 (by decide) ?_
        refine lv_aload_n X.1 X.2.1 dX8_countClap_73 rfl (lv_at hl 0 rfl) ?_
        refine lv_iload_n X.1 X.2.1 dX8_countClap_74 rfl (lv_at hl 1 rfl) ?_
        refine lv_iconst (v := 2) X.1 X.2.1 dX8_countClap_75 (by decide) ?_
        have hp_76 := (z_all (mdW E a v))
        refine z_callp X hW hr hp_76 (fun x h => z_runV (As := [.int p1, .int 2]) (rest := [.int 2, .int p1, .ref (a 0)]) X hW hp_76 (c_X8_seat l E a v p1 2 x h _) hy_X8_seat 0 8 (C := RX8) (T := TX8) (N := 12) rfl rfl rfl gX8_countClap_X8_seat rfl rfl ⟨by decide, by decide⟩ rfl hl rfl rfl (Nat.le_of_ble_eq_true rfl) dX8_countClap_76 ⟨Nat.zero_le _, Nat.zero_le _⟩) (fun t76 H locs hr hW => ?_)
        refine lv_iconst (v := 1) X.1 X.2.1 dX8_countClap_79 (by decide) ?_
        refine z_iadd X hr dX8_countClap_80 (fun t80 hr => ?_)
        have hp_81 := (z_all (mdW E a v))
        refine z_callv X hW (fun u => u) hr hp_81 (fun u => (mdW E a u)) (fun v81 => (mdW E a v81)) (fun u => (z_lla (mdW E a u))) (fun u h => z_runV (As := [.int p1, .int 2, .int t80]) (rest := []) X hW hp_81 (c_X8_setSeat l E a v p1 2 t80 u h _) hy_X8_setSeat 0 8 (C := RX8) (T := TX8) (N := 12) rfl rfl rfl gX8_countClap_X8_setSeat rfl rfl ⟨by decide, by decide⟩ rfl hl rfl rfl (Nat.le_of_ble_eq_true rfl) dX8_countClap_81 ⟨Nat.zero_le _, Nat.zero_le _⟩) (fun v81 H locs hr hW => ?_)
        exact J_84 v81 _ _ _ hr hW (lv_sub hl [0, 1] rfl)
  refine z_ifne X 37 hr dX8_countClap_6 (by decide) (fun hr => ?_) (fun hr => ?_)
  · exact J_37 v _ _ _ hr hW (lv_sub hl [0, 1] rfl)
  · refine lv_aload_n X.1 X.2.1 dX8_countClap_9 rfl (lv_at hl 0 rfl) ?_
    refine z_get X hW 0 8 0 (C := RX8) (T := TX8) (N := 12) rfl rfl hn_X8 (by decide) q_0 rfl dX8_countClap_10 ?_
    refine lv_sipush (v := 234) X.1 X.2.1 dX8_countClap_13 (by decide) ?_
    refine lv_aload_n X.1 X.2.1 dX8_countClap_16 rfl (lv_at hl 0 rfl) ?_
    refine z_get X hW 0 8 0 (C := RX8) (T := TX8) (N := 12) rfl rfl hn_X8 (by decide) q_0 rfl dX8_countClap_17 ?_
    refine lv_bipush (v := 18) X.1 X.2.1 dX8_countClap_20 (by decide) ?_
    refine z_ald X hW 1 hr rfl dX8_countClap_22 (fun t22 hr => ?_)
    refine z_iadd X hr dX8_countClap_23 (fun t23 hr => ?_)
    refine lv_iload_n X.1 X.2.1 dX8_countClap_24 rfl (lv_at hl 1 rfl) ?_
    refine z_asv X hW 1 hr (fun v25 => (mdW E a v25)) rfl rfl dX8_countClap_25 (fun v25 H locs hr hW => ?_)
    refine lv_aload_n X.1 X.2.1 dX8_countClap_26 rfl (lv_at hl 0 rfl) ?_
    refine z_get X hW 0 8 0 (C := RX8) (T := TX8) (N := 12) rfl rfl hn_X8 (by decide) q_0 rfl dX8_countClap_27 ?_
    refine lv_bipush (v := 18) X.1 X.2.1 dX8_countClap_30 (by decide) ?_
    refine lv_dup2_11 X.1 X.2.1 dX8_countClap_32 rfl rfl ?_
    refine z_ald X hW 1 hr rfl dX8_countClap_33 (fun t33 hr => ?_)
    refine lv_iconst (v := 1) X.1 X.2.1 dX8_countClap_34 (by decide) ?_
    refine z_iadd X hr dX8_countClap_35 (fun t35 hr => ?_)
    refine z_asv X hW 1 hr (fun v36 => (mdW E a v36)) rfl rfl dX8_countClap_36 (fun v36 H locs hr hW => ?_)
    exact J_37 v36 _ _ _ hr hW (lv_sub hl [0, 1] rfl)
abbrev rm_X8_doClap : Room := { frames := 2, cells := 0, slots := 0, locals := 44 }
theorem hy_X8_doClap : zY yX8_doClap wsX8_doClap cX8_doClap 3 (some .int) 1 := ⟨⟨_, rfl⟩, by decide, by decide, by decide +kernel⟩
def d_X8_doClap (v : zHV) (p1 : Int32) : Option (Int32 × zHV) :=
zcl (d_X8_isSeat p1) fun t1 =>
(if t1 = 0 then
some ((-1), v)
else
zld 288 (v 0) 13 fun t15 =>
(if t15 = 0 then
some ((-5), v)
else
zld 288 (v 0) 6 fun t28 =>
zcl (d_X8_seat v p1 0) fun t34 =>
zlet (10 * t34) fun t37 =>
zlet (t28 + t37) fun t38 =>
zjn (fun (x2 : Int32) (s0 : Int32) (s1 : Int32) (v : zHV) =>
zsv 288 v 0 s1 s0 fun v60 =>
zup (d_X8_countClap v60 p1) (fun u => u) fun v63 =>
zld 288 (v63 0) 6 fun t72 =>
zld 288 (v63 0) 1 fun t78 =>
zjn (fun (x2 : Int32) (v : zHV) =>
zld 288 (v 0) 6 fun t109 =>
some (t109, v)) fun j_103 =>
(if t72 < t78 then
j_103 x2 v63
else
zld 288 (v63 0) 16 fun t88 =>
(if t88 = 0 then
zld 288 (v63 0) 15 fun t99 =>
zup (d_X8_owe v63 t99) (fun u => u) fun v100 =>
j_103 x2 v100
else
j_103 x2 v63))) fun j_60 =>
(if t38 ≤ 9999 then
j_60 t38 t38 6 v
else
j_60 t38 9999 6 v)))
set_option maxHeartbeats 4000000 in
set_option maxRecDepth 100000 in
theorem c_X8_doClap (l : Launch) (E : zE) (a : Nat → Nat) (v : zHV) (p1 : Int32) (r : Int32 × zHV) (h : d_X8_doClap v p1 = some r) : zMi l E yX8_doClap wsX8_doClap rm_X8_doClap [.ref (a 0), .int p1] (mdW E a v) r.1 (mdW E a r.2) := by
  intro sz
  refine z_entry (Qc := fun A => zQi E A r.1 (mdW E a r.2)) (by decide) rfl (Nat.le_of_ble_eq_true rfl) ?_
  intro p e s m below meth c A X hW ls hl
  have X : zX E wsX8_doClap RX8 cX8_doClap 3 (some .int) yX8_doClap p s m ([.ref (a 0), .int p1] : List Value).toArray meth c A := X
  have hl : lv_has ls 3 [(0, .ref (a 0)), (1, .int p1)] := hl
  have hr : d_X8_doClap v p1 = some r := h
  clear h
  have q_0 : Cond.fieldLink RX8 7 "ApplauseTalliesModel" "state" "[I" ∈ wsX8_doClap := List.mem_of_getElem? (i := 1) rfl
  have hn_X8 : ∀ x ∈ wsX80, x ∈ wsX8_doClap := zz_in [29, 30, 31, 32, 33, 34, 35, 36, 37, 38, 39, 40] (by decide +kernel)
  unfold d_X8_doClap at hr
  refine lv_iload_n X.1 X.2.1 dX8_doClap_0 rfl (lv_at hl 1 rfl) ?_
  have hp_1 := (List.Perm.refl ((mdW E a v)))
  refine z_callp X hW hr hp_1 (fun x h => z_runS (As := [.int p1]) (rest := []) X hW hp_1 (c_X8_isSeat l E p1 x h _) hy_X8_isSeat gX8_doClap_X8_isSeat rfl rfl ⟨by decide, by decide⟩ rfl hl rfl rfl (Nat.le_of_ble_eq_true rfl) dX8_doClap_1 ⟨Nat.zero_le _, Nat.zero_le _⟩) (fun t1 H locs hr hW => ?_)
  refine z_ifne X 9 hr dX8_doClap_4 (by decide) (fun hr => ?_) (fun hr => ?_)
  · refine lv_aload_n X.1 X.2.1 dX8_doClap_9 rfl (lv_at hl 0 rfl) ?_
    refine z_get X hW 0 8 0 (C := RX8) (T := TX8) (N := 12) rfl rfl hn_X8 (by decide) q_0 rfl dX8_doClap_10 ?_
    refine lv_bipush (v := 13) X.1 X.2.1 dX8_doClap_13 (by decide) ?_
    refine z_ald X hW 1 hr rfl dX8_doClap_15 (fun t15 hr => ?_)
    refine z_ifne X 22 hr dX8_doClap_16 (by decide) (fun hr => ?_) (fun hr => ?_)
    · refine lv_aload_n X.1 X.2.1 dX8_doClap_22 rfl (lv_at hl 0 rfl) ?_
      refine z_get X hW 0 8 0 (C := RX8) (T := TX8) (N := 12) rfl rfl hn_X8 (by decide) q_0 rfl dX8_doClap_23 ?_
      refine lv_bipush (v := 6) X.1 X.2.1 dX8_doClap_26 (by decide) ?_
      refine z_ald X hW 1 hr rfl dX8_doClap_28 (fun t28 hr => ?_)
      refine lv_bipush (v := 10) X.1 X.2.1 dX8_doClap_29 (by decide) ?_
      refine lv_aload_n X.1 X.2.1 dX8_doClap_31 rfl (lv_at hl 0 rfl) ?_
      refine lv_iload_n X.1 X.2.1 dX8_doClap_32 rfl (lv_at hl 1 rfl) ?_
      refine lv_iconst (v := 0) X.1 X.2.1 dX8_doClap_33 (by decide) ?_
      have hp_34 := (z_all (mdW E a v))
      refine z_callp X hW hr hp_34 (fun x h => z_runV (As := [.int p1, .int 0]) (rest := [.int 10, .int t28]) X hW hp_34 (c_X8_seat l E a v p1 0 x h _) hy_X8_seat 0 8 (C := RX8) (T := TX8) (N := 12) rfl rfl rfl gX8_doClap_X8_seat rfl rfl ⟨by decide, by decide⟩ rfl hl rfl rfl (Nat.le_of_ble_eq_true rfl) dX8_doClap_34 ⟨Nat.zero_le _, Nat.zero_le _⟩) (fun t34 H locs hr hW => ?_)
      refine z_imul X hr dX8_doClap_37 (fun t37 hr => ?_)
      refine z_iadd X hr dX8_doClap_38 (fun t38 hr => ?_)
      refine lv_istore_n (lv' := [(2, .int t38), (0, .ref (a 0)), (1, .int p1)]) X.1 X.2.1 dX8_doClap_39 rfl hl (by decide) rfl (fun ls hl => ?_)
      refine lv_aload_n X.1 X.2.1 dX8_doClap_40 rfl (lv_at hl 1 rfl) ?_
      refine z_get X hW 0 8 0 (C := RX8) (T := TX8) (N := 12) rfl rfl hn_X8 (by decide) q_0 rfl dX8_doClap_41 ?_
      refine lv_bipush (v := 6) X.1 X.2.1 dX8_doClap_44 (by decide) ?_
      refine lv_iload_n X.1 X.2.1 dX8_doClap_46 rfl (lv_at hl 0 rfl) ?_
      refine lv_sipush (v := 9999) X.1 X.2.1 dX8_doClap_47 (by decide) ?_
      obtain ⟨j_60, e_60, hr⟩ := zjn_some hr
      have J_60 : ∀ (x2 : Int32) (s0 : Int32) (s1 : Int32) (v : zHV) (H : Heap) (locs : List Loc) (ls : Array Slot), j_60 x2 s0 s1 v = some r → zW E A s (mdW E a v) H locs → lv_has ls 3 [(0, .ref (a 0)), (1, .int p1), (2, .int x2)] → W p l e rm_X8_doClap s m ([.ref (a 0), .int p1] : List Value).toArray below meth c H locs 0 0 (MQ below (zQi E A r.1 (mdW E a r.2)) ([.ref (a 0), .int p1] : List Value).toArray s 0 0 A) (F0 m 60 ls [.int s0, .int s1, .ref (a 1)]) := by
        intro x2 s0 s1 v H locs ls hr hW hl
        rw [e_60] at hr
        refine z_asv X hW 1 hr (fun v60 => (mdW E a v60)) rfl rfl dX8_doClap_60 (fun v60 H locs hr hW => ?_)
        refine lv_aload_n X.1 X.2.1 dX8_doClap_61 rfl (lv_at hl 0 rfl) ?_
        refine lv_iload_n X.1 X.2.1 dX8_doClap_62 rfl (lv_at hl 1 rfl) ?_
        have hp_63 := (z_all (mdW E a v60))
        refine z_callv X hW (fun u => u) hr hp_63 (fun u => (mdW E a u)) (fun v63 => (mdW E a v63)) (fun u => (z_lla (mdW E a u))) (fun u h => z_runV (As := [.int p1]) (rest := []) X hW hp_63 (c_X8_countClap l E a v60 p1 u h _) hy_X8_countClap 0 8 (C := RX8) (T := TX8) (N := 12) rfl rfl rfl gX8_doClap_X8_countClap rfl rfl ⟨by decide, by decide⟩ rfl hl rfl rfl (Nat.le_of_ble_eq_true rfl) dX8_doClap_63 ⟨Nat.zero_le _, Nat.zero_le _⟩) (fun v63 H locs hr hW => ?_)
        refine lv_aload_n X.1 X.2.1 dX8_doClap_66 rfl (lv_at hl 0 rfl) ?_
        refine z_get X hW 0 8 0 (C := RX8) (T := TX8) (N := 12) rfl rfl hn_X8 (by decide) q_0 rfl dX8_doClap_67 ?_
        refine lv_bipush (v := 6) X.1 X.2.1 dX8_doClap_70 (by decide) ?_
        refine z_ald X hW 1 hr rfl dX8_doClap_72 (fun t72 hr => ?_)
        refine lv_aload_n X.1 X.2.1 dX8_doClap_73 rfl (lv_at hl 0 rfl) ?_
        refine z_get X hW 0 8 0 (C := RX8) (T := TX8) (N := 12) rfl rfl hn_X8 (by decide) q_0 rfl dX8_doClap_74 ?_
        refine lv_iconst (v := 1) X.1 X.2.1 dX8_doClap_77 (by decide) ?_
        refine z_ald X hW 1 hr rfl dX8_doClap_78 (fun t78 hr => ?_)
        obtain ⟨j_103, e_103, hr⟩ := zjn_some hr
        have J_103 : ∀ (x2 : Int32) (v : zHV) (H : Heap) (locs : List Loc) (ls : Array Slot), j_103 x2 v = some r → zW E A s (mdW E a v) H locs → lv_has ls 3 [(0, .ref (a 0)), (1, .int p1), (2, .int x2)] → W p l e rm_X8_doClap s m ([.ref (a 0), .int p1] : List Value).toArray below meth c H locs 0 0 (MQ below (zQi E A r.1 (mdW E a r.2)) ([.ref (a 0), .int p1] : List Value).toArray s 0 0 A) (F0 m 103 ls []) := by
          intro x2 v H locs ls hr hW hl
          rw [e_103] at hr
          refine lv_aload_n X.1 X.2.1 dX8_doClap_103 rfl (lv_at hl 0 rfl) ?_
          refine z_get X hW 0 8 0 (C := RX8) (T := TX8) (N := 12) rfl rfl hn_X8 (by decide) q_0 rfl dX8_doClap_104 ?_
          refine lv_bipush (v := 6) X.1 X.2.1 dX8_doClap_107 (by decide) ?_
          refine z_ald X hW 1 hr rfl dX8_doClap_109 (fun t109 hr => ?_)
          cases hr
          exact z_iret X hW rfl dX8_doClap_110
        refine z_cmplt X 103 hr dX8_doClap_79 (by decide) (fun hr => ?_) (fun hr => ?_)
        · exact J_103 x2 v63 _ _ _ hr hW (lv_sub hl [0, 1, 2] rfl)
        · refine lv_aload_n X.1 X.2.1 dX8_doClap_82 rfl (lv_at hl 0 rfl) ?_
          refine z_get X hW 0 8 0 (C := RX8) (T := TX8) (N := 12) rfl rfl hn_X8 (by decide) q_0 rfl dX8_doClap_83 ?_
          refine lv_bipush (v := 16) X.1 X.2.1 dX8_doClap_86 (by decide) ?_
          refine z_ald X hW 1 hr rfl dX8_doClap_88 (fun t88 hr => ?_)
          refine z_ifne X 103 hr dX8_doClap_89 (by decide) (fun hr => ?_) (fun hr => ?_)
          · exact J_103 x2 v63 _ _ _ hr hW (lv_sub hl [0, 1, 2] rfl)
          · refine lv_aload_n X.1 X.2.1 dX8_doClap_92 rfl (lv_at hl 0 rfl) ?_
            refine lv_aload_n X.1 X.2.1 dX8_doClap_93 rfl (lv_at hl 0 rfl) ?_
            refine z_get X hW 0 8 0 (C := RX8) (T := TX8) (N := 12) rfl rfl hn_X8 (by decide) q_0 rfl dX8_doClap_94 ?_
            refine lv_bipush (v := 15) X.1 X.2.1 dX8_doClap_97 (by decide) ?_
            refine z_ald X hW 1 hr rfl dX8_doClap_99 (fun t99 hr => ?_)
            have hp_100 := (z_all (mdW E a v63))
            refine z_callv X hW (fun u => u) hr hp_100 (fun u => (mdW E a u)) (fun v100 => (mdW E a v100)) (fun u => (z_lla (mdW E a u))) (fun u h => z_runV (As := [.int t99]) (rest := []) X hW hp_100 (c_X8_owe l E a v63 t99 u h _) hy_X8_owe 0 8 (C := RX8) (T := TX8) (N := 12) rfl rfl rfl gX8_doClap_X8_owe rfl rfl ⟨by decide, by decide⟩ rfl hl rfl rfl (Nat.le_of_ble_eq_true rfl) dX8_doClap_100 ⟨Nat.zero_le _, Nat.zero_le _⟩) (fun v100 H locs hr hW => ?_)
            exact J_103 x2 v100 _ _ _ hr hW (lv_sub hl [0, 1, 2] rfl)
      refine z_cmple X 59 hr dX8_doClap_50 (by decide) (fun hr => ?_) (fun hr => ?_)
      · refine lv_iload_n X.1 X.2.1 dX8_doClap_59 rfl (lv_at hl 0 rfl) ?_
        exact J_60 t38 t38 6 v _ _ _ hr hW (lv_sub hl [1, 2, 0] rfl)
      · refine lv_sipush (v := 9999) X.1 X.2.1 dX8_doClap_53 (by decide) ?_
        refine lv_goto (tgt := 60) X.1 X.2.1 dX8_doClap_56 (by decide) ?_
        exact J_60 t38 9999 6 v _ _ _ hr hW (lv_sub hl [1, 2, 0] rfl)
    · refine lv_bipush (v := (-5)) X.1 X.2.1 dX8_doClap_19 (by decide) ?_
      cases hr
      exact z_iret X hW rfl dX8_doClap_21
  · refine lv_iconst (v := (-1)) X.1 X.2.1 dX8_doClap_7 (by decide) ?_
    cases hr
    exact z_iret X hW rfl dX8_doClap_8
abbrev rm_X8_decayed : Room := { frames := 0, cells := 0, slots := 0, locals := 0 }
theorem hy_X8_decayed : zY yX8_decayed wsX8_decayed cX8_decayed 3 (some .int) 1 := ⟨⟨_, rfl⟩, by decide, by decide, by decide +kernel⟩
def d_X8_decayed (v : zHV) (p1 : Int32) : Option (Int32) :=
zld 288 (v 0) 0 fun t6 =>
zlet (p1 * t6) fun t7 =>
zdv t7 100 fun t10 =>
(if p1 = 0 then
some 0
else
(if 1 ≤ t10 then
zlet (p1 - t10) fun t31 =>
some t31
else
zlet (p1 - 1) fun t31 =>
some t31))
set_option maxHeartbeats 4000000 in
set_option maxRecDepth 100000 in
theorem c_X8_decayed (l : Launch) (E : zE) (a : Nat → Nat) (v : zHV) (p1 : Int32) (r : Int32) (h : d_X8_decayed v p1 = some r) : zMi l E yX8_decayed wsX8_decayed rm_X8_decayed [.ref (a 0), .int p1] (mdW E a v) r (mdW E a v) := by
  intro sz
  refine z_entry (Qc := fun A => zQi E A r (mdW E a v)) (by decide) rfl (Nat.le_of_ble_eq_true rfl) ?_
  intro p e s m below meth c A X hW ls hl
  have X : zX E wsX8_decayed RX8 cX8_decayed 3 (some .int) yX8_decayed p s m ([.ref (a 0), .int p1] : List Value).toArray meth c A := X
  have hl : lv_has ls 3 [(0, .ref (a 0)), (1, .int p1)] := hl
  have hr : d_X8_decayed v p1 = some r := h
  clear h
  have q_0 : Cond.fieldLink RX8 7 "ApplauseTalliesModel" "state" "[I" ∈ wsX8_decayed := List.mem_of_getElem? (i := 1) rfl
  have hn_X8 : ∀ x ∈ wsX80, x ∈ wsX8_decayed := zz_in [2, 3, 4, 5, 6, 7, 8, 9, 10, 11, 12, 13] (by decide +kernel)
  unfold d_X8_decayed at hr
  refine lv_iload_n X.1 X.2.1 dX8_decayed_0 rfl (lv_at hl 1 rfl) ?_
  refine lv_aload_n X.1 X.2.1 dX8_decayed_1 rfl (lv_at hl 0 rfl) ?_
  refine z_get X hW 0 8 0 (C := RX8) (T := TX8) (N := 12) rfl rfl hn_X8 (by decide) q_0 rfl dX8_decayed_2 ?_
  refine lv_iconst (v := 0) X.1 X.2.1 dX8_decayed_5 (by decide) ?_
  refine z_ald X hW 1 hr rfl dX8_decayed_6 (fun t6 hr => ?_)
  refine z_imul X hr dX8_decayed_7 (fun t7 hr => ?_)
  refine lv_bipush (v := 100) X.1 X.2.1 dX8_decayed_8 (by decide) ?_
  refine z_idiv X hr dX8_decayed_10 (fun t10 hr => ?_)
  refine lv_istore_n (lv' := [(2, .int t10), (0, .ref (a 0)), (1, .int p1)]) X.1 X.2.1 dX8_decayed_11 rfl hl (by decide) rfl (fun ls hl => ?_)
  refine lv_iload_n X.1 X.2.1 dX8_decayed_12 rfl (lv_at hl 2 rfl) ?_
  refine z_ifne X 20 hr dX8_decayed_13 (by decide) (fun hr => ?_) (fun hr => ?_)
  · refine lv_iload_n X.1 X.2.1 dX8_decayed_20 rfl (lv_at hl 2 rfl) ?_
    refine lv_iload_n X.1 X.2.1 dX8_decayed_21 rfl (lv_at hl 0 rfl) ?_
    refine lv_iconst (v := 1) X.1 X.2.1 dX8_decayed_22 (by decide) ?_
    refine z_cmpge X 30 hr dX8_decayed_23 (by decide) (fun hr => ?_) (fun hr => ?_)
    · refine lv_iload_n X.1 X.2.1 dX8_decayed_30 rfl (lv_at hl 0 rfl) ?_
      refine z_isub X hr dX8_decayed_31 (fun t31 hr => ?_)
      cases hr
      exact z_iret X hW rfl dX8_decayed_32
    · refine lv_iconst (v := 1) X.1 X.2.1 dX8_decayed_26 (by decide) ?_
      refine lv_goto (tgt := 31) X.1 X.2.1 dX8_decayed_27 (by decide) ?_
      refine z_isub X hr dX8_decayed_31 (fun t31 hr => ?_)
      cases hr
      exact z_iret X hW rfl dX8_decayed_32
  · refine lv_iconst (v := 0) X.1 X.2.1 dX8_decayed_16 (by decide) ?_
    refine lv_goto (tgt := 32) X.1 X.2.1 dX8_decayed_17 (by decide) ?_
    cases hr
    exact z_iret X hW rfl dX8_decayed_32
abbrev rm_X8_passSecond : Room := { frames := 1, cells := 0, slots := 0, locals := 22 }
theorem hy_X8_passSecond : zY yX8_passSecond wsX8_passSecond cX8_passSecond 2 none 0 := ⟨⟨_, rfl⟩, by decide, by decide, by decide +kernel⟩
def lpB_X8_passSecond_39   (k_39 : Int32 → zHV → Option (zHV)) (x1 : Int32) (v : zHV) : Option (zHV) :=
(if x1 < 0 then
some v
else
zcl (d_X8_owedFor v x1) fun t45 =>
zld 288 (v 0) 2 fun t53 =>
(if t45 < t53 then
zlet (x1 + Int32.ofInt (-1)) fun x1_78 =>
k_39 x1_78 v
else
zlet (2 * x1) fun t67 =>
zlet (218 + t67) fun t68 =>
zld 288 (v 0) t68 fun t69 =>
zup (d_X8_countLapse v t69) (fun u => u) fun v70 =>
zup (d_X8_drop v70 x1) (fun u => u) fun v75 =>
zlet (x1 + Int32.ofInt (-1)) fun x1_78 =>
k_39 x1_78 v75))
def lp_X8_passSecond_39   : Nat → Int32 → zHV → Option (zHV)
  | 0 => fun _ _ => none
  | n_ + 1 => lpB_X8_passSecond_39   (lp_X8_passSecond_39   n_)
def d_X8_passSecond (v : zHV) : Option (zHV) :=
zld 288 (v 0) 6 fun t13 =>
zcl (d_X8_decayed v t13) fun t14 =>
zsv 288 v 0 6 t14 fun v17 =>
zld 288 (v17 0) 7 fun t25 =>
zlet (t25 + 1) fun t27 =>
zsv 288 v17 0 7 t27 fun v28 =>
zld 288 (v28 0) 17 fun t35 =>
zlet (t35 - 1) fun t37 =>
lp_X8_passSecond_39   zF t37 v28
set_option maxHeartbeats 4000000 in
set_option maxRecDepth 100000 in
theorem c_X8_passSecond (l : Launch) (E : zE) (a : Nat → Nat) (v : zHV) (r : zHV) (h : d_X8_passSecond v = some r) : zMv l E yX8_passSecond wsX8_passSecond rm_X8_passSecond [.ref (a 0)] (mdW E a v) (mdW E a r) := by
  intro sz
  refine z_entry (Qc := fun A => zQv E A (mdW E a r)) (by decide) rfl (Nat.le_of_ble_eq_true rfl) ?_
  intro p e s m below meth c A X hW ls hl
  have X : zX E wsX8_passSecond RX8 cX8_passSecond 2 none yX8_passSecond p s m ([.ref (a 0)] : List Value).toArray meth c A := X
  have hl : lv_has ls 2 [(0, .ref (a 0))] := hl
  have hr : d_X8_passSecond v = some r := h
  clear h
  have q_0 : Cond.fieldLink RX8 7 "ApplauseTalliesModel" "state" "[I" ∈ wsX8_passSecond := List.mem_of_getElem? (i := 1) rfl
  have hn_X8 : ∀ x ∈ wsX80, x ∈ wsX8_passSecond := zz_in [19, 20, 21, 22, 23, 24, 25, 26, 27, 28, 29, 30] (by decide +kernel)
  unfold d_X8_passSecond at hr
  refine lv_aload_n X.1 X.2.1 dX8_passSecond_0 rfl (lv_at hl 0 rfl) ?_
  refine z_get X hW 0 8 0 (C := RX8) (T := TX8) (N := 12) rfl rfl hn_X8 (by decide) q_0 rfl dX8_passSecond_1 ?_
  refine lv_bipush (v := 6) X.1 X.2.1 dX8_passSecond_4 (by decide) ?_
  refine lv_aload_n X.1 X.2.1 dX8_passSecond_6 rfl (lv_at hl 0 rfl) ?_
  refine lv_aload_n X.1 X.2.1 dX8_passSecond_7 rfl (lv_at hl 0 rfl) ?_
  refine z_get X hW 0 8 0 (C := RX8) (T := TX8) (N := 12) rfl rfl hn_X8 (by decide) q_0 rfl dX8_passSecond_8 ?_
  refine lv_bipush (v := 6) X.1 X.2.1 dX8_passSecond_11 (by decide) ?_
  refine z_ald X hW 1 hr rfl dX8_passSecond_13 (fun t13 hr => ?_)
  have hp_14 := (z_all (mdW E a v))
  refine z_callp X hW hr hp_14 (fun x h => z_runV (As := [.int t13]) (rest := [.int 6, .ref (a 1)]) X hW hp_14 (c_X8_decayed l E a v t13 x h _) hy_X8_decayed 0 8 (C := RX8) (T := TX8) (N := 12) rfl rfl rfl gX8_passSecond_X8_decayed rfl rfl ⟨by decide, by decide⟩ rfl hl rfl rfl (Nat.le_of_ble_eq_true rfl) dX8_passSecond_14 ⟨Nat.zero_le _, Nat.zero_le _⟩) (fun t14 H locs hr hW => ?_)
  refine z_asv X hW 1 hr (fun v17 => (mdW E a v17)) rfl rfl dX8_passSecond_17 (fun v17 H locs hr hW => ?_)
  refine lv_aload_n X.1 X.2.1 dX8_passSecond_18 rfl (lv_at hl 0 rfl) ?_
  refine z_get X hW 0 8 0 (C := RX8) (T := TX8) (N := 12) rfl rfl hn_X8 (by decide) q_0 rfl dX8_passSecond_19 ?_
  refine lv_bipush (v := 7) X.1 X.2.1 dX8_passSecond_22 (by decide) ?_
  refine lv_dup2_11 X.1 X.2.1 dX8_passSecond_24 rfl rfl ?_
  refine z_ald X hW 1 hr rfl dX8_passSecond_25 (fun t25 hr => ?_)
  refine lv_iconst (v := 1) X.1 X.2.1 dX8_passSecond_26 (by decide) ?_
  refine z_iadd X hr dX8_passSecond_27 (fun t27 hr => ?_)
  refine z_asv X hW 1 hr (fun v28 => (mdW E a v28)) rfl rfl dX8_passSecond_28 (fun v28 H locs hr hW => ?_)
  refine lv_aload_n X.1 X.2.1 dX8_passSecond_29 rfl (lv_at hl 0 rfl) ?_
  refine z_get X hW 0 8 0 (C := RX8) (T := TX8) (N := 12) rfl rfl hn_X8 (by decide) q_0 rfl dX8_passSecond_30 ?_
  refine lv_bipush (v := 17) X.1 X.2.1 dX8_passSecond_33 (by decide) ?_
  refine z_ald X hW 1 hr rfl dX8_passSecond_35 (fun t35 hr => ?_)
  refine lv_iconst (v := 1) X.1 X.2.1 dX8_passSecond_36 (by decide) ?_
  refine z_isub X hr dX8_passSecond_37 (fun t37 hr => ?_)
  refine lv_istore_n (lv' := [(1, .int t37), (0, .ref (a 0))]) X.1 X.2.1 dX8_passSecond_38 rfl hl (by decide) rfl (fun ls hl => ?_)
  have L_39 : ∀ (n_39 : Nat), ∀ (x1 : Int32) (v : zHV) (H : Heap) (locs : List Loc) (ls : Array Slot), lp_X8_passSecond_39   n_39 x1 v = some r → zW E A s (mdW E a v) H locs → lv_has ls 2 [(0, .ref (a 0)), (1, .int x1)] → W p l e rm_X8_passSecond s m ([.ref (a 0)] : List Value).toArray below meth c H locs 0 0 (MQ below (zQv E A (mdW E a r)) ([.ref (a 0)] : List Value).toArray s 0 0 A) (F0 m 39 ls []) := by
    intro n_39
    induction n_39 with
    | zero => exact fun x1 v H locs ls hr hW hl => absurd (show (none : Option (zHV)) = some r from hr) (fun h => by cases h)
    | succ n_39 ih_39 =>
      intro x1 v H locs ls hr hW hl
      have hr : lpB_X8_passSecond_39   (lp_X8_passSecond_39   n_39) x1 v = some r := hr
      unfold lpB_X8_passSecond_39 at hr
      refine lv_iload_n X.1 X.2.1 dX8_passSecond_39 rfl (lv_at hl 1 rfl) ?_
      refine z_iflt X 84 hr dX8_passSecond_40 (by decide) (fun hr => ?_) (fun hr => ?_)
      · cases hr
        exact z_vret X hW dX8_passSecond_84
      · refine lv_aload_n X.1 X.2.1 dX8_passSecond_43 rfl (lv_at hl 0 rfl) ?_
        refine lv_iload_n X.1 X.2.1 dX8_passSecond_44 rfl (lv_at hl 1 rfl) ?_
        have hp_45 := (z_all (mdW E a v))
        refine z_callp X hW hr hp_45 (fun x h => z_runV (As := [.int x1]) (rest := []) X hW hp_45 (c_X8_owedFor l E a v x1 x h _) hy_X8_owedFor 0 8 (C := RX8) (T := TX8) (N := 12) rfl rfl rfl gX8_passSecond_X8_owedFor rfl rfl ⟨by decide, by decide⟩ rfl hl rfl rfl (Nat.le_of_ble_eq_true rfl) dX8_passSecond_45 ⟨Nat.zero_le _, Nat.zero_le _⟩) (fun t45 H locs hr hW => ?_)
        refine lv_aload_n X.1 X.2.1 dX8_passSecond_48 rfl (lv_at hl 0 rfl) ?_
        refine z_get X hW 0 8 0 (C := RX8) (T := TX8) (N := 12) rfl rfl hn_X8 (by decide) q_0 rfl dX8_passSecond_49 ?_
        refine lv_iconst (v := 2) X.1 X.2.1 dX8_passSecond_52 (by decide) ?_
        refine z_ald X hW 1 hr rfl dX8_passSecond_53 (fun t53 hr => ?_)
        refine z_cmplt X 78 hr dX8_passSecond_54 (by decide) (fun hr => ?_) (fun hr => ?_)
        · refine z_iinc X (fun x1_78 => [(1, .int x1_78), (0, .ref (a 0))]) hr hl (k := 1) rfl (by decide) (fun _ => rfl) dX8_passSecond_78 (fun x1_78 ls hr hl => ?_)
          refine lv_goto (tgt := 39) X.1 X.2.1 dX8_passSecond_81 (by decide) ?_
          exact ih_39 x1_78 v _ _ _ hr hW (lv_sub hl [1, 0] rfl)
        · refine lv_aload_n X.1 X.2.1 dX8_passSecond_57 rfl (lv_at hl 0 rfl) ?_
          refine lv_aload_n X.1 X.2.1 dX8_passSecond_58 rfl (lv_at hl 0 rfl) ?_
          refine z_get X hW 0 8 0 (C := RX8) (T := TX8) (N := 12) rfl rfl hn_X8 (by decide) q_0 rfl dX8_passSecond_59 ?_
          refine lv_sipush (v := 218) X.1 X.2.1 dX8_passSecond_62 (by decide) ?_
          refine lv_iconst (v := 2) X.1 X.2.1 dX8_passSecond_65 (by decide) ?_
          refine lv_iload_n X.1 X.2.1 dX8_passSecond_66 rfl (lv_at hl 1 rfl) ?_
          refine z_imul X hr dX8_passSecond_67 (fun t67 hr => ?_)
          refine z_iadd X hr dX8_passSecond_68 (fun t68 hr => ?_)
          refine z_ald X hW 1 hr rfl dX8_passSecond_69 (fun t69 hr => ?_)
          have hp_70 := (z_all (mdW E a v))
          refine z_callv X hW (fun u => u) hr hp_70 (fun u => (mdW E a u)) (fun v70 => (mdW E a v70)) (fun u => (z_lla (mdW E a u))) (fun u h => z_runV (As := [.int t69]) (rest := []) X hW hp_70 (c_X8_countLapse l E a v t69 u h _) hy_X8_countLapse 0 8 (C := RX8) (T := TX8) (N := 12) rfl rfl rfl gX8_passSecond_X8_countLapse rfl rfl ⟨by decide, by decide⟩ rfl hl rfl rfl (Nat.le_of_ble_eq_true rfl) dX8_passSecond_70 ⟨Nat.zero_le _, Nat.zero_le _⟩) (fun v70 H locs hr hW => ?_)
          refine lv_aload_n X.1 X.2.1 dX8_passSecond_73 rfl (lv_at hl 0 rfl) ?_
          refine lv_iload_n X.1 X.2.1 dX8_passSecond_74 rfl (lv_at hl 1 rfl) ?_
          have hp_75 := (z_all (mdW E a v70))
          refine z_callv X hW (fun u => u) hr hp_75 (fun u => (mdW E a u)) (fun v75 => (mdW E a v75)) (fun u => (z_lla (mdW E a u))) (fun u h => z_runV (As := [.int x1]) (rest := []) X hW hp_75 (c_X8_drop l E a v70 x1 u h _) hy_X8_drop 0 8 (C := RX8) (T := TX8) (N := 12) rfl rfl rfl gX8_passSecond_X8_drop rfl rfl ⟨by decide, by decide⟩ rfl hl rfl rfl (Nat.le_of_ble_eq_true rfl) dX8_passSecond_75 ⟨Nat.zero_le _, Nat.zero_le _⟩) (fun v75 H locs hr hW => ?_)
          refine z_iinc X (fun x1_78 => [(1, .int x1_78), (0, .ref (a 0))]) hr hl (k := 1) rfl (by decide) (fun _ => rfl) dX8_passSecond_78 (fun x1_78 ls hr hl => ?_)
          refine lv_goto (tgt := 39) X.1 X.2.1 dX8_passSecond_81 (by decide) ?_
          exact ih_39 x1_78 v75 _ _ _ hr hW (lv_sub hl [1, 0] rfl)
  exact L_39 _ t37 v28 _ _ _ hr hW (lv_sub hl [1, 0] rfl)
