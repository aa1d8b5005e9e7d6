abbrev rm_X7_isSeat : Room := { frames := 0, cells := 0, slots := 0, locals := 0 }
theorem hy_X7_isSeat : zY yX7_isSeat wsX7_isSeat cX7_isSeat 1 (some .boolean) 1 := ⟨⟨_, rfl⟩, by decide, by decide, by decide +kernel⟩
def d_X7_isSeat (p0 : Int32) : Option (Int32) :=
(if p0 < 0 then
some 0
else
(if 30 ≤ p0 then
some 0
else
some 1))
set_option maxHeartbeats 4000000 in
set_option maxRecDepth 100000 in
theorem c_X7_isSeat (l : Launch) (E : zE) (p0 : Int32) (r : Int32) (h : d_X7_isSeat p0 = some r) : zMi l E yX7_isSeat wsX7_isSeat rm_X7_isSeat [.int p0] ([] : va_W) r ([] : va_W) := by
  intro sz
  refine z_entry (Qc := fun A => zQi E A r ([] : va_W)) (by decide) rfl (Nat.le_of_ble_eq_true rfl) ?_
  intro p e s m below meth c A X hW ls hl
  have X : zX E wsX7_isSeat RX7 cX7_isSeat 1 (some .boolean) yX7_isSeat p s m ([.int p0] : List Value).toArray meth c A := X
  have hl : lv_has ls 1 [(0, .int p0)] := hl
  have hr : d_X7_isSeat p0 = some r := h
  clear h
  unfold d_X7_isSeat at hr
  refine lv_iload_n X.1 X.2.1 dX7_isSeat_0 rfl (lv_at hl 0 rfl) ?_
  refine z_iflt X 14 hr dX7_isSeat_1 (by decide) (fun hr => ?_) (fun hr => ?_)
  · refine lv_iconst (v := 0) X.1 X.2.1 dX7_isSeat_14 (by decide) ?_
    cases hr
    exact z_zret X hW rfl rfl dX7_isSeat_15
  · refine lv_iload_n X.1 X.2.1 dX7_isSeat_4 rfl (lv_at hl 0 rfl) ?_
    refine lv_bipush (v := 30) X.1 X.2.1 dX7_isSeat_5 (by decide) ?_
    refine z_cmpge X 14 hr dX7_isSeat_7 (by decide) (fun hr => ?_) (fun hr => ?_)
    · refine lv_iconst (v := 0) X.1 X.2.1 dX7_isSeat_14 (by decide) ?_
      cases hr
      exact z_zret X hW rfl rfl dX7_isSeat_15
    · refine lv_iconst (v := 1) X.1 X.2.1 dX7_isSeat_10 (by decide) ?_
      refine lv_goto (tgt := 15) X.1 X.2.1 dX7_isSeat_11 (by decide) ?_
      cases hr
      exact z_zret X hW rfl rfl dX7_isSeat_15
abbrev rm_X7_isPerformer : Room := { frames := 0, cells := 0, slots := 0, locals := 0 }
theorem hy_X7_isPerformer : zY yX7_isPerformer wsX7_isPerformer cX7_isPerformer 1 (some .boolean) 1 := ⟨⟨_, rfl⟩, by decide, by decide, by decide +kernel⟩
def d_X7_isPerformer (p0 : Int32) : Option (Int32) :=
(if p0 < 0 then
some 0
else
(if 6 ≤ p0 then
some 0
else
some 1))
set_option maxHeartbeats 4000000 in
set_option maxRecDepth 100000 in
theorem c_X7_isPerformer (l : Launch) (E : zE) (p0 : Int32) (r : Int32) (h : d_X7_isPerformer p0 = some r) : zMi l E yX7_isPerformer wsX7_isPerformer rm_X7_isPerformer [.int p0] ([] : va_W) r ([] : va_W) := by
  intro sz
  refine z_entry (Qc := fun A => zQi E A r ([] : va_W)) (by decide) rfl (Nat.le_of_ble_eq_true rfl) ?_
  intro p e s m below meth c A X hW ls hl
  have X : zX E wsX7_isPerformer RX7 cX7_isPerformer 1 (some .boolean) yX7_isPerformer p s m ([.int p0] : List Value).toArray meth c A := X
  have hl : lv_has ls 1 [(0, .int p0)] := hl
  have hr : d_X7_isPerformer p0 = some r := h
  clear h
  unfold d_X7_isPerformer at hr
  refine lv_iload_n X.1 X.2.1 dX7_isPerformer_0 rfl (lv_at hl 0 rfl) ?_
  refine z_iflt X 14 hr dX7_isPerformer_1 (by decide) (fun hr => ?_) (fun hr => ?_)
  · refine lv_iconst (v := 0) X.1 X.2.1 dX7_isPerformer_14 (by decide) ?_
    cases hr
    exact z_zret X hW rfl rfl dX7_isPerformer_15
  · refine lv_iload_n X.1 X.2.1 dX7_isPerformer_4 rfl (lv_at hl 0 rfl) ?_
    refine lv_bipush (v := 6) X.1 X.2.1 dX7_isPerformer_5 (by decide) ?_
    refine z_cmpge X 14 hr dX7_isPerformer_7 (by decide) (fun hr => ?_) (fun hr => ?_)
    · refine lv_iconst (v := 0) X.1 X.2.1 dX7_isPerformer_14 (by decide) ?_
      cases hr
      exact z_zret X hW rfl rfl dX7_isPerformer_15
    · refine lv_iconst (v := 1) X.1 X.2.1 dX7_isPerformer_10 (by decide) ?_
      refine lv_goto (tgt := 15) X.1 X.2.1 dX7_isPerformer_11 (by decide) ?_
      cases hr
      exact z_zret X hW rfl rfl dX7_isPerformer_15
abbrev rm_X7_afterSecond : Room := { frames := 1, cells := 0, slots := 0, locals := 21 }
theorem hy_X7_afterSecond : zY yX7_afterSecond wsX7_afterSecond cX7_afterSecond 2 (some .int) 2 := ⟨⟨_, rfl⟩, by decide, by decide, by decide +kernel⟩
def d_X7_afterSecond (p0 : Int32) (p1 : Int32) : Option (Int32) :=
(if 0 < p0 then
zlet (p0 * p1) fun t11 =>
zdv t11 100 fun t14 =>
zlet (if t14 < 1 then 1 else t14) fun t16 =>
zlet (p0 - t16) fun t19 =>
some t19
else
some 0)
set_option maxHeartbeats 4000000 in
set_option maxRecDepth 100000 in
theorem c_X7_afterSecond (l : Launch) (E : zE) (p0 : Int32) (p1 : Int32) (r : Int32) (h : d_X7_afterSecond p0 p1 = some r) : zMi l E yX7_afterSecond wsX7_afterSecond rm_X7_afterSecond [.int p0, .int p1] ([] : va_W) r ([] : va_W) := by
  intro sz
  refine z_entry (Qc := fun A => zQi E A r ([] : va_W)) (by decide) rfl (Nat.le_of_ble_eq_true rfl) ?_
  intro p e s m below meth c A X hW ls hl
  have X : zX E wsX7_afterSecond RX7 cX7_afterSecond 2 (some .int) yX7_afterSecond p s m ([.int p0, .int p1] : List Value).toArray meth c A := X
  have hl : lv_has ls 2 [(0, .int p0), (1, .int p1)] := hl
  have hr : d_X7_afterSecond p0 p1 = some r := h
  clear h
  have q_0 : Cond.methodLink RX7 176 Lib.Math.max.name ∈ wsX7_afterSecond := List.mem_of_getElem? (i := 1) rfl
  have q_1 : Cond.static Lib.Math.max.name ∈ wsX7_afterSecond := List.mem_of_getElem? (i := 2) rfl
  have q_2 : Cond.initialized "java/lang/Math" ∈ wsX7_afterSecond := List.mem_of_getElem? (i := 3) rfl
  have q_3 : Cond.code Lib.Math.max.name Lib.Math.max.code 2 (some .int) ∈ wsX7_afterSecond := List.mem_of_getElem? (i := 4) rfl
  unfold d_X7_afterSecond at hr
  refine lv_iload_n X.1 X.2.1 dX7_afterSecond_0 rfl (lv_at hl 0 rfl) ?_
  refine z_ifgt X 8 hr dX7_afterSecond_1 (by decide) (fun hr => ?_) (fun hr => ?_)
  · refine lv_iload_n X.1 X.2.1 dX7_afterSecond_8 rfl (lv_at hl 0 rfl) ?_
    refine lv_iload_n X.1 X.2.1 dX7_afterSecond_9 rfl (lv_at hl 0 rfl) ?_
    refine lv_iload_n X.1 X.2.1 dX7_afterSecond_10 rfl (lv_at hl 1 rfl) ?_
    refine z_imul X hr dX7_afterSecond_11 (fun t11 hr => ?_)
    refine lv_bipush (v := 100) X.1 X.2.1 dX7_afterSecond_12 (by decide) ?_
    refine z_idiv X hr dX7_afterSecond_14 (fun t14 hr => ?_)
    refine lv_iconst (v := 1) X.1 X.2.1 dX7_afterSecond_15 (by decide) ?_
    refine z_max X hl rfl hr q_0 q_1 q_2 q_3 (by decide) (Nat.le_of_ble_eq_true rfl) (Nat.zero_le _) (Nat.zero_le _) dX7_afterSecond_16 (fun t16 hr => ?_)
    refine z_isub X hr dX7_afterSecond_19 (fun t19 hr => ?_)
    cases hr
    exact z_iret X hW rfl dX7_afterSecond_20
  · refine lv_iconst (v := 0) X.1 X.2.1 dX7_afterSecond_4 (by decide) ?_
    refine lv_goto (tgt := 20) X.1 X.2.1 dX7_afterSecond_5 (by decide) ?_
    cases hr
    exact z_iret X hW rfl dX7_afterSecond_20
