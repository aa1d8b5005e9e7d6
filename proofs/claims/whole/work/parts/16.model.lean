abbrev rm_X8_doPass : Room := { frames := 2, cells := 0, slots := 0, locals := 43 }
theorem hy_X8_doPass : zY yX8_doPass wsX8_doPass cX8_doPass 3 (some .int) 1 := ⟨⟨_, rfl⟩, by decide, by decide, by decide +kernel⟩
def lpB_X8_doPass_32 (p1 : Int32)  (k_32 : Int32 → zHV → Option (Int32 × zHV)) (x2 : Int32) (v : zHV) : Option (Int32 × zHV) :=
(if p1 ≤ x2 then
zld 288 (v 0) 6 fun t53 =>
some (t53, v)
else
zup (d_X8_passSecond v) (fun u => u) fun v38 =>
zlet (x2 + Int32.ofInt 1) fun x2_41 =>
k_32 x2_41 v38)
def lp_X8_doPass_32 (p1 : Int32)  : Nat → Int32 → zHV → Option (Int32 × zHV)
  | 0 => fun _ _ => none
  | n_ + 1 => lpB_X8_doPass_32 p1  (lp_X8_doPass_32 p1  n_)
def d_X8_doPass (v : zHV) (p1 : Int32) : Option (Int32 × zHV) :=
zcl (d_X8_within p1 1 99) fun t4 =>
(if t4 = 0 then
some ((-2), v)
else
zld 288 (v 0) 7 fun t19 =>
zlet (t19 + p1) fun t21 =>
(if t21 ≤ 99999 then
lp_X8_doPass_32 p1  zF 0 v
else
some ((-5), v)))
set_option maxHeartbeats 4000000 in
set_option maxRecDepth 100000 in
theorem c_X8_doPass (l : Launch) (E : zE) (a : Nat → Nat) (v : zHV) (p1 : Int32) (r : Int32 × zHV) (h : d_X8_doPass v p1 = some r) : zMi l E yX8_doPass wsX8_doPass rm_X8_doPass [.ref (a 0), .int p1] (mdW E a v) r.1 (mdW E a r.2) := by
  intro sz
  refine z_entry (Qc := fun A => zQi E A r.1 (mdW E a r.2)) (by decide) rfl (Nat.le_of_ble_eq_true rfl) ?_
  intro p e s m below meth c A X hW ls hl
  have X : zX E wsX8_doPass RX8 cX8_doPass 3 (some .int) yX8_doPass p s m ([.ref (a 0), .int p1] : List Value).toArray meth c A := X
  have hl : lv_has ls 3 [(0, .ref (a 0)), (1, .int p1)] := hl
  have hr : d_X8_doPass v p1 = some r := h
  clear h
  have q_0 : Cond.fieldLink RX8 7 "ApplauseTalliesModel" "state" "[I" ∈ wsX8_doPass := List.mem_of_getElem? (i := 1) rfl
  have hn_X8 : ∀ x ∈ wsX80, x ∈ wsX8_doPass := zz_in [27, 28, 29, 30, 31, 32, 33, 34, 35, 36, 37, 38] (by decide +kernel)
  have q_2 : Cond.constant RX8 83 99999 ∈ wsX8_doPass := List.mem_of_getElem? (i := 2) rfl
  unfold d_X8_doPass at hr
  refine lv_iload_n X.1 X.2.1 dX8_doPass_0 rfl (lv_at hl 1 rfl) ?_
  refine lv_iconst (v := 1) X.1 X.2.1 dX8_doPass_1 (by decide) ?_
  refine lv_bipush (v := 99) X.1 X.2.1 dX8_doPass_2 (by decide) ?_
  have hp_4 := (List.Perm.refl ((mdW E a v)))
  refine z_callp X hW hr hp_4 (fun x h => z_runS (As := [.int p1, .int 1, .int 99]) (rest := []) X hW hp_4 (c_X8_within l E p1 1 99 x h _) hy_X8_within gX8_doPass_X8_within rfl rfl ⟨by decide, by decide⟩ rfl hl rfl rfl (Nat.le_of_ble_eq_true rfl) dX8_doPass_4 ⟨Nat.zero_le _, Nat.zero_le _⟩) (fun t4 H locs hr hW => ?_)
  refine z_ifne X 13 hr dX8_doPass_7 (by decide) (fun hr => ?_) (fun hr => ?_)
  · refine lv_aload_n X.1 X.2.1 dX8_doPass_13 rfl (lv_at hl 0 rfl) ?_
    refine z_get X hW 0 8 0 (C := RX8) (T := TX8) (N := 12) rfl rfl hn_X8 (by decide) q_0 rfl dX8_doPass_14 ?_
    refine lv_bipush (v := 7) X.1 X.2.1 dX8_doPass_17 (by decide) ?_
    refine z_ald X hW 1 hr rfl dX8_doPass_19 (fun t19 hr => ?_)
    refine lv_iload_n X.1 X.2.1 dX8_doPass_20 rfl (lv_at hl 1 rfl) ?_
    refine z_iadd X hr dX8_doPass_21 (fun t21 hr => ?_)
    refine lv_ldc (v := 99999) X.1 X.2.1 X.2.2.2.1 (X.2.2.2.2.1 _ q_2) dX8_doPass_22 ?_
    refine z_cmple X 30 hr dX8_doPass_24 (by decide) (fun hr => ?_) (fun hr => ?_)
    · refine lv_iconst (v := 0) X.1 X.2.1 dX8_doPass_30 (by decide) ?_
      refine lv_istore_n (lv' := [(2, .int 0), (0, .ref (a 0)), (1, .int p1)]) X.1 X.2.1 dX8_doPass_31 rfl hl (by decide) rfl (fun ls hl => ?_)
      have L_32 : ∀ (n_32 : Nat), ∀ (x2 : Int32) (v : zHV) (H : Heap) (locs : List Loc) (ls : Array Slot), lp_X8_doPass_32 p1  n_32 x2 v = some r → zW E A s (mdW E a v) H locs → lv_has ls 3 [(0, .ref (a 0)), (1, .int p1), (2, .int x2)] → W p l e rm_X8_doPass s m ([.ref (a 0), .int p1] : List Value).toArray below meth c H locs 0 0 (MQ below (zQi E A r.1 (mdW E a r.2)) ([.ref (a 0), .int p1] : List Value).toArray s 0 0 A) (F0 m 32 ls []) := by
        intro n_32
        induction n_32 with
        | zero => exact fun x2 v H locs ls hr hW hl => absurd (show (none : Option (Int32 × zHV)) = some r from hr) (fun h => by cases h)
        | succ n_32 ih_32 =>
          intro x2 v H locs ls hr hW hl
          have hr : lpB_X8_doPass_32 p1  (lp_X8_doPass_32 p1  n_32) x2 v = some r := hr
          unfold lpB_X8_doPass_32 at hr
          refine lv_iload_n X.1 X.2.1 dX8_doPass_32 rfl (lv_at hl 2 rfl) ?_
          refine lv_iload_n X.1 X.2.1 dX8_doPass_33 rfl (lv_at hl 1 rfl) ?_
          refine z_cmpge X 47 hr dX8_doPass_34 (by decide) (fun hr => ?_) (fun hr => ?_)
          · refine lv_aload_n X.1 X.2.1 dX8_doPass_47 rfl (lv_at hl 0 rfl) ?_
            refine z_get X hW 0 8 0 (C := RX8) (T := TX8) (N := 12) rfl rfl hn_X8 (by decide) q_0 rfl dX8_doPass_48 ?_
            refine lv_bipush (v := 6) X.1 X.2.1 dX8_doPass_51 (by decide) ?_
            refine z_ald X hW 1 hr rfl dX8_doPass_53 (fun t53 hr => ?_)
            cases hr
            exact z_iret X hW rfl dX8_doPass_54
          · refine lv_aload_n X.1 X.2.1 dX8_doPass_37 rfl (lv_at hl 0 rfl) ?_
            have hp_38 := (z_all (mdW E a v))
            refine z_callv X hW (fun u => u) hr hp_38 (fun u => (mdW E a u)) (fun v38 => (mdW E a v38)) (fun u => (z_lla (mdW E a u))) (fun u h => z_runV (As := []) (rest := []) X hW hp_38 (c_X8_passSecond l E a v u h _) hy_X8_passSecond 0 8 (C := RX8) (T := TX8) (N := 12) rfl rfl rfl gX8_doPass_X8_passSecond rfl rfl ⟨by decide, by decide⟩ rfl hl rfl rfl (Nat.le_of_ble_eq_true rfl) dX8_doPass_38 ⟨Nat.zero_le _, Nat.zero_le _⟩) (fun v38 H locs hr hW => ?_)
            refine z_iinc X (fun x2_41 => [(2, .int x2_41), (0, .ref (a 0)), (1, .int p1)]) hr hl (k := 2) rfl (by decide) (fun _ => rfl) dX8_doPass_41 (fun x2_41 ls hr hl => ?_)
            refine lv_goto (tgt := 32) X.1 X.2.1 dX8_doPass_44 (by decide) ?_
            exact ih_32 x2_41 v38 _ _ _ hr hW (lv_sub hl [1, 2, 0] rfl)
      exact L_32 _ 0 v _ _ _ hr hW (lv_sub hl [1, 2, 0] rfl)
    · refine lv_bipush (v := (-5)) X.1 X.2.1 dX8_doPass_27 (by decide) ?_
      cases hr
      exact z_iret X hW rfl dX8_doPass_29
  · refine lv_bipush (v := (-2)) X.1 X.2.1 dX8_doPass_10 (by decide) ?_
    cases hr
    exact z_iret X hW rfl dX8_doPass_12
abbrev rm_X8_doPlay : Room := { frames := 2, cells := 0, slots := 0, locals := 46 }
theorem hy_X8_doPlay : zY yX8_doPlay wsX8_doPlay cX8_doPlay 4 (some .int) 1 := ⟨⟨_, rfl⟩, by decide, by decide, by decide +kernel⟩
def d_X8_doPlay (v : zHV) (p1 : Int32) : Option (Int32 × zHV) :=
zcl (d_X8_isPerformer p1) fun t1 =>
(if t1 = 0 then
some ((-1), v)
else
zcl (d_X8_earliest v p1) fun t11 =>
(if t11 = (-6) then
some ((-5), v)
else
zup (d_X8_drop v t11) (fun u => u) fun v26 =>
zlet (3 * p1) fun t38 =>
zlet (200 + t38) fun t39 =>
zlet (t39 + 0) fun t41 =>
zld 288 (v26 0) t41 fun t43 =>
zlet (t43 + 1) fun t45 =>
zsv 288 v26 0 t41 t45 fun v46 =>
zld 288 (v46 0) 10 fun t54 =>
zlet (t54 + 1) fun t56 =>
zsv 288 v46 0 10 t56 fun v57 =>
zup2 (d_X8_end v57 p1) (fun u => u) fun t60 v60 =>
(if 0 ≤ t60 then
zcl (d_X8_owes v60 p1) fun t74 =>
some (t74, v60)
else
some (t60, v60))))
set_option maxHeartbeats 4000000 in
set_option maxRecDepth 100000 in
theorem c_X8_doPlay (l : Launch) (E : zE) (a : Nat → Nat) (v : zHV) (p1 : Int32) (r : Int32 × zHV) (h : d_X8_doPlay v p1 = some r) : zMi l E yX8_doPlay wsX8_doPlay rm_X8_doPlay [.ref (a 0), .int p1] (mdW E a v) r.1 (mdW E a r.2) := by
  intro sz
  refine z_entry (Qc := fun A => zQi E A r.1 (mdW E a r.2)) (by decide) rfl (Nat.le_of_ble_eq_true rfl) ?_
  intro p e s m below meth c A X hW ls hl
  have X : zX E wsX8_doPlay RX8 cX8_doPlay 4 (some .int) yX8_doPlay p s m ([.ref (a 0), .int p1] : List Value).toArray meth c A := X
  have hl : lv_has ls 4 [(0, .ref (a 0)), (1, .int p1)] := hl
  have hr : d_X8_doPlay v p1 = some r := h
  clear h
  have q_0 : Cond.fieldLink RX8 7 "ApplauseTalliesModel" "state" "[I" ∈ wsX8_doPlay := List.mem_of_getElem? (i := 1) rfl
  have hn_X8 : ∀ x ∈ wsX80, x ∈ wsX8_doPlay := zz_in [29, 30, 31, 32, 33, 34, 35, 36, 37, 38, 39, 40] (by decide +kernel)
  unfold d_X8_doPlay at hr
  refine lv_iload_n X.1 X.2.1 dX8_doPlay_0 rfl (lv_at hl 1 rfl) ?_
  have hp_1 := (List.Perm.refl ((mdW E a v)))
  refine z_callp X hW hr hp_1 (fun x h => z_runS (As := [.int p1]) (rest := []) X hW hp_1 (c_X8_isPerformer l E p1 x h _) hy_X8_isPerformer gX8_doPlay_X8_isPerformer rfl rfl ⟨by decide, by decide⟩ rfl hl rfl rfl (Nat.le_of_ble_eq_true rfl) dX8_doPlay_1 ⟨Nat.zero_le _, Nat.zero_le _⟩) (fun t1 H locs hr hW => ?_)
  refine z_ifne X 9 hr dX8_doPlay_4 (by decide) (fun hr => ?_) (fun hr => ?_)
  · refine lv_aload_n X.1 X.2.1 dX8_doPlay_9 rfl (lv_at hl 0 rfl) ?_
    refine lv_iload_n X.1 X.2.1 dX8_doPlay_10 rfl (lv_at hl 1 rfl) ?_
    have hp_11 := (z_all (mdW E a v))
    refine z_callp X hW hr hp_11 (fun x h => z_runV (As := [.int p1]) (rest := []) X hW hp_11 (c_X8_earliest l E a v p1 x h _) hy_X8_earliest 0 8 (C := RX8) (T := TX8) (N := 12) rfl rfl rfl gX8_doPlay_X8_earliest rfl rfl ⟨by decide, by decide⟩ rfl hl rfl rfl (Nat.le_of_ble_eq_true rfl) dX8_doPlay_11 ⟨Nat.zero_le _, Nat.zero_le _⟩) (fun t11 H locs hr hW => ?_)
    refine lv_istore_n (lv' := [(2, .int t11), (0, .ref (a 0)), (1, .int p1)]) X.1 X.2.1 dX8_doPlay_14 rfl hl (by decide) rfl (fun ls hl => ?_)
    refine lv_iload_n X.1 X.2.1 dX8_doPlay_15 rfl (lv_at hl 0 rfl) ?_
    refine lv_bipush (v := (-6)) X.1 X.2.1 dX8_doPlay_16 (by decide) ?_
    refine z_cmpne X 24 hr dX8_doPlay_18 (by decide) (fun hr => ?_) (fun hr => ?_)
    · refine lv_aload_n X.1 X.2.1 dX8_doPlay_24 rfl (lv_at hl 1 rfl) ?_
      refine lv_iload_n X.1 X.2.1 dX8_doPlay_25 rfl (lv_at hl 0 rfl) ?_
      have hp_26 := (z_all (mdW E a v))
      refine z_callv X hW (fun u => u) hr hp_26 (fun u => (mdW E a u)) (fun v26 => (mdW E a v26)) (fun u => (z_lla (mdW E a u))) (fun u h => z_runV (As := [.int t11]) (rest := []) X hW hp_26 (c_X8_drop l E a v t11 u h _) hy_X8_drop 0 8 (C := RX8) (T := TX8) (N := 12) rfl rfl rfl gX8_doPlay_X8_drop rfl rfl ⟨by decide, by decide⟩ rfl hl rfl rfl (Nat.le_of_ble_eq_true rfl) dX8_doPlay_26 ⟨Nat.zero_le _, Nat.zero_le _⟩) (fun v26 H locs hr hW => ?_)
      refine lv_aload_n X.1 X.2.1 dX8_doPlay_29 rfl (lv_at hl 1 rfl) ?_
      refine z_get X hW 0 8 0 (C := RX8) (T := TX8) (N := 12) rfl rfl hn_X8 (by decide) q_0 rfl dX8_doPlay_30 ?_
      refine lv_sipush (v := 200) X.1 X.2.1 dX8_doPlay_33 (by decide) ?_
      refine lv_iconst (v := 3) X.1 X.2.1 dX8_doPlay_36 (by decide) ?_
      refine lv_iload_n X.1 X.2.1 dX8_doPlay_37 rfl (lv_at hl 2 rfl) ?_
      refine z_imul X hr dX8_doPlay_38 (fun t38 hr => ?_)
      refine z_iadd X hr dX8_doPlay_39 (fun t39 hr => ?_)
      refine lv_iconst (v := 0) X.1 X.2.1 dX8_doPlay_40 (by decide) ?_
      refine z_iadd X hr dX8_doPlay_41 (fun t41 hr => ?_)
      refine lv_dup2_11 X.1 X.2.1 dX8_doPlay_42 rfl rfl ?_
      refine z_ald X hW 1 hr rfl dX8_doPlay_43 (fun t43 hr => ?_)
      refine lv_iconst (v := 1) X.1 X.2.1 dX8_doPlay_44 (by decide) ?_
      refine z_iadd X hr dX8_doPlay_45 (fun t45 hr => ?_)
      refine z_asv X hW 1 hr (fun v46 => (mdW E a v46)) rfl rfl dX8_doPlay_46 (fun v46 H locs hr hW => ?_)
      refine lv_aload_n X.1 X.2.1 dX8_doPlay_47 rfl (lv_at hl 1 rfl) ?_
      refine z_get X hW 0 8 0 (C := RX8) (T := TX8) (N := 12) rfl rfl hn_X8 (by decide) q_0 rfl dX8_doPlay_48 ?_
      refine lv_bipush (v := 10) X.1 X.2.1 dX8_doPlay_51 (by decide) ?_
      refine lv_dup2_11 X.1 X.2.1 dX8_doPlay_53 rfl rfl ?_
      refine z_ald X hW 1 hr rfl dX8_doPlay_54 (fun t54 hr => ?_)
      refine lv_iconst (v := 1) X.1 X.2.1 dX8_doPlay_55 (by decide) ?_
      refine z_iadd X hr dX8_doPlay_56 (fun t56 hr => ?_)
      refine z_asv X hW 1 hr (fun v57 => (mdW E a v57)) rfl rfl dX8_doPlay_57 (fun v57 H locs hr hW => ?_)
      refine lv_aload_n X.1 X.2.1 dX8_doPlay_58 rfl (lv_at hl 1 rfl) ?_
      refine lv_iload_n X.1 X.2.1 dX8_doPlay_59 rfl (lv_at hl 2 rfl) ?_
      have hp_60 := (z_all (mdW E a v57))
      refine z_calli X hW (fun u => u) hr hp_60 (fun u => (mdW E a u)) (fun v60 => (mdW E a v60)) (fun u => (z_lla (mdW E a u))) (fun x u h => z_runV (As := [.int p1]) (rest := []) X hW hp_60 (c_X8_end l E a v57 p1 (x, u) h _) hy_X8_end 0 8 (C := RX8) (T := TX8) (N := 12) rfl rfl rfl gX8_doPlay_X8_end rfl rfl ⟨by decide, by decide⟩ rfl hl rfl rfl (Nat.le_of_ble_eq_true rfl) dX8_doPlay_60 ⟨Nat.zero_le _, Nat.zero_le _⟩) (fun t60 v60 H locs hr hW => ?_)
      refine lv_istore_n (lv' := [(3, .int t60), (2, .int t11), (0, .ref (a 0)), (1, .int p1)]) X.1 X.2.1 dX8_doPlay_63 rfl hl (by decide) rfl (fun ls hl => ?_)
      refine lv_iload_n X.1 X.2.1 dX8_doPlay_64 rfl (lv_at hl 0 rfl) ?_
      refine z_ifge X 72 hr dX8_doPlay_65 (by decide) (fun hr => ?_) (fun hr => ?_)
      · refine lv_aload_n X.1 X.2.1 dX8_doPlay_72 rfl (lv_at hl 2 rfl) ?_
        refine lv_iload_n X.1 X.2.1 dX8_doPlay_73 rfl (lv_at hl 3 rfl) ?_
        have hp_74 := (z_all (mdW E a v60))
        refine z_callp X hW hr hp_74 (fun x h => z_runV (As := [.int p1]) (rest := []) X hW hp_74 (c_X8_owes l E a v60 p1 x h _) hy_X8_owes 0 8 (C := RX8) (T := TX8) (N := 12) rfl rfl rfl gX8_doPlay_X8_owes rfl rfl ⟨by decide, by decide⟩ rfl hl rfl rfl (Nat.le_of_ble_eq_true rfl) dX8_doPlay_74 ⟨Nat.zero_le _, Nat.zero_le _⟩) (fun t74 H locs hr hW => ?_)
        cases hr
        exact z_iret X hW rfl dX8_doPlay_77
      · refine lv_iload_n X.1 X.2.1 dX8_doPlay_68 rfl (lv_at hl 0 rfl) ?_
        refine lv_goto (tgt := 77) X.1 X.2.1 dX8_doPlay_69 (by decide) ?_
        cases hr
        exact z_iret X hW rfl dX8_doPlay_77
    · refine lv_bipush (v := (-5)) X.1 X.2.1 dX8_doPlay_21 (by decide) ?_
      cases hr
      exact z_iret X hW rfl dX8_doPlay_23
  · refine lv_iconst (v := (-1)) X.1 X.2.1 dX8_doPlay_7 (by decide) ?_
    cases hr
    exact z_iret X hW rfl dX8_doPlay_8
abbrev rm_X8_doCall : Room := { frames := 0, cells := 0, slots := 0, locals := 0 }
theorem hy_X8_doCall : zY yX8_doCall wsX8_doCall cX8_doCall 1 (some .int) 0 := ⟨⟨_, rfl⟩, by decide, by decide, by decide +kernel⟩
def d_X8_doCall (v : zHV) : Option (Int32 × zHV) :=
zld 288 (v 0) 6 fun t6 =>
zld 288 (v 0) 5 fun t12 =>
(if t12 ≤ t6 then
zld 288 (v 0) 6 fun t26 =>
zdv t26 2 fun t28 =>
zsv 288 v 0 6 t28 fun v29 =>
zld 288 (v29 0) 12 fun t37 =>
zlet (t37 + 1) fun t39 =>
zsv 288 v29 0 12 t39 fun v40 =>
zld 288 (v40 0) 6 fun t47 =>
some (t47, v40)
else
some ((-5), v))
set_option maxHeartbeats 4000000 in
set_option maxRecDepth 100000 in
theorem c_X8_doCall (l : Launch) (E : zE) (a : Nat → Nat) (v : zHV) (r : Int32 × zHV) (h : d_X8_doCall v = some r) : zMi l E yX8_doCall wsX8_doCall rm_X8_doCall [.ref (a 0)] (mdW E a v) r.1 (mdW E a r.2) := by
  intro sz
  refine z_entry (Qc := fun A => zQi E A r.1 (mdW E a r.2)) (by decide) rfl (Nat.le_of_ble_eq_true rfl) ?_
  intro p e s m below meth c A X hW ls hl
  have X : zX E wsX8_doCall RX8 cX8_doCall 1 (some .int) yX8_doCall p s m ([.ref (a 0)] : List Value).toArray meth c A := X
  have hl : lv_has ls 1 [(0, .ref (a 0))] := hl
  have hr : d_X8_doCall v = some r := h
  clear h
  have q_0 : Cond.fieldLink RX8 7 "ApplauseTalliesModel" "state" "[I" ∈ wsX8_doCall := List.mem_of_getElem? (i := 1) rfl
  have hn_X8 : ∀ x ∈ wsX80, x ∈ wsX8_doCall := zz_in [2, 3, 4, 5, 6, 7, 8, 9, 10, 11, 12, 13] (by decide +kernel)
  unfold d_X8_doCall at hr
  refine lv_aload_n X.1 X.2.1 dX8_doCall_0 rfl (lv_at hl 0 rfl) ?_
  refine z_get X hW 0 8 0 (C := RX8) (T := TX8) (N := 12) rfl rfl hn_X8 (by decide) q_0 rfl dX8_doCall_1 ?_
  refine lv_bipush (v := 6) X.1 X.2.1 dX8_doCall_4 (by decide) ?_
  refine z_ald X hW 1 hr rfl dX8_doCall_6 (fun t6 hr => ?_)
  refine lv_aload_n X.1 X.2.1 dX8_doCall_7 rfl (lv_at hl 0 rfl) ?_
  refine z_get X hW 0 8 0 (C := RX8) (T := TX8) (N := 12) rfl rfl hn_X8 (by decide) q_0 rfl dX8_doCall_8 ?_
  refine lv_iconst (v := 5) X.1 X.2.1 dX8_doCall_11 (by decide) ?_
  refine z_ald X hW 1 hr rfl dX8_doCall_12 (fun t12 hr => ?_)
  refine z_cmpge X 19 hr dX8_doCall_13 (by decide) (fun hr => ?_) (fun hr => ?_)
  · refine lv_aload_n X.1 X.2.1 dX8_doCall_19 rfl (lv_at hl 0 rfl) ?_
    refine z_get X hW 0 8 0 (C := RX8) (T := TX8) (N := 12) rfl rfl hn_X8 (by decide) q_0 rfl dX8_doCall_20 ?_
    refine lv_bipush (v := 6) X.1 X.2.1 dX8_doCall_23 (by decide) ?_
    refine lv_dup2_11 X.1 X.2.1 dX8_doCall_25 rfl rfl ?_
    refine z_ald X hW 1 hr rfl dX8_doCall_26 (fun t26 hr => ?_)
    refine lv_iconst (v := 2) X.1 X.2.1 dX8_doCall_27 (by decide) ?_
    refine z_idiv X hr dX8_doCall_28 (fun t28 hr => ?_)
    refine z_asv X hW 1 hr (fun v29 => (mdW E a v29)) rfl rfl dX8_doCall_29 (fun v29 H locs hr hW => ?_)
    refine lv_aload_n X.1 X.2.1 dX8_doCall_30 rfl (lv_at hl 0 rfl) ?_
    refine z_get X hW 0 8 0 (C := RX8) (T := TX8) (N := 12) rfl rfl hn_X8 (by decide) q_0 rfl dX8_doCall_31 ?_
    refine lv_bipush (v := 12) X.1 X.2.1 dX8_doCall_34 (by decide) ?_
    refine lv_dup2_11 X.1 X.2.1 dX8_doCall_36 rfl rfl ?_
    refine z_ald X hW 1 hr rfl dX8_doCall_37 (fun t37 hr => ?_)
    refine lv_iconst (v := 1) X.1 X.2.1 dX8_doCall_38 (by decide) ?_
    refine z_iadd X hr dX8_doCall_39 (fun t39 hr => ?_)
    refine z_asv X hW 1 hr (fun v40 => (mdW E a v40)) rfl rfl dX8_doCall_40 (fun v40 H locs hr hW => ?_)
    refine lv_aload_n X.1 X.2.1 dX8_doCall_41 rfl (lv_at hl 0 rfl) ?_
    refine z_get X hW 0 8 0 (C := RX8) (T := TX8) (N := 12) rfl rfl hn_X8 (by decide) q_0 rfl dX8_doCall_42 ?_
    refine lv_bipush (v := 6) X.1 X.2.1 dX8_doCall_45 (by decide) ?_
    refine z_ald X hW 1 hr rfl dX8_doCall_47 (fun t47 hr => ?_)
    cases hr
    exact z_iret X hW rfl dX8_doCall_48
  · refine lv_bipush (v := (-5)) X.1 X.2.1 dX8_doCall_16 (by decide) ?_
    cases hr
    exact z_iret X hW rfl dX8_doCall_18
abbrev rm_X8_keepRecord : Room := { frames := 0, cells := 0, slots := 0, locals := 0 }
theorem hy_X8_keepRecord : zY yX8_keepRecord wsX8_keepRecord cX8_keepRecord 2 none 0 := ⟨⟨_, rfl⟩, by decide, by decide, by decide +kernel⟩
def lpB_X8_keepRecord_38   (k_38 : Int32 → zHV → Option (zHV)) (x1 : Int32) (v : zHV) : Option (zHV) :=
(if 4 ≤ x1 then
zld 288 (v 0) 19 fun t85 =>
zld 288 (v 0) 19 fun t92 =>
(if 6 ≤ t92 then
zlet (t85 + 0) fun t103 =>
zsv 288 v 0 19 t103 fun v104 =>
some v104
else
zlet (t85 + 1) fun t103 =>
zsv 288 v 0 19 t103 fun v104 =>
some v104)
else
zlet (264 + x1) fun t51 =>
zlet (9 + x1) fun t59 =>
zld 288 (v 0) t59 fun t60 =>
zsv 288 v 0 t51 t60 fun v61 =>
zlet (9 + x1) fun t69 =>
zsv 288 v61 0 t69 0 fun v71 =>
zlet (x1 + Int32.ofInt 1) fun x1_72 =>
k_38 x1_72 v71)
def lp_X8_keepRecord_38   : Nat → Int32 → zHV → Option (zHV)
  | 0 => fun _ _ => none
  | n_ + 1 => lpB_X8_keepRecord_38   (lp_X8_keepRecord_38   n_)
def lpB_X8_keepRecord_3   (k_3 : Int32 → zHV → Option (zHV)) (x1 : Int32) (v : zHV) : Option (zHV) :=
(if x1 ≤ 3 then
lp_X8_keepRecord_38   zF 0 v
else
zlet (264 + x1) fun t16 =>
zlet (264 + x1) fun t25 =>
zlet (t25 - 4) fun t27 =>
zld 288 (v 0) t27 fun t28 =>
zsv 288 v 0 t16 t28 fun v29 =>
zlet (x1 + Int32.ofInt (-1)) fun x1_30 =>
k_3 x1_30 v29)
def lp_X8_keepRecord_3   : Nat → Int32 → zHV → Option (zHV)
  | 0 => fun _ _ => none
  | n_ + 1 => lpB_X8_keepRecord_3   (lp_X8_keepRecord_3   n_)
def d_X8_keepRecord (v : zHV) : Option (zHV) :=
lp_X8_keepRecord_3   zF 23 v
set_option maxHeartbeats 4000000 in
set_option maxRecDepth 100000 in
theorem c_X8_keepRecord (l : Launch) (E : zE) (a : Nat → Nat) (v : zHV) (r : zHV) (h : d_X8_keepRecord v = some r) : zMv l E yX8_keepRecord wsX8_keepRecord rm_X8_keepRecord [.ref (a 0)] (mdW E a v) (mdW E a r) := by
  intro sz
  refine z_entry (Qc := fun A => zQv E A (mdW E a r)) (by decide) rfl (Nat.le_of_ble_eq_true rfl) ?_
  intro p e s m below meth c A X hW ls hl
  have X : zX E wsX8_keepRecord RX8 cX8_keepRecord 2 none yX8_keepRecord p s m ([.ref (a 0)] : List Value).toArray meth c A := X
  have hl : lv_has ls 2 [(0, .ref (a 0))] := hl
  have hr : d_X8_keepRecord v = some r := h
  clear h
  have q_0 : Cond.fieldLink RX8 7 "ApplauseTalliesModel" "state" "[I" ∈ wsX8_keepRecord := List.mem_of_getElem? (i := 1) rfl
  have hn_X8 : ∀ x ∈ wsX80, x ∈ wsX8_keepRecord := zz_in [2, 3, 4, 5, 6, 7, 8, 9, 10, 11, 12, 13] (by decide +kernel)
  unfold d_X8_keepRecord at hr
  refine lv_bipush (v := 23) X.1 X.2.1 dX8_keepRecord_0 (by decide) ?_
  refine lv_istore_n (lv' := [(1, .int 23), (0, .ref (a 0))]) X.1 X.2.1 dX8_keepRecord_2 rfl hl (by decide) rfl (fun ls hl => ?_)
  have L_3 : ∀ (n_3 : Nat), ∀ (x1 : Int32) (v : zHV) (H : Heap) (locs : List Loc) (ls : Array Slot), lp_X8_keepRecord_3   n_3 x1 v = some r → zW E A s (mdW E a v) H locs → lv_has ls 2 [(0, .ref (a 0)), (1, .int x1)] → W p l e rm_X8_keepRecord s m ([.ref (a 0)] : List Value).toArray below meth c H locs 0 0 (MQ below (zQv E A (mdW E a r)) ([.ref (a 0)] : List Value).toArray s 0 0 A) (F0 m 3 ls []) := by
    intro n_3
    induction n_3 with
    | zero => exact fun x1 v H locs ls hr hW hl => absurd (show (none : Option (zHV)) = some r from hr) (fun h => by cases h)
    | succ n_3 ih_3 =>
      intro x1 v H locs ls hr hW hl
      have hr : lpB_X8_keepRecord_3   (lp_X8_keepRecord_3   n_3) x1 v = some r := hr
      unfold lpB_X8_keepRecord_3 at hr
      refine lv_iload_n X.1 X.2.1 dX8_keepRecord_3 rfl (lv_at hl 1 rfl) ?_
      refine lv_iconst (v := 3) X.1 X.2.1 dX8_keepRecord_4 (by decide) ?_
      refine z_cmple X 36 hr dX8_keepRecord_5 (by decide) (fun hr => ?_) (fun hr => ?_)
      · refine lv_iconst (v := 0) X.1 X.2.1 dX8_keepRecord_36 (by decide) ?_
        refine lv_istore_n (lv' := [(1, .int 0), (0, .ref (a 0))]) X.1 X.2.1 dX8_keepRecord_37 rfl hl (by decide) rfl (fun ls hl => ?_)
        have L_38 : ∀ (n_38 : Nat), ∀ (x1 : Int32) (v : zHV) (H : Heap) (locs : List Loc) (ls : Array Slot), lp_X8_keepRecord_38   n_38 x1 v = some r → zW E A s (mdW E a v) H locs → lv_has ls 2 [(0, .ref (a 0)), (1, .int x1)] → W p l e rm_X8_keepRecord s m ([.ref (a 0)] : List Value).toArray below meth c H locs 0 0 (MQ below (zQv E A (mdW E a r)) ([.ref (a 0)] : List Value).toArray s 0 0 A) (F0 m 38 ls []) := by
          intro n_38
          induction n_38 with
          | zero => exact fun x1 v H locs ls hr hW hl => absurd (show (none : Option (zHV)) = some r from hr) (fun h => by cases h)
          | succ n_38 ih_38 =>
            intro x1 v H locs ls hr hW hl
            have hr : lpB_X8_keepRecord_38   (lp_X8_keepRecord_38   n_38) x1 v = some r := hr
            unfold lpB_X8_keepRecord_38 at hr
            refine lv_iload_n X.1 X.2.1 dX8_keepRecord_38 rfl (lv_at hl 1 rfl) ?_
            refine lv_iconst (v := 4) X.1 X.2.1 dX8_keepRecord_39 (by decide) ?_
            refine z_cmpge X 78 hr dX8_keepRecord_40 (by decide) (fun hr => ?_) (fun hr => ?_)
            · refine lv_aload_n X.1 X.2.1 dX8_keepRecord_78 rfl (lv_at hl 0 rfl) ?_
              refine z_get X hW 0 8 0 (C := RX8) (T := TX8) (N := 12) rfl rfl hn_X8 (by decide) q_0 rfl dX8_keepRecord_79 ?_
              refine lv_bipush (v := 19) X.1 X.2.1 dX8_keepRecord_82 (by decide) ?_
              refine lv_dup2_11 X.1 X.2.1 dX8_keepRecord_84 rfl rfl ?_
              refine z_ald X hW 1 hr rfl dX8_keepRecord_85 (fun t85 hr => ?_)
              refine lv_aload_n X.1 X.2.1 dX8_keepRecord_86 rfl (lv_at hl 0 rfl) ?_
              refine z_get X hW 0 8 0 (C := RX8) (T := TX8) (N := 12) rfl rfl hn_X8 (by decide) q_0 rfl dX8_keepRecord_87 ?_
              refine lv_bipush (v := 19) X.1 X.2.1 dX8_keepRecord_90 (by decide) ?_
              refine z_ald X hW 1 hr rfl dX8_keepRecord_92 (fun t92 hr => ?_)
              refine lv_bipush (v := 6) X.1 X.2.1 dX8_keepRecord_93 (by decide) ?_
              refine z_cmpge X 102 hr dX8_keepRecord_95 (by decide) (fun hr => ?_) (fun hr => ?_)
              · refine lv_iconst (v := 0) X.1 X.2.1 dX8_keepRecord_102 (by decide) ?_
                refine z_iadd X hr dX8_keepRecord_103 (fun t103 hr => ?_)
                refine z_asv X hW 1 hr (fun v104 => (mdW E a v104)) rfl rfl dX8_keepRecord_104 (fun v104 H locs hr hW => ?_)
                cases hr
                exact z_vret X hW dX8_keepRecord_105
              · refine lv_iconst (v := 1) X.1 X.2.1 dX8_keepRecord_98 (by decide) ?_
                refine lv_goto (tgt := 103) X.1 X.2.1 dX8_keepRecord_99 (by decide) ?_
                refine z_iadd X hr dX8_keepRecord_103 (fun t103 hr => ?_)
                refine z_asv X hW 1 hr (fun v104 => (mdW E a v104)) rfl rfl dX8_keepRecord_104 (fun v104 H locs hr hW => ?_)
                cases hr
                exact z_vret X hW dX8_keepRecord_105
            · refine lv_aload_n X.1 X.2.1 dX8_keepRecord_43 rfl (lv_at hl 0 rfl) ?_
              refine z_get X hW 0 8 0 (C := RX8) (T := TX8) (N := 12) rfl rfl hn_X8 (by decide) q_0 rfl dX8_keepRecord_44 ?_
              refine lv_sipush (v := 264) X.1 X.2.1 dX8_keepRecord_47 (by decide) ?_
              refine lv_iload_n X.1 X.2.1 dX8_keepRecord_50 rfl (lv_at hl 1 rfl) ?_
              refine z_iadd X hr dX8_keepRecord_51 (fun t51 hr => ?_)
              refine lv_aload_n X.1 X.2.1 dX8_keepRecord_52 rfl (lv_at hl 0 rfl) ?_
              refine z_get X hW 0 8 0 (C := RX8) (T := TX8) (N := 12) rfl rfl hn_X8 (by decide) q_0 rfl dX8_keepRecord_53 ?_
              refine lv_bipush (v := 9) X.1 X.2.1 dX8_keepRecord_56 (by decide) ?_
              refine lv_iload_n X.1 X.2.1 dX8_keepRecord_58 rfl (lv_at hl 1 rfl) ?_
              refine z_iadd X hr dX8_keepRecord_59 (fun t59 hr => ?_)
              refine z_ald X hW 1 hr rfl dX8_keepRecord_60 (fun t60 hr => ?_)
              refine z_asv X hW 1 hr (fun v61 => (mdW E a v61)) rfl rfl dX8_keepRecord_61 (fun v61 H locs hr hW => ?_)
              refine lv_aload_n X.1 X.2.1 dX8_keepRecord_62 rfl (lv_at hl 0 rfl) ?_
              refine z_get X hW 0 8 0 (C := RX8) (T := TX8) (N := 12) rfl rfl hn_X8 (by decide) q_0 rfl dX8_keepRecord_63 ?_
              refine lv_bipush (v := 9) X.1 X.2.1 dX8_keepRecord_66 (by decide) ?_
              refine lv_iload_n X.1 X.2.1 dX8_keepRecord_68 rfl (lv_at hl 1 rfl) ?_
              refine z_iadd X hr dX8_keepRecord_69 (fun t69 hr => ?_)
              refine lv_iconst (v := 0) X.1 X.2.1 dX8_keepRecord_70 (by decide) ?_
              refine z_asv X hW 1 hr (fun v71 => (mdW E a v71)) rfl rfl dX8_keepRecord_71 (fun v71 H locs hr hW => ?_)
              refine z_iinc X (fun x1_72 => [(1, .int x1_72), (0, .ref (a 0))]) hr hl (k := 1) rfl (by decide) (fun _ => rfl) dX8_keepRecord_72 (fun x1_72 ls hr hl => ?_)
              refine lv_goto (tgt := 38) X.1 X.2.1 dX8_keepRecord_75 (by decide) ?_
              exact ih_38 x1_72 v71 _ _ _ hr hW (lv_sub hl [1, 0] rfl)
        exact L_38 _ 0 v _ _ _ hr hW (lv_sub hl [1, 0] rfl)
      · refine lv_aload_n X.1 X.2.1 dX8_keepRecord_8 rfl (lv_at hl 0 rfl) ?_
        refine z_get X hW 0 8 0 (C := RX8) (T := TX8) (N := 12) rfl rfl hn_X8 (by decide) q_0 rfl dX8_keepRecord_9 ?_
        refine lv_sipush (v := 264) X.1 X.2.1 dX8_keepRecord_12 (by decide) ?_
        refine lv_iload_n X.1 X.2.1 dX8_keepRecord_15 rfl (lv_at hl 1 rfl) ?_
        refine z_iadd X hr dX8_keepRecord_16 (fun t16 hr => ?_)
        refine lv_aload_n X.1 X.2.1 dX8_keepRecord_17 rfl (lv_at hl 0 rfl) ?_
        refine z_get X hW 0 8 0 (C := RX8) (T := TX8) (N := 12) rfl rfl hn_X8 (by decide) q_0 rfl dX8_keepRecord_18 ?_
        refine lv_sipush (v := 264) X.1 X.2.1 dX8_keepRecord_21 (by decide) ?_
        refine lv_iload_n X.1 X.2.1 dX8_keepRecord_24 rfl (lv_at hl 1 rfl) ?_
        refine z_iadd X hr dX8_keepRecord_25 (fun t25 hr => ?_)
        refine lv_iconst (v := 4) X.1 X.2.1 dX8_keepRecord_26 (by decide) ?_
        refine z_isub X hr dX8_keepRecord_27 (fun t27 hr => ?_)
        refine z_ald X hW 1 hr rfl dX8_keepRecord_28 (fun t28 hr => ?_)
        refine z_asv X hW 1 hr (fun v29 => (mdW E a v29)) rfl rfl dX8_keepRecord_29 (fun v29 H locs hr hW => ?_)
        refine z_iinc X (fun x1_30 => [(1, .int x1_30), (0, .ref (a 0))]) hr hl (k := 1) rfl (by decide) (fun _ => rfl) dX8_keepRecord_30 (fun x1_30 ls hr hl => ?_)
        refine lv_goto (tgt := 3) X.1 X.2.1 dX8_keepRecord_33 (by decide) ?_
        exact ih_3 x1_30 v29 _ _ _ hr hW (lv_sub hl [1, 0] rfl)
  exact L_3 _ 23 v _ _ _ hr hW (lv_sub hl [1, 0] rfl)
abbrev rm_X8_doNight : Room := { frames := 1, cells := 0, slots := 0, locals := 23 }
theorem hy_X8_doNight : zY yX8_doNight wsX8_doNight cX8_doNight 3 (some .int) 0 := ⟨⟨_, rfl⟩, by decide, by decide, by decide +kernel⟩
def lpB_X8_doNight_101   (k_101 : Int32 → Int32 → zHV → Option (Int32 × zHV)) (x1 : Int32) (x2 : Int32) (v : zHV) : Option (Int32 × zHV) :=
(if 30 ≤ x2 then
some (x1, v)
else
zup (d_X8_setSeat v x2 3 0) (fun u => u) fun v111 =>
zup (d_X8_setSeat v111 x2 4 0) (fun u => u) fun v118 =>
zlet (x2 + Int32.ofInt 1) fun x2_121 =>
k_101 x1 x2_121 v118)
def lp_X8_doNight_101   : Nat → Int32 → Int32 → zHV → Option (Int32 × zHV)
  | 0 => fun _ _ _ => none
  | n_ + 1 => lpB_X8_doNight_101   (lp_X8_doNight_101   n_)
def lpB_X8_doNight_25   (k_25 : Int32 → Int32 → zHV → Option (Int32 × zHV)) (x1 : Int32) (x2 : Int32) (v : zHV) : Option (Int32 × zHV) :=
(if x1 ≤ x2 then
zsv 288 v 0 17 0 fun v59 =>
zup (d_X8_keepRecord v59) (fun u => u) fun v61 =>
zsv 288 v61 0 6 0 fun v71 =>
zsv 288 v71 0 13 0 fun v79 =>
zsv 288 v79 0 18 0 fun v87 =>
zld 288 (v87 0) 8 fun t95 =>
zlet (t95 + 1) fun t97 =>
zsv 288 v87 0 8 t97 fun v98 =>
lp_X8_doNight_101   zF x1 0 v98
else
zlet (2 * x2) fun t40 =>
zlet (218 + t40) fun t41 =>
zld 288 (v 0) t41 fun t42 =>
zup (d_X8_countLapse v t42) (fun u => u) fun v43 =>
zlet (x2 + Int32.ofInt 1) fun x2_46 =>
k_25 x1 x2_46 v43)
def lp_X8_doNight_25   : Nat → Int32 → Int32 → zHV → Option (Int32 × zHV)
  | 0 => fun _ _ _ => none
  | n_ + 1 => lpB_X8_doNight_25   (lp_X8_doNight_25   n_)
def d_X8_doNight (v : zHV) : Option (Int32 × zHV) :=
zld 288 (v 0) 8 fun t6 =>
(if t6 = 99 then
some ((-5), v)
else
zld 288 (v 0) 17 fun t21 =>
lp_X8_doNight_25   zF t21 0 v)
set_option maxHeartbeats 4000000 in
set_option maxRecDepth 100000 in
theorem c_X8_doNight (l : Launch) (E : zE) (a : Nat → Nat) (v : zHV) (r : Int32 × zHV) (h : d_X8_doNight v = some r) : zMi l E yX8_doNight wsX8_doNight rm_X8_doNight [.ref (a 0)] (mdW E a v) r.1 (mdW E a r.2) := by
  intro sz
  refine z_entry (Qc := fun A => zQi E A r.1 (mdW E a r.2)) (by decide) rfl (Nat.le_of_ble_eq_true rfl) ?_
  intro p e s m below meth c A X hW ls hl
  have X : zX E wsX8_doNight RX8 cX8_doNight 3 (some .int) yX8_doNight p s m ([.ref (a 0)] : List Value).toArray meth c A := X
  have hl : lv_has ls 3 [(0, .ref (a 0))] := hl
  have hr : d_X8_doNight v = some r := h
  clear h
  have q_0 : Cond.fieldLink RX8 7 "ApplauseTalliesModel" "state" "[I" ∈ wsX8_doNight := List.mem_of_getElem? (i := 1) rfl
  have hn_X8 : ∀ x ∈ wsX80, x ∈ wsX8_doNight := zz_in [15, 16, 17, 18, 19, 20, 21, 22, 23, 24, 25, 26] (by decide +kernel)
  unfold d_X8_doNight at hr
  refine lv_aload_n X.1 X.2.1 dX8_doNight_0 rfl (lv_at hl 0 rfl) ?_
  refine z_get X hW 0 8 0 (C := RX8) (T := TX8) (N := 12) rfl rfl hn_X8 (by decide) q_0 rfl dX8_doNight_1 ?_
  refine lv_bipush (v := 8) X.1 X.2.1 dX8_doNight_4 (by decide) ?_
  refine z_ald X hW 1 hr rfl dX8_doNight_6 (fun t6 hr => ?_)
  refine lv_bipush (v := 99) X.1 X.2.1 dX8_doNight_7 (by decide) ?_
  refine z_cmpne X 15 hr dX8_doNight_9 (by decide) (fun hr => ?_) (fun hr => ?_)
  · refine lv_aload_n X.1 X.2.1 dX8_doNight_15 rfl (lv_at hl 0 rfl) ?_
    refine z_get X hW 0 8 0 (C := RX8) (T := TX8) (N := 12) rfl rfl hn_X8 (by decide) q_0 rfl dX8_doNight_16 ?_
    refine lv_bipush (v := 17) X.1 X.2.1 dX8_doNight_19 (by decide) ?_
    refine z_ald X hW 1 hr rfl dX8_doNight_21 (fun t21 hr => ?_)
    refine lv_istore_n (lv' := [(1, .int t21), (0, .ref (a 0))]) X.1 X.2.1 dX8_doNight_22 rfl hl (by decide) rfl (fun ls hl => ?_)
    refine lv_iconst (v := 0) X.1 X.2.1 dX8_doNight_23 (by decide) ?_
    refine lv_istore_n (lv' := [(2, .int 0), (1, .int t21), (0, .ref (a 0))]) X.1 X.2.1 dX8_doNight_24 rfl hl (by decide) rfl (fun ls hl => ?_)
    have L_25 : ∀ (n_25 : Nat), ∀ (x1 : Int32) (x2 : Int32) (v : zHV) (H : Heap) (locs : List Loc) (ls : Array Slot), lp_X8_doNight_25   n_25 x1 x2 v = some r → zW E A s (mdW E a v) H locs → lv_has ls 3 [(0, .ref (a 0)), (1, .int x1), (2, .int x2)] → W p l e rm_X8_doNight s m ([.ref (a 0)] : List Value).toArray below meth c H locs 0 0 (MQ below (zQi E A r.1 (mdW E a r.2)) ([.ref (a 0)] : List Value).toArray s 0 0 A) (F0 m 25 ls []) := by
      intro n_25
      induction n_25 with
      | zero => exact fun x1 x2 v H locs ls hr hW hl => absurd (show (none : Option (Int32 × zHV)) = some r from hr) (fun h => by cases h)
      | succ n_25 ih_25 =>
        intro x1 x2 v H locs ls hr hW hl
        have hr : lpB_X8_doNight_25   (lp_X8_doNight_25   n_25) x1 x2 v = some r := hr
        unfold lpB_X8_doNight_25 at hr
        refine lv_iload_n X.1 X.2.1 dX8_doNight_25 rfl (lv_at hl 2 rfl) ?_
        refine lv_iload_n X.1 X.2.1 dX8_doNight_26 rfl (lv_at hl 1 rfl) ?_
        refine z_cmpge X 52 hr dX8_doNight_27 (by decide) (fun hr => ?_) (fun hr => ?_)
        · refine lv_aload_n X.1 X.2.1 dX8_doNight_52 rfl (lv_at hl 0 rfl) ?_
          refine z_get X hW 0 8 0 (C := RX8) (T := TX8) (N := 12) rfl rfl hn_X8 (by decide) q_0 rfl dX8_doNight_53 ?_
          refine lv_bipush (v := 17) X.1 X.2.1 dX8_doNight_56 (by decide) ?_
          refine lv_iconst (v := 0) X.1 X.2.1 dX8_doNight_58 (by decide) ?_
          refine z_asv X hW 1 hr (fun v59 => (mdW E a v59)) rfl rfl dX8_doNight_59 (fun v59 H locs hr hW => ?_)
          refine lv_aload_n X.1 X.2.1 dX8_doNight_60 rfl (lv_at hl 0 rfl) ?_
          have hp_61 := (z_all (mdW E a v59))
          refine z_callv X hW (fun u => u) hr hp_61 (fun u => (mdW E a u)) (fun v61 => (mdW E a v61)) (fun u => (z_lla (mdW E a u))) (fun u h => z_runV (As := []) (rest := []) X hW hp_61 (c_X8_keepRecord l E a v59 u h _) hy_X8_keepRecord 0 8 (C := RX8) (T := TX8) (N := 12) rfl rfl rfl gX8_doNight_X8_keepRecord rfl rfl ⟨by decide, by decide⟩ rfl hl rfl rfl (Nat.le_of_ble_eq_true rfl) dX8_doNight_61 ⟨Nat.zero_le _, Nat.zero_le _⟩) (fun v61 H locs hr hW => ?_)
          refine lv_aload_n X.1 X.2.1 dX8_doNight_64 rfl (lv_at hl 0 rfl) ?_
          refine z_get X hW 0 8 0 (C := RX8) (T := TX8) (N := 12) rfl rfl hn_X8 (by decide) q_0 rfl dX8_doNight_65 ?_
          refine lv_bipush (v := 6) X.1 X.2.1 dX8_doNight_68 (by decide) ?_
          refine lv_iconst (v := 0) X.1 X.2.1 dX8_doNight_70 (by decide) ?_
          refine z_asv X hW 1 hr (fun v71 => (mdW E a v71)) rfl rfl dX8_doNight_71 (fun v71 H locs hr hW => ?_)
          refine lv_aload_n X.1 X.2.1 dX8_doNight_72 rfl (lv_at hl 0 rfl) ?_
          refine z_get X hW 0 8 0 (C := RX8) (T := TX8) (N := 12) rfl rfl hn_X8 (by decide) q_0 rfl dX8_doNight_73 ?_
          refine lv_bipush (v := 13) X.1 X.2.1 dX8_doNight_76 (by decide) ?_
          refine lv_iconst (v := 0) X.1 X.2.1 dX8_doNight_78 (by decide) ?_
          refine z_asv X hW 1 hr (fun v79 => (mdW E a v79)) rfl rfl dX8_doNight_79 (fun v79 H locs hr hW => ?_)
          refine lv_aload_n X.1 X.2.1 dX8_doNight_80 rfl (lv_at hl 0 rfl) ?_
          refine z_get X hW 0 8 0 (C := RX8) (T := TX8) (N := 12) rfl rfl hn_X8 (by decide) q_0 rfl dX8_doNight_81 ?_
          refine lv_bipush (v := 18) X.1 X.2.1 dX8_doNight_84 (by decide) ?_
          refine lv_iconst (v := 0) X.1 X.2.1 dX8_doNight_86 (by decide) ?_
          refine z_asv X hW 1 hr (fun v87 => (mdW E a v87)) rfl rfl dX8_doNight_87 (fun v87 H locs hr hW => ?_)
          refine lv_aload_n X.1 X.2.1 dX8_doNight_88 rfl (lv_at hl 0 rfl) ?_
          refine z_get X hW 0 8 0 (C := RX8) (T := TX8) (N := 12) rfl rfl hn_X8 (by decide) q_0 rfl dX8_doNight_89 ?_
          refine lv_bipush (v := 8) X.1 X.2.1 dX8_doNight_92 (by decide) ?_
          refine lv_dup2_11 X.1 X.2.1 dX8_doNight_94 rfl rfl ?_
          refine z_ald X hW 1 hr rfl dX8_doNight_95 (fun t95 hr => ?_)
          refine lv_iconst (v := 1) X.1 X.2.1 dX8_doNight_96 (by decide) ?_
          refine z_iadd X hr dX8_doNight_97 (fun t97 hr => ?_)
          refine z_asv X hW 1 hr (fun v98 => (mdW E a v98)) rfl rfl dX8_doNight_98 (fun v98 H locs hr hW => ?_)
          refine lv_iconst (v := 0) X.1 X.2.1 dX8_doNight_99 (by decide) ?_
          refine lv_istore_n (lv' := [(2, .int 0), (0, .ref (a 0)), (1, .int x1)]) X.1 X.2.1 dX8_doNight_100 rfl hl (by decide) rfl (fun ls hl => ?_)
          have L_101 : ∀ (n_101 : Nat), ∀ (x1 : Int32) (x2 : Int32) (v : zHV) (H : Heap) (locs : List Loc) (ls : Array Slot), lp_X8_doNight_101   n_101 x1 x2 v = some r → zW E A s (mdW E a v) H locs → lv_has ls 3 [(0, .ref (a 0)), (1, .int x1), (2, .int x2)] → W p l e rm_X8_doNight s m ([.ref (a 0)] : List Value).toArray below meth c H locs 0 0 (MQ below (zQi E A r.1 (mdW E a r.2)) ([.ref (a 0)] : List Value).toArray s 0 0 A) (F0 m 101 ls []) := by
            intro n_101
            induction n_101 with
            | zero => exact fun x1 x2 v H locs ls hr hW hl => absurd (show (none : Option (Int32 × zHV)) = some r from hr) (fun h => by cases h)
            | succ n_101 ih_101 =>
              intro x1 x2 v H locs ls hr hW hl
              have hr : lpB_X8_doNight_101   (lp_X8_doNight_101   n_101) x1 x2 v = some r := hr
              unfold lpB_X8_doNight_101 at hr
              refine lv_iload_n X.1 X.2.1 dX8_doNight_101 rfl (lv_at hl 2 rfl) ?_
              refine lv_bipush (v := 30) X.1 X.2.1 dX8_doNight_102 (by decide) ?_
              refine z_cmpge X 127 hr dX8_doNight_104 (by decide) (fun hr => ?_) (fun hr => ?_)
              · refine lv_iload_n X.1 X.2.1 dX8_doNight_127 rfl (lv_at hl 1 rfl) ?_
                cases hr
                exact z_iret X hW rfl dX8_doNight_128
              · refine lv_aload_n X.1 X.2.1 dX8_doNight_107 rfl (lv_at hl 0 rfl) ?_
                refine lv_iload_n X.1 X.2.1 dX8_doNight_108 rfl (lv_at hl 2 rfl) ?_
                refine lv_iconst (v := 3) X.1 X.2.1 dX8_doNight_109 (by decide) ?_
                refine lv_iconst (v := 0) X.1 X.2.1 dX8_doNight_110 (by decide) ?_
                have hp_111 := (z_all (mdW E a v))
                refine z_callv X hW (fun u => u) hr hp_111 (fun u => (mdW E a u)) (fun v111 => (mdW E a v111)) (fun u => (z_lla (mdW E a u))) (fun u h => z_runV (As := [.int x2, .int 3, .int 0]) (rest := []) X hW hp_111 (c_X8_setSeat l E a v x2 3 0 u h _) hy_X8_setSeat 0 8 (C := RX8) (T := TX8) (N := 12) rfl rfl rfl gX8_doNight_X8_setSeat rfl rfl ⟨by decide, by decide⟩ rfl hl rfl rfl (Nat.le_of_ble_eq_true rfl) dX8_doNight_111 ⟨Nat.zero_le _, Nat.zero_le _⟩) (fun v111 H locs hr hW => ?_)
                refine lv_aload_n X.1 X.2.1 dX8_doNight_114 rfl (lv_at hl 0 rfl) ?_
                refine lv_iload_n X.1 X.2.1 dX8_doNight_115 rfl (lv_at hl 2 rfl) ?_
                refine lv_iconst (v := 4) X.1 X.2.1 dX8_doNight_116 (by decide) ?_
                refine lv_iconst (v := 0) X.1 X.2.1 dX8_doNight_117 (by decide) ?_
                have hp_118 := (z_all (mdW E a v111))
                refine z_callv X hW (fun u => u) hr hp_118 (fun u => (mdW E a u)) (fun v118 => (mdW E a v118)) (fun u => (z_lla (mdW E a u))) (fun u h => z_runV (As := [.int x2, .int 4, .int 0]) (rest := []) X hW hp_118 (c_X8_setSeat l E a v111 x2 4 0 u h _) hy_X8_setSeat 0 8 (C := RX8) (T := TX8) (N := 12) rfl rfl rfl gX8_doNight_X8_setSeat rfl rfl ⟨by decide, by decide⟩ rfl hl rfl rfl (Nat.le_of_ble_eq_true rfl) dX8_doNight_118 ⟨Nat.zero_le _, Nat.zero_le _⟩) (fun v118 H locs hr hW => ?_)
                refine z_iinc X (fun x2_121 => [(2, .int x2_121), (0, .ref (a 0)), (1, .int x1)]) hr hl (k := 2) rfl (by decide) (fun _ => rfl) dX8_doNight_121 (fun x2_121 ls hr hl => ?_)
                refine lv_goto (tgt := 101) X.1 X.2.1 dX8_doNight_124 (by decide) ?_
                exact ih_101 x1 x2_121 v118 _ _ _ hr hW (lv_sub hl [1, 2, 0] rfl)
          exact L_101 _ x1 0 v98 _ _ _ hr hW (lv_sub hl [1, 2, 0] rfl)
        · refine lv_aload_n X.1 X.2.1 dX8_doNight_30 rfl (lv_at hl 0 rfl) ?_
          refine lv_aload_n X.1 X.2.1 dX8_doNight_31 rfl (lv_at hl 0 rfl) ?_
          refine z_get X hW 0 8 0 (C := RX8) (T := TX8) (N := 12) rfl rfl hn_X8 (by decide) q_0 rfl dX8_doNight_32 ?_
          refine lv_sipush (v := 218) X.1 X.2.1 dX8_doNight_35 (by decide) ?_
          refine lv_iconst (v := 2) X.1 X.2.1 dX8_doNight_38 (by decide) ?_
          refine lv_iload_n X.1 X.2.1 dX8_doNight_39 rfl (lv_at hl 2 rfl) ?_
          refine z_imul X hr dX8_doNight_40 (fun t40 hr => ?_)
          refine z_iadd X hr dX8_doNight_41 (fun t41 hr => ?_)
          refine z_ald X hW 1 hr rfl dX8_doNight_42 (fun t42 hr => ?_)
          have hp_43 := (z_all (mdW E a v))
          refine z_callv X hW (fun u => u) hr hp_43 (fun u => (mdW E a u)) (fun v43 => (mdW E a v43)) (fun u => (z_lla (mdW E a u))) (fun u h => z_runV (As := [.int t42]) (rest := []) X hW hp_43 (c_X8_countLapse l E a v t42 u h _) hy_X8_countLapse 0 8 (C := RX8) (T := TX8) (N := 12) rfl rfl rfl gX8_doNight_X8_countLapse rfl rfl ⟨by decide, by decide⟩ rfl hl rfl rfl (Nat.le_of_ble_eq_true rfl) dX8_doNight_43 ⟨Nat.zero_le _, Nat.zero_le _⟩) (fun v43 H locs hr hW => ?_)
          refine z_iinc X (fun x2_46 => [(2, .int x2_46), (0, .ref (a 0)), (1, .int x1)]) hr hl (k := 2) rfl (by decide) (fun _ => rfl) dX8_doNight_46 (fun x2_46 ls hr hl => ?_)
          refine lv_goto (tgt := 25) X.1 X.2.1 dX8_doNight_49 (by decide) ?_
          exact ih_25 x1 x2_46 v43 _ _ _ hr hW (lv_sub hl [1, 2, 0] rfl)
    exact L_25 _ t21 0 v _ _ _ hr hW (lv_sub hl [2, 1, 0] rfl)
  · refine lv_bipush (v := (-5)) X.1 X.2.1 dX8_doNight_12 (by decide) ?_
    cases hr
    exact z_iret X hW rfl dX8_doNight_14
abbrev rm_X8_those : Room := { frames := 1, cells := 0, slots := 0, locals := 22 }
theorem hy_X8_those : zY yX8_those wsX8_those cX8_those 6 (some .int) 2 := ⟨⟨_, rfl⟩, by decide, by decide, by decide +kernel⟩
def lpB_X8_those_5 (v : zHV) (p1 : Int32) (p2 : Int32)  (k_5 : Int32 → Int32 → Option (Int32)) (x3 : Int32) (x4 : Int32) : Option (Int32) :=
(if 30 ≤ x4 then
some x3
else
zjn (fun (x3 : Int32) (x4 : Int32) (s0 : Int32) =>
(if s0 = 0 then
zlet (x3 ||| 0) fun t67 =>
zlet (x4 + Int32.ofInt 1) fun x4_69 =>
k_5 t67 x4_69
else
zlet (1 <<< (x4 &&& 31)) fun t62 =>
zlet (x3 ||| t62) fun t67 =>
zlet (x4 + Int32.ofInt 1) fun x4_69 =>
k_5 t67 x4_69)) fun j_51 =>
(if p1 = 0 then
zcl (d_X8_seat v x4 2) fun t39 =>
(if t39 < p2 then
j_51 x3 x4 0
else
j_51 x3 x4 1)
else
zcl (d_X8_seat v x4 1) fun t20 =>
(if t20 = 1 then
j_51 x3 x4 1
else
j_51 x3 x4 0)))
def lp_X8_those_5 (v : zHV) (p1 : Int32) (p2 : Int32)  : Nat → Int32 → Int32 → Option (Int32)
  | 0 => fun _ _ => none
  | n_ + 1 => lpB_X8_those_5 v p1 p2  (lp_X8_those_5 v p1 p2  n_)
def d_X8_those (v : zHV) (p1 : Int32) (p2 : Int32) : Option (Int32) :=
lp_X8_those_5 v p1 p2  zF 0 0
set_option maxHeartbeats 4000000 in
set_option maxRecDepth 100000 in
theorem c_X8_those (l : Launch) (E : zE) (a : Nat → Nat) (v : zHV) (p1 : Int32) (p2 : Int32) (r : Int32) (h : d_X8_those v p1 p2 = some r) : zMi l E yX8_those wsX8_those rm_X8_those [.ref (a 0), .int p1, .int p2] (mdW E a v) r (mdW E a v) := by
  intro sz
  refine z_entry (Qc := fun A => zQi E A r (mdW E a v)) (by decide) rfl (Nat.le_of_ble_eq_true rfl) ?_
  intro p e s m below meth c A X hW ls hl
  have X : zX E wsX8_those RX8 cX8_those 6 (some .int) yX8_those p s m ([.ref (a 0), .int p1, .int p2] : List Value).toArray meth c A := X
  have hl : lv_has ls 6 [(0, .ref (a 0)), (1, .int p1), (2, .int p2)] := hl
  have hr : d_X8_those v p1 p2 = some r := h
  clear h
  unfold d_X8_those at hr
  refine lv_iconst (v := 0) X.1 X.2.1 dX8_those_0 (by decide) ?_
  refine lv_istore_n (lv' := [(3, .int 0), (0, .ref (a 0)), (1, .int p1), (2, .int p2)]) X.1 X.2.1 dX8_those_1 rfl hl (by decide) rfl (fun ls hl => ?_)
  refine lv_iconst (v := 0) X.1 X.2.1 dX8_those_2 (by decide) ?_
  refine lv_istore (lv' := [(4, .int 0), (3, .int 0), (0, .ref (a 0)), (1, .int p1), (2, .int p2)]) X.1 X.2.1 dX8_those_3 hl (by decide) rfl (fun ls hl => ?_)
  have L_5 : ∀ (n_5 : Nat), ∀ (x3 : Int32) (x4 : Int32) (H : Heap) (locs : List Loc) (ls : Array Slot), lp_X8_those_5 v p1 p2  n_5 x3 x4 = some r → zW E A s (mdW E a v) H locs → lv_has ls 6 [(0, .ref (a 0)), (1, .int p1), (2, .int p2), (3, .int x3), (4, .int x4)] → W p l e rm_X8_those s m ([.ref (a 0), .int p1, .int p2] : List Value).toArray below meth c H locs 0 0 (MQ below (zQi E A r (mdW E a v)) ([.ref (a 0), .int p1, .int p2] : List Value).toArray s 0 0 A) (F0 m 5 ls []) := by
    intro n_5
    induction n_5 with
    | zero => exact fun x3 x4 H locs ls hr hW hl => absurd (show (none : Option (Int32)) = some r from hr) (fun h => by cases h)
    | succ n_5 ih_5 =>
      intro x3 x4 H locs ls hr hW hl
      have hr : lpB_X8_those_5 v p1 p2  (lp_X8_those_5 v p1 p2  n_5) x3 x4 = some r := hr
      unfold lpB_X8_those_5 at hr
      refine lv_iload X.1 X.2.1 dX8_those_5 (lv_at hl 4 rfl) ?_
      refine lv_bipush (v := 30) X.1 X.2.1 dX8_those_7 (by decide) ?_
      refine z_cmpge X 75 hr dX8_those_9 (by decide) (fun hr => ?_) (fun hr => ?_)
      · refine lv_iload_n X.1 X.2.1 dX8_those_75 rfl (lv_at hl 3 rfl) ?_
        cases hr
        exact z_iret X hW rfl dX8_those_76
      · refine lv_iload_n X.1 X.2.1 dX8_those_12 rfl (lv_at hl 1 rfl) ?_
        obtain ⟨j_51, e_51, hr⟩ := zjn_some hr
        have J_51 : ∀ (x3 : Int32) (x4 : Int32) (s0 : Int32) (H : Heap) (locs : List Loc) (ls : Array Slot), j_51 x3 x4 s0 = some r → zW E A s (mdW E a v) H locs → lv_has ls 6 [(0, .ref (a 0)), (1, .int p1), (2, .int p2), (3, .int x3), (4, .int x4)] → W p l e rm_X8_those s m ([.ref (a 0), .int p1, .int p2] : List Value).toArray below meth c H locs 0 0 (MQ below (zQi E A r (mdW E a v)) ([.ref (a 0), .int p1, .int p2] : List Value).toArray s 0 0 A) (F0 m 51 ls [.int s0]) := by
          intro x3 x4 s0 H locs ls hr hW hl
          rw [e_51] at hr
          refine lv_istore (lv' := [(5, .int s0), (0, .ref (a 0)), (1, .int p1), (2, .int p2), (3, .int x3), (4, .int x4)]) X.1 X.2.1 dX8_those_51 hl (by decide) rfl (fun ls hl => ?_)
          refine lv_iload_n X.1 X.2.1 dX8_those_53 rfl (lv_at hl 4 rfl) ?_
          refine lv_iload X.1 X.2.1 dX8_those_54 (lv_at hl 0 rfl) ?_
          refine z_ifeq X 66 hr dX8_those_56 (by decide) (fun hr => ?_) (fun hr => ?_)
          · refine lv_iconst (v := 0) X.1 X.2.1 dX8_those_66 (by decide) ?_
            refine z_ior X hr dX8_those_67 (fun t67 hr => ?_)
            refine lv_istore_n (lv' := [(3, .int t67), (5, .int s0), (0, .ref (a 0)), (1, .int p1), (2, .int p2), (4, .int x4)]) X.1 X.2.1 dX8_those_68 rfl hl (by decide) rfl (fun ls hl => ?_)
            refine z_iinc X (fun x4_69 => [(4, .int x4_69), (3, .int t67), (5, .int s0), (0, .ref (a 0)), (1, .int p1), (2, .int p2)]) hr hl (k := 5) rfl (by decide) (fun _ => rfl) dX8_those_69 (fun x4_69 ls hr hl => ?_)
            refine lv_goto (tgt := 5) X.1 X.2.1 dX8_those_72 (by decide) ?_
            exact ih_5 t67 x4_69 _ _ _ hr hW (lv_sub hl [3, 4, 5, 1, 0] rfl)
          · refine lv_iconst (v := 1) X.1 X.2.1 dX8_those_59 (by decide) ?_
            refine lv_iload X.1 X.2.1 dX8_those_60 (lv_at hl 5 rfl) ?_
            refine z_ishl X hr dX8_those_62 (fun t62 hr => ?_)
            refine lv_goto (tgt := 67) X.1 X.2.1 dX8_those_63 (by decide) ?_
            refine z_ior X hr dX8_those_67 (fun t67 hr => ?_)
            refine lv_istore_n (lv' := [(3, .int t67), (5, .int s0), (0, .ref (a 0)), (1, .int p1), (2, .int p2), (4, .int x4)]) X.1 X.2.1 dX8_those_68 rfl hl (by decide) rfl (fun ls hl => ?_)
            refine z_iinc X (fun x4_69 => [(4, .int x4_69), (3, .int t67), (5, .int s0), (0, .ref (a 0)), (1, .int p1), (2, .int p2)]) hr hl (k := 5) rfl (by decide) (fun _ => rfl) dX8_those_69 (fun x4_69 ls hr hl => ?_)
            refine lv_goto (tgt := 5) X.1 X.2.1 dX8_those_72 (by decide) ?_
            exact ih_5 t67 x4_69 _ _ _ hr hW (lv_sub hl [3, 4, 5, 1, 0] rfl)
        refine z_ifeq X 35 hr dX8_those_13 (by decide) (fun hr => ?_) (fun hr => ?_)
        · refine lv_aload_n X.1 X.2.1 dX8_those_35 rfl (lv_at hl 0 rfl) ?_
          refine lv_iload X.1 X.2.1 dX8_those_36 (lv_at hl 4 rfl) ?_
          refine lv_iconst (v := 2) X.1 X.2.1 dX8_those_38 (by decide) ?_
          have hp_39 := (z_all (mdW E a v))
          refine z_callp X hW hr hp_39 (fun x h => z_runV (As := [.int x4, .int 2]) (rest := []) X hW hp_39 (c_X8_seat l E a v x4 2 x h _) hy_X8_seat 0 8 (C := RX8) (T := TX8) (N := 12) rfl rfl rfl gX8_those_X8_seat rfl rfl ⟨by decide, by decide⟩ rfl hl rfl rfl (Nat.le_of_ble_eq_true rfl) dX8_those_39 ⟨Nat.zero_le _, Nat.zero_le _⟩) (fun t39 H locs hr hW => ?_)
          refine lv_iload_n X.1 X.2.1 dX8_those_42 rfl (lv_at hl 2 rfl) ?_
          refine z_cmplt X 50 hr dX8_those_43 (by decide) (fun hr => ?_) (fun hr => ?_)
          · refine lv_iconst (v := 0) X.1 X.2.1 dX8_those_50 (by decide) ?_
            exact J_51 x3 x4 0 _ _ _ hr hW (lv_sub hl [0, 1, 2, 3, 4] rfl)
          · refine lv_iconst (v := 1) X.1 X.2.1 dX8_those_46 (by decide) ?_
            refine lv_goto (tgt := 51) X.1 X.2.1 dX8_those_47 (by decide) ?_
            exact J_51 x3 x4 1 _ _ _ hr hW (lv_sub hl [0, 1, 2, 3, 4] rfl)
        · refine lv_aload_n X.1 X.2.1 dX8_those_16 rfl (lv_at hl 0 rfl) ?_
          refine lv_iload X.1 X.2.1 dX8_those_17 (lv_at hl 4 rfl) ?_
          refine lv_iconst (v := 1) X.1 X.2.1 dX8_those_19 (by decide) ?_
          have hp_20 := (z_all (mdW E a v))
          refine z_callp X hW hr hp_20 (fun x h => z_runV (As := [.int x4, .int 1]) (rest := []) X hW hp_20 (c_X8_seat l E a v x4 1 x h _) hy_X8_seat 0 8 (C := RX8) (T := TX8) (N := 12) rfl rfl rfl gX8_those_X8_seat rfl rfl ⟨by decide, by decide⟩ rfl hl rfl rfl (Nat.le_of_ble_eq_true rfl) dX8_those_20 ⟨Nat.zero_le _, Nat.zero_le _⟩) (fun t20 H locs hr hW => ?_)
          refine lv_iconst (v := 1) X.1 X.2.1 dX8_those_23 (by decide) ?_
          refine z_cmpne X 31 hr dX8_those_24 (by decide) (fun hr => ?_) (fun hr => ?_)
          · refine lv_iconst (v := 0) X.1 X.2.1 dX8_those_31 (by decide) ?_
            refine lv_goto (tgt := 51) X.1 X.2.1 dX8_those_32 (by decide) ?_
            exact J_51 x3 x4 0 _ _ _ hr hW (lv_sub hl [0, 1, 2, 3, 4] rfl)
          · refine lv_iconst (v := 1) X.1 X.2.1 dX8_those_27 (by decide) ?_
            refine lv_goto (tgt := 51) X.1 X.2.1 dX8_those_28 (by decide) ?_
            exact J_51 x3 x4 1 _ _ _ hr hW (lv_sub hl [0, 1, 2, 3, 4] rfl)
  exact L_5 _ 0 0 _ _ _ hr hW (lv_sub hl [2, 3, 4, 1, 0] rfl)
abbrev rm_X8_doPay : Room := { frames := 2, cells := 0, slots := 0, locals := 47 }
theorem hy_X8_doPay : zY yX8_doPay wsX8_doPay cX8_doPay 2 (some .int) 1 := ⟨⟨_, rfl⟩, by decide, by decide, by decide +kernel⟩
def d_X8_doPay (v : zHV) (p1 : Int32) : Option (Int32 × zHV) :=
zcl (d_X8_isSeat p1) fun t1 =>
(if t1 = 0 then
some ((-1), v)
else
zcl (d_X8_seat v p1 1) fun t16 =>
zlet (1 - t16) fun t19 =>
zup (d_X8_setSeat v p1 1 t19) (fun u => u) fun v20 =>
zcl (d_X8_those v20 1 0) fun t26 =>
some (t26, v20))
set_option maxHeartbeats 4000000 in
set_option maxRecDepth 100000 in
theorem c_X8_doPay (l : Launch) (E : zE) (a : Nat → Nat) (v : zHV) (p1 : Int32) (r : Int32 × zHV) (h : d_X8_doPay v p1 = some r) : zMi l E yX8_doPay wsX8_doPay rm_X8_doPay [.ref (a 0), .int p1] (mdW E a v) r.1 (mdW E a r.2) := by
  intro sz
  refine z_entry (Qc := fun A => zQi E A r.1 (mdW E a r.2)) (by decide) rfl (Nat.le_of_ble_eq_true rfl) ?_
  intro p e s m below meth c A X hW ls hl
  have X : zX E wsX8_doPay RX8 cX8_doPay 2 (some .int) yX8_doPay p s m ([.ref (a 0), .int p1] : List Value).toArray meth c A := X
  have hl : lv_has ls 2 [(0, .ref (a 0)), (1, .int p1)] := hl
  have hr : d_X8_doPay v p1 = some r := h
  clear h
  unfold d_X8_doPay at hr
  refine lv_iload_n X.1 X.2.1 dX8_doPay_0 rfl (lv_at hl 1 rfl) ?_
  have hp_1 := (List.Perm.refl ((mdW E a v)))
  refine z_callp X hW hr hp_1 (fun x h => z_runS (As := [.int p1]) (rest := []) X hW hp_1 (c_X8_isSeat l E p1 x h _) hy_X8_isSeat gX8_doPay_X8_isSeat rfl rfl ⟨by decide, by decide⟩ rfl hl rfl rfl (Nat.le_of_ble_eq_true rfl) dX8_doPay_1 ⟨Nat.zero_le _, Nat.zero_le _⟩) (fun t1 H locs hr hW => ?_)
  refine z_ifne X 9 hr dX8_doPay_4 (by decide) (fun hr => ?_) (fun hr => ?_)
  · refine lv_aload_n X.1 X.2.1 dX8_doPay_9 rfl (lv_at hl 0 rfl) ?_
    refine lv_iload_n X.1 X.2.1 dX8_doPay_10 rfl (lv_at hl 1 rfl) ?_
    refine lv_iconst (v := 1) X.1 X.2.1 dX8_doPay_11 (by decide) ?_
    refine lv_iconst (v := 1) X.1 X.2.1 dX8_doPay_12 (by decide) ?_
    refine lv_aload_n X.1 X.2.1 dX8_doPay_13 rfl (lv_at hl 0 rfl) ?_
    refine lv_iload_n X.1 X.2.1 dX8_doPay_14 rfl (lv_at hl 1 rfl) ?_
    refine lv_iconst (v := 1) X.1 X.2.1 dX8_doPay_15 (by decide) ?_
    have hp_16 := (z_all (mdW E a v))
    refine z_callp X hW hr hp_16 (fun x h => z_runV (As := [.int p1, .int 1]) (rest := [.int 1, .int 1, .int p1, .ref (a 0)]) X hW hp_16 (c_X8_seat l E a v p1 1 x h _) hy_X8_seat 0 8 (C := RX8) (T := TX8) (N := 12) rfl rfl rfl gX8_doPay_X8_seat rfl rfl ⟨by decide, by decide⟩ rfl hl rfl rfl (Nat.le_of_ble_eq_true rfl) dX8_doPay_16 ⟨Nat.zero_le _, Nat.zero_le _⟩) (fun t16 H locs hr hW => ?_)
    refine z_isub X hr dX8_doPay_19 (fun t19 hr => ?_)
    have hp_20 := (z_all (mdW E a v))
    refine z_callv X hW (fun u => u) hr hp_20 (fun u => (mdW E a u)) (fun v20 => (mdW E a v20)) (fun u => (z_lla (mdW E a u))) (fun u h => z_runV (As := [.int p1, .int 1, .int t19]) (rest := []) X hW hp_20 (c_X8_setSeat l E a v p1 1 t19 u h _) hy_X8_setSeat 0 8 (C := RX8) (T := TX8) (N := 12) rfl rfl rfl gX8_doPay_X8_setSeat rfl rfl ⟨by decide, by decide⟩ rfl hl rfl rfl (Nat.le_of_ble_eq_true rfl) dX8_doPay_20 ⟨Nat.zero_le _, Nat.zero_le _⟩) (fun v20 H locs hr hW => ?_)
    refine lv_aload_n X.1 X.2.1 dX8_doPay_23 rfl (lv_at hl 0 rfl) ?_
    refine lv_iconst (v := 1) X.1 X.2.1 dX8_doPay_24 (by decide) ?_
    refine lv_iconst (v := 0) X.1 X.2.1 dX8_doPay_25 (by decide) ?_
    have hp_26 := (z_all (mdW E a v20))
    refine z_callp X hW hr hp_26 (fun x h => z_runV (As := [.int 1, .int 0]) (rest := []) X hW hp_26 (c_X8_those l E a v20 1 0 x h _) hy_X8_those 0 8 (C := RX8) (T := TX8) (N := 12) rfl rfl rfl gX8_doPay_X8_those rfl rfl ⟨by decide, by decide⟩ rfl hl rfl rfl (Nat.le_of_ble_eq_true rfl) dX8_doPay_26 ⟨Nat.zero_le _, Nat.zero_le _⟩) (fun t26 H locs hr hW => ?_)
    cases hr
    exact z_iret X hW rfl dX8_doPay_29
  · refine lv_iconst (v := (-1)) X.1 X.2.1 dX8_doPay_7 (by decide) ?_
    cases hr
    exact z_iret X hW rfl dX8_doPay_8
abbrev rm_X8_leastOf : Room := { frames := 0, cells := 0, slots := 0, locals := 0 }
theorem hy_X8_leastOf : zY yX8_leastOf wsX8_leastOf cX8_leastOf 1 (some .int) 1 := ⟨⟨_, rfl⟩, by decide, by decide, by decide +kernel⟩
def d_X8_leastOf (p0 : Int32) : Option (Int32) :=
(if p0 = 1 then
some 20
else
(if p0 = 3 then
some 0
else
some 1))
set_option maxHeartbeats 4000000 in
set_option maxRecDepth 100000 in
theorem c_X8_leastOf (l : Launch) (E : zE) (p0 : Int32) (r : Int32) (h : d_X8_leastOf p0 = some r) : zMi l E yX8_leastOf wsX8_leastOf rm_X8_leastOf [.int p0] ([] : va_W) r ([] : va_W) := by
  intro sz
  refine z_entry (Qc := fun A => zQi E A r ([] : va_W)) (by decide) rfl (Nat.le_of_ble_eq_true rfl) ?_
  intro p e s m below meth c A X hW ls hl
  have X : zX E wsX8_leastOf RX8 cX8_leastOf 1 (some .int) yX8_leastOf p s m ([.int p0] : List Value).toArray meth c A := X
  have hl : lv_has ls 1 [(0, .int p0)] := hl
  have hr : d_X8_leastOf p0 = some r := h
  clear h
  unfold d_X8_leastOf at hr
  refine lv_iload_n X.1 X.2.1 dX8_leastOf_0 rfl (lv_at hl 0 rfl) ?_
  refine lv_iconst (v := 1) X.1 X.2.1 dX8_leastOf_1 (by decide) ?_
  refine z_cmpne X 10 hr dX8_leastOf_2 (by decide) (fun hr => ?_) (fun hr => ?_)
  · refine lv_iload_n X.1 X.2.1 dX8_leastOf_10 rfl (lv_at hl 0 rfl) ?_
    refine lv_iconst (v := 3) X.1 X.2.1 dX8_leastOf_11 (by decide) ?_
    refine z_cmpne X 19 hr dX8_leastOf_12 (by decide) (fun hr => ?_) (fun hr => ?_)
    · refine lv_iconst (v := 1) X.1 X.2.1 dX8_leastOf_19 (by decide) ?_
      cases hr
      exact z_iret X hW rfl dX8_leastOf_20
    · refine lv_iconst (v := 0) X.1 X.2.1 dX8_leastOf_15 (by decide) ?_
      refine lv_goto (tgt := 20) X.1 X.2.1 dX8_leastOf_16 (by decide) ?_
      cases hr
      exact z_iret X hW rfl dX8_leastOf_20
  · refine lv_bipush (v := 20) X.1 X.2.1 dX8_leastOf_5 (by decide) ?_
    refine lv_goto (tgt := 20) X.1 X.2.1 dX8_leastOf_7 (by decide) ?_
    cases hr
    exact z_iret X hW rfl dX8_leastOf_20
abbrev rm_X8_mostOf : Room := { frames := 0, cells := 0, slots := 0, locals := 0 }
theorem hy_X8_mostOf : zY yX8_mostOf wsX8_mostOf cX8_mostOf 1 (some .int) 1 := ⟨⟨_, rfl⟩, by decide, by decide, by decide +kernel⟩
def d_X8_mostOf (p0 : Int32) : Option (Int32) :=
(if p0 = 0 then
some 50
else
(if p0 = 2 then
some 300
else
(if p0 = 3 then
some 9
else
(if p0 = 4 then
some 9
else
some 900))))
set_option maxHeartbeats 4000000 in
set_option maxRecDepth 100000 in
theorem c_X8_mostOf (l : Launch) (E : zE) (p0 : Int32) (r : Int32) (h : d_X8_mostOf p0 = some r) : zMi l E yX8_mostOf wsX8_mostOf rm_X8_mostOf [.int p0] ([] : va_W) r ([] : va_W) := by
  intro sz
  refine z_entry (Qc := fun A => zQi E A r ([] : va_W)) (by decide) rfl (Nat.le_of_ble_eq_true rfl) ?_
  intro p e s m below meth c A X hW ls hl
  have X : zX E wsX8_mostOf RX8 cX8_mostOf 1 (some .int) yX8_mostOf p s m ([.int p0] : List Value).toArray meth c A := X
  have hl : lv_has ls 1 [(0, .int p0)] := hl
  have hr : d_X8_mostOf p0 = some r := h
  clear h
  unfold d_X8_mostOf at hr
  refine lv_iload_n X.1 X.2.1 dX8_mostOf_0 rfl (lv_at hl 0 rfl) ?_
  refine z_ifne X 9 hr dX8_mostOf_1 (by decide) (fun hr => ?_) (fun hr => ?_)
  · refine lv_iload_n X.1 X.2.1 dX8_mostOf_9 rfl (lv_at hl 0 rfl) ?_
    refine lv_iconst (v := 2) X.1 X.2.1 dX8_mostOf_10 (by decide) ?_
    refine z_cmpne X 20 hr dX8_mostOf_11 (by decide) (fun hr => ?_) (fun hr => ?_)
    · refine lv_iload_n X.1 X.2.1 dX8_mostOf_20 rfl (lv_at hl 0 rfl) ?_
      refine lv_iconst (v := 3) X.1 X.2.1 dX8_mostOf_21 (by decide) ?_
      refine z_cmpeq X 30 hr dX8_mostOf_22 (by decide) (fun hr => ?_) (fun hr => ?_)
      · refine lv_bipush (v := 9) X.1 X.2.1 dX8_mostOf_30 (by decide) ?_
        refine lv_goto (tgt := 38) X.1 X.2.1 dX8_mostOf_32 (by decide) ?_
        cases hr
        exact z_iret X hW rfl dX8_mostOf_38
      · refine lv_iload_n X.1 X.2.1 dX8_mostOf_25 rfl (lv_at hl 0 rfl) ?_
        refine lv_iconst (v := 4) X.1 X.2.1 dX8_mostOf_26 (by decide) ?_
        refine z_cmpne X 35 hr dX8_mostOf_27 (by decide) (fun hr => ?_) (fun hr => ?_)
        · refine lv_sipush (v := 900) X.1 X.2.1 dX8_mostOf_35 (by decide) ?_
          cases hr
          exact z_iret X hW rfl dX8_mostOf_38
        · refine lv_bipush (v := 9) X.1 X.2.1 dX8_mostOf_30 (by decide) ?_
          refine lv_goto (tgt := 38) X.1 X.2.1 dX8_mostOf_32 (by decide) ?_
          cases hr
          exact z_iret X hW rfl dX8_mostOf_38
    · refine lv_sipush (v := 300) X.1 X.2.1 dX8_mostOf_14 (by decide) ?_
      refine lv_goto (tgt := 38) X.1 X.2.1 dX8_mostOf_17 (by decide) ?_
      cases hr
      exact z_iret X hW rfl dX8_mostOf_38
  · refine lv_bipush (v := 50) X.1 X.2.1 dX8_mostOf_4 (by decide) ?_
    refine lv_goto (tgt := 38) X.1 X.2.1 dX8_mostOf_6 (by decide) ?_
    cases hr
    exact z_iret X hW rfl dX8_mostOf_38
abbrev rm_X8_set : Room := { frames := 2, cells := 0, slots := 0, locals := 42 }
theorem hy_X8_set : zY yX8_set wsX8_set cX8_set 4 (some .int) 2 := ⟨⟨_, rfl⟩, by decide, by decide, by decide +kernel⟩
def d_X8_set (v : zHV) (p1 : Int32) (p2 : Int32) : Option (Int32 × zHV) :=
zcl (d_X8_within p1 0 5) fun t3 =>
(if t3 = 0 then
some ((-2), v)
else
zcl (d_X8_leastOf p1) fun t11 =>
zcl (d_X8_mostOf p1) fun t15 =>
zcl (d_X8_within p2 t11 t15) fun t18 =>
(if t18 = 0 then
some ((-2), v)
else
zup (d_X8_putAside v) (fun u => u) fun v28 =>
zld 288 (v28 0) p1 fun t36 =>
zsv 288 v28 0 p1 p2 fun v44 =>
zup2 (d_X8_recorded v44 t36) (fun u => u) fun t47 v47 =>
some (t47, v47)))
set_option maxHeartbeats 4000000 in
set_option maxRecDepth 100000 in
theorem c_X8_set (l : Launch) (E : zE) (a : Nat → Nat) (v : zHV) (p1 : Int32) (p2 : Int32) (r : Int32 × zHV) (h : d_X8_set v p1 p2 = some r) : zMi l E yX8_set wsX8_set rm_X8_set [.ref (a 0), .int p1, .int p2] (mdW E a v) r.1 (mdW E a r.2) := by
  intro sz
  refine z_entry (Qc := fun A => zQi E A r.1 (mdW E a r.2)) (by decide) rfl (Nat.le_of_ble_eq_true rfl) ?_
  intro p e s m below meth c A X hW ls hl
  have X : zX E wsX8_set RX8 cX8_set 4 (some .int) yX8_set p s m ([.ref (a 0), .int p1, .int p2] : List Value).toArray meth c A := X
  have hl : lv_has ls 4 [(0, .ref (a 0)), (1, .int p1), (2, .int p2)] := hl
  have hr : d_X8_set v p1 p2 = some r := h
  clear h
  have q_0 : Cond.fieldLink RX8 7 "ApplauseTalliesModel" "state" "[I" ∈ wsX8_set := List.mem_of_getElem? (i := 1) rfl
  have hn_X8 : ∀ x ∈ wsX80, x ∈ wsX8_set := zz_in [27, 28, 29, 30, 31, 32, 33, 34, 35, 36, 37, 38] (by decide +kernel)
  unfold d_X8_set at hr
  refine lv_iload_n X.1 X.2.1 dX8_set_0 rfl (lv_at hl 1 rfl) ?_
  refine lv_iconst (v := 0) X.1 X.2.1 dX8_set_1 (by decide) ?_
  refine lv_iconst (v := 5) X.1 X.2.1 dX8_set_2 (by decide) ?_
  have hp_3 := (List.Perm.refl ((mdW E a v)))
  refine z_callp X hW hr hp_3 (fun x h => z_runS (As := [.int p1, .int 0, .int 5]) (rest := []) X hW hp_3 (c_X8_within l E p1 0 5 x h _) hy_X8_within gX8_set_X8_within rfl rfl ⟨by decide, by decide⟩ rfl hl rfl rfl (Nat.le_of_ble_eq_true rfl) dX8_set_3 ⟨Nat.zero_le _, Nat.zero_le _⟩) (fun t3 H locs hr hW => ?_)
  refine z_ifeq X 24 hr dX8_set_6 (by decide) (fun hr => ?_) (fun hr => ?_)
  · refine lv_bipush (v := (-2)) X.1 X.2.1 dX8_set_24 (by decide) ?_
    cases hr
    exact z_iret X hW rfl dX8_set_26
  · refine lv_iload_n X.1 X.2.1 dX8_set_9 rfl (lv_at hl 2 rfl) ?_
    refine lv_iload_n X.1 X.2.1 dX8_set_10 rfl (lv_at hl 1 rfl) ?_
    have hp_11 := (List.Perm.refl ((mdW E a v)))
    refine z_callp X hW hr hp_11 (fun x h => z_runS (As := [.int p1]) (rest := [.int p2]) X hW hp_11 (c_X8_leastOf l E p1 x h _) hy_X8_leastOf gX8_set_X8_leastOf rfl rfl ⟨by decide, by decide⟩ rfl hl rfl rfl (Nat.le_of_ble_eq_true rfl) dX8_set_11 ⟨Nat.zero_le _, Nat.zero_le _⟩) (fun t11 H locs hr hW => ?_)
    refine lv_iload_n X.1 X.2.1 dX8_set_14 rfl (lv_at hl 1 rfl) ?_
    have hp_15 := (List.Perm.refl ((mdW E a v)))
    refine z_callp X hW hr hp_15 (fun x h => z_runS (As := [.int p1]) (rest := [.int t11, .int p2]) X hW hp_15 (c_X8_mostOf l E p1 x h _) hy_X8_mostOf gX8_set_X8_mostOf rfl rfl ⟨by decide, by decide⟩ rfl hl rfl rfl (Nat.le_of_ble_eq_true rfl) dX8_set_15 ⟨Nat.zero_le _, Nat.zero_le _⟩) (fun t15 H locs hr hW => ?_)
    have hp_18 := (List.Perm.refl ((mdW E a v)))
    refine z_callp X hW hr hp_18 (fun x h => z_runS (As := [.int p2, .int t11, .int t15]) (rest := []) X hW hp_18 (c_X8_within l E p2 t11 t15 x h _) hy_X8_within gX8_set_X8_within rfl rfl ⟨by decide, by decide⟩ rfl hl rfl rfl (Nat.le_of_ble_eq_true rfl) dX8_set_18 ⟨Nat.zero_le _, Nat.zero_le _⟩) (fun t18 H locs hr hW => ?_)
    refine z_ifne X 27 hr dX8_set_21 (by decide) (fun hr => ?_) (fun hr => ?_)
    · refine lv_aload_n X.1 X.2.1 dX8_set_27 rfl (lv_at hl 0 rfl) ?_
      have hp_28 := (z_all (mdW E a v))
      refine z_callv X hW (fun u => u) hr hp_28 (fun u => (mdW E a u)) (fun v28 => (mdW E a v28)) (fun u => (z_lla (mdW E a u))) (fun u h => z_runV (As := []) (rest := []) X hW hp_28 (c_X8_putAside l E a v u h _) hy_X8_putAside 0 8 (C := RX8) (T := TX8) (N := 12) rfl rfl rfl gX8_set_X8_putAside rfl rfl ⟨by decide, by decide⟩ rfl hl rfl rfl (Nat.le_of_ble_eq_true rfl) dX8_set_28 ⟨Nat.zero_le _, Nat.zero_le _⟩) (fun v28 H locs hr hW => ?_)
      refine lv_aload_n X.1 X.2.1 dX8_set_31 rfl (lv_at hl 0 rfl) ?_
      refine z_get X hW 0 8 0 (C := RX8) (T := TX8) (N := 12) rfl rfl hn_X8 (by decide) q_0 rfl dX8_set_32 ?_
      refine lv_iload_n X.1 X.2.1 dX8_set_35 rfl (lv_at hl 1 rfl) ?_
      refine z_ald X hW 1 hr rfl dX8_set_36 (fun t36 hr => ?_)
      refine lv_istore_n (lv' := [(3, .int t36), (0, .ref (a 0)), (1, .int p1), (2, .int p2)]) X.1 X.2.1 dX8_set_37 rfl hl (by decide) rfl (fun ls hl => ?_)
      refine lv_aload_n X.1 X.2.1 dX8_set_38 rfl (lv_at hl 1 rfl) ?_
      refine z_get X hW 0 8 0 (C := RX8) (T := TX8) (N := 12) rfl rfl hn_X8 (by decide) q_0 rfl dX8_set_39 ?_
      refine lv_iload_n X.1 X.2.1 dX8_set_42 rfl (lv_at hl 2 rfl) ?_
      refine lv_iload_n X.1 X.2.1 dX8_set_43 rfl (lv_at hl 3 rfl) ?_
      refine z_asv X hW 1 hr (fun v44 => (mdW E a v44)) rfl rfl dX8_set_44 (fun v44 H locs hr hW => ?_)
      refine lv_aload_n X.1 X.2.1 dX8_set_45 rfl (lv_at hl 1 rfl) ?_
      refine lv_iload_n X.1 X.2.1 dX8_set_46 rfl (lv_at hl 0 rfl) ?_
      have hp_47 := (z_all (mdW E a v44))
      refine z_calli X hW (fun u => u) hr hp_47 (fun u => (mdW E a u)) (fun v47 => (mdW E a v47)) (fun u => (z_lla (mdW E a u))) (fun x u h => z_runV (As := [.int t36]) (rest := []) X hW hp_47 (c_X8_recorded l E a v44 t36 (x, u) h _) hy_X8_recorded 0 8 (C := RX8) (T := TX8) (N := 12) rfl rfl rfl gX8_set_X8_recorded rfl rfl ⟨by decide, by decide⟩ rfl hl rfl rfl (Nat.le_of_ble_eq_true rfl) dX8_set_47 ⟨Nat.zero_le _, Nat.zero_le _⟩) (fun t47 v47 H locs hr hW => ?_)
      cases hr
      exact z_iret X hW rfl dX8_set_50
    · refine lv_bipush (v := (-2)) X.1 X.2.1 dX8_set_24 (by decide) ?_
      cases hr
      exact z_iret X hW rfl dX8_set_26
abbrev rm_X8_loud : Room := { frames := 2, cells := 0, slots := 0, locals := 42 }
theorem hy_X8_loud : zY yX8_loud wsX8_loud cX8_loud 4 (some .int) 2 := ⟨⟨_, rfl⟩, by decide, by decide, by decide +kernel⟩
def d_X8_loud (v : zHV) (p1 : Int32) (p2 : Int32) : Option (Int32 × zHV) :=
zcl (d_X8_isSeat p1) fun t1 =>
(if t1 = 0 then
some ((-1), v)
else
zcl (d_X8_within p2 1 9) fun t13 =>
(if t13 = 0 then
some ((-2), v)
else
zup (d_X8_putAside v) (fun u => u) fun v23 =>
zcl (d_X8_seat v23 p1 0) fun t29 =>
zup (d_X8_setSeat v23 p1 0 p2) (fun u => u) fun v37 =>
zup2 (d_X8_recorded v37 t29) (fun u => u) fun t42 v42 =>
some (t42, v42)))
set_option maxHeartbeats 4000000 in
set_option maxRecDepth 100000 in
theorem c_X8_loud (l : Launch) (E : zE) (a : Nat → Nat) (v : zHV) (p1 : Int32) (p2 : Int32) (r : Int32 × zHV) (h : d_X8_loud v p1 p2 = some r) : zMi l E yX8_loud wsX8_loud rm_X8_loud [.ref (a 0), .int p1, .int p2] (mdW E a v) r.1 (mdW E a r.2) := by
  intro sz
  refine z_entry (Qc := fun A => zQi E A r.1 (mdW E a r.2)) (by decide) rfl (Nat.le_of_ble_eq_true rfl) ?_
  intro p e s m below meth c A X hW ls hl
  have X : zX E wsX8_loud RX8 cX8_loud 4 (some .int) yX8_loud p s m ([.ref (a 0), .int p1, .int p2] : List Value).toArray meth c A := X
  have hl : lv_has ls 4 [(0, .ref (a 0)), (1, .int p1), (2, .int p2)] := hl
  have hr : d_X8_loud v p1 p2 = some r := h
  clear h
  unfold d_X8_loud at hr
  refine lv_iload_n X.1 X.2.1 dX8_loud_0 rfl (lv_at hl 1 rfl) ?_
  have hp_1 := (List.Perm.refl ((mdW E a v)))
  refine z_callp X hW hr hp_1 (fun x h => z_runS (As := [.int p1]) (rest := []) X hW hp_1 (c_X8_isSeat l E p1 x h _) hy_X8_isSeat gX8_loud_X8_isSeat rfl rfl ⟨by decide, by decide⟩ rfl hl rfl rfl (Nat.le_of_ble_eq_true rfl) dX8_loud_1 ⟨Nat.zero_le _, Nat.zero_le _⟩) (fun t1 H locs hr hW => ?_)
  refine z_ifne X 9 hr dX8_loud_4 (by decide) (fun hr => ?_) (fun hr => ?_)
  · refine lv_iload_n X.1 X.2.1 dX8_loud_9 rfl (lv_at hl 2 rfl) ?_
    refine lv_iconst (v := 1) X.1 X.2.1 dX8_loud_10 (by decide) ?_
    refine lv_bipush (v := 9) X.1 X.2.1 dX8_loud_11 (by decide) ?_
    have hp_13 := (List.Perm.refl ((mdW E a v)))
    refine z_callp X hW hr hp_13 (fun x h => z_runS (As := [.int p2, .int 1, .int 9]) (rest := []) X hW hp_13 (c_X8_within l E p2 1 9 x h _) hy_X8_within gX8_loud_X8_within rfl rfl ⟨by decide, by decide⟩ rfl hl rfl rfl (Nat.le_of_ble_eq_true rfl) dX8_loud_13 ⟨Nat.zero_le _, Nat.zero_le _⟩) (fun t13 H locs hr hW => ?_)
    refine z_ifne X 22 hr dX8_loud_16 (by decide) (fun hr => ?_) (fun hr => ?_)
    · refine lv_aload_n X.1 X.2.1 dX8_loud_22 rfl (lv_at hl 0 rfl) ?_
      have hp_23 := (z_all (mdW E a v))
      refine z_callv X hW (fun u => u) hr hp_23 (fun u => (mdW E a u)) (fun v23 => (mdW E a v23)) (fun u => (z_lla (mdW E a u))) (fun u h => z_runV (As := []) (rest := []) X hW hp_23 (c_X8_putAside l E a v u h _) hy_X8_putAside 0 8 (C := RX8) (T := TX8) (N := 12) rfl rfl rfl gX8_loud_X8_putAside rfl rfl ⟨by decide, by decide⟩ rfl hl rfl rfl (Nat.le_of_ble_eq_true rfl) dX8_loud_23 ⟨Nat.zero_le _, Nat.zero_le _⟩) (fun v23 H locs hr hW => ?_)
      refine lv_aload_n X.1 X.2.1 dX8_loud_26 rfl (lv_at hl 0 rfl) ?_
      refine lv_iload_n X.1 X.2.1 dX8_loud_27 rfl (lv_at hl 1 rfl) ?_
      refine lv_iconst (v := 0) X.1 X.2.1 dX8_loud_28 (by decide) ?_
      have hp_29 := (z_all (mdW E a v23))
      refine z_callp X hW hr hp_29 (fun x h => z_runV (As := [.int p1, .int 0]) (rest := []) X hW hp_29 (c_X8_seat l E a v23 p1 0 x h _) hy_X8_seat 0 8 (C := RX8) (T := TX8) (N := 12) rfl rfl rfl gX8_loud_X8_seat rfl rfl ⟨by decide, by decide⟩ rfl hl rfl rfl (Nat.le_of_ble_eq_true rfl) dX8_loud_29 ⟨Nat.zero_le _, Nat.zero_le _⟩) (fun t29 H locs hr hW => ?_)
      refine lv_istore_n (lv' := [(3, .int t29), (0, .ref (a 0)), (1, .int p1), (2, .int p2)]) X.1 X.2.1 dX8_loud_32 rfl hl (by decide) rfl (fun ls hl => ?_)
      refine lv_aload_n X.1 X.2.1 dX8_loud_33 rfl (lv_at hl 1 rfl) ?_
      refine lv_iload_n X.1 X.2.1 dX8_loud_34 rfl (lv_at hl 2 rfl) ?_
      refine lv_iconst (v := 0) X.1 X.2.1 dX8_loud_35 (by decide) ?_
      refine lv_iload_n X.1 X.2.1 dX8_loud_36 rfl (lv_at hl 3 rfl) ?_
      have hp_37 := (z_all (mdW E a v23))
      refine z_callv X hW (fun u => u) hr hp_37 (fun u => (mdW E a u)) (fun v37 => (mdW E a v37)) (fun u => (z_lla (mdW E a u))) (fun u h => z_runV (As := [.int p1, .int 0, .int p2]) (rest := []) X hW hp_37 (c_X8_setSeat l E a v23 p1 0 p2 u h _) hy_X8_setSeat 0 8 (C := RX8) (T := TX8) (N := 12) rfl rfl rfl gX8_loud_X8_setSeat rfl rfl ⟨by decide, by decide⟩ rfl hl rfl rfl (Nat.le_of_ble_eq_true rfl) dX8_loud_37 ⟨Nat.zero_le _, Nat.zero_le _⟩) (fun v37 H locs hr hW => ?_)
      refine lv_aload_n X.1 X.2.1 dX8_loud_40 rfl (lv_at hl 1 rfl) ?_
      refine lv_iload_n X.1 X.2.1 dX8_loud_41 rfl (lv_at hl 0 rfl) ?_
      have hp_42 := (z_all (mdW E a v37))
      refine z_calli X hW (fun u => u) hr hp_42 (fun u => (mdW E a u)) (fun v42 => (mdW E a v42)) (fun u => (z_lla (mdW E a u))) (fun x u h => z_runV (As := [.int t29]) (rest := []) X hW hp_42 (c_X8_recorded l E a v37 t29 (x, u) h _) hy_X8_recorded 0 8 (C := RX8) (T := TX8) (N := 12) rfl rfl rfl gX8_loud_X8_recorded rfl rfl ⟨by decide, by decide⟩ rfl hl rfl rfl (Nat.le_of_ble_eq_true rfl) dX8_loud_42 ⟨Nat.zero_le _, Nat.zero_le _⟩) (fun t42 v42 H locs hr hW => ?_)
      cases hr
      exact z_iret X hW rfl dX8_loud_45
    · refine lv_bipush (v := (-2)) X.1 X.2.1 dX8_loud_19 (by decide) ?_
      cases hr
      exact z_iret X hW rfl dX8_loud_21
  · refine lv_iconst (v := (-1)) X.1 X.2.1 dX8_loud_7 (by decide) ?_
    cases hr
    exact z_iret X hW rfl dX8_loud_8
abbrev rm_X8_pay : Room := { frames := 3, cells := 0, slots := 0, locals := 68 }
theorem hy_X8_pay : zY yX8_pay wsX8_pay cX8_pay 2 (some .int) 1 := ⟨⟨_, rfl⟩, by decide, by decide, by decide +kernel⟩
def d_X8_pay (v : zHV) (p1 : Int32) : Option (Int32 × zHV) :=
zup (d_X8_putAside v) (fun u => u) fun v1 =>
zup2 (d_X8_doPay v1 p1) (fun u => u) fun t7 v7 =>
zup2 (d_X8_recorded v7 t7) (fun u => u) fun t10 v10 =>
some (t10, v10)
set_option maxHeartbeats 4000000 in
set_option maxRecDepth 100000 in
theorem c_X8_pay (l : Launch) (E : zE) (a : Nat → Nat) (v : zHV) (p1 : Int32) (r : Int32 × zHV) (h : d_X8_pay v p1 = some r) : zMi l E yX8_pay wsX8_pay rm_X8_pay [.ref (a 0), .int p1] (mdW E a v) r.1 (mdW E a r.2) := by
  intro sz
  refine z_entry (Qc := fun A => zQi E A r.1 (mdW E a r.2)) (by decide) rfl (Nat.le_of_ble_eq_true rfl) ?_
  intro p e s m below meth c A X hW ls hl
  have X : zX E wsX8_pay RX8 cX8_pay 2 (some .int) yX8_pay p s m ([.ref (a 0), .int p1] : List Value).toArray meth c A := X
  have hl : lv_has ls 2 [(0, .ref (a 0)), (1, .int p1)] := hl
  have hr : d_X8_pay v p1 = some r := h
  clear h
  unfold d_X8_pay at hr
  refine lv_aload_n X.1 X.2.1 dX8_pay_0 rfl (lv_at hl 0 rfl) ?_
  have hp_1 := (z_all (mdW E a v))
  refine z_callv X hW (fun u => u) hr hp_1 (fun u => (mdW E a u)) (fun v1 => (mdW E a v1)) (fun u => (z_lla (mdW E a u))) (fun u h => z_runV (As := []) (rest := []) X hW hp_1 (c_X8_putAside l E a v u h _) hy_X8_putAside 0 8 (C := RX8) (T := TX8) (N := 12) rfl rfl rfl gX8_pay_X8_putAside rfl rfl ⟨by decide, by decide⟩ rfl hl rfl rfl (Nat.le_of_ble_eq_true rfl) dX8_pay_1 ⟨Nat.zero_le _, Nat.zero_le _⟩) (fun v1 H locs hr hW => ?_)
  refine lv_aload_n X.1 X.2.1 dX8_pay_4 rfl (lv_at hl 0 rfl) ?_
  refine lv_aload_n X.1 X.2.1 dX8_pay_5 rfl (lv_at hl 0 rfl) ?_
  refine lv_iload_n X.1 X.2.1 dX8_pay_6 rfl (lv_at hl 1 rfl) ?_
  have hp_7 := (z_all (mdW E a v1))
  refine z_calli X hW (fun u => u) hr hp_7 (fun u => (mdW E a u)) (fun v7 => (mdW E a v7)) (fun u => (z_lla (mdW E a u))) (fun x u h => z_runV (As := [.int p1]) (rest := [.ref (a 0)]) X hW hp_7 (c_X8_doPay l E a v1 p1 (x, u) h _) hy_X8_doPay 0 8 (C := RX8) (T := TX8) (N := 12) rfl rfl rfl gX8_pay_X8_doPay rfl rfl ⟨by decide, by decide⟩ rfl hl rfl rfl (Nat.le_of_ble_eq_true rfl) dX8_pay_7 ⟨Nat.zero_le _, Nat.zero_le _⟩) (fun t7 v7 H locs hr hW => ?_)
  have hp_10 := (z_all (mdW E a v7))
  refine z_calli X hW (fun u => u) hr hp_10 (fun u => (mdW E a u)) (fun v10 => (mdW E a v10)) (fun u => (z_lla (mdW E a u))) (fun x u h => z_runV (As := [.int t7]) (rest := []) X hW hp_10 (c_X8_recorded l E a v7 t7 (x, u) h _) hy_X8_recorded 0 8 (C := RX8) (T := TX8) (N := 12) rfl rfl rfl gX8_pay_X8_recorded rfl rfl ⟨by decide, by decide⟩ rfl hl rfl rfl (Nat.le_of_ble_eq_true rfl) dX8_pay_10 ⟨Nat.zero_le _, Nat.zero_le _⟩) (fun t10 v10 H locs hr hW => ?_)
  cases hr
  exact z_iret X hW rfl dX8_pay_13
abbrev rm_X8_ends : Room := { frames := 3, cells := 0, slots := 0, locals := 67 }
theorem hy_X8_ends : zY yX8_ends wsX8_ends cX8_ends 2 (some .int) 1 := ⟨⟨_, rfl⟩, by decide, by decide, by decide +kernel⟩
def d_X8_ends (v : zHV) (p1 : Int32) : Option (Int32 × zHV) :=
zup (d_X8_putAside v) (fun u => u) fun v1 =>
zup2 (d_X8_doEnds v1 p1) (fun u => u) fun t7 v7 =>
zup2 (d_X8_recorded v7 t7) (fun u => u) fun t10 v10 =>
some (t10, v10)
set_option maxHeartbeats 4000000 in
set_option maxRecDepth 100000 in
theorem c_X8_ends (l : Launch) (E : zE) (a : Nat → Nat) (v : zHV) (p1 : Int32) (r : Int32 × zHV) (h : d_X8_ends v p1 = some r) : zMi l E yX8_ends wsX8_ends rm_X8_ends [.ref (a 0), .int p1] (mdW E a v) r.1 (mdW E a r.2) := by
  intro sz
  refine z_entry (Qc := fun A => zQi E A r.1 (mdW E a r.2)) (by decide) rfl (Nat.le_of_ble_eq_true rfl) ?_
  intro p e s m below meth c A X hW ls hl
  have X : zX E wsX8_ends RX8 cX8_ends 2 (some .int) yX8_ends p s m ([.ref (a 0), .int p1] : List Value).toArray meth c A := X
  have hl : lv_has ls 2 [(0, .ref (a 0)), (1, .int p1)] := hl
  have hr : d_X8_ends v p1 = some r := h
  clear h
  unfold d_X8_ends at hr
  refine lv_aload_n X.1 X.2.1 dX8_ends_0 rfl (lv_at hl 0 rfl) ?_
  have hp_1 := (z_all (mdW E a v))
  refine z_callv X hW (fun u => u) hr hp_1 (fun u => (mdW E a u)) (fun v1 => (mdW E a v1)) (fun u => (z_lla (mdW E a u))) (fun u h => z_runV (As := []) (rest := []) X hW hp_1 (c_X8_putAside l E a v u h _) hy_X8_putAside 0 8 (C := RX8) (T := TX8) (N := 12) rfl rfl rfl gX8_ends_X8_putAside rfl rfl ⟨by decide, by decide⟩ rfl hl rfl rfl (Nat.le_of_ble_eq_true rfl) dX8_ends_1 ⟨Nat.zero_le _, Nat.zero_le _⟩) (fun v1 H locs hr hW => ?_)
  refine lv_aload_n X.1 X.2.1 dX8_ends_4 rfl (lv_at hl 0 rfl) ?_
  refine lv_aload_n X.1 X.2.1 dX8_ends_5 rfl (lv_at hl 0 rfl) ?_
  refine lv_iload_n X.1 X.2.1 dX8_ends_6 rfl (lv_at hl 1 rfl) ?_
  have hp_7 := (z_all (mdW E a v1))
  refine z_calli X hW (fun u => u) hr hp_7 (fun u => (mdW E a u)) (fun v7 => (mdW E a v7)) (fun u => (z_lla (mdW E a u))) (fun x u h => z_runV (As := [.int p1]) (rest := [.ref (a 0)]) X hW hp_7 (c_X8_doEnds l E a v1 p1 (x, u) h _) hy_X8_doEnds 0 8 (C := RX8) (T := TX8) (N := 12) rfl rfl rfl gX8_ends_X8_doEnds rfl rfl ⟨by decide, by decide⟩ rfl hl rfl rfl (Nat.le_of_ble_eq_true rfl) dX8_ends_7 ⟨Nat.zero_le _, Nat.zero_le _⟩) (fun t7 v7 H locs hr hW => ?_)
  have hp_10 := (z_all (mdW E a v7))
  refine z_calli X hW (fun u => u) hr hp_10 (fun u => (mdW E a u)) (fun v10 => (mdW E a v10)) (fun u => (z_lla (mdW E a u))) (fun x u h => z_runV (As := [.int t7]) (rest := []) X hW hp_10 (c_X8_recorded l E a v7 t7 (x, u) h _) hy_X8_recorded 0 8 (C := RX8) (T := TX8) (N := 12) rfl rfl rfl gX8_ends_X8_recorded rfl rfl ⟨by decide, by decide⟩ rfl hl rfl rfl (Nat.le_of_ble_eq_true rfl) dX8_ends_10 ⟨Nat.zero_le _, Nat.zero_le _⟩) (fun t10 v10 H locs hr hW => ?_)
  cases hr
  exact z_iret X hW rfl dX8_ends_13
abbrev rm_X8_clap : Room := { frames := 3, cells := 0, slots := 0, locals := 66 }
theorem hy_X8_clap : zY yX8_clap wsX8_clap cX8_clap 2 (some .int) 1 := ⟨⟨_, rfl⟩, by decide, by decide, by decide +kernel⟩
def d_X8_clap (v : zHV) (p1 : Int32) : Option (Int32 × zHV) :=
zup (d_X8_putAside v) (fun u => u) fun v1 =>
zup2 (d_X8_doClap v1 p1) (fun u => u) fun t7 v7 =>
zup2 (d_X8_recorded v7 t7) (fun u => u) fun t10 v10 =>
some (t10, v10)
set_option maxHeartbeats 4000000 in
set_option maxRecDepth 100000 in
theorem c_X8_clap (l : Launch) (E : zE) (a : Nat → Nat) (v : zHV) (p1 : Int32) (r : Int32 × zHV) (h : d_X8_clap v p1 = some r) : zMi l E yX8_clap wsX8_clap rm_X8_clap [.ref (a 0), .int p1] (mdW E a v) r.1 (mdW E a r.2) := by
  intro sz
  refine z_entry (Qc := fun A => zQi E A r.1 (mdW E a r.2)) (by decide) rfl (Nat.le_of_ble_eq_true rfl) ?_
  intro p e s m below meth c A X hW ls hl
  have X : zX E wsX8_clap RX8 cX8_clap 2 (some .int) yX8_clap p s m ([.ref (a 0), .int p1] : List Value).toArray meth c A := X
  have hl : lv_has ls 2 [(0, .ref (a 0)), (1, .int p1)] := hl
  have hr : d_X8_clap v p1 = some r := h
  clear h
  unfold d_X8_clap at hr
  refine lv_aload_n X.1 X.2.1 dX8_clap_0 rfl (lv_at hl 0 rfl) ?_
  have hp_1 := (z_all (mdW E a v))
  refine z_callv X hW (fun u => u) hr hp_1 (fun u => (mdW E a u)) (fun v1 => (mdW E a v1)) (fun u => (z_lla (mdW E a u))) (fun u h => z_runV (As := []) (rest := []) X hW hp_1 (c_X8_putAside l E a v u h _) hy_X8_putAside 0 8 (C := RX8) (T := TX8) (N := 12) rfl rfl rfl gX8_clap_X8_putAside rfl rfl ⟨by decide, by decide⟩ rfl hl rfl rfl (Nat.le_of_ble_eq_true rfl) dX8_clap_1 ⟨Nat.zero_le _, Nat.zero_le _⟩) (fun v1 H locs hr hW => ?_)
  refine lv_aload_n X.1 X.2.1 dX8_clap_4 rfl (lv_at hl 0 rfl) ?_
  refine lv_aload_n X.1 X.2.1 dX8_clap_5 rfl (lv_at hl 0 rfl) ?_
  refine lv_iload_n X.1 X.2.1 dX8_clap_6 rfl (lv_at hl 1 rfl) ?_
  have hp_7 := (z_all (mdW E a v1))
  refine z_calli X hW (fun u => u) hr hp_7 (fun u => (mdW E a u)) (fun v7 => (mdW E a v7)) (fun u => (z_lla (mdW E a u))) (fun x u h => z_runV (As := [.int p1]) (rest := [.ref (a 0)]) X hW hp_7 (c_X8_doClap l E a v1 p1 (x, u) h _) hy_X8_doClap 0 8 (C := RX8) (T := TX8) (N := 12) rfl rfl rfl gX8_clap_X8_doClap rfl rfl ⟨by decide, by decide⟩ rfl hl rfl rfl (Nat.le_of_ble_eq_true rfl) dX8_clap_7 ⟨Nat.zero_le _, Nat.zero_le _⟩) (fun t7 v7 H locs hr hW => ?_)
  have hp_10 := (z_all (mdW E a v7))
  refine z_calli X hW (fun u => u) hr hp_10 (fun u => (mdW E a u)) (fun v10 => (mdW E a v10)) (fun u => (z_lla (mdW E a u))) (fun x u h => z_runV (As := [.int t7]) (rest := []) X hW hp_10 (c_X8_recorded l E a v7 t7 (x, u) h _) hy_X8_recorded 0 8 (C := RX8) (T := TX8) (N := 12) rfl rfl rfl gX8_clap_X8_recorded rfl rfl ⟨by decide, by decide⟩ rfl hl rfl rfl (Nat.le_of_ble_eq_true rfl) dX8_clap_10 ⟨Nat.zero_le _, Nat.zero_le _⟩) (fun t10 v10 H locs hr hW => ?_)
  cases hr
  exact z_iret X hW rfl dX8_clap_13
abbrev rm_X8_pass : Room := { frames := 3, cells := 0, slots := 0, locals := 65 }
theorem hy_X8_pass : zY yX8_pass wsX8_pass cX8_pass 2 (some .int) 1 := ⟨⟨_, rfl⟩, by decide, by decide, by decide +kernel⟩
def d_X8_pass (v : zHV) (p1 : Int32) : Option (Int32 × zHV) :=
zup (d_X8_putAside v) (fun u => u) fun v1 =>
zup2 (d_X8_doPass v1 p1) (fun u => u) fun t7 v7 =>
zup2 (d_X8_recorded v7 t7) (fun u => u) fun t10 v10 =>
some (t10, v10)
set_option maxHeartbeats 4000000 in
set_option maxRecDepth 100000 in
theorem c_X8_pass (l : Launch) (E : zE) (a : Nat → Nat) (v : zHV) (p1 : Int32) (r : Int32 × zHV) (h : d_X8_pass v p1 = some r) : zMi l E yX8_pass wsX8_pass rm_X8_pass [.ref (a 0), .int p1] (mdW E a v) r.1 (mdW E a r.2) := by
  intro sz
  refine z_entry (Qc := fun A => zQi E A r.1 (mdW E a r.2)) (by decide) rfl (Nat.le_of_ble_eq_true rfl) ?_
  intro p e s m below meth c A X hW ls hl
  have X : zX E wsX8_pass RX8 cX8_pass 2 (some .int) yX8_pass p s m ([.ref (a 0), .int p1] : List Value).toArray meth c A := X
  have hl : lv_has ls 2 [(0, .ref (a 0)), (1, .int p1)] := hl
  have hr : d_X8_pass v p1 = some r := h
  clear h
  unfold d_X8_pass at hr
  refine lv_aload_n X.1 X.2.1 dX8_pass_0 rfl (lv_at hl 0 rfl) ?_
  have hp_1 := (z_all (mdW E a v))
  refine z_callv X hW (fun u => u) hr hp_1 (fun u => (mdW E a u)) (fun v1 => (mdW E a v1)) (fun u => (z_lla (mdW E a u))) (fun u h => z_runV (As := []) (rest := []) X hW hp_1 (c_X8_putAside l E a v u h _) hy_X8_putAside 0 8 (C := RX8) (T := TX8) (N := 12) rfl rfl rfl gX8_pass_X8_putAside rfl rfl ⟨by decide, by decide⟩ rfl hl rfl rfl (Nat.le_of_ble_eq_true rfl) dX8_pass_1 ⟨Nat.zero_le _, Nat.zero_le _⟩) (fun v1 H locs hr hW => ?_)
  refine lv_aload_n X.1 X.2.1 dX8_pass_4 rfl (lv_at hl 0 rfl) ?_
  refine lv_aload_n X.1 X.2.1 dX8_pass_5 rfl (lv_at hl 0 rfl) ?_
  refine lv_iload_n X.1 X.2.1 dX8_pass_6 rfl (lv_at hl 1 rfl) ?_
  have hp_7 := (z_all (mdW E a v1))
  refine z_calli X hW (fun u => u) hr hp_7 (fun u => (mdW E a u)) (fun v7 => (mdW E a v7)) (fun u => (z_lla (mdW E a u))) (fun x u h => z_runV (As := [.int p1]) (rest := [.ref (a 0)]) X hW hp_7 (c_X8_doPass l E a v1 p1 (x, u) h _) hy_X8_doPass 0 8 (C := RX8) (T := TX8) (N := 12) rfl rfl rfl gX8_pass_X8_doPass rfl rfl ⟨by decide, by decide⟩ rfl hl rfl rfl (Nat.le_of_ble_eq_true rfl) dX8_pass_7 ⟨Nat.zero_le _, Nat.zero_le _⟩) (fun t7 v7 H locs hr hW => ?_)
  have hp_10 := (z_all (mdW E a v7))
  refine z_calli X hW (fun u => u) hr hp_10 (fun u => (mdW E a u)) (fun v10 => (mdW E a v10)) (fun u => (z_lla (mdW E a u))) (fun x u h => z_runV (As := [.int t7]) (rest := []) X hW hp_10 (c_X8_recorded l E a v7 t7 (x, u) h _) hy_X8_recorded 0 8 (C := RX8) (T := TX8) (N := 12) rfl rfl rfl gX8_pass_X8_recorded rfl rfl ⟨by decide, by decide⟩ rfl hl rfl rfl (Nat.le_of_ble_eq_true rfl) dX8_pass_10 ⟨Nat.zero_le _, Nat.zero_le _⟩) (fun t10 v10 H locs hr hW => ?_)
  cases hr
  exact z_iret X hW rfl dX8_pass_13
abbrev rm_X8_play : Room := { frames := 3, cells := 0, slots := 0, locals := 69 }
theorem hy_X8_play : zY yX8_play wsX8_play cX8_play 2 (some .int) 1 := ⟨⟨_, rfl⟩, by decide, by decide, by decide +kernel⟩
def d_X8_play (v : zHV) (p1 : Int32) : Option (Int32 × zHV) :=
zup (d_X8_putAside v) (fun u => u) fun v1 =>
zup2 (d_X8_doPlay v1 p1) (fun u => u) fun t7 v7 =>
zup2 (d_X8_recorded v7 t7) (fun u => u) fun t10 v10 =>
some (t10, v10)
set_option maxHeartbeats 4000000 in
set_option maxRecDepth 100000 in
theorem c_X8_play (l : Launch) (E : zE) (a : Nat → Nat) (v : zHV) (p1 : Int32) (r : Int32 × zHV) (h : d_X8_play v p1 = some r) : zMi l E yX8_play wsX8_play rm_X8_play [.ref (a 0), .int p1] (mdW E a v) r.1 (mdW E a r.2) := by
  intro sz
  refine z_entry (Qc := fun A => zQi E A r.1 (mdW E a r.2)) (by decide) rfl (Nat.le_of_ble_eq_true rfl) ?_
  intro p e s m below meth c A X hW ls hl
  have X : zX E wsX8_play RX8 cX8_play 2 (some .int) yX8_play p s m ([.ref (a 0), .int p1] : List Value).toArray meth c A := X
  have hl : lv_has ls 2 [(0, .ref (a 0)), (1, .int p1)] := hl
  have hr : d_X8_play v p1 = some r := h
  clear h
  unfold d_X8_play at hr
  refine lv_aload_n X.1 X.2.1 dX8_play_0 rfl (lv_at hl 0 rfl) ?_
  have hp_1 := (z_all (mdW E a v))
  refine z_callv X hW (fun u => u) hr hp_1 (fun u => (mdW E a u)) (fun v1 => (mdW E a v1)) (fun u => (z_lla (mdW E a u))) (fun u h => z_runV (As := []) (rest := []) X hW hp_1 (c_X8_putAside l E a v u h _) hy_X8_putAside 0 8 (C := RX8) (T := TX8) (N := 12) rfl rfl rfl gX8_play_X8_putAside rfl rfl ⟨by decide, by decide⟩ rfl hl rfl rfl (Nat.le_of_ble_eq_true rfl) dX8_play_1 ⟨Nat.zero_le _, Nat.zero_le _⟩) (fun v1 H locs hr hW => ?_)
  refine lv_aload_n X.1 X.2.1 dX8_play_4 rfl (lv_at hl 0 rfl) ?_
  refine lv_aload_n X.1 X.2.1 dX8_play_5 rfl (lv_at hl 0 rfl) ?_
  refine lv_iload_n X.1 X.2.1 dX8_play_6 rfl (lv_at hl 1 rfl) ?_
  have hp_7 := (z_all (mdW E a v1))
  refine z_calli X hW (fun u => u) hr hp_7 (fun u => (mdW E a u)) (fun v7 => (mdW E a v7)) (fun u => (z_lla (mdW E a u))) (fun x u h => z_runV (As := [.int p1]) (rest := [.ref (a 0)]) X hW hp_7 (c_X8_doPlay l E a v1 p1 (x, u) h _) hy_X8_doPlay 0 8 (C := RX8) (T := TX8) (N := 12) rfl rfl rfl gX8_play_X8_doPlay rfl rfl ⟨by decide, by decide⟩ rfl hl rfl rfl (Nat.le_of_ble_eq_true rfl) dX8_play_7 ⟨Nat.zero_le _, Nat.zero_le _⟩) (fun t7 v7 H locs hr hW => ?_)
  have hp_10 := (z_all (mdW E a v7))
  refine z_calli X hW (fun u => u) hr hp_10 (fun u => (mdW E a u)) (fun v10 => (mdW E a v10)) (fun u => (z_lla (mdW E a u))) (fun x u h => z_runV (As := [.int t7]) (rest := []) X hW hp_10 (c_X8_recorded l E a v7 t7 (x, u) h _) hy_X8_recorded 0 8 (C := RX8) (T := TX8) (N := 12) rfl rfl rfl gX8_play_X8_recorded rfl rfl ⟨by decide, by decide⟩ rfl hl rfl rfl (Nat.le_of_ble_eq_true rfl) dX8_play_10 ⟨Nat.zero_le _, Nat.zero_le _⟩) (fun t10 v10 H locs hr hW => ?_)
  cases hr
  exact z_iret X hW rfl dX8_play_13
abbrev rm_X8_call : Room := { frames := 2, cells := 0, slots := 0, locals := 42 }
theorem hy_X8_call : zY yX8_call wsX8_call cX8_call 1 (some .int) 0 := ⟨⟨_, rfl⟩, by decide, by decide, by decide +kernel⟩
def d_X8_call (v : zHV) : Option (Int32 × zHV) :=
zup (d_X8_putAside v) (fun u => u) fun v1 =>
zup2 (d_X8_doCall v1) (fun u => u) fun t6 v6 =>
zup2 (d_X8_recorded v6 t6) (fun u => u) fun t9 v9 =>
some (t9, v9)
set_option maxHeartbeats 4000000 in
set_option maxRecDepth 100000 in
theorem c_X8_call (l : Launch) (E : zE) (a : Nat → Nat) (v : zHV) (r : Int32 × zHV) (h : d_X8_call v = some r) : zMi l E yX8_call wsX8_call rm_X8_call [.ref (a 0)] (mdW E a v) r.1 (mdW E a r.2) := by
  intro sz
  refine z_entry (Qc := fun A => zQi E A r.1 (mdW E a r.2)) (by decide) rfl (Nat.le_of_ble_eq_true rfl) ?_
  intro p e s m below meth c A X hW ls hl
  have X : zX E wsX8_call RX8 cX8_call 1 (some .int) yX8_call p s m ([.ref (a 0)] : List Value).toArray meth c A := X
  have hl : lv_has ls 1 [(0, .ref (a 0))] := hl
  have hr : d_X8_call v = some r := h
  clear h
  unfold d_X8_call at hr
  refine lv_aload_n X.1 X.2.1 dX8_call_0 rfl (lv_at hl 0 rfl) ?_
  have hp_1 := (z_all (mdW E a v))
  refine z_callv X hW (fun u => u) hr hp_1 (fun u => (mdW E a u)) (fun v1 => (mdW E a v1)) (fun u => (z_lla (mdW E a u))) (fun u h => z_runV (As := []) (rest := []) X hW hp_1 (c_X8_putAside l E a v u h _) hy_X8_putAside 0 8 (C := RX8) (T := TX8) (N := 12) rfl rfl rfl gX8_call_X8_putAside rfl rfl ⟨by decide, by decide⟩ rfl hl rfl rfl (Nat.le_of_ble_eq_true rfl) dX8_call_1 ⟨Nat.zero_le _, Nat.zero_le _⟩) (fun v1 H locs hr hW => ?_)
  refine lv_aload_n X.1 X.2.1 dX8_call_4 rfl (lv_at hl 0 rfl) ?_
  refine lv_aload_n X.1 X.2.1 dX8_call_5 rfl (lv_at hl 0 rfl) ?_
  have hp_6 := (z_all (mdW E a v1))
  refine z_calli X hW (fun u => u) hr hp_6 (fun u => (mdW E a u)) (fun v6 => (mdW E a v6)) (fun u => (z_lla (mdW E a u))) (fun x u h => z_runV (As := []) (rest := [.ref (a 0)]) X hW hp_6 (c_X8_doCall l E a v1 (x, u) h _) hy_X8_doCall 0 8 (C := RX8) (T := TX8) (N := 12) rfl rfl rfl gX8_call_X8_doCall rfl rfl ⟨by decide, by decide⟩ rfl hl rfl rfl (Nat.le_of_ble_eq_true rfl) dX8_call_6 ⟨Nat.zero_le _, Nat.zero_le _⟩) (fun t6 v6 H locs hr hW => ?_)
  have hp_9 := (z_all (mdW E a v6))
  refine z_calli X hW (fun u => u) hr hp_9 (fun u => (mdW E a u)) (fun v9 => (mdW E a v9)) (fun u => (z_lla (mdW E a u))) (fun x u h => z_runV (As := [.int t6]) (rest := []) X hW hp_9 (c_X8_recorded l E a v6 t6 (x, u) h _) hy_X8_recorded 0 8 (C := RX8) (T := TX8) (N := 12) rfl rfl rfl gX8_call_X8_recorded rfl rfl ⟨by decide, by decide⟩ rfl hl rfl rfl (Nat.le_of_ble_eq_true rfl) dX8_call_9 ⟨Nat.zero_le _, Nat.zero_le _⟩) (fun t9 v9 H locs hr hW => ?_)
  cases hr
  exact z_iret X hW rfl dX8_call_12
abbrev rm_X8_night : Room := { frames := 2, cells := 0, slots := 0, locals := 45 }
theorem hy_X8_night : zY yX8_night wsX8_night cX8_night 1 (some .int) 0 := ⟨⟨_, rfl⟩, by decide, by decide, by decide +kernel⟩
def d_X8_night (v : zHV) : Option (Int32 × zHV) :=
zup (d_X8_putAside v) (fun u => u) fun v1 =>
zup2 (d_X8_doNight v1) (fun u => u) fun t6 v6 =>
zup2 (d_X8_recorded v6 t6) (fun u => u) fun t9 v9 =>
some (t9, v9)
set_option maxHeartbeats 4000000 in
set_option maxRecDepth 100000 in
theorem c_X8_night (l : Launch) (E : zE) (a : Nat → Nat) (v : zHV) (r : Int32 × zHV) (h : d_X8_night v = some r) : zMi l E yX8_night wsX8_night rm_X8_night [.ref (a 0)] (mdW E a v) r.1 (mdW E a r.2) := by
  intro sz
  refine z_entry (Qc := fun A => zQi E A r.1 (mdW E a r.2)) (by decide) rfl (Nat.le_of_ble_eq_true rfl) ?_
  intro p e s m below meth c A X hW ls hl
  have X : zX E wsX8_night RX8 cX8_night 1 (some .int) yX8_night p s m ([.ref (a 0)] : List Value).toArray meth c A := X
  have hl : lv_has ls 1 [(0, .ref (a 0))] := hl
  have hr : d_X8_night v = some r := h
  clear h
  unfold d_X8_night at hr
  refine lv_aload_n X.1 X.2.1 dX8_night_0 rfl (lv_at hl 0 rfl) ?_
  have hp_1 := (z_all (mdW E a v))
  refine z_callv X hW (fun u => u) hr hp_1 (fun u => (mdW E a u)) (fun v1 => (mdW E a v1)) (fun u => (z_lla (mdW E a u))) (fun u h => z_runV (As := []) (rest := []) X hW hp_1 (c_X8_putAside l E a v u h _) hy_X8_putAside 0 8 (C := RX8) (T := TX8) (N := 12) rfl rfl rfl gX8_night_X8_putAside rfl rfl ⟨by decide, by decide⟩ rfl hl rfl rfl (Nat.le_of_ble_eq_true rfl) dX8_night_1 ⟨Nat.zero_le _, Nat.zero_le _⟩) (fun v1 H locs hr hW => ?_)
  refine lv_aload_n X.1 X.2.1 dX8_night_4 rfl (lv_at hl 0 rfl) ?_
  refine lv_aload_n X.1 X.2.1 dX8_night_5 rfl (lv_at hl 0 rfl) ?_
  have hp_6 := (z_all (mdW E a v1))
  refine z_calli X hW (fun u => u) hr hp_6 (fun u => (mdW E a u)) (fun v6 => (mdW E a v6)) (fun u => (z_lla (mdW E a u))) (fun x u h => z_runV (As := []) (rest := [.ref (a 0)]) X hW hp_6 (c_X8_doNight l E a v1 (x, u) h _) hy_X8_doNight 0 8 (C := RX8) (T := TX8) (N := 12) rfl rfl rfl gX8_night_X8_doNight rfl rfl ⟨by decide, by decide⟩ rfl hl rfl rfl (Nat.le_of_ble_eq_true rfl) dX8_night_6 ⟨Nat.zero_le _, Nat.zero_le _⟩) (fun t6 v6 H locs hr hW => ?_)
  have hp_9 := (z_all (mdW E a v6))
  refine z_calli X hW (fun u => u) hr hp_9 (fun u => (mdW E a u)) (fun v9 => (mdW E a v9)) (fun u => (z_lla (mdW E a u))) (fun x u h => z_runV (As := [.int t6]) (rest := []) X hW hp_9 (c_X8_recorded l E a v6 t6 (x, u) h _) hy_X8_recorded 0 8 (C := RX8) (T := TX8) (N := 12) rfl rfl rfl gX8_night_X8_recorded rfl rfl ⟨by decide, by decide⟩ rfl hl rfl rfl (Nat.le_of_ble_eq_true rfl) dX8_night_9 ⟨Nat.zero_le _, Nat.zero_le _⟩) (fun t9 v9 H locs hr hW => ?_)
  cases hr
  exact z_iret X hW rfl dX8_night_12
abbrev rm_X8_writeSign : Room := { frames := 0, cells := 0, slots := 0, locals := 0 }
theorem hy_X8_writeSign : zY yX8_writeSign wsX8_writeSign cX8_writeSign 2 none 1 := ⟨⟨_, rfl⟩, by decide, by decide, by decide +kernel⟩
def d_X8_writeSign (v : zHV) (p1 : Int32) : Option (zHV) :=
zsv 80 v 5 (v 6 1) p1 fun v9 =>
zlet ((v9 6 1) + 1) fun t16 =>
zlet (zs v9 6 1 t16) fun v17 =>
some v17
set_option maxHeartbeats 4000000 in
set_option maxRecDepth 100000 in
theorem c_X8_writeSign (l : Launch) (E : zE) (a : Nat → Nat) (v : zHV) (p1 : Int32) (r : zHV) (h : d_X8_writeSign v p1 = some r) : zMv l E yX8_writeSign wsX8_writeSign rm_X8_writeSign [.ref (a 0), .int p1] (mdW E a v) (mdW E a r) := by
  intro sz
  refine z_entry (Qc := fun A => zQv E A (mdW E a r)) (by decide) rfl (Nat.le_of_ble_eq_true rfl) ?_
  intro p e s m below meth c A X hW ls hl
  have X : zX E wsX8_writeSign RX8 cX8_writeSign 2 none yX8_writeSign p s m ([.ref (a 0), .int p1] : List Value).toArray meth c A := X
  have hl : lv_has ls 2 [(0, .ref (a 0)), (1, .int p1)] := hl
  have hr : d_X8_writeSign v p1 = some r := h
  clear h
  have q_0 : Cond.fieldLink RX8 25 "ApplauseTalliesModel" "pad" "[I" ∈ wsX8_writeSign := List.mem_of_getElem? (i := 1) rfl
  have hn_X8 : ∀ x ∈ wsX80, x ∈ wsX8_writeSign := zz_in [3, 4, 5, 6, 7, 8, 9, 10, 11, 12, 13, 14] (by decide +kernel)
  have q_2 : Cond.fieldLink RX8 131 "ApplauseTalliesModel" "length" "I" ∈ wsX8_writeSign := List.mem_of_getElem? (i := 2) rfl
  unfold d_X8_writeSign at hr
  refine lv_aload_n X.1 X.2.1 dX8_writeSign_0 rfl (lv_at hl 0 rfl) ?_
  refine z_get X hW 0 8 6 (C := RX8) (T := TX8) (N := 12) rfl rfl hn_X8 (by decide) q_0 rfl dX8_writeSign_1 ?_
  refine lv_aload_n X.1 X.2.1 dX8_writeSign_4 rfl (lv_at hl 0 rfl) ?_
  refine z_get X hW 0 8 7 (C := RX8) (T := TX8) (N := 12) rfl rfl hn_X8 (by decide) q_2 rfl dX8_writeSign_5 ?_
  refine lv_iload_n X.1 X.2.1 dX8_writeSign_8 rfl (lv_at hl 1 rfl) ?_
  refine z_asv X hW 6 hr (fun v9 => (mdW E a v9)) rfl rfl dX8_writeSign_9 (fun v9 H locs hr hW => ?_)
  refine lv_aload_n X.1 X.2.1 dX8_writeSign_10 rfl (lv_at hl 0 rfl) ?_
  refine lv_dup X.1 X.2.1 dX8_writeSign_11 rfl ?_
  refine z_get X hW 0 8 7 (C := RX8) (T := TX8) (N := 12) rfl rfl hn_X8 (by decide) q_2 rfl dX8_writeSign_12 ?_
  refine lv_iconst (v := 1) X.1 X.2.1 dX8_writeSign_15 (by decide) ?_
  refine z_iadd X hr dX8_writeSign_16 (fun t16 hr => ?_)
  refine z_put X hW hr (fun v17 => (mdW E a v17)) tyX8 tyX8_ok nmX8 0 8 7 (C := RX8) (T := TX8) (N := 12) rfl rfl hn_X8 (by decide) q_2 rfl rfl rfl (Nat.le_of_ble_eq_true rfl) rfl dX8_writeSign_17 (fun v17 H locs hr hW => ?_)
  cases hr
  exact z_vret X hW dX8_writeSign_20
abbrev rm_X8_writeNumber : Room := { frames := 1, cells := 0, slots := 0, locals := 21 }
theorem hy_X8_writeNumber : zY yX8_writeNumber wsX8_writeNumber cX8_writeNumber 3 none 1 := ⟨⟨_, rfl⟩, by decide, by decide, by decide +kernel⟩
def lpB_X8_writeNumber_18 (p1 : Int32)  (k_18 : Int32 → zHV → Option (zHV)) (x2 : Int32) (v : zHV) : Option (zHV) :=
(if x2 ≤ 0 then
some v
else
zdv p1 x2 fun t27 =>
zrm t27 10 fun t30 =>
zlet (48 + t30) fun t31 =>
zup (d_X8_writeSign v t31) (fun u => u) fun v32 =>
zdv x2 10 fun t38 =>
k_18 t38 v32)
def lp_X8_writeNumber_18 (p1 : Int32)  : Nat → Int32 → zHV → Option (zHV)
  | 0 => fun _ _ => none
  | n_ + 1 => lpB_X8_writeNumber_18 p1  (lp_X8_writeNumber_18 p1  n_)
def lpB_X8_writeNumber_2 (p1 : Int32)  (k_2 : Int32 → zHV → Option (zHV)) (x2 : Int32) (v : zHV) : Option (zHV) :=
zdv p1 x2 fun t4 =>
(if t4 ≤ 9 then
lp_X8_writeNumber_18 p1  zF x2 v
else
zlet (x2 * 10) fun t13 =>
k_2 t13 v)
def lp_X8_writeNumber_2 (p1 : Int32)  : Nat → Int32 → zHV → Option (zHV)
  | 0 => fun _ _ => none
  | n_ + 1 => lpB_X8_writeNumber_2 p1  (lp_X8_writeNumber_2 p1  n_)
def d_X8_writeNumber (v : zHV) (p1 : Int32) : Option (zHV) :=
lp_X8_writeNumber_2 p1  zF 1 v
set_option maxHeartbeats 4000000 in
set_option maxRecDepth 100000 in
theorem c_X8_writeNumber (l : Launch) (E : zE) (a : Nat → Nat) (v : zHV) (p1 : Int32) (r : zHV) (h : d_X8_writeNumber v p1 = some r) : zMv l E yX8_writeNumber wsX8_writeNumber rm_X8_writeNumber [.ref (a 0), .int p1] (mdW E a v) (mdW E a r) := by
  intro sz
  refine z_entry (Qc := fun A => zQv E A (mdW E a r)) (by decide) rfl (Nat.le_of_ble_eq_true rfl) ?_
  intro p e s m below meth c A X hW ls hl
  have X : zX E wsX8_writeNumber RX8 cX8_writeNumber 3 none yX8_writeNumber p s m ([.ref (a 0), .int p1] : List Value).toArray meth c A := X
  have hl : lv_has ls 3 [(0, .ref (a 0)), (1, .int p1)] := hl
  have hr : d_X8_writeNumber v p1 = some r := h
  clear h
  unfold d_X8_writeNumber at hr
  refine lv_iconst (v := 1) X.1 X.2.1 dX8_writeNumber_0 (by decide) ?_
  refine lv_istore_n (lv' := [(2, .int 1), (0, .ref (a 0)), (1, .int p1)]) X.1 X.2.1 dX8_writeNumber_1 rfl hl (by decide) rfl (fun ls hl => ?_)
  have L_2 : ∀ (n_2 : Nat), ∀ (x2 : Int32) (v : zHV) (H : Heap) (locs : List Loc) (ls : Array Slot), lp_X8_writeNumber_2 p1  n_2 x2 v = some r → zW E A s (mdW E a v) H locs → lv_has ls 3 [(0, .ref (a 0)), (1, .int p1), (2, .int x2)] → W p l e rm_X8_writeNumber s m ([.ref (a 0), .int p1] : List Value).toArray below meth c H locs 0 0 (MQ below (zQv E A (mdW E a r)) ([.ref (a 0), .int p1] : List Value).toArray s 0 0 A) (F0 m 2 ls []) := by
    intro n_2
    induction n_2 with
    | zero => exact fun x2 v H locs ls hr hW hl => absurd (show (none : Option (zHV)) = some r from hr) (fun h => by cases h)
    | succ n_2 ih_2 =>
      intro x2 v H locs ls hr hW hl
      have hr : lpB_X8_writeNumber_2 p1  (lp_X8_writeNumber_2 p1  n_2) x2 v = some r := hr
      unfold lpB_X8_writeNumber_2 at hr
      refine lv_iload_n X.1 X.2.1 dX8_writeNumber_2 rfl (lv_at hl 1 rfl) ?_
      refine lv_iload_n X.1 X.2.1 dX8_writeNumber_3 rfl (lv_at hl 2 rfl) ?_
      refine z_idiv X hr dX8_writeNumber_4 (fun t4 hr => ?_)
      refine lv_bipush (v := 9) X.1 X.2.1 dX8_writeNumber_5 (by decide) ?_
      refine z_cmple X 18 hr dX8_writeNumber_7 (by decide) (fun hr => ?_) (fun hr => ?_)
      · have L_18 : ∀ (n_18 : Nat), ∀ (x2 : Int32) (v : zHV) (H : Heap) (locs : List Loc) (ls : Array Slot), lp_X8_writeNumber_18 p1  n_18 x2 v = some r → zW E A s (mdW E a v) H locs → lv_has ls 3 [(0, .ref (a 0)), (1, .int p1), (2, .int x2)] → W p l e rm_X8_writeNumber s m ([.ref (a 0), .int p1] : List Value).toArray below meth c H locs 0 0 (MQ below (zQv E A (mdW E a r)) ([.ref (a 0), .int p1] : List Value).toArray s 0 0 A) (F0 m 18 ls []) := by
          intro n_18
          induction n_18 with
          | zero => exact fun x2 v H locs ls hr hW hl => absurd (show (none : Option (zHV)) = some r from hr) (fun h => by cases h)
          | succ n_18 ih_18 =>
            intro x2 v H locs ls hr hW hl
            have hr : lpB_X8_writeNumber_18 p1  (lp_X8_writeNumber_18 p1  n_18) x2 v = some r := hr
            unfold lpB_X8_writeNumber_18 at hr
            refine lv_iload_n X.1 X.2.1 dX8_writeNumber_18 rfl (lv_at hl 2 rfl) ?_
            refine z_ifle X 43 hr dX8_writeNumber_19 (by decide) (fun hr => ?_) (fun hr => ?_)
            · cases hr
              exact z_vret X hW dX8_writeNumber_43
            · refine lv_aload_n X.1 X.2.1 dX8_writeNumber_22 rfl (lv_at hl 0 rfl) ?_
              refine lv_bipush (v := 48) X.1 X.2.1 dX8_writeNumber_23 (by decide) ?_
              refine lv_iload_n X.1 X.2.1 dX8_writeNumber_25 rfl (lv_at hl 1 rfl) ?_
              refine lv_iload_n X.1 X.2.1 dX8_writeNumber_26 rfl (lv_at hl 2 rfl) ?_
              refine z_idiv X hr dX8_writeNumber_27 (fun t27 hr => ?_)
              refine lv_bipush (v := 10) X.1 X.2.1 dX8_writeNumber_28 (by decide) ?_
              refine z_irem X hr dX8_writeNumber_30 (fun t30 hr => ?_)
              refine z_iadd X hr dX8_writeNumber_31 (fun t31 hr => ?_)
              have hp_32 := (z_all (mdW E a v))
              refine z_callv X hW (fun u => u) hr hp_32 (fun u => (mdW E a u)) (fun v32 => (mdW E a v32)) (fun u => (z_lla (mdW E a u))) (fun u h => z_runV (As := [.int t31]) (rest := []) X hW hp_32 (c_X8_writeSign l E a v t31 u h _) hy_X8_writeSign 0 8 (C := RX8) (T := TX8) (N := 12) rfl rfl rfl gX8_writeNumber_X8_writeSign rfl rfl ⟨by decide, by decide⟩ rfl hl rfl rfl (Nat.le_of_ble_eq_true rfl) dX8_writeNumber_32 ⟨Nat.zero_le _, Nat.zero_le _⟩) (fun v32 H locs hr hW => ?_)
              refine lv_iload_n X.1 X.2.1 dX8_writeNumber_35 rfl (lv_at hl 2 rfl) ?_
              refine lv_bipush (v := 10) X.1 X.2.1 dX8_writeNumber_36 (by decide) ?_
              refine z_idiv X hr dX8_writeNumber_38 (fun t38 hr => ?_)
              refine lv_istore_n (lv' := [(2, .int t38), (0, .ref (a 0)), (1, .int p1)]) X.1 X.2.1 dX8_writeNumber_39 rfl hl (by decide) rfl (fun ls hl => ?_)
              refine lv_goto (tgt := 18) X.1 X.2.1 dX8_writeNumber_40 (by decide) ?_
              exact ih_18 t38 v32 _ _ _ hr hW (lv_sub hl [1, 2, 0] rfl)
        exact L_18 _ x2 v _ _ _ hr hW (lv_sub hl [0, 1, 2] rfl)
      · refine lv_iload_n X.1 X.2.1 dX8_writeNumber_10 rfl (lv_at hl 2 rfl) ?_
        refine lv_bipush (v := 10) X.1 X.2.1 dX8_writeNumber_11 (by decide) ?_
        refine z_imul X hr dX8_writeNumber_13 (fun t13 hr => ?_)
        refine lv_istore_n (lv' := [(2, .int t13), (0, .ref (a 0)), (1, .int p1)]) X.1 X.2.1 dX8_writeNumber_14 rfl hl (by decide) rfl (fun ls hl => ?_)
        refine lv_goto (tgt := 2) X.1 X.2.1 dX8_writeNumber_15 (by decide) ?_
        exact ih_2 t13 v _ _ _ hr hW (lv_sub hl [1, 2, 0] rfl)
  exact L_2 _ 1 v _ _ _ hr hW (lv_sub hl [1, 2, 0] rfl)
abbrev rm_X8_write : Room := { frames := 2, cells := 0, slots := 0, locals := 43 }
theorem hy_X8_write : zY yX8_write wsX8_write cX8_write 2 (some .int) 0 := ⟨⟨_, rfl⟩, by decide, by decide, by decide +kernel⟩
def lpB_X8_write_75   (k_75 : Int32 → zHV → Option (Int32 × zHV)) (x1 : Int32) (v : zHV) : Option (Int32 × zHV) :=
(if 6 ≤ x1 then
some ((v 6 1), v)
else
zcl (d_X8_owes v x1) fun t83 =>
(if t83 ≤ 0 then
zlet (x1 + Int32.ofInt 1) fun x1_115 =>
k_75 x1_115 v
else
zup (d_X8_writeSign v 44) (fun u => u) fun v92 =>
zup (d_X8_writeNumber v92 x1) (fun u => u) fun v97 =>
zup (d_X8_writeSign v97 58) (fun u => u) fun v103 =>
zcl (d_X8_owes v103 x1) fun t109 =>
zup (d_X8_writeNumber v103 t109) (fun u => u) fun v112 =>
zlet (x1 + Int32.ofInt 1) fun x1_115 =>
k_75 x1_115 v112))
def lp_X8_write_75   : Nat → Int32 → zHV → Option (Int32 × zHV)
  | 0 => fun _ _ => none
  | n_ + 1 => lpB_X8_write_75   (lp_X8_write_75   n_)
def d_X8_write (v : zHV) : Option (Int32 × zHV) :=
zlet (zs v 6 1 0) fun v2 =>
zup (d_X8_writeSign v2 99) (fun u => u) fun v8 =>
zld 288 (v8 0) 9 fun t18 =>
zup (d_X8_writeNumber v8 t18) (fun u => u) fun v19 =>
zup (d_X8_writeSign v19 101) (fun u => u) fun v25 =>
zld 288 (v25 0) 10 fun t35 =>
zup (d_X8_writeNumber v25 t35) (fun u => u) fun v36 =>
zup (d_X8_writeSign v36 108) (fun u => u) fun v42 =>
zld 288 (v42 0) 11 fun t52 =>
zup (d_X8_writeNumber v42 t52) (fun u => u) fun v53 =>
zup (d_X8_writeSign v53 107) (fun u => u) fun v59 =>
zld 288 (v59 0) 12 fun t69 =>
zup (d_X8_writeNumber v59 t69) (fun u => u) fun v70 =>
lp_X8_write_75   zF 0 v70
set_option maxHeartbeats 4000000 in
set_option maxRecDepth 100000 in
theorem c_X8_write (l : Launch) (E : zE) (a : Nat → Nat) (v : zHV) (r : Int32 × zHV) (h : d_X8_write v = some r) : zMi l E yX8_write wsX8_write rm_X8_write [.ref (a 0)] (mdW E a v) r.1 (mdW E a r.2) := by
  intro sz
  refine z_entry (Qc := fun A => zQi E A r.1 (mdW E a r.2)) (by decide) rfl (Nat.le_of_ble_eq_true rfl) ?_
  intro p e s m below meth c A X hW ls hl
  have X : zX E wsX8_write RX8 cX8_write 2 (some .int) yX8_write p s m ([.ref (a 0)] : List Value).toArray meth c A := X
  have hl : lv_has ls 2 [(0, .ref (a 0))] := hl
  have hr : d_X8_write v = some r := h
  clear h
  have q_0 : Cond.fieldLink RX8 131 "ApplauseTalliesModel" "length" "I" ∈ wsX8_write := List.mem_of_getElem? (i := 1) rfl
  have q_1 : Cond.fieldLink RX8 7 "ApplauseTalliesModel" "state" "[I" ∈ wsX8_write := List.mem_of_getElem? (i := 2) rfl
  have hn_X8 : ∀ x ∈ wsX80, x ∈ wsX8_write := zz_in [17, 18, 19, 20, 21, 22, 23, 24, 25, 26, 27, 28] (by decide +kernel)
  unfold d_X8_write at hr
  refine lv_aload_n X.1 X.2.1 dX8_write_0 rfl (lv_at hl 0 rfl) ?_
  refine lv_iconst (v := 0) X.1 X.2.1 dX8_write_1 (by decide) ?_
  refine z_put X hW hr (fun v2 => (mdW E a v2)) tyX8 tyX8_ok nmX8 0 8 7 (C := RX8) (T := TX8) (N := 12) rfl rfl hn_X8 (by decide) q_0 rfl rfl rfl (Nat.le_of_ble_eq_true rfl) rfl dX8_write_2 (fun v2 H locs hr hW => ?_)
  refine lv_aload_n X.1 X.2.1 dX8_write_5 rfl (lv_at hl 0 rfl) ?_
  refine lv_bipush (v := 99) X.1 X.2.1 dX8_write_6 (by decide) ?_
  have hp_8 := (z_all (mdW E a v2))
  refine z_callv X hW (fun u => u) hr hp_8 (fun u => (mdW E a u)) (fun v8 => (mdW E a v8)) (fun u => (z_lla (mdW E a u))) (fun u h => z_runV (As := [.int 99]) (rest := []) X hW hp_8 (c_X8_writeSign l E a v2 99 u h _) hy_X8_writeSign 0 8 (C := RX8) (T := TX8) (N := 12) rfl rfl rfl gX8_write_X8_writeSign rfl rfl ⟨by decide, by decide⟩ rfl hl rfl rfl (Nat.le_of_ble_eq_true rfl) dX8_write_8 ⟨Nat.zero_le _, Nat.zero_le _⟩) (fun v8 H locs hr hW => ?_)
  refine lv_aload_n X.1 X.2.1 dX8_write_11 rfl (lv_at hl 0 rfl) ?_
  refine lv_aload_n X.1 X.2.1 dX8_write_12 rfl (lv_at hl 0 rfl) ?_
  refine z_get X hW 0 8 0 (C := RX8) (T := TX8) (N := 12) rfl rfl hn_X8 (by decide) q_1 rfl dX8_write_13 ?_
  refine lv_bipush (v := 9) X.1 X.2.1 dX8_write_16 (by decide) ?_
  refine z_ald X hW 1 hr rfl dX8_write_18 (fun t18 hr => ?_)
  have hp_19 := (z_all (mdW E a v8))
  refine z_callv X hW (fun u => u) hr hp_19 (fun u => (mdW E a u)) (fun v19 => (mdW E a v19)) (fun u => (z_lla (mdW E a u))) (fun u h => z_runV (As := [.int t18]) (rest := []) X hW hp_19 (c_X8_writeNumber l E a v8 t18 u h _) hy_X8_writeNumber 0 8 (C := RX8) (T := TX8) (N := 12) rfl rfl rfl gX8_write_X8_writeNumber rfl rfl ⟨by decide, by decide⟩ rfl hl rfl rfl (Nat.le_of_ble_eq_true rfl) dX8_write_19 ⟨Nat.zero_le _, Nat.zero_le _⟩) (fun v19 H locs hr hW => ?_)
  refine lv_aload_n X.1 X.2.1 dX8_write_22 rfl (lv_at hl 0 rfl) ?_
  refine lv_bipush (v := 101) X.1 X.2.1 dX8_write_23 (by decide) ?_
  have hp_25 := (z_all (mdW E a v19))
  refine z_callv X hW (fun u => u) hr hp_25 (fun u => (mdW E a u)) (fun v25 => (mdW E a v25)) (fun u => (z_lla (mdW E a u))) (fun u h => z_runV (As := [.int 101]) (rest := []) X hW hp_25 (c_X8_writeSign l E a v19 101 u h _) hy_X8_writeSign 0 8 (C := RX8) (T := TX8) (N := 12) rfl rfl rfl gX8_write_X8_writeSign rfl rfl ⟨by decide, by decide⟩ rfl hl rfl rfl (Nat.le_of_ble_eq_true rfl) dX8_write_25 ⟨Nat.zero_le _, Nat.zero_le _⟩) (fun v25 H locs hr hW => ?_)
  refine lv_aload_n X.1 X.2.1 dX8_write_28 rfl (lv_at hl 0 rfl) ?_
  refine lv_aload_n X.1 X.2.1 dX8_write_29 rfl (lv_at hl 0 rfl) ?_
  refine z_get X hW 0 8 0 (C := RX8) (T := TX8) (N := 12) rfl rfl hn_X8 (by decide) q_1 rfl dX8_write_30 ?_
  refine lv_bipush (v := 10) X.1 X.2.1 dX8_write_33 (by decide) ?_
  refine z_ald X hW 1 hr rfl dX8_write_35 (fun t35 hr => ?_)
  have hp_36 := (z_all (mdW E a v25))
  refine z_callv X hW (fun u => u) hr hp_36 (fun u => (mdW E a u)) (fun v36 => (mdW E a v36)) (fun u => (z_lla (mdW E a u))) (fun u h => z_runV (As := [.int t35]) (rest := []) X hW hp_36 (c_X8_writeNumber l E a v25 t35 u h _) hy_X8_writeNumber 0 8 (C := RX8) (T := TX8) (N := 12) rfl rfl rfl gX8_write_X8_writeNumber rfl rfl ⟨by decide, by decide⟩ rfl hl rfl rfl (Nat.le_of_ble_eq_true rfl) dX8_write_36 ⟨Nat.zero_le _, Nat.zero_le _⟩) (fun v36 H locs hr hW => ?_)
  refine lv_aload_n X.1 X.2.1 dX8_write_39 rfl (lv_at hl 0 rfl) ?_
  refine lv_bipush (v := 108) X.1 X.2.1 dX8_write_40 (by decide) ?_
  have hp_42 := (z_all (mdW E a v36))
  refine z_callv X hW (fun u => u) hr hp_42 (fun u => (mdW E a u)) (fun v42 => (mdW E a v42)) (fun u => (z_lla (mdW E a u))) (fun u h => z_runV (As := [.int 108]) (rest := []) X hW hp_42 (c_X8_writeSign l E a v36 108 u h _) hy_X8_writeSign 0 8 (C := RX8) (T := TX8) (N := 12) rfl rfl rfl gX8_write_X8_writeSign rfl rfl ⟨by decide, by decide⟩ rfl hl rfl rfl (Nat.le_of_ble_eq_true rfl) dX8_write_42 ⟨Nat.zero_le _, Nat.zero_le _⟩) (fun v42 H locs hr hW => ?_)
  refine lv_aload_n X.1 X.2.1 dX8_write_45 rfl (lv_at hl 0 rfl) ?_
  refine lv_aload_n X.1 X.2.1 dX8_write_46 rfl (lv_at hl 0 rfl) ?_
  refine z_get X hW 0 8 0 (C := RX8) (T := TX8) (N := 12) rfl rfl hn_X8 (by decide) q_1 rfl dX8_write_47 ?_
  refine lv_bipush (v := 11) X.1 X.2.1 dX8_write_50 (by decide) ?_
  refine z_ald X hW 1 hr rfl dX8_write_52 (fun t52 hr => ?_)
  have hp_53 := (z_all (mdW E a v42))
  refine z_callv X hW (fun u => u) hr hp_53 (fun u => (mdW E a u)) (fun v53 => (mdW E a v53)) (fun u => (z_lla (mdW E a u))) (fun u h => z_runV (As := [.int t52]) (rest := []) X hW hp_53 (c_X8_writeNumber l E a v42 t52 u h _) hy_X8_writeNumber 0 8 (C := RX8) (T := TX8) (N := 12) rfl rfl rfl gX8_write_X8_writeNumber rfl rfl ⟨by decide, by decide⟩ rfl hl rfl rfl (Nat.le_of_ble_eq_true rfl) dX8_write_53 ⟨Nat.zero_le _, Nat.zero_le _⟩) (fun v53 H locs hr hW => ?_)
  refine lv_aload_n X.1 X.2.1 dX8_write_56 rfl (lv_at hl 0 rfl) ?_
  refine lv_bipush (v := 107) X.1 X.2.1 dX8_write_57 (by decide) ?_
  have hp_59 := (z_all (mdW E a v53))
  refine z_callv X hW (fun u => u) hr hp_59 (fun u => (mdW E a u)) (fun v59 => (mdW E a v59)) (fun u => (z_lla (mdW E a u))) (fun u h => z_runV (As := [.int 107]) (rest := []) X hW hp_59 (c_X8_writeSign l E a v53 107 u h _) hy_X8_writeSign 0 8 (C := RX8) (T := TX8) (N := 12) rfl rfl rfl gX8_write_X8_writeSign rfl rfl ⟨by decide, by decide⟩ rfl hl rfl rfl (Nat.le_of_ble_eq_true rfl) dX8_write_59 ⟨Nat.zero_le _, Nat.zero_le _⟩) (fun v59 H locs hr hW => ?_)
  refine lv_aload_n X.1 X.2.1 dX8_write_62 rfl (lv_at hl 0 rfl) ?_
  refine lv_aload_n X.1 X.2.1 dX8_write_63 rfl (lv_at hl 0 rfl) ?_
  refine z_get X hW 0 8 0 (C := RX8) (T := TX8) (N := 12) rfl rfl hn_X8 (by decide) q_1 rfl dX8_write_64 ?_
  refine lv_bipush (v := 12) X.1 X.2.1 dX8_write_67 (by decide) ?_
  refine z_ald X hW 1 hr rfl dX8_write_69 (fun t69 hr => ?_)
  have hp_70 := (z_all (mdW E a v59))
  refine z_callv X hW (fun u => u) hr hp_70 (fun u => (mdW E a u)) (fun v70 => (mdW E a v70)) (fun u => (z_lla (mdW E a u))) (fun u h => z_runV (As := [.int t69]) (rest := []) X hW hp_70 (c_X8_writeNumber l E a v59 t69 u h _) hy_X8_writeNumber 0 8 (C := RX8) (T := TX8) (N := 12) rfl rfl rfl gX8_write_X8_writeNumber rfl rfl ⟨by decide, by decide⟩ rfl hl rfl rfl (Nat.le_of_ble_eq_true rfl) dX8_write_70 ⟨Nat.zero_le _, Nat.zero_le _⟩) (fun v70 H locs hr hW => ?_)
  refine lv_iconst (v := 0) X.1 X.2.1 dX8_write_73 (by decide) ?_
  refine lv_istore_n (lv' := [(1, .int 0), (0, .ref (a 0))]) X.1 X.2.1 dX8_write_74 rfl hl (by decide) rfl (fun ls hl => ?_)
  have L_75 : ∀ (n_75 : Nat), ∀ (x1 : Int32) (v : zHV) (H : Heap) (locs : List Loc) (ls : Array Slot), lp_X8_write_75   n_75 x1 v = some r → zW E A s (mdW E a v) H locs → lv_has ls 2 [(0, .ref (a 0)), (1, .int x1)] → W p l e rm_X8_write s m ([.ref (a 0)] : List Value).toArray below meth c H locs 0 0 (MQ below (zQi E A r.1 (mdW E a r.2)) ([.ref (a 0)] : List Value).toArray s 0 0 A) (F0 m 75 ls []) := by
    intro n_75
    induction n_75 with
    | zero => exact fun x1 v H locs ls hr hW hl => absurd (show (none : Option (Int32 × zHV)) = some r from hr) (fun h => by cases h)
    | succ n_75 ih_75 =>
      intro x1 v H locs ls hr hW hl
      have hr : lpB_X8_write_75   (lp_X8_write_75   n_75) x1 v = some r := hr
      unfold lpB_X8_write_75 at hr
      refine lv_iload_n X.1 X.2.1 dX8_write_75 rfl (lv_at hl 1 rfl) ?_
      refine lv_bipush (v := 6) X.1 X.2.1 dX8_write_76 (by decide) ?_
      refine z_cmpge X 121 hr dX8_write_78 (by decide) (fun hr => ?_) (fun hr => ?_)
      · refine lv_aload_n X.1 X.2.1 dX8_write_121 rfl (lv_at hl 0 rfl) ?_
        refine z_get X hW 0 8 7 (C := RX8) (T := TX8) (N := 12) rfl rfl hn_X8 (by decide) q_0 rfl dX8_write_122 ?_
        cases hr
        exact z_iret X hW rfl dX8_write_125
      · refine lv_aload_n X.1 X.2.1 dX8_write_81 rfl (lv_at hl 0 rfl) ?_
        refine lv_iload_n X.1 X.2.1 dX8_write_82 rfl (lv_at hl 1 rfl) ?_
        have hp_83 := (z_all (mdW E a v))
        refine z_callp X hW hr hp_83 (fun x h => z_runV (As := [.int x1]) (rest := []) X hW hp_83 (c_X8_owes l E a v x1 x h _) hy_X8_owes 0 8 (C := RX8) (T := TX8) (N := 12) rfl rfl rfl gX8_write_X8_owes rfl rfl ⟨by decide, by decide⟩ rfl hl rfl rfl (Nat.le_of_ble_eq_true rfl) dX8_write_83 ⟨Nat.zero_le _, Nat.zero_le _⟩) (fun t83 H locs hr hW => ?_)
        refine z_ifle X 115 hr dX8_write_86 (by decide) (fun hr => ?_) (fun hr => ?_)
        · refine z_iinc X (fun x1_115 => [(1, .int x1_115), (0, .ref (a 0))]) hr hl (k := 1) rfl (by decide) (fun _ => rfl) dX8_write_115 (fun x1_115 ls hr hl => ?_)
          refine lv_goto (tgt := 75) X.1 X.2.1 dX8_write_118 (by decide) ?_
          exact ih_75 x1_115 v _ _ _ hr hW (lv_sub hl [1, 0] rfl)
        · refine lv_aload_n X.1 X.2.1 dX8_write_89 rfl (lv_at hl 0 rfl) ?_
          refine lv_bipush (v := 44) X.1 X.2.1 dX8_write_90 (by decide) ?_
          have hp_92 := (z_all (mdW E a v))
          refine z_callv X hW (fun u => u) hr hp_92 (fun u => (mdW E a u)) (fun v92 => (mdW E a v92)) (fun u => (z_lla (mdW E a u))) (fun u h => z_runV (As := [.int 44]) (rest := []) X hW hp_92 (c_X8_writeSign l E a v 44 u h _) hy_X8_writeSign 0 8 (C := RX8) (T := TX8) (N := 12) rfl rfl rfl gX8_write_X8_writeSign rfl rfl ⟨by decide, by decide⟩ rfl hl rfl rfl (Nat.le_of_ble_eq_true rfl) dX8_write_92 ⟨Nat.zero_le _, Nat.zero_le _⟩) (fun v92 H locs hr hW => ?_)
          refine lv_aload_n X.1 X.2.1 dX8_write_95 rfl (lv_at hl 0 rfl) ?_
          refine lv_iload_n X.1 X.2.1 dX8_write_96 rfl (lv_at hl 1 rfl) ?_
          have hp_97 := (z_all (mdW E a v92))
          refine z_callv X hW (fun u => u) hr hp_97 (fun u => (mdW E a u)) (fun v97 => (mdW E a v97)) (fun u => (z_lla (mdW E a u))) (fun u h => z_runV (As := [.int x1]) (rest := []) X hW hp_97 (c_X8_writeNumber l E a v92 x1 u h _) hy_X8_writeNumber 0 8 (C := RX8) (T := TX8) (N := 12) rfl rfl rfl gX8_write_X8_writeNumber rfl rfl ⟨by decide, by decide⟩ rfl hl rfl rfl (Nat.le_of_ble_eq_true rfl) dX8_write_97 ⟨Nat.zero_le _, Nat.zero_le _⟩) (fun v97 H locs hr hW => ?_)
          refine lv_aload_n X.1 X.2.1 dX8_write_100 rfl (lv_at hl 0 rfl) ?_
          refine lv_bipush (v := 58) X.1 X.2.1 dX8_write_101 (by decide) ?_
          have hp_103 := (z_all (mdW E a v97))
          refine z_callv X hW (fun u => u) hr hp_103 (fun u => (mdW E a u)) (fun v103 => (mdW E a v103)) (fun u => (z_lla (mdW E a u))) (fun u h => z_runV (As := [.int 58]) (rest := []) X hW hp_103 (c_X8_writeSign l E a v97 58 u h _) hy_X8_writeSign 0 8 (C := RX8) (T := TX8) (N := 12) rfl rfl rfl gX8_write_X8_writeSign rfl rfl ⟨by decide, by decide⟩ rfl hl rfl rfl (Nat.le_of_ble_eq_true rfl) dX8_write_103 ⟨Nat.zero_le _, Nat.zero_le _⟩) (fun v103 H locs hr hW => ?_)
          refine lv_aload_n X.1 X.2.1 dX8_write_106 rfl (lv_at hl 0 rfl) ?_
          refine lv_aload_n X.1 X.2.1 dX8_write_107 rfl (lv_at hl 0 rfl) ?_
          refine lv_iload_n X.1 X.2.1 dX8_write_108 rfl (lv_at hl 1 rfl) ?_
          have hp_109 := (z_all (mdW E a v103))
          refine z_callp X hW hr hp_109 (fun x h => z_runV (As := [.int x1]) (rest := [.ref (a 0)]) X hW hp_109 (c_X8_owes l E a v103 x1 x h _) hy_X8_owes 0 8 (C := RX8) (T := TX8) (N := 12) rfl rfl rfl gX8_write_X8_owes rfl rfl ⟨by decide, by decide⟩ rfl hl rfl rfl (Nat.le_of_ble_eq_true rfl) dX8_write_109 ⟨Nat.zero_le _, Nat.zero_le _⟩) (fun t109 H locs hr hW => ?_)
          have hp_112 := (z_all (mdW E a v103))
          refine z_callv X hW (fun u => u) hr hp_112 (fun u => (mdW E a u)) (fun v112 => (mdW E a v112)) (fun u => (z_lla (mdW E a u))) (fun u h => z_runV (As := [.int t109]) (rest := []) X hW hp_112 (c_X8_writeNumber l E a v103 t109 u h _) hy_X8_writeNumber 0 8 (C := RX8) (T := TX8) (N := 12) rfl rfl rfl gX8_write_X8_writeNumber rfl rfl ⟨by decide, by decide⟩ rfl hl rfl rfl (Nat.le_of_ble_eq_true rfl) dX8_write_112 ⟨Nat.zero_le _, Nat.zero_le _⟩) (fun v112 H locs hr hW => ?_)
          refine z_iinc X (fun x1_115 => [(1, .int x1_115), (0, .ref (a 0))]) hr hl (k := 1) rfl (by decide) (fun _ => rfl) dX8_write_115 (fun x1_115 ls hr hl => ?_)
          refine lv_goto (tgt := 75) X.1 X.2.1 dX8_write_118 (by decide) ?_
          exact ih_75 x1_115 v112 _ _ _ hr hW (lv_sub hl [1, 0] rfl)
  exact L_75 _ 0 v70 _ _ _ hr hW (lv_sub hl [1, 0] rfl)
abbrev rm_X8_of : Room := { frames := 2, cells := 0, slots := 0, locals := 42 }
theorem hy_X8_of : zY yX8_of wsX8_of cX8_of 3 (some .int) 2 := ⟨⟨_, rfl⟩, by decide, by decide, by decide +kernel⟩
def d_X8_of (v : zHV) (p1 : Int32) (p2 : Int32) : Option (Int32) :=
zcl (d_X8_isSeat p1) fun t1 =>
(if t1 = 0 then
some (-1)
else
(if p2 = 0 then
zcl (d_X8_seat v p1 p2) fun t55 =>
some t55
else
(if p2 = 1 then
zcl (d_X8_seat v p1 p2) fun t55 =>
some t55
else
(if p2 = 2 then
zcl (d_X8_seat v p1 2) fun t62 =>
zld 288 (v 0) 4 fun t70 =>
(if t62 < t70 then
some 0
else
some 1)
else
(if p2 = 3 then
zlet (p2 - 1) fun t84 =>
zcl (d_X8_seat v p1 t84) fun t85 =>
some t85
else
(if p2 = 4 then
zlet (p2 - 1) fun t84 =>
zcl (d_X8_seat v p1 t84) fun t85 =>
some t85
else
(if p2 = 5 then
zlet (p2 - 1) fun t84 =>
zcl (d_X8_seat v p1 t84) fun t85 =>
some t85
else
(if p2 = 6 then
zlet (p2 - 1) fun t84 =>
zcl (d_X8_seat v p1 t84) fun t85 =>
some t85
else
some (-2)))))))))
set_option maxHeartbeats 4000000 in
set_option maxRecDepth 100000 in
theorem c_X8_of (l : Launch) (E : zE) (a : Nat → Nat) (v : zHV) (p1 : Int32) (p2 : Int32) (r : Int32) (h : d_X8_of v p1 p2 = some r) : zMi l E yX8_of wsX8_of rm_X8_of [.ref (a 0), .int p1, .int p2] (mdW E a v) r (mdW E a v) := by
  intro sz
  refine z_entry (Qc := fun A => zQi E A r (mdW E a v)) (by decide) rfl (Nat.le_of_ble_eq_true rfl) ?_
  intro p e s m below meth c A X hW ls hl
  have X : zX E wsX8_of RX8 cX8_of 3 (some .int) yX8_of p s m ([.ref (a 0), .int p1, .int p2] : List Value).toArray meth c A := X
  have hl : lv_has ls 3 [(0, .ref (a 0)), (1, .int p1), (2, .int p2)] := hl
  have hr : d_X8_of v p1 p2 = some r := h
  clear h
  have q_0 : Cond.fieldLink RX8 7 "ApplauseTalliesModel" "state" "[I" ∈ wsX8_of := List.mem_of_getElem? (i := 1) rfl
  have hn_X8 : ∀ x ∈ wsX80, x ∈ wsX8_of := zz_in [13, 14, 15, 16, 17, 18, 19, 20, 21, 22, 23, 24] (by decide +kernel)
  unfold d_X8_of at hr
  refine lv_iload_n X.1 X.2.1 dX8_of_0 rfl (lv_at hl 1 rfl) ?_
  have hp_1 := (List.Perm.refl ((mdW E a v)))
  refine z_callp X hW hr hp_1 (fun x h => z_runS (As := [.int p1]) (rest := []) X hW hp_1 (c_X8_isSeat l E p1 x h _) hy_X8_isSeat gX8_of_X8_isSeat rfl rfl ⟨by decide, by decide⟩ rfl hl rfl rfl (Nat.le_of_ble_eq_true rfl) dX8_of_1 ⟨Nat.zero_le _, Nat.zero_le _⟩) (fun t1 H locs hr hW => ?_)
  refine z_ifne X 9 hr dX8_of_4 (by decide) (fun hr => ?_) (fun hr => ?_)
  · refine lv_iload_n X.1 X.2.1 dX8_of_9 rfl (lv_at hl 2 rfl) ?_
    refine z_if hr (fun h_0 hr => ?_) (fun h_0 hr => ?_)
    · refine lv_tableIn (off := 42) (tgt := 52) X.1 X.2.1 dX8_of_10 (by rw [h_0]; decide) (by rw [h_0]; decide) (by rw [h_0]; rfl) (by decide) ?_
      refine lv_aload_n X.1 X.2.1 dX8_of_52 rfl (lv_at hl 0 rfl) ?_
      refine lv_iload_n X.1 X.2.1 dX8_of_53 rfl (lv_at hl 1 rfl) ?_
      refine lv_iload_n X.1 X.2.1 dX8_of_54 rfl (lv_at hl 2 rfl) ?_
      have hp_55 := (z_all (mdW E a v))
      refine z_callp X hW hr hp_55 (fun x h => z_runV (As := [.int p1, .int p2]) (rest := []) X hW hp_55 (c_X8_seat l E a v p1 p2 x h _) hy_X8_seat 0 8 (C := RX8) (T := TX8) (N := 12) rfl rfl rfl gX8_of_X8_seat rfl rfl ⟨by decide, by decide⟩ rfl hl rfl rfl (Nat.le_of_ble_eq_true rfl) dX8_of_55 ⟨Nat.zero_le _, Nat.zero_le _⟩) (fun t55 H locs hr hW => ?_)
      cases hr
      exact z_iret X hW rfl dX8_of_58
    · refine z_if hr (fun h_1 hr => ?_) (fun h_1 hr => ?_)
      · refine lv_tableIn (off := 42) (tgt := 52) X.1 X.2.1 dX8_of_10 (by rw [h_1]; decide) (by rw [h_1]; decide) (by rw [h_1]; rfl) (by decide) ?_
        refine lv_aload_n X.1 X.2.1 dX8_of_52 rfl (lv_at hl 0 rfl) ?_
        refine lv_iload_n X.1 X.2.1 dX8_of_53 rfl (lv_at hl 1 rfl) ?_
        refine lv_iload_n X.1 X.2.1 dX8_of_54 rfl (lv_at hl 2 rfl) ?_
        have hp_55 := (z_all (mdW E a v))
        refine z_callp X hW hr hp_55 (fun x h => z_runV (As := [.int p1, .int p2]) (rest := []) X hW hp_55 (c_X8_seat l E a v p1 p2 x h _) hy_X8_seat 0 8 (C := RX8) (T := TX8) (N := 12) rfl rfl rfl gX8_of_X8_seat rfl rfl ⟨by decide, by decide⟩ rfl hl rfl rfl (Nat.le_of_ble_eq_true rfl) dX8_of_55 ⟨Nat.zero_le _, Nat.zero_le _⟩) (fun t55 H locs hr hW => ?_)
        cases hr
        exact z_iret X hW rfl dX8_of_58
      · refine z_if hr (fun h_2 hr => ?_) (fun h_2 hr => ?_)
        · refine lv_tableIn (off := 49) (tgt := 59) X.1 X.2.1 dX8_of_10 (by rw [h_2]; decide) (by rw [h_2]; decide) (by rw [h_2]; rfl) (by decide) ?_
          refine lv_aload_n X.1 X.2.1 dX8_of_59 rfl (lv_at hl 0 rfl) ?_
          refine lv_iload_n X.1 X.2.1 dX8_of_60 rfl (lv_at hl 1 rfl) ?_
          refine lv_iconst (v := 2) X.1 X.2.1 dX8_of_61 (by decide) ?_
          have hp_62 := (z_all (mdW E a v))
          refine z_callp X hW hr hp_62 (fun x h => z_runV (As := [.int p1, .int 2]) (rest := []) X hW hp_62 (c_X8_seat l E a v p1 2 x h _) hy_X8_seat 0 8 (C := RX8) (T := TX8) (N := 12) rfl rfl rfl gX8_of_X8_seat rfl rfl ⟨by decide, by decide⟩ rfl hl rfl rfl (Nat.le_of_ble_eq_true rfl) dX8_of_62 ⟨Nat.zero_le _, Nat.zero_le _⟩) (fun t62 H locs hr hW => ?_)
          refine lv_aload_n X.1 X.2.1 dX8_of_65 rfl (lv_at hl 0 rfl) ?_
          refine z_get X hW 0 8 0 (C := RX8) (T := TX8) (N := 12) rfl rfl hn_X8 (by decide) q_0 rfl dX8_of_66 ?_
          refine lv_iconst (v := 4) X.1 X.2.1 dX8_of_69 (by decide) ?_
          refine z_ald X hW 1 hr rfl dX8_of_70 (fun t70 hr => ?_)
          refine z_cmplt X 78 hr dX8_of_71 (by decide) (fun hr => ?_) (fun hr => ?_)
          · refine lv_iconst (v := 0) X.1 X.2.1 dX8_of_78 (by decide) ?_
            cases hr
            exact z_iret X hW rfl dX8_of_79
          · refine lv_iconst (v := 1) X.1 X.2.1 dX8_of_74 (by decide) ?_
            refine lv_goto (tgt := 79) X.1 X.2.1 dX8_of_75 (by decide) ?_
            cases hr
            exact z_iret X hW rfl dX8_of_79
        · refine z_if hr (fun h_3 hr => ?_) (fun h_3 hr => ?_)
          · refine lv_tableIn (off := 70) (tgt := 80) X.1 X.2.1 dX8_of_10 (by rw [h_3]; decide) (by rw [h_3]; decide) (by rw [h_3]; rfl) (by decide) ?_
            refine lv_aload_n X.1 X.2.1 dX8_of_80 rfl (lv_at hl 0 rfl) ?_
            refine lv_iload_n X.1 X.2.1 dX8_of_81 rfl (lv_at hl 1 rfl) ?_
            refine lv_iload_n X.1 X.2.1 dX8_of_82 rfl (lv_at hl 2 rfl) ?_
            refine lv_iconst (v := 1) X.1 X.2.1 dX8_of_83 (by decide) ?_
            refine z_isub X hr dX8_of_84 (fun t84 hr => ?_)
            have hp_85 := (z_all (mdW E a v))
            refine z_callp X hW hr hp_85 (fun x h => z_runV (As := [.int p1, .int t84]) (rest := []) X hW hp_85 (c_X8_seat l E a v p1 t84 x h _) hy_X8_seat 0 8 (C := RX8) (T := TX8) (N := 12) rfl rfl rfl gX8_of_X8_seat rfl rfl ⟨by decide, by decide⟩ rfl hl rfl rfl (Nat.le_of_ble_eq_true rfl) dX8_of_85 ⟨Nat.zero_le _, Nat.zero_le _⟩) (fun t85 H locs hr hW => ?_)
            cases hr
            exact z_iret X hW rfl dX8_of_88
          · refine z_if hr (fun h_4 hr => ?_) (fun h_4 hr => ?_)
            · refine lv_tableIn (off := 70) (tgt := 80) X.1 X.2.1 dX8_of_10 (by rw [h_4]; decide) (by rw [h_4]; decide) (by rw [h_4]; rfl) (by decide) ?_
              refine lv_aload_n X.1 X.2.1 dX8_of_80 rfl (lv_at hl 0 rfl) ?_
              refine lv_iload_n X.1 X.2.1 dX8_of_81 rfl (lv_at hl 1 rfl) ?_
              refine lv_iload_n X.1 X.2.1 dX8_of_82 rfl (lv_at hl 2 rfl) ?_
              refine lv_iconst (v := 1) X.1 X.2.1 dX8_of_83 (by decide) ?_
              refine z_isub X hr dX8_of_84 (fun t84 hr => ?_)
              have hp_85 := (z_all (mdW E a v))
              refine z_callp X hW hr hp_85 (fun x h => z_runV (As := [.int p1, .int t84]) (rest := []) X hW hp_85 (c_X8_seat l E a v p1 t84 x h _) hy_X8_seat 0 8 (C := RX8) (T := TX8) (N := 12) rfl rfl rfl gX8_of_X8_seat rfl rfl ⟨by decide, by decide⟩ rfl hl rfl rfl (Nat.le_of_ble_eq_true rfl) dX8_of_85 ⟨Nat.zero_le _, Nat.zero_le _⟩) (fun t85 H locs hr hW => ?_)
              cases hr
              exact z_iret X hW rfl dX8_of_88
            · refine z_if hr (fun h_5 hr => ?_) (fun h_5 hr => ?_)
              · refine lv_tableIn (off := 70) (tgt := 80) X.1 X.2.1 dX8_of_10 (by rw [h_5]; decide) (by rw [h_5]; decide) (by rw [h_5]; rfl) (by decide) ?_
                refine lv_aload_n X.1 X.2.1 dX8_of_80 rfl (lv_at hl 0 rfl) ?_
                refine lv_iload_n X.1 X.2.1 dX8_of_81 rfl (lv_at hl 1 rfl) ?_
                refine lv_iload_n X.1 X.2.1 dX8_of_82 rfl (lv_at hl 2 rfl) ?_
                refine lv_iconst (v := 1) X.1 X.2.1 dX8_of_83 (by decide) ?_
                refine z_isub X hr dX8_of_84 (fun t84 hr => ?_)
                have hp_85 := (z_all (mdW E a v))
                refine z_callp X hW hr hp_85 (fun x h => z_runV (As := [.int p1, .int t84]) (rest := []) X hW hp_85 (c_X8_seat l E a v p1 t84 x h _) hy_X8_seat 0 8 (C := RX8) (T := TX8) (N := 12) rfl rfl rfl gX8_of_X8_seat rfl rfl ⟨by decide, by decide⟩ rfl hl rfl rfl (Nat.le_of_ble_eq_true rfl) dX8_of_85 ⟨Nat.zero_le _, Nat.zero_le _⟩) (fun t85 H locs hr hW => ?_)
                cases hr
                exact z_iret X hW rfl dX8_of_88
              · refine z_if hr (fun h_6 hr => ?_) (fun h_6 hr => ?_)
                · refine lv_tableIn (off := 70) (tgt := 80) X.1 X.2.1 dX8_of_10 (by rw [h_6]; decide) (by rw [h_6]; decide) (by rw [h_6]; rfl) (by decide) ?_
                  refine lv_aload_n X.1 X.2.1 dX8_of_80 rfl (lv_at hl 0 rfl) ?_
                  refine lv_iload_n X.1 X.2.1 dX8_of_81 rfl (lv_at hl 1 rfl) ?_
                  refine lv_iload_n X.1 X.2.1 dX8_of_82 rfl (lv_at hl 2 rfl) ?_
                  refine lv_iconst (v := 1) X.1 X.2.1 dX8_of_83 (by decide) ?_
                  refine z_isub X hr dX8_of_84 (fun t84 hr => ?_)
                  have hp_85 := (z_all (mdW E a v))
                  refine z_callp X hW hr hp_85 (fun x h => z_runV (As := [.int p1, .int t84]) (rest := []) X hW hp_85 (c_X8_seat l E a v p1 t84 x h _) hy_X8_seat 0 8 (C := RX8) (T := TX8) (N := 12) rfl rfl rfl gX8_of_X8_seat rfl rfl ⟨by decide, by decide⟩ rfl hl rfl rfl (Nat.le_of_ble_eq_true rfl) dX8_of_85 ⟨Nat.zero_le _, Nat.zero_le _⟩) (fun t85 H locs hr hW => ?_)
                  cases hr
                  exact z_iret X hW rfl dX8_of_88
                · have e_0 := lv_neT h_0 (a := 0) rfl
                  have e_1 := lv_neT h_1 (a := 1) rfl
                  have e_2 := lv_neT h_2 (a := 2) rfl
                  have e_3 := lv_neT h_3 (a := 3) rfl
                  have e_4 := lv_neT h_4 (a := 4) rfl
                  have e_5 := lv_neT h_5 (a := 5) rfl
                  have e_6 := lv_neT h_6 (a := 6) rfl
                  refine lv_tableOut (tgt := 89) X.1 X.2.1 dX8_of_10 (by omega) (by decide) ?_
                  refine lv_bipush (v := (-2)) X.1 X.2.1 dX8_of_89 (by decide) ?_
                  cases hr
                  exact z_iret X hW rfl dX8_of_91
  · refine lv_iconst (v := (-1)) X.1 X.2.1 dX8_of_7 (by decide) ?_
    cases hr
    exact z_iret X hW rfl dX8_of_8
abbrev rm_X8_performer : Room := { frames := 2, cells := 0, slots := 0, locals := 42 }
theorem hy_X8_performer : zY yX8_performer wsX8_performer cX8_performer 3 (some .int) 2 := ⟨⟨_, rfl⟩, by decide, by decide, by decide +kernel⟩
def d_X8_performer (v : zHV) (p1 : Int32) (p2 : Int32) : Option (Int32) :=
zcl (d_X8_isPerformer p1) fun t1 =>
(if t1 = 0 then
some (-1)
else
zcl (d_X8_within p2 0 3) fun t12 =>
(if t12 = 0 then
some (-2)
else
(if p2 = 0 then
zcl (d_X8_owes v p1) fun t27 =>
some t27
else
zlet (p2 - 1) fun t37 =>
zcl (d_X8_ofPerformer v p1 t37) fun t38 =>
some t38)))
set_option maxHeartbeats 4000000 in
set_option maxRecDepth 100000 in
theorem c_X8_performer (l : Launch) (E : zE) (a : Nat → Nat) (v : zHV) (p1 : Int32) (p2 : Int32) (r : Int32) (h : d_X8_performer v p1 p2 = some r) : zMi l E yX8_performer wsX8_performer rm_X8_performer [.ref (a 0), .int p1, .int p2] (mdW E a v) r (mdW E a v) := by
  intro sz
  refine z_entry (Qc := fun A => zQi E A r (mdW E a v)) (by decide) rfl (Nat.le_of_ble_eq_true rfl) ?_
  intro p e s m below meth c A X hW ls hl
  have X : zX E wsX8_performer RX8 cX8_performer 3 (some .int) yX8_performer p s m ([.ref (a 0), .int p1, .int p2] : List Value).toArray meth c A := X
  have hl : lv_has ls 3 [(0, .ref (a 0)), (1, .int p1), (2, .int p2)] := hl
  have hr : d_X8_performer v p1 p2 = some r := h
  clear h
  unfold d_X8_performer at hr
  refine lv_iload_n X.1 X.2.1 dX8_performer_0 rfl (lv_at hl 1 rfl) ?_
  have hp_1 := (List.Perm.refl ((mdW E a v)))
  refine z_callp X hW hr hp_1 (fun x h => z_runS (As := [.int p1]) (rest := []) X hW hp_1 (c_X8_isPerformer l E p1 x h _) hy_X8_isPerformer gX8_performer_X8_isPerformer rfl rfl ⟨by decide, by decide⟩ rfl hl rfl rfl (Nat.le_of_ble_eq_true rfl) dX8_performer_1 ⟨Nat.zero_le _, Nat.zero_le _⟩) (fun t1 H locs hr hW => ?_)
  refine z_ifne X 9 hr dX8_performer_4 (by decide) (fun hr => ?_) (fun hr => ?_)
  · refine lv_iload_n X.1 X.2.1 dX8_performer_9 rfl (lv_at hl 2 rfl) ?_
    refine lv_iconst (v := 0) X.1 X.2.1 dX8_performer_10 (by decide) ?_
    refine lv_iconst (v := 3) X.1 X.2.1 dX8_performer_11 (by decide) ?_
    have hp_12 := (List.Perm.refl ((mdW E a v)))
    refine z_callp X hW hr hp_12 (fun x h => z_runS (As := [.int p2, .int 0, .int 3]) (rest := []) X hW hp_12 (c_X8_within l E p2 0 3 x h _) hy_X8_within gX8_performer_X8_within rfl rfl ⟨by decide, by decide⟩ rfl hl rfl rfl (Nat.le_of_ble_eq_true rfl) dX8_performer_12 ⟨Nat.zero_le _, Nat.zero_le _⟩) (fun t12 H locs hr hW => ?_)
    refine z_ifne X 21 hr dX8_performer_15 (by decide) (fun hr => ?_) (fun hr => ?_)
    · refine lv_iload_n X.1 X.2.1 dX8_performer_21 rfl (lv_at hl 2 rfl) ?_
      refine z_ifne X 33 hr dX8_performer_22 (by decide) (fun hr => ?_) (fun hr => ?_)
      · refine lv_aload_n X.1 X.2.1 dX8_performer_33 rfl (lv_at hl 0 rfl) ?_
        refine lv_iload_n X.1 X.2.1 dX8_performer_34 rfl (lv_at hl 1 rfl) ?_
        refine lv_iload_n X.1 X.2.1 dX8_performer_35 rfl (lv_at hl 2 rfl) ?_
        refine lv_iconst (v := 1) X.1 X.2.1 dX8_performer_36 (by decide) ?_
        refine z_isub X hr dX8_performer_37 (fun t37 hr => ?_)
        have hp_38 := (z_all (mdW E a v))
        refine z_callp X hW hr hp_38 (fun x h => z_runV (As := [.int p1, .int t37]) (rest := []) X hW hp_38 (c_X8_ofPerformer l E a v p1 t37 x h _) hy_X8_ofPerformer 0 8 (C := RX8) (T := TX8) (N := 12) rfl rfl rfl gX8_performer_X8_ofPerformer rfl rfl ⟨by decide, by decide⟩ rfl hl rfl rfl (Nat.le_of_ble_eq_true rfl) dX8_performer_38 ⟨Nat.zero_le _, Nat.zero_le _⟩) (fun t38 H locs hr hW => ?_)
        cases hr
        exact z_iret X hW rfl dX8_performer_41
      · refine lv_aload_n X.1 X.2.1 dX8_performer_25 rfl (lv_at hl 0 rfl) ?_
        refine lv_iload_n X.1 X.2.1 dX8_performer_26 rfl (lv_at hl 1 rfl) ?_
        have hp_27 := (z_all (mdW E a v))
        refine z_callp X hW hr hp_27 (fun x h => z_runV (As := [.int p1]) (rest := []) X hW hp_27 (c_X8_owes l E a v p1 x h _) hy_X8_owes 0 8 (C := RX8) (T := TX8) (N := 12) rfl rfl rfl gX8_performer_X8_owes rfl rfl ⟨by decide, by decide⟩ rfl hl rfl rfl (Nat.le_of_ble_eq_true rfl) dX8_performer_27 ⟨Nat.zero_le _, Nat.zero_le _⟩) (fun t27 H locs hr hW => ?_)
        refine lv_goto (tgt := 41) X.1 X.2.1 dX8_performer_30 (by decide) ?_
        cases hr
        exact z_iret X hW rfl dX8_performer_41
    · refine lv_bipush (v := (-2)) X.1 X.2.1 dX8_performer_18 (by decide) ?_
      cases hr
      exact z_iret X hW rfl dX8_performer_20
  · refine lv_iconst (v := (-1)) X.1 X.2.1 dX8_performer_7 (by decide) ?_
    cases hr
    exact z_iret X hW rfl dX8_performer_8
abbrev rm_X8_owed : Room := { frames := 1, cells := 0, slots := 0, locals := 22 }
theorem hy_X8_owed : zY yX8_owed wsX8_owed cX8_owed 3 (some .int) 2 := ⟨⟨_, rfl⟩, by decide, by decide, by decide +kernel⟩
def d_X8_owed (v : zHV) (p1 : Int32) (p2 : Int32) : Option (Int32) :=
zld 288 (v 0) 17 fun t8 =>
zlet (t8 - 1) fun t10 =>
zcl (d_X8_within p1 0 t10) fun t11 =>
(if t11 = 0 then
some (-1)
else
(if p2 = 0 then
zlet (2 * p1) fun t32 =>
zlet (218 + t32) fun t33 =>
zld 288 (v 0) t33 fun t34 =>
some t34
else
(if p2 = 1 then
zcl (d_X8_owedFor v p1) fun t45 =>
some t45
else
some (-2))))
set_option maxHeartbeats 4000000 in
set_option maxRecDepth 100000 in
theorem c_X8_owed (l : Launch) (E : zE) (a : Nat → Nat) (v : zHV) (p1 : Int32) (p2 : Int32) (r : Int32) (h : d_X8_owed v p1 p2 = some r) : zMi l E yX8_owed wsX8_owed rm_X8_owed [.ref (a 0), .int p1, .int p2] (mdW E a v) r (mdW E a v) := by
  intro sz
  refine z_entry (Qc := fun A => zQi E A r (mdW E a v)) (by decide) rfl (Nat.le_of_ble_eq_true rfl) ?_
  intro p e s m below meth c A X hW ls hl
  have X : zX E wsX8_owed RX8 cX8_owed 3 (some .int) yX8_owed p s m ([.ref (a 0), .int p1, .int p2] : List Value).toArray meth c A := X
  have hl : lv_has ls 3 [(0, .ref (a 0)), (1, .int p1), (2, .int p2)] := hl
  have hr : d_X8_owed v p1 p2 = some r := h
  clear h
  have q_0 : Cond.fieldLink RX8 7 "ApplauseTalliesModel" "state" "[I" ∈ wsX8_owed := List.mem_of_getElem? (i := 1) rfl
  have hn_X8 : ∀ x ∈ wsX80, x ∈ wsX8_owed := zz_in [10, 11, 12, 13, 14, 15, 16, 17, 18, 19, 20, 21] (by decide +kernel)
  unfold d_X8_owed at hr
  refine lv_iload_n X.1 X.2.1 dX8_owed_0 rfl (lv_at hl 1 rfl) ?_
  refine lv_iconst (v := 0) X.1 X.2.1 dX8_owed_1 (by decide) ?_
  refine lv_aload_n X.1 X.2.1 dX8_owed_2 rfl (lv_at hl 0 rfl) ?_
  refine z_get X hW 0 8 0 (C := RX8) (T := TX8) (N := 12) rfl rfl hn_X8 (by decide) q_0 rfl dX8_owed_3 ?_
  refine lv_bipush (v := 17) X.1 X.2.1 dX8_owed_6 (by decide) ?_
  refine z_ald X hW 1 hr rfl dX8_owed_8 (fun t8 hr => ?_)
  refine lv_iconst (v := 1) X.1 X.2.1 dX8_owed_9 (by decide) ?_
  refine z_isub X hr dX8_owed_10 (fun t10 hr => ?_)
  have hp_11 := (List.Perm.refl ((mdW E a v)))
  refine z_callp X hW hr hp_11 (fun x h => z_runS (As := [.int p1, .int 0, .int t10]) (rest := []) X hW hp_11 (c_X8_within l E p1 0 t10 x h _) hy_X8_within gX8_owed_X8_within rfl rfl ⟨by decide, by decide⟩ rfl hl rfl rfl (Nat.le_of_ble_eq_true rfl) dX8_owed_11 ⟨Nat.zero_le _, Nat.zero_le _⟩) (fun t11 H locs hr hW => ?_)
  refine z_ifne X 19 hr dX8_owed_14 (by decide) (fun hr => ?_) (fun hr => ?_)
  · refine lv_iload_n X.1 X.2.1 dX8_owed_19 rfl (lv_at hl 2 rfl) ?_
    refine z_ifne X 38 hr dX8_owed_20 (by decide) (fun hr => ?_) (fun hr => ?_)
    · refine lv_iload_n X.1 X.2.1 dX8_owed_38 rfl (lv_at hl 2 rfl) ?_
      refine lv_iconst (v := 1) X.1 X.2.1 dX8_owed_39 (by decide) ?_
      refine z_cmpne X 51 hr dX8_owed_40 (by decide) (fun hr => ?_) (fun hr => ?_)
      · refine lv_bipush (v := (-2)) X.1 X.2.1 dX8_owed_51 (by decide) ?_
        cases hr
        exact z_iret X hW rfl dX8_owed_53
      · refine lv_aload_n X.1 X.2.1 dX8_owed_43 rfl (lv_at hl 0 rfl) ?_
        refine lv_iload_n X.1 X.2.1 dX8_owed_44 rfl (lv_at hl 1 rfl) ?_
        have hp_45 := (z_all (mdW E a v))
        refine z_callp X hW hr hp_45 (fun x h => z_runV (As := [.int p1]) (rest := []) X hW hp_45 (c_X8_owedFor l E a v p1 x h _) hy_X8_owedFor 0 8 (C := RX8) (T := TX8) (N := 12) rfl rfl rfl gX8_owed_X8_owedFor rfl rfl ⟨by decide, by decide⟩ rfl hl rfl rfl (Nat.le_of_ble_eq_true rfl) dX8_owed_45 ⟨Nat.zero_le _, Nat.zero_le _⟩) (fun t45 H locs hr hW => ?_)
        refine lv_goto (tgt := 53) X.1 X.2.1 dX8_owed_48 (by decide) ?_
        cases hr
        exact z_iret X hW rfl dX8_owed_53
    · refine lv_aload_n X.1 X.2.1 dX8_owed_23 rfl (lv_at hl 0 rfl) ?_
      refine z_get X hW 0 8 0 (C := RX8) (T := TX8) (N := 12) rfl rfl hn_X8 (by decide) q_0 rfl dX8_owed_24 ?_
      refine lv_sipush (v := 218) X.1 X.2.1 dX8_owed_27 (by decide) ?_
      refine lv_iconst (v := 2) X.1 X.2.1 dX8_owed_30 (by decide) ?_
      refine lv_iload_n X.1 X.2.1 dX8_owed_31 rfl (lv_at hl 1 rfl) ?_
      refine z_imul X hr dX8_owed_32 (fun t32 hr => ?_)
      refine z_iadd X hr dX8_owed_33 (fun t33 hr => ?_)
      refine z_ald X hW 1 hr rfl dX8_owed_34 (fun t34 hr => ?_)
      refine lv_goto (tgt := 53) X.1 X.2.1 dX8_owed_35 (by decide) ?_
      cases hr
      exact z_iret X hW rfl dX8_owed_53
  · refine lv_iconst (v := (-1)) X.1 X.2.1 dX8_owed_17 (by decide) ?_
    cases hr
    exact z_iret X hW rfl dX8_owed_18
abbrev rm_X8_clapper : Room := { frames := 1, cells := 0, slots := 0, locals := 22 }
theorem hy_X8_clapper : zY yX8_clapper wsX8_clapper cX8_clapper 2 (some .int) 1 := ⟨⟨_, rfl⟩, by decide, by decide, by decide +kernel⟩
def d_X8_clapper (v : zHV) (p1 : Int32) : Option (Int32) :=
zld 288 (v 0) 18 fun t8 =>
zlet (t8 - 1) fun t10 =>
zcl (d_X8_within p1 0 t10) fun t11 =>
(if t11 = 0 then
some (-1)
else
zlet (234 + p1) fun t25 =>
zld 288 (v 0) t25 fun t26 =>
some t26)
set_option maxHeartbeats 4000000 in
set_option maxRecDepth 100000 in
theorem c_X8_clapper (l : Launch) (E : zE) (a : Nat → Nat) (v : zHV) (p1 : Int32) (r : Int32) (h : d_X8_clapper v p1 = some r) : zMi l E yX8_clapper wsX8_clapper rm_X8_clapper [.ref (a 0), .int p1] (mdW E a v) r (mdW E a v) := by
  intro sz
  refine z_entry (Qc := fun A => zQi E A r (mdW E a v)) (by decide) rfl (Nat.le_of_ble_eq_true rfl) ?_
  intro p e s m below meth c A X hW ls hl
  have X : zX E wsX8_clapper RX8 cX8_clapper 2 (some .int) yX8_clapper p s m ([.ref (a 0), .int p1] : List Value).toArray meth c A := X
  have hl : lv_has ls 2 [(0, .ref (a 0)), (1, .int p1)] := hl
  have hr : d_X8_clapper v p1 = some r := h
  clear h
  have q_0 : Cond.fieldLink RX8 7 "ApplauseTalliesModel" "state" "[I" ∈ wsX8_clapper := List.mem_of_getElem? (i := 1) rfl
  have hn_X8 : ∀ x ∈ wsX80, x ∈ wsX8_clapper := zz_in [6, 7, 8, 9, 10, 11, 12, 13, 14, 15, 16, 17] (by decide +kernel)
  unfold d_X8_clapper at hr
  refine lv_iload_n X.1 X.2.1 dX8_clapper_0 rfl (lv_at hl 1 rfl) ?_
  refine lv_iconst (v := 0) X.1 X.2.1 dX8_clapper_1 (by decide) ?_
  refine lv_aload_n X.1 X.2.1 dX8_clapper_2 rfl (lv_at hl 0 rfl) ?_
  refine z_get X hW 0 8 0 (C := RX8) (T := TX8) (N := 12) rfl rfl hn_X8 (by decide) q_0 rfl dX8_clapper_3 ?_
  refine lv_bipush (v := 18) X.1 X.2.1 dX8_clapper_6 (by decide) ?_
  refine z_ald X hW 1 hr rfl dX8_clapper_8 (fun t8 hr => ?_)
  refine lv_iconst (v := 1) X.1 X.2.1 dX8_clapper_9 (by decide) ?_
  refine z_isub X hr dX8_clapper_10 (fun t10 hr => ?_)
  have hp_11 := (List.Perm.refl ((mdW E a v)))
  refine z_callp X hW hr hp_11 (fun x h => z_runS (As := [.int p1, .int 0, .int t10]) (rest := []) X hW hp_11 (c_X8_within l E p1 0 t10 x h _) hy_X8_within gX8_clapper_X8_within rfl rfl ⟨by decide, by decide⟩ rfl hl rfl rfl (Nat.le_of_ble_eq_true rfl) dX8_clapper_11 ⟨Nat.zero_le _, Nat.zero_le _⟩) (fun t11 H locs hr hW => ?_)
  refine z_ifeq X 30 hr dX8_clapper_14 (by decide) (fun hr => ?_) (fun hr => ?_)
  · refine lv_iconst (v := (-1)) X.1 X.2.1 dX8_clapper_30 (by decide) ?_
    cases hr
    exact z_iret X hW rfl dX8_clapper_31
  · refine lv_aload_n X.1 X.2.1 dX8_clapper_17 rfl (lv_at hl 0 rfl) ?_
    refine z_get X hW 0 8 0 (C := RX8) (T := TX8) (N := 12) rfl rfl hn_X8 (by decide) q_0 rfl dX8_clapper_18 ?_
    refine lv_sipush (v := 234) X.1 X.2.1 dX8_clapper_21 (by decide) ?_
    refine lv_iload_n X.1 X.2.1 dX8_clapper_24 rfl (lv_at hl 1 rfl) ?_
    refine z_iadd X hr dX8_clapper_25 (fun t25 hr => ?_)
    refine z_ald X hW 1 hr rfl dX8_clapper_26 (fun t26 hr => ?_)
    refine lv_goto (tgt := 31) X.1 X.2.1 dX8_clapper_27 (by decide) ?_
    cases hr
    exact z_iret X hW rfl dX8_clapper_31
