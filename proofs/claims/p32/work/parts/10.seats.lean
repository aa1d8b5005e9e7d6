abbrev rm_X6_copyFrom : Room := { frames := 2, cells := 0, slots := 0, locals := 59 }
theorem hy_X6_copyFrom : zY yX6_copyFrom wsX6_copyFrom cX6_copyFrom 2 none 1 := ⟨⟨_, rfl⟩, by decide, by decide, by decide +kernel⟩
def d_X6_copyFrom (v : zHV) (w : zHV) : Option (zHV) :=
zup (d_X5_copyFrom 30 (v 0) 30 (w 0)) (fun z9 => (zr v 0 z9)) fun v8 =>
zup (d_X5_copyFrom 30 (v8 1) 30 (w 1)) (fun z9 => (zr v8 1 z9)) fun v19 =>
zup (d_X5_copyFrom 30 (v19 2) 30 (w 2)) (fun z9 => (zr v19 2 z9)) fun v30 =>
zup (d_X5_copyFrom 30 (v30 3) 30 (w 3)) (fun z9 => (zr v30 3 z9)) fun v41 =>
zup (d_X5_copyFrom 30 (v41 4) 30 (w 4)) (fun z9 => (zr v41 4 z9)) fun v52 =>
zlet (zs v52 5 0 (w 5 0)) fun v60 =>
zlet (zs v60 5 1 (w 5 1)) fun v68 =>
zlet (zs v68 5 2 (w 5 2)) fun v76 =>
some v76
set_option maxHeartbeats 4000000 in
set_option maxRecDepth 100000 in
theorem c_X6_copyFrom (l : Launch) (E : zE) (a b : Nat → Nat) (v : zHV) (w : zHV) (r : zHV) (h : d_X6_copyFrom v w = some r) : zMv l E yX6_copyFrom wsX6_copyFrom rm_X6_copyFrom [.ref (a 0), .ref (b 0)] ((stW E a v) ++ (stW E b w)) ((stW E a r) ++ (stW E b w)) := by
  intro sz
  refine z_entry (Qc := fun A => zQv E A ((stW E a r) ++ (stW E b w))) (by decide) rfl (Nat.le_of_ble_eq_true rfl) ?_
  intro p e s m below meth c A X hW ls hl
  have X : zX E wsX6_copyFrom RX6 cX6_copyFrom 2 none yX6_copyFrom p s m ([.ref (a 0), .ref (b 0)] : List Value).toArray meth c A := X
  have hl : lv_has ls 2 [(0, .ref (a 0)), (1, .ref (b 0))] := hl
  have hr : d_X6_copyFrom v w = some r := h
  clear h
  have q_0 : Cond.fieldLink RX6 14 "ApplauseTallies$Seats" "loudness" "LApplauseTallies$Row;" ∈ wsX6_copyFrom := List.mem_of_getElem? (i := 1) rfl
  have hn_X6 : ∀ x ∈ wsX60, x ∈ wsX6_copyFrom := zz_in [23, 24, 25, 26, 27, 28, 29, 30] (by decide +kernel)
  have q_2 : Cond.fieldLink RX6 20 "ApplauseTallies$Seats" "early" "LApplauseTallies$Row;" ∈ wsX6_copyFrom := List.mem_of_getElem? (i := 2) rfl
  have q_3 : Cond.fieldLink RX6 23 "ApplauseTallies$Seats" "clapsTonight" "LApplauseTallies$Row;" ∈ wsX6_copyFrom := List.mem_of_getElem? (i := 3) rfl
  have q_4 : Cond.fieldLink RX6 26 "ApplauseTallies$Seats" "clapsSoFar" "LApplauseTallies$Row;" ∈ wsX6_copyFrom := List.mem_of_getElem? (i := 4) rfl
  have q_5 : Cond.fieldLink RX6 29 "ApplauseTallies$Seats" "clappers" "LApplauseTallies$Row;" ∈ wsX6_copyFrom := List.mem_of_getElem? (i := 5) rfl
  have q_6 : Cond.fieldLink RX6 39 "ApplauseTallies$Seats" "clapperCount" "I" ∈ wsX6_copyFrom := List.mem_of_getElem? (i := 6) rfl
  have q_7 : Cond.fieldLink RX6 43 "ApplauseTallies$Seats" "paid" "I" ∈ wsX6_copyFrom := List.mem_of_getElem? (i := 7) rfl
  have q_8 : Cond.fieldLink RX6 46 "ApplauseTallies$Seats" "clappedForPiece" "I" ∈ wsX6_copyFrom := List.mem_of_getElem? (i := 8) rfl
  unfold d_X6_copyFrom at hr
  refine lv_aload_n X.1 X.2.1 dX6_copyFrom_0 rfl (lv_at hl 0 rfl) ?_
  refine z_get X hW 0 6 0 (C := RX6) (T := TX6) (N := 8) rfl rfl hn_X6 (by decide) q_0 rfl dX6_copyFrom_1 ?_
  refine lv_aload_n X.1 X.2.1 dX6_copyFrom_4 rfl (lv_at hl 1 rfl) ?_
  refine z_get X hW 11 6 0 (C := RX6) (T := TX6) (N := 8) rfl rfl hn_X6 (by decide) q_0 rfl dX6_copyFrom_5 ?_
  have hp_8 := (z_sp2 (sp_st_1 E a v) (sp_st_1 E b w))
  refine z_callv X hW (fun z9 => (zr v 0 z9)) hr hp_8 (fun z9 => ((rwW E (zh a 1) 30 z9) ++ (rwW E (zh b 1) 30 (w 0)))) (fun v8 => ((stW E a v8) ++ (stW E b w))) (fun z9 => (z_jn2 (sj_st_1 E a v z9) (sp_st_1 E b w).symm)) (fun z9 h => z_runV (As := [.ref (b 1)]) (rest := []) X hW hp_8 (c_X5_copyFrom l E (zh a 1) (zh b 1) 30 (v 0) 30 (w 0) z9 h _) hy_X5_copyFrom 1 5 (C := RX5) (T := TX5) (N := 1) rfl rfl rfl gX6_copyFrom_X5_copyFrom rfl rfl ⟨by decide, by decide⟩ rfl hl rfl rfl (Nat.le_of_ble_eq_true rfl) dX6_copyFrom_8 ⟨Nat.zero_le _, Nat.zero_le _⟩) (fun v8 H locs hr hW => ?_)
  refine lv_aload_n X.1 X.2.1 dX6_copyFrom_11 rfl (lv_at hl 0 rfl) ?_
  refine z_get X hW 0 6 1 (C := RX6) (T := TX6) (N := 8) rfl rfl hn_X6 (by decide) q_2 rfl dX6_copyFrom_12 ?_
  refine lv_aload_n X.1 X.2.1 dX6_copyFrom_15 rfl (lv_at hl 1 rfl) ?_
  refine z_get X hW 11 6 1 (C := RX6) (T := TX6) (N := 8) rfl rfl hn_X6 (by decide) q_2 rfl dX6_copyFrom_16 ?_
  have hp_19 := (z_sp2 (sp_st_3 E a v8) (sp_st_3 E b w))
  refine z_callv X hW (fun z9 => (zr v8 1 z9)) hr hp_19 (fun z9 => ((rwW E (zh a 3) 30 z9) ++ (rwW E (zh b 3) 30 (w 1)))) (fun v19 => ((stW E a v19) ++ (stW E b w))) (fun z9 => (z_jn2 (sj_st_3 E a v8 z9) (sp_st_3 E b w).symm)) (fun z9 h => z_runV (As := [.ref (b 3)]) (rest := []) X hW hp_19 (c_X5_copyFrom l E (zh a 3) (zh b 3) 30 (v8 1) 30 (w 1) z9 h _) hy_X5_copyFrom 3 5 (C := RX5) (T := TX5) (N := 1) rfl rfl rfl gX6_copyFrom_X5_copyFrom rfl rfl ⟨by decide, by decide⟩ rfl hl rfl rfl (Nat.le_of_ble_eq_true rfl) dX6_copyFrom_19 ⟨Nat.zero_le _, Nat.zero_le _⟩) (fun v19 H locs hr hW => ?_)
  refine lv_aload_n X.1 X.2.1 dX6_copyFrom_22 rfl (lv_at hl 0 rfl) ?_
  refine z_get X hW 0 6 2 (C := RX6) (T := TX6) (N := 8) rfl rfl hn_X6 (by decide) q_3 rfl dX6_copyFrom_23 ?_
  refine lv_aload_n X.1 X.2.1 dX6_copyFrom_26 rfl (lv_at hl 1 rfl) ?_
  refine z_get X hW 11 6 2 (C := RX6) (T := TX6) (N := 8) rfl rfl hn_X6 (by decide) q_3 rfl dX6_copyFrom_27 ?_
  have hp_30 := (z_sp2 (sp_st_5 E a v19) (sp_st_5 E b w))
  refine z_callv X hW (fun z9 => (zr v19 2 z9)) hr hp_30 (fun z9 => ((rwW E (zh a 5) 30 z9) ++ (rwW E (zh b 5) 30 (w 2)))) (fun v30 => ((stW E a v30) ++ (stW E b w))) (fun z9 => (z_jn2 (sj_st_5 E a v19 z9) (sp_st_5 E b w).symm)) (fun z9 h => z_runV (As := [.ref (b 5)]) (rest := []) X hW hp_30 (c_X5_copyFrom l E (zh a 5) (zh b 5) 30 (v19 2) 30 (w 2) z9 h _) hy_X5_copyFrom 5 5 (C := RX5) (T := TX5) (N := 1) rfl rfl rfl gX6_copyFrom_X5_copyFrom rfl rfl ⟨by decide, by decide⟩ rfl hl rfl rfl (Nat.le_of_ble_eq_true rfl) dX6_copyFrom_30 ⟨Nat.zero_le _, Nat.zero_le _⟩) (fun v30 H locs hr hW => ?_)
  refine lv_aload_n X.1 X.2.1 dX6_copyFrom_33 rfl (lv_at hl 0 rfl) ?_
  refine z_get X hW 0 6 3 (C := RX6) (T := TX6) (N := 8) rfl rfl hn_X6 (by decide) q_4 rfl dX6_copyFrom_34 ?_
  refine lv_aload_n X.1 X.2.1 dX6_copyFrom_37 rfl (lv_at hl 1 rfl) ?_
  refine z_get X hW 11 6 3 (C := RX6) (T := TX6) (N := 8) rfl rfl hn_X6 (by decide) q_4 rfl dX6_copyFrom_38 ?_
  have hp_41 := (z_sp2 (sp_st_7 E a v30) (sp_st_7 E b w))
  refine z_callv X hW (fun z9 => (zr v30 3 z9)) hr hp_41 (fun z9 => ((rwW E (zh a 7) 30 z9) ++ (rwW E (zh b 7) 30 (w 3)))) (fun v41 => ((stW E a v41) ++ (stW E b w))) (fun z9 => (z_jn2 (sj_st_7 E a v30 z9) (sp_st_7 E b w).symm)) (fun z9 h => z_runV (As := [.ref (b 7)]) (rest := []) X hW hp_41 (c_X5_copyFrom l E (zh a 7) (zh b 7) 30 (v30 3) 30 (w 3) z9 h _) hy_X5_copyFrom 7 5 (C := RX5) (T := TX5) (N := 1) rfl rfl rfl gX6_copyFrom_X5_copyFrom rfl rfl ⟨by decide, by decide⟩ rfl hl rfl rfl (Nat.le_of_ble_eq_true rfl) dX6_copyFrom_41 ⟨Nat.zero_le _, Nat.zero_le _⟩) (fun v41 H locs hr hW => ?_)
  refine lv_aload_n X.1 X.2.1 dX6_copyFrom_44 rfl (lv_at hl 0 rfl) ?_
  refine z_get X hW 0 6 4 (C := RX6) (T := TX6) (N := 8) rfl rfl hn_X6 (by decide) q_5 rfl dX6_copyFrom_45 ?_
  refine lv_aload_n X.1 X.2.1 dX6_copyFrom_48 rfl (lv_at hl 1 rfl) ?_
  refine z_get X hW 11 6 4 (C := RX6) (T := TX6) (N := 8) rfl rfl hn_X6 (by decide) q_5 rfl dX6_copyFrom_49 ?_
  have hp_52 := (z_sp2 (sp_st_9 E a v41) (sp_st_9 E b w))
  refine z_callv X hW (fun z9 => (zr v41 4 z9)) hr hp_52 (fun z9 => ((rwW E (zh a 9) 30 z9) ++ (rwW E (zh b 9) 30 (w 4)))) (fun v52 => ((stW E a v52) ++ (stW E b w))) (fun z9 => (z_jn2 (sj_st_9 E a v41 z9) (sp_st_9 E b w).symm)) (fun z9 h => z_runV (As := [.ref (b 9)]) (rest := []) X hW hp_52 (c_X5_copyFrom l E (zh a 9) (zh b 9) 30 (v41 4) 30 (w 4) z9 h _) hy_X5_copyFrom 9 5 (C := RX5) (T := TX5) (N := 1) rfl rfl rfl gX6_copyFrom_X5_copyFrom rfl rfl ⟨by decide, by decide⟩ rfl hl rfl rfl (Nat.le_of_ble_eq_true rfl) dX6_copyFrom_52 ⟨Nat.zero_le _, Nat.zero_le _⟩) (fun v52 H locs hr hW => ?_)
  refine lv_aload_n X.1 X.2.1 dX6_copyFrom_55 rfl (lv_at hl 0 rfl) ?_
  refine lv_aload_n X.1 X.2.1 dX6_copyFrom_56 rfl (lv_at hl 1 rfl) ?_
  refine z_get X hW 11 6 5 (C := RX6) (T := TX6) (N := 8) rfl rfl hn_X6 (by decide) q_6 rfl dX6_copyFrom_57 ?_
  refine z_put X hW hr (fun v60 => ((stW E a v60) ++ (stW E b w))) tyX6 tyX6_ok nmX6 0 6 5 (C := RX6) (T := TX6) (N := 8) rfl rfl hn_X6 (by decide) q_6 rfl rfl rfl (Nat.le_of_ble_eq_true rfl) rfl dX6_copyFrom_60 (fun v60 H locs hr hW => ?_)
  refine lv_aload_n X.1 X.2.1 dX6_copyFrom_63 rfl (lv_at hl 0 rfl) ?_
  refine lv_aload_n X.1 X.2.1 dX6_copyFrom_64 rfl (lv_at hl 1 rfl) ?_
  refine z_get X hW 11 6 6 (C := RX6) (T := TX6) (N := 8) rfl rfl hn_X6 (by decide) q_7 rfl dX6_copyFrom_65 ?_
  refine z_put X hW hr (fun v68 => ((stW E a v68) ++ (stW E b w))) tyX6 tyX6_ok nmX6 0 6 6 (C := RX6) (T := TX6) (N := 8) rfl rfl hn_X6 (by decide) q_7 rfl rfl rfl (Nat.le_of_ble_eq_true rfl) rfl dX6_copyFrom_68 (fun v68 H locs hr hW => ?_)
  refine lv_aload_n X.1 X.2.1 dX6_copyFrom_71 rfl (lv_at hl 0 rfl) ?_
  refine lv_aload_n X.1 X.2.1 dX6_copyFrom_72 rfl (lv_at hl 1 rfl) ?_
  refine z_get X hW 11 6 7 (C := RX6) (T := TX6) (N := 8) rfl rfl hn_X6 (by decide) q_8 rfl dX6_copyFrom_73 ?_
  refine z_put X hW hr (fun v76 => ((stW E a v76) ++ (stW E b w))) tyX6 tyX6_ok nmX6 0 6 7 (C := RX6) (T := TX6) (N := 8) rfl rfl hn_X6 (by decide) q_8 rfl rfl rfl (Nat.le_of_ble_eq_true rfl) rfl dX6_copyFrom_76 (fun v76 H locs hr hW => ?_)
  cases hr
  exact z_vret X hW dX6_copyFrom_79
abbrev rm_X6_hasClapped : Room := { frames := 0, cells := 0, slots := 0, locals := 0 }
theorem hy_X6_hasClapped : zY yX6_hasClapped wsX6_hasClapped cX6_hasClapped 2 (some .boolean) 1 := ⟨⟨_, rfl⟩, by decide, by decide, by decide +kernel⟩
def d_X6_hasClapped (v : zHV) (p1 : Int32) : Option (Int32) :=
zlet ((v 5 2) >>> (p1 &&& 31)) fun t5 =>
zlet (t5 &&& 1) fun t7 =>
(if t7 = 1 then
some 1
else
some 0)
set_option maxHeartbeats 4000000 in
set_option maxRecDepth 100000 in
theorem c_X6_hasClapped (l : Launch) (E : zE) (a : Nat → Nat) (v : zHV) (p1 : Int32) (r : Int32) (h : d_X6_hasClapped v p1 = some r) : zMi l E yX6_hasClapped wsX6_hasClapped rm_X6_hasClapped [.ref (a 0), .int p1] (stW E a v) r (stW E a v) := by
  intro sz
  refine z_entry (Qc := fun A => zQi E A r (stW E a v)) (by decide) rfl (Nat.le_of_ble_eq_true rfl) ?_
  intro p e s m below meth c A X hW ls hl
  have X : zX E wsX6_hasClapped RX6 cX6_hasClapped 2 (some .boolean) yX6_hasClapped p s m ([.ref (a 0), .int p1] : List Value).toArray meth c A := X
  have hl : lv_has ls 2 [(0, .ref (a 0)), (1, .int p1)] := hl
  have hr : d_X6_hasClapped v p1 = some r := h
  clear h
  have q_0 : Cond.fieldLink RX6 46 "ApplauseTallies$Seats" "clappedForPiece" "I" ∈ wsX6_hasClapped := List.mem_of_getElem? (i := 1) rfl
  have hn_X6 : ∀ x ∈ wsX60, x ∈ wsX6_hasClapped := zz_in [2, 3, 4, 5, 6, 7, 8, 9] (by decide +kernel)
  unfold d_X6_hasClapped at hr
  refine lv_aload_n X.1 X.2.1 dX6_hasClapped_0 rfl (lv_at hl 0 rfl) ?_
  refine z_get X hW 0 6 7 (C := RX6) (T := TX6) (N := 8) rfl rfl hn_X6 (by decide) q_0 rfl dX6_hasClapped_1 ?_
  refine lv_iload_n X.1 X.2.1 dX6_hasClapped_4 rfl (lv_at hl 1 rfl) ?_
  refine z_ishr X hr dX6_hasClapped_5 (fun t5 hr => ?_)
  refine lv_iconst (v := 1) X.1 X.2.1 dX6_hasClapped_6 (by decide) ?_
  refine z_iand X hr dX6_hasClapped_7 (fun t7 hr => ?_)
  refine lv_iconst (v := 1) X.1 X.2.1 dX6_hasClapped_8 (by decide) ?_
  refine z_cmpne X 16 hr dX6_hasClapped_9 (by decide) (fun hr => ?_) (fun hr => ?_)
  · refine lv_iconst (v := 0) X.1 X.2.1 dX6_hasClapped_16 (by decide) ?_
    cases hr
    exact z_zret X hW rfl rfl dX6_hasClapped_17
  · refine lv_iconst (v := 1) X.1 X.2.1 dX6_hasClapped_12 (by decide) ?_
    refine lv_goto (tgt := 17) X.1 X.2.1 dX6_hasClapped_13 (by decide) ?_
    cases hr
    exact z_zret X hW rfl rfl dX6_hasClapped_17
abbrev rm_X6_beginPiece : Room := { frames := 0, cells := 0, slots := 0, locals := 0 }
theorem hy_X6_beginPiece : zY yX6_beginPiece wsX6_beginPiece cX6_beginPiece 1 none 0 := ⟨⟨_, rfl⟩, by decide, by decide, by decide +kernel⟩
def d_X6_beginPiece (v : zHV) : Option (zHV) :=
zlet (zs v 5 2 0) fun v2 =>
some v2
set_option maxHeartbeats 4000000 in
set_option maxRecDepth 100000 in
theorem c_X6_beginPiece (l : Launch) (E : zE) (a : Nat → Nat) (v : zHV) (r : zHV) (h : d_X6_beginPiece v = some r) : zMv l E yX6_beginPiece wsX6_beginPiece rm_X6_beginPiece [.ref (a 0)] (stW E a v) (stW E a r) := by
  intro sz
  refine z_entry (Qc := fun A => zQv E A (stW E a r)) (by decide) rfl (Nat.le_of_ble_eq_true rfl) ?_
  intro p e s m below meth c A X hW ls hl
  have X : zX E wsX6_beginPiece RX6 cX6_beginPiece 1 none yX6_beginPiece p s m ([.ref (a 0)] : List Value).toArray meth c A := X
  have hl : lv_has ls 1 [(0, .ref (a 0))] := hl
  have hr : d_X6_beginPiece v = some r := h
  clear h
  have q_0 : Cond.fieldLink RX6 46 "ApplauseTallies$Seats" "clappedForPiece" "I" ∈ wsX6_beginPiece := List.mem_of_getElem? (i := 1) rfl
  have hn_X6 : ∀ x ∈ wsX60, x ∈ wsX6_beginPiece := zz_in [2, 3, 4, 5, 6, 7, 8, 9] (by decide +kernel)
  unfold d_X6_beginPiece at hr
  refine lv_aload_n X.1 X.2.1 dX6_beginPiece_0 rfl (lv_at hl 0 rfl) ?_
  refine lv_iconst (v := 0) X.1 X.2.1 dX6_beginPiece_1 (by decide) ?_
  refine z_put X hW hr (fun v2 => (stW E a v2)) tyX6 tyX6_ok nmX6 0 6 7 (C := RX6) (T := TX6) (N := 8) rfl rfl hn_X6 (by decide) q_0 rfl rfl rfl (Nat.le_of_ble_eq_true rfl) rfl dX6_beginPiece_2 (fun v2 H locs hr hW => ?_)
  cases hr
  exact z_vret X hW dX6_beginPiece_5
abbrev rm_X6_beginNight : Room := { frames := 1, cells := 0, slots := 0, locals := 22 }
theorem hy_X6_beginNight : zY yX6_beginNight wsX6_beginNight cX6_beginNight 1 none 0 := ⟨⟨_, rfl⟩, by decide, by decide, by decide +kernel⟩
def d_X6_beginNight (v : zHV) : Option (zHV) :=
zlet (zs v 5 2 0) fun v2 =>
zup (d_X5_fill 30 (v2 2) 0) (fun z9 => (zr v2 2 z9)) fun v10 =>
zlet (zs v10 5 0 0) fun v15 =>
some v15
set_option maxHeartbeats 4000000 in
set_option maxRecDepth 100000 in
theorem c_X6_beginNight (l : Launch) (E : zE) (a : Nat → Nat) (v : zHV) (r : zHV) (h : d_X6_beginNight v = some r) : zMv l E yX6_beginNight wsX6_beginNight rm_X6_beginNight [.ref (a 0)] (stW E a v) (stW E a r) := by
  intro sz
  refine z_entry (Qc := fun A => zQv E A (stW E a r)) (by decide) rfl (Nat.le_of_ble_eq_true rfl) ?_
  intro p e s m below meth c A X hW ls hl
  have X : zX E wsX6_beginNight RX6 cX6_beginNight 1 none yX6_beginNight p s m ([.ref (a 0)] : List Value).toArray meth c A := X
  have hl : lv_has ls 1 [(0, .ref (a 0))] := hl
  have hr : d_X6_beginNight v = some r := h
  clear h
  have q_0 : Cond.fieldLink RX6 46 "ApplauseTallies$Seats" "clappedForPiece" "I" ∈ wsX6_beginNight := List.mem_of_getElem? (i := 1) rfl
  have q_1 : Cond.fieldLink RX6 23 "ApplauseTallies$Seats" "clapsTonight" "LApplauseTallies$Row;" ∈ wsX6_beginNight := List.mem_of_getElem? (i := 2) rfl
  have hn_X6 : ∀ x ∈ wsX60, x ∈ wsX6_beginNight := zz_in [10, 11, 12, 13, 14, 15, 16, 17] (by decide +kernel)
  have q_3 : Cond.fieldLink RX6 39 "ApplauseTallies$Seats" "clapperCount" "I" ∈ wsX6_beginNight := List.mem_of_getElem? (i := 3) rfl
  unfold d_X6_beginNight at hr
  refine lv_aload_n X.1 X.2.1 dX6_beginNight_0 rfl (lv_at hl 0 rfl) ?_
  refine lv_iconst (v := 0) X.1 X.2.1 dX6_beginNight_1 (by decide) ?_
  refine z_put X hW hr (fun v2 => (stW E a v2)) tyX6 tyX6_ok nmX6 0 6 7 (C := RX6) (T := TX6) (N := 8) rfl rfl hn_X6 (by decide) q_0 rfl rfl rfl (Nat.le_of_ble_eq_true rfl) rfl dX6_beginNight_2 (fun v2 H locs hr hW => ?_)
  refine lv_aload_n X.1 X.2.1 dX6_beginNight_5 rfl (lv_at hl 0 rfl) ?_
  refine z_get X hW 0 6 2 (C := RX6) (T := TX6) (N := 8) rfl rfl hn_X6 (by decide) q_1 rfl dX6_beginNight_6 ?_
  refine lv_iconst (v := 0) X.1 X.2.1 dX6_beginNight_9 (by decide) ?_
  have hp_10 := (sp_st_5 E a v2)
  refine z_callv X hW (fun z9 => (zr v2 2 z9)) hr hp_10 (fun z9 => (rwW E (zh a 5) 30 z9)) (fun v10 => (stW E a v10)) (fun z9 => (sj_st_5 E a v2 z9)) (fun z9 h => z_runV (As := [.int 0]) (rest := []) X hW hp_10 (c_X5_fill l E (zh a 5) 30 (v2 2) 0 z9 h _) hy_X5_fill 5 5 (C := RX5) (T := TX5) (N := 1) rfl rfl rfl gX6_beginNight_X5_fill rfl rfl ⟨by decide, by decide⟩ rfl hl rfl rfl (Nat.le_of_ble_eq_true rfl) dX6_beginNight_10 ⟨Nat.zero_le _, Nat.zero_le _⟩) (fun v10 H locs hr hW => ?_)
  refine lv_aload_n X.1 X.2.1 dX6_beginNight_13 rfl (lv_at hl 0 rfl) ?_
  refine lv_iconst (v := 0) X.1 X.2.1 dX6_beginNight_14 (by decide) ?_
  refine z_put X hW hr (fun v15 => (stW E a v15)) tyX6 tyX6_ok nmX6 0 6 5 (C := RX6) (T := TX6) (N := 8) rfl rfl hn_X6 (by decide) q_3 rfl rfl rfl (Nat.le_of_ble_eq_true rfl) rfl dX6_beginNight_15 (fun v15 H locs hr hW => ?_)
  cases hr
  exact z_vret X hW dX6_beginNight_18
abbrev rm_X6_addClap : Room := { frames := 1, cells := 0, slots := 0, locals := 22 }
theorem hy_X6_addClap : zY yX6_addClap wsX6_addClap cX6_addClap 3 none 2 := ⟨⟨_, rfl⟩, by decide, by decide, by decide +kernel⟩
def d_X6_addClap (v : zHV) (p1 : Int32) (p2 : Int32) : Option (zHV) :=
zjn (fun (v : zHV) =>
zcl (d_X5_at 30 (v 2) p1) fun t26 =>
zjn (fun (v : zHV) =>
zlet (1 <<< (p1 &&& 31)) fun t61 =>
zlet ((v 5 2) ||| t61) fun t62 =>
zlet (zs v 5 2 t62) fun v63 =>
zup (d_X5_add 30 (v63 2) p1 1) (fun z9 => (zr v63 2 z9)) fun v72 =>
zup (d_X5_add 30 (v72 3) p1 1) (fun z9 => (zr v72 3 z9)) fun v81 =>
some v81) fun j_54 =>
(if t26 = 0 then
zup (d_X5_store 30 (v 4) (v 5 0) p1) (fun z9 => (zr v 4 z9)) fun v41 =>
zlet ((v41 5 0) + 1) fun t50 =>
zlet (zs v41 5 0 t50) fun v51 =>
j_54 v51
else
j_54 v)) fun j_21 =>
(if p2 = 0 then
j_21 v
else
zcl (d_X6_hasClapped v p1) fun t6 =>
(if t6 = 0 then
zup (d_X5_add 30 (v 1) p1 1) (fun z9 => (zr v 1 z9)) fun v18 =>
j_21 v18
else
j_21 v))
set_option maxHeartbeats 4000000 in
set_option maxRecDepth 100000 in
theorem c_X6_addClap (l : Launch) (E : zE) (a : Nat → Nat) (v : zHV) (p1 : Int32) (p2 : Int32) (r : zHV) (h : d_X6_addClap v p1 p2 = some r) : zMv l E yX6_addClap wsX6_addClap rm_X6_addClap [.ref (a 0), .int p1, .int p2] (stW E a v) (stW E a r) := by
  intro sz
  refine z_entry (Qc := fun A => zQv E A (stW E a r)) (by decide) rfl (Nat.le_of_ble_eq_true rfl) ?_
  intro p e s m below meth c A X hW ls hl
  have X : zX E wsX6_addClap RX6 cX6_addClap 3 none yX6_addClap p s m ([.ref (a 0), .int p1, .int p2] : List Value).toArray meth c A := X
  have hl : lv_has ls 3 [(0, .ref (a 0)), (1, .int p1), (2, .int p2)] := hl
  have hr : d_X6_addClap v p1 p2 = some r := h
  clear h
  have q_0 : Cond.fieldLink RX6 23 "ApplauseTallies$Seats" "clapsTonight" "LApplauseTallies$Row;" ∈ wsX6_addClap := List.mem_of_getElem? (i := 2) rfl
  have hn_X6 : ∀ x ∈ wsX60, x ∈ wsX6_addClap := zz_in [26, 27, 28, 29, 30, 31, 32, 33] (by decide +kernel)
  have q_2 : Cond.fieldLink RX6 46 "ApplauseTallies$Seats" "clappedForPiece" "I" ∈ wsX6_addClap := List.mem_of_getElem? (i := 5) rfl
  have q_3 : Cond.fieldLink RX6 26 "ApplauseTallies$Seats" "clapsSoFar" "LApplauseTallies$Row;" ∈ wsX6_addClap := List.mem_of_getElem? (i := 6) rfl
  have q_4 : Cond.fieldLink RX6 29 "ApplauseTallies$Seats" "clappers" "LApplauseTallies$Row;" ∈ wsX6_addClap := List.mem_of_getElem? (i := 3) rfl
  have q_5 : Cond.fieldLink RX6 39 "ApplauseTallies$Seats" "clapperCount" "I" ∈ wsX6_addClap := List.mem_of_getElem? (i := 4) rfl
  have q_6 : Cond.fieldLink RX6 20 "ApplauseTallies$Seats" "early" "LApplauseTallies$Row;" ∈ wsX6_addClap := List.mem_of_getElem? (i := 1) rfl
  unfold d_X6_addClap at hr
  refine lv_iload_n X.1 X.2.1 dX6_addClap_0 rfl (lv_at hl 2 rfl) ?_
  obtain ⟨j_21, e_21, hr⟩ := zjn_some hr
  have J_21 : ∀ (v : zHV) (H : Heap) (locs : List Loc) (ls : Array Slot), j_21 v = some r → zW E A s (stW E a v) H locs → lv_has ls 3 [(0, .ref (a 0)), (1, .int p1), (2, .int p2)] → W p l e rm_X6_addClap s m ([.ref (a 0), .int p1, .int p2] : List Value).toArray below meth c H locs 0 0 (MQ below (zQv E A (stW E a r)) ([.ref (a 0), .int p1, .int p2] : List Value).toArray s 0 0 A) (F0 m 21 ls []) := by
    intro v H locs ls hr hW hl
    rw [e_21] at hr
    refine lv_aload_n X.1 X.2.1 dX6_addClap_21 rfl (lv_at hl 0 rfl) ?_
    refine z_get X hW 0 6 2 (C := RX6) (T := TX6) (N := 8) rfl rfl hn_X6 (by decide) q_0 rfl dX6_addClap_22 ?_
    refine lv_iload_n X.1 X.2.1 dX6_addClap_25 rfl (lv_at hl 1 rfl) ?_
    have hp_26 := (sp_st_5 E a v)
    refine z_callp X hW hr hp_26 (fun x h => z_runV (As := [.int p1]) (rest := []) X hW hp_26 (c_X5_at l E (zh a 5) 30 (v 2) p1 x h _) hy_X5_at 5 5 (C := RX5) (T := TX5) (N := 1) rfl rfl rfl gX6_addClap_X5_at rfl rfl ⟨by decide, by decide⟩ rfl hl rfl rfl (Nat.le_of_ble_eq_true rfl) dX6_addClap_26 ⟨Nat.zero_le _, Nat.zero_le _⟩) (fun t26 H locs hr hW => ?_)
    obtain ⟨j_54, e_54, hr⟩ := zjn_some hr
    have J_54 : ∀ (v : zHV) (H : Heap) (locs : List Loc) (ls : Array Slot), j_54 v = some r → zW E A s (stW E a v) H locs → lv_has ls 3 [(0, .ref (a 0)), (1, .int p1), (2, .int p2)] → W p l e rm_X6_addClap s m ([.ref (a 0), .int p1, .int p2] : List Value).toArray below meth c H locs 0 0 (MQ below (zQv E A (stW E a r)) ([.ref (a 0), .int p1, .int p2] : List Value).toArray s 0 0 A) (F0 m 54 ls []) := by
      intro v H locs ls hr hW hl
      rw [e_54] at hr
      refine lv_aload_n X.1 X.2.1 dX6_addClap_54 rfl (lv_at hl 0 rfl) ?_
      refine lv_dup X.1 X.2.1 dX6_addClap_55 rfl ?_
      refine z_get X hW 0 6 7 (C := RX6) (T := TX6) (N := 8) rfl rfl hn_X6 (by decide) q_2 rfl dX6_addClap_56 ?_
      refine lv_iconst (v := 1) X.1 X.2.1 dX6_addClap_59 (by decide) ?_
      refine lv_iload_n X.1 X.2.1 dX6_addClap_60 rfl (lv_at hl 1 rfl) ?_
      refine z_ishl X hr dX6_addClap_61 (fun t61 hr => ?_)
      refine z_ior X hr dX6_addClap_62 (fun t62 hr => ?_)
      refine z_put X hW hr (fun v63 => (stW E a v63)) tyX6 tyX6_ok nmX6 0 6 7 (C := RX6) (T := TX6) (N := 8) rfl rfl hn_X6 (by decide) q_2 rfl rfl rfl (Nat.le_of_ble_eq_true rfl) rfl dX6_addClap_63 (fun v63 H locs hr hW => ?_)
      refine lv_aload_n X.1 X.2.1 dX6_addClap_66 rfl (lv_at hl 0 rfl) ?_
      refine z_get X hW 0 6 2 (C := RX6) (T := TX6) (N := 8) rfl rfl hn_X6 (by decide) q_0 rfl dX6_addClap_67 ?_
      refine lv_iload_n X.1 X.2.1 dX6_addClap_70 rfl (lv_at hl 1 rfl) ?_
      refine lv_iconst (v := 1) X.1 X.2.1 dX6_addClap_71 (by decide) ?_
      have hp_72 := (sp_st_5 E a v63)
      refine z_callv X hW (fun z9 => (zr v63 2 z9)) hr hp_72 (fun z9 => (rwW E (zh a 5) 30 z9)) (fun v72 => (stW E a v72)) (fun z9 => (sj_st_5 E a v63 z9)) (fun z9 h => z_runV (As := [.int p1, .int 1]) (rest := []) X hW hp_72 (c_X5_add l E (zh a 5) 30 (v63 2) p1 1 z9 h _) hy_X5_add 5 5 (C := RX5) (T := TX5) (N := 1) rfl rfl rfl gX6_addClap_X5_add rfl rfl ⟨by decide, by decide⟩ rfl hl rfl rfl (Nat.le_of_ble_eq_true rfl) dX6_addClap_72 ⟨Nat.zero_le _, Nat.zero_le _⟩) (fun v72 H locs hr hW => ?_)
      refine lv_aload_n X.1 X.2.1 dX6_addClap_75 rfl (lv_at hl 0 rfl) ?_
      refine z_get X hW 0 6 3 (C := RX6) (T := TX6) (N := 8) rfl rfl hn_X6 (by decide) q_3 rfl dX6_addClap_76 ?_
      refine lv_iload_n X.1 X.2.1 dX6_addClap_79 rfl (lv_at hl 1 rfl) ?_
      refine lv_iconst (v := 1) X.1 X.2.1 dX6_addClap_80 (by decide) ?_
      have hp_81 := (sp_st_7 E a v72)
      refine z_callv X hW (fun z9 => (zr v72 3 z9)) hr hp_81 (fun z9 => (rwW E (zh a 7) 30 z9)) (fun v81 => (stW E a v81)) (fun z9 => (sj_st_7 E a v72 z9)) (fun z9 h => z_runV (As := [.int p1, .int 1]) (rest := []) X hW hp_81 (c_X5_add l E (zh a 7) 30 (v72 3) p1 1 z9 h _) hy_X5_add 7 5 (C := RX5) (T := TX5) (N := 1) rfl rfl rfl gX6_addClap_X5_add rfl rfl ⟨by decide, by decide⟩ rfl hl rfl rfl (Nat.le_of_ble_eq_true rfl) dX6_addClap_81 ⟨Nat.zero_le _, Nat.zero_le _⟩) (fun v81 H locs hr hW => ?_)
      cases hr
      exact z_vret X hW dX6_addClap_84
    refine z_ifne X 54 hr dX6_addClap_29 (by decide) (fun hr => ?_) (fun hr => ?_)
    · exact J_54 v _ _ _ hr hW (lv_sub hl [0, 1, 2] rfl)
    · refine lv_aload_n X.1 X.2.1 dX6_addClap_32 rfl (lv_at hl 0 rfl) ?_
      refine z_get X hW 0 6 4 (C := RX6) (T := TX6) (N := 8) rfl rfl hn_X6 (by decide) q_4 rfl dX6_addClap_33 ?_
      refine lv_aload_n X.1 X.2.1 dX6_addClap_36 rfl (lv_at hl 0 rfl) ?_
      refine z_get X hW 0 6 5 (C := RX6) (T := TX6) (N := 8) rfl rfl hn_X6 (by decide) q_5 rfl dX6_addClap_37 ?_
      refine lv_iload_n X.1 X.2.1 dX6_addClap_40 rfl (lv_at hl 1 rfl) ?_
      have hp_41 := (sp_st_9 E a v)
      refine z_callv X hW (fun z9 => (zr v 4 z9)) hr hp_41 (fun z9 => (rwW E (zh a 9) 30 z9)) (fun v41 => (stW E a v41)) (fun z9 => (sj_st_9 E a v z9)) (fun z9 h => z_runV (As := [.int (v 5 0), .int p1]) (rest := []) X hW hp_41 (c_X5_store l E (zh a 9) 30 (v 4) (v 5 0) p1 z9 h _) hy_X5_store 9 5 (C := RX5) (T := TX5) (N := 1) rfl rfl rfl gX6_addClap_X5_store rfl rfl ⟨by decide, by decide⟩ rfl hl rfl rfl (Nat.le_of_ble_eq_true rfl) dX6_addClap_41 ⟨Nat.zero_le _, Nat.zero_le _⟩) (fun v41 H locs hr hW => ?_)
      refine lv_aload_n X.1 X.2.1 dX6_addClap_44 rfl (lv_at hl 0 rfl) ?_
      refine lv_dup X.1 X.2.1 dX6_addClap_45 rfl ?_
      refine z_get X hW 0 6 5 (C := RX6) (T := TX6) (N := 8) rfl rfl hn_X6 (by decide) q_5 rfl dX6_addClap_46 ?_
      refine lv_iconst (v := 1) X.1 X.2.1 dX6_addClap_49 (by decide) ?_
      refine z_iadd X hr dX6_addClap_50 (fun t50 hr => ?_)
      refine z_put X hW hr (fun v51 => (stW E a v51)) tyX6 tyX6_ok nmX6 0 6 5 (C := RX6) (T := TX6) (N := 8) rfl rfl hn_X6 (by decide) q_5 rfl rfl rfl (Nat.le_of_ble_eq_true rfl) rfl dX6_addClap_51 (fun v51 H locs hr hW => ?_)
      exact J_54 v51 _ _ _ hr hW (lv_sub hl [0, 1, 2] rfl)
  refine z_ifeq X 21 hr dX6_addClap_1 (by decide) (fun hr => ?_) (fun hr => ?_)
  · exact J_21 v _ _ _ hr hW (lv_sub hl [0, 1, 2] rfl)
  · refine lv_aload_n X.1 X.2.1 dX6_addClap_4 rfl (lv_at hl 0 rfl) ?_
    refine lv_iload_n X.1 X.2.1 dX6_addClap_5 rfl (lv_at hl 1 rfl) ?_
    have hp_6 := (z_all (stW E a v))
    refine z_callp X hW hr hp_6 (fun x h => z_runV (As := [.int p1]) (rest := []) X hW hp_6 (c_X6_hasClapped l E a v p1 x h _) hy_X6_hasClapped 0 6 (C := RX6) (T := TX6) (N := 8) rfl rfl rfl gX6_addClap_X6_hasClapped rfl rfl ⟨by decide, by decide⟩ rfl hl rfl rfl (Nat.le_of_ble_eq_true rfl) dX6_addClap_6 ⟨Nat.zero_le _, Nat.zero_le _⟩) (fun t6 H locs hr hW => ?_)
    refine z_ifne X 21 hr dX6_addClap_9 (by decide) (fun hr => ?_) (fun hr => ?_)
    · exact J_21 v _ _ _ hr hW (lv_sub hl [0, 1, 2] rfl)
    · refine lv_aload_n X.1 X.2.1 dX6_addClap_12 rfl (lv_at hl 0 rfl) ?_
      refine z_get X hW 0 6 1 (C := RX6) (T := TX6) (N := 8) rfl rfl hn_X6 (by decide) q_6 rfl dX6_addClap_13 ?_
      refine lv_iload_n X.1 X.2.1 dX6_addClap_16 rfl (lv_at hl 1 rfl) ?_
      refine lv_iconst (v := 1) X.1 X.2.1 dX6_addClap_17 (by decide) ?_
      have hp_18 := (sp_st_3 E a v)
      refine z_callv X hW (fun z9 => (zr v 1 z9)) hr hp_18 (fun z9 => (rwW E (zh a 3) 30 z9)) (fun v18 => (stW E a v18)) (fun z9 => (sj_st_3 E a v z9)) (fun z9 h => z_runV (As := [.int p1, .int 1]) (rest := []) X hW hp_18 (c_X5_add l E (zh a 3) 30 (v 1) p1 1 z9 h _) hy_X5_add 3 5 (C := RX5) (T := TX5) (N := 1) rfl rfl rfl gX6_addClap_X5_add rfl rfl ⟨by decide, by decide⟩ rfl hl rfl rfl (Nat.le_of_ble_eq_true rfl) dX6_addClap_18 ⟨Nat.zero_le _, Nat.zero_le _⟩) (fun v18 H locs hr hW => ?_)
      exact J_21 v18 _ _ _ hr hW (lv_sub hl [0, 1, 2] rfl)
abbrev rm_X6_suspected : Room := { frames := 1, cells := 0, slots := 0, locals := 21 }
theorem hy_X6_suspected : zY yX6_suspected wsX6_suspected cX6_suspected 4 (some .int) 1 := ⟨⟨_, rfl⟩, by decide, by decide, by decide +kernel⟩
def lpB_X6_suspected_4 (v : zHV) (p1 : Int32)  (k_4 : Int32 → Int32 → Option (Int32)) (x2 : Int32) (x3 : Int32) : Option (Int32) :=
(if 30 ≤ x3 then
some x2
else
zcl (d_X5_at 30 (v 1) x3) fun t15 =>
(if t15 < p1 then
zlet (x3 + Int32.ofInt 1) fun x3_28 =>
k_4 x2 x3_28
else
zlet (1 <<< (x3 &&& 31)) fun t25 =>
zlet (x2 ||| t25) fun t26 =>
zlet (x3 + Int32.ofInt 1) fun x3_28 =>
k_4 t26 x3_28))
def lp_X6_suspected_4 (v : zHV) (p1 : Int32)  : Nat → Int32 → Int32 → Option (Int32)
  | 0 => fun _ _ => none
  | n_ + 1 => lpB_X6_suspected_4 v p1  (lp_X6_suspected_4 v p1  n_)
def d_X6_suspected (v : zHV) (p1 : Int32) : Option (Int32) :=
lp_X6_suspected_4 v p1  zF 0 0
set_option maxHeartbeats 4000000 in
set_option maxRecDepth 100000 in
theorem c_X6_suspected (l : Launch) (E : zE) (a : Nat → Nat) (v : zHV) (p1 : Int32) (r : Int32) (h : d_X6_suspected v p1 = some r) : zMi l E yX6_suspected wsX6_suspected rm_X6_suspected [.ref (a 0), .int p1] (stW E a v) r (stW E a v) := by
  intro sz
  refine z_entry (Qc := fun A => zQi E A r (stW E a v)) (by decide) rfl (Nat.le_of_ble_eq_true rfl) ?_
  intro p e s m below meth c A X hW ls hl
  have X : zX E wsX6_suspected RX6 cX6_suspected 4 (some .int) yX6_suspected p s m ([.ref (a 0), .int p1] : List Value).toArray meth c A := X
  have hl : lv_has ls 4 [(0, .ref (a 0)), (1, .int p1)] := hl
  have hr : d_X6_suspected v p1 = some r := h
  clear h
  have q_0 : Cond.fieldLink RX6 20 "ApplauseTallies$Seats" "early" "LApplauseTallies$Row;" ∈ wsX6_suspected := List.mem_of_getElem? (i := 1) rfl
  have hn_X6 : ∀ x ∈ wsX60, x ∈ wsX6_suspected := zz_in [8, 9, 10, 11, 12, 13, 14, 15] (by decide +kernel)
  unfold d_X6_suspected at hr
  refine lv_iconst (v := 0) X.1 X.2.1 dX6_suspected_0 (by decide) ?_
  refine lv_istore_n (lv' := [(2, .int 0), (0, .ref (a 0)), (1, .int p1)]) X.1 X.2.1 dX6_suspected_1 rfl hl (by decide) rfl (fun ls hl => ?_)
  refine lv_iconst (v := 0) X.1 X.2.1 dX6_suspected_2 (by decide) ?_
  refine lv_istore_n (lv' := [(3, .int 0), (2, .int 0), (0, .ref (a 0)), (1, .int p1)]) X.1 X.2.1 dX6_suspected_3 rfl hl (by decide) rfl (fun ls hl => ?_)
  have L_4 : ∀ (n_4 : Nat), ∀ (x2 : Int32) (x3 : Int32) (H : Heap) (locs : List Loc) (ls : Array Slot), lp_X6_suspected_4 v p1  n_4 x2 x3 = some r → zW E A s (stW E a v) H locs → lv_has ls 4 [(0, .ref (a 0)), (1, .int p1), (2, .int x2), (3, .int x3)] → W p l e rm_X6_suspected s m ([.ref (a 0), .int p1] : List Value).toArray below meth c H locs 0 0 (MQ below (zQi E A r (stW E a v)) ([.ref (a 0), .int p1] : List Value).toArray s 0 0 A) (F0 m 4 ls []) := by
    intro n_4
    induction n_4 with
    | zero => exact fun x2 x3 H locs ls hr hW hl => absurd (show (none : Option (Int32)) = some r from hr) (fun h => by cases h)
    | succ n_4 ih_4 =>
      intro x2 x3 H locs ls hr hW hl
      have hr : lpB_X6_suspected_4 v p1  (lp_X6_suspected_4 v p1  n_4) x2 x3 = some r := hr
      unfold lpB_X6_suspected_4 at hr
      refine lv_iload_n X.1 X.2.1 dX6_suspected_4 rfl (lv_at hl 3 rfl) ?_
      refine lv_bipush (v := 30) X.1 X.2.1 dX6_suspected_5 (by decide) ?_
      refine z_cmpge X 34 hr dX6_suspected_7 (by decide) (fun hr => ?_) (fun hr => ?_)
      · refine lv_iload_n X.1 X.2.1 dX6_suspected_34 rfl (lv_at hl 2 rfl) ?_
        cases hr
        exact z_iret X hW rfl dX6_suspected_35
      · refine lv_aload_n X.1 X.2.1 dX6_suspected_10 rfl (lv_at hl 0 rfl) ?_
        refine z_get X hW 0 6 1 (C := RX6) (T := TX6) (N := 8) rfl rfl hn_X6 (by decide) q_0 rfl dX6_suspected_11 ?_
        refine lv_iload_n X.1 X.2.1 dX6_suspected_14 rfl (lv_at hl 3 rfl) ?_
        have hp_15 := (sp_st_3 E a v)
        refine z_callp X hW hr hp_15 (fun x h => z_runV (As := [.int x3]) (rest := []) X hW hp_15 (c_X5_at l E (zh a 3) 30 (v 1) x3 x h _) hy_X5_at 3 5 (C := RX5) (T := TX5) (N := 1) rfl rfl rfl gX6_suspected_X5_at rfl rfl ⟨by decide, by decide⟩ rfl hl rfl rfl (Nat.le_of_ble_eq_true rfl) dX6_suspected_15 ⟨Nat.zero_le _, Nat.zero_le _⟩) (fun t15 H locs hr hW => ?_)
        refine lv_iload_n X.1 X.2.1 dX6_suspected_18 rfl (lv_at hl 1 rfl) ?_
        refine z_cmplt X 28 hr dX6_suspected_19 (by decide) (fun hr => ?_) (fun hr => ?_)
        · refine z_iinc X (fun x3_28 => [(3, .int x3_28), (0, .ref (a 0)), (1, .int p1), (2, .int x2)]) hr hl (k := 3) rfl (by decide) (fun _ => rfl) dX6_suspected_28 (fun x3_28 ls hr hl => ?_)
          refine lv_goto (tgt := 4) X.1 X.2.1 dX6_suspected_31 (by decide) ?_
          exact ih_4 x2 x3_28 _ _ _ hr hW (lv_sub hl [1, 2, 3, 0] rfl)
        · refine lv_iload_n X.1 X.2.1 dX6_suspected_22 rfl (lv_at hl 2 rfl) ?_
          refine lv_iconst (v := 1) X.1 X.2.1 dX6_suspected_23 (by decide) ?_
          refine lv_iload_n X.1 X.2.1 dX6_suspected_24 rfl (lv_at hl 3 rfl) ?_
          refine z_ishl X hr dX6_suspected_25 (fun t25 hr => ?_)
          refine z_ior X hr dX6_suspected_26 (fun t26 hr => ?_)
          refine lv_istore_n (lv' := [(2, .int t26), (0, .ref (a 0)), (1, .int p1), (3, .int x3)]) X.1 X.2.1 dX6_suspected_27 rfl hl (by decide) rfl (fun ls hl => ?_)
          refine z_iinc X (fun x3_28 => [(3, .int x3_28), (2, .int t26), (0, .ref (a 0)), (1, .int p1)]) hr hl (k := 3) rfl (by decide) (fun _ => rfl) dX6_suspected_28 (fun x3_28 ls hr hl => ?_)
          refine lv_goto (tgt := 4) X.1 X.2.1 dX6_suspected_31 (by decide) ?_
          exact ih_4 t26 x3_28 _ _ _ hr hW (lv_sub hl [2, 3, 1, 0] rfl)
  exact L_4 _ 0 0 _ _ _ hr hW (lv_sub hl [2, 3, 1, 0] rfl)
abbrev rm_X6_clapperAt : Room := { frames := 1, cells := 0, slots := 0, locals := 21 }
theorem hy_X6_clapperAt : zY yX6_clapperAt wsX6_clapperAt cX6_clapperAt 2 (some .int) 1 := ⟨⟨_, rfl⟩, by decide, by decide, by decide +kernel⟩
def d_X6_clapperAt (v : zHV) (p1 : Int32) : Option (Int32) :=
(if p1 < 0 then
some (-1)
else
(if (v 5 0) ≤ p1 then
some (-1)
else
zcl (d_X5_at 30 (v 4) p1) fun t17 =>
some t17))
set_option maxHeartbeats 4000000 in
set_option maxRecDepth 100000 in
theorem c_X6_clapperAt (l : Launch) (E : zE) (a : Nat → Nat) (v : zHV) (p1 : Int32) (r : Int32) (h : d_X6_clapperAt v p1 = some r) : zMi l E yX6_clapperAt wsX6_clapperAt rm_X6_clapperAt [.ref (a 0), .int p1] (stW E a v) r (stW E a v) := by
  intro sz
  refine z_entry (Qc := fun A => zQi E A r (stW E a v)) (by decide) rfl (Nat.le_of_ble_eq_true rfl) ?_
  intro p e s m below meth c A X hW ls hl
  have X : zX E wsX6_clapperAt RX6 cX6_clapperAt 2 (some .int) yX6_clapperAt p s m ([.ref (a 0), .int p1] : List Value).toArray meth c A := X
  have hl : lv_has ls 2 [(0, .ref (a 0)), (1, .int p1)] := hl
  have hr : d_X6_clapperAt v p1 = some r := h
  clear h
  have q_0 : Cond.fieldLink RX6 39 "ApplauseTallies$Seats" "clapperCount" "I" ∈ wsX6_clapperAt := List.mem_of_getElem? (i := 1) rfl
  have hn_X6 : ∀ x ∈ wsX60, x ∈ wsX6_clapperAt := zz_in [9, 10, 11, 12, 13, 14, 15, 16] (by decide +kernel)
  have q_2 : Cond.fieldLink RX6 29 "ApplauseTallies$Seats" "clappers" "LApplauseTallies$Row;" ∈ wsX6_clapperAt := List.mem_of_getElem? (i := 2) rfl
  unfold d_X6_clapperAt at hr
  refine lv_iload_n X.1 X.2.1 dX6_clapperAt_0 rfl (lv_at hl 1 rfl) ?_
  refine z_iflt X 23 hr dX6_clapperAt_1 (by decide) (fun hr => ?_) (fun hr => ?_)
  · refine lv_iconst (v := (-1)) X.1 X.2.1 dX6_clapperAt_23 (by decide) ?_
    cases hr
    exact z_iret X hW rfl dX6_clapperAt_24
  · refine lv_iload_n X.1 X.2.1 dX6_clapperAt_4 rfl (lv_at hl 1 rfl) ?_
    refine lv_aload_n X.1 X.2.1 dX6_clapperAt_5 rfl (lv_at hl 0 rfl) ?_
    refine z_get X hW 0 6 5 (C := RX6) (T := TX6) (N := 8) rfl rfl hn_X6 (by decide) q_0 rfl dX6_clapperAt_6 ?_
    refine z_cmpge X 23 hr dX6_clapperAt_9 (by decide) (fun hr => ?_) (fun hr => ?_)
    · refine lv_iconst (v := (-1)) X.1 X.2.1 dX6_clapperAt_23 (by decide) ?_
      cases hr
      exact z_iret X hW rfl dX6_clapperAt_24
    · refine lv_aload_n X.1 X.2.1 dX6_clapperAt_12 rfl (lv_at hl 0 rfl) ?_
      refine z_get X hW 0 6 4 (C := RX6) (T := TX6) (N := 8) rfl rfl hn_X6 (by decide) q_2 rfl dX6_clapperAt_13 ?_
      refine lv_iload_n X.1 X.2.1 dX6_clapperAt_16 rfl (lv_at hl 1 rfl) ?_
      have hp_17 := (sp_st_9 E a v)
      refine z_callp X hW hr hp_17 (fun x h => z_runV (As := [.int p1]) (rest := []) X hW hp_17 (c_X5_at l E (zh a 9) 30 (v 4) p1 x h _) hy_X5_at 9 5 (C := RX5) (T := TX5) (N := 1) rfl rfl rfl gX6_clapperAt_X5_at rfl rfl ⟨by decide, by decide⟩ rfl hl rfl rfl (Nat.le_of_ble_eq_true rfl) dX6_clapperAt_17 ⟨Nat.zero_le _, Nat.zero_le _⟩) (fun t17 H locs hr hW => ?_)
      refine lv_goto (tgt := 24) X.1 X.2.1 dX6_clapperAt_20 (by decide) ?_
      cases hr
      exact z_iret X hW rfl dX6_clapperAt_24
