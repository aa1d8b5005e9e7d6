abbrev rm_X0_copyFrom : Room := { frames := 2, cells := 0, slots := 0, locals := 59 }
theorem hy_X0_copyFrom : zY yX0_copyFrom wsX0_copyFrom cX0_copyFrom 2 none 1 := ⟨⟨_, rfl⟩, by decide, by decide, by decide +kernel⟩
def d_X0_copyFrom (v : zHV) (w : zHV) : Option (zHV) :=
zup (d_X5_copyFrom 8 (v 0) 8 (w 0)) (fun z9 => (zr v 0 z9)) fun v8 =>
zup (d_X5_copyFrom 8 (v8 1) 8 (w 1)) (fun z9 => (zr v8 1 z9)) fun v19 =>
zup (d_X5_copyFrom 6 (v19 2) 6 (w 2)) (fun z9 => (zr v19 2 z9)) fun v30 =>
zup (d_X5_copyFrom 6 (v30 3) 6 (w 3)) (fun z9 => (zr v30 3 z9)) fun v41 =>
zup (d_X5_copyFrom 6 (v41 4) 6 (w 4)) (fun z9 => (zr v41 4 z9)) fun v52 =>
zlet (zs v52 5 0 (w 5 0)) fun v60 =>
some v60
set_option maxHeartbeats 4000000 in
set_option maxRecDepth 100000 in
theorem c_X0_copyFrom (l : Launch) (E : zE) (a b : Nat → Nat) (v : zHV) (w : zHV) (r : zHV) (h : d_X0_copyFrom v w = some r) : zMv l E yX0_copyFrom wsX0_copyFrom rm_X0_copyFrom [.ref (a 0), .ref (b 0)] ((enW E a v) ++ (enW E b w)) ((enW E a r) ++ (enW E b w)) := by
  intro sz
  refine z_entry (Qc := fun A => zQv E A ((enW E a r) ++ (enW E b w))) (by decide) rfl (Nat.le_of_ble_eq_true rfl) ?_
  intro p e s m below meth c A X hW ls hl
  have X : zX E wsX0_copyFrom RX0 cX0_copyFrom 2 none yX0_copyFrom p s m ([.ref (a 0), .ref (b 0)] : List Value).toArray meth c A := X
  have hl : lv_has ls 2 [(0, .ref (a 0)), (1, .ref (b 0))] := hl
  have hr : d_X0_copyFrom v w = some r := h
  clear h
  have q_0 : Cond.fieldLink RX0 14 "ApplauseTallies$Encores" "owers" "LApplauseTallies$Row;" ∈ wsX0_copyFrom := List.mem_of_getElem? (i := 1) rfl
  have hn_X0 : ∀ x ∈ wsX00, x ∈ wsX0_copyFrom := zz_in [21, 22, 23, 24, 25, 26] (by decide +kernel)
  have q_2 : Cond.fieldLink RX0 20 "ApplauseTallies$Encores" "since" "LApplauseTallies$Row;" ∈ wsX0_copyFrom := List.mem_of_getElem? (i := 2) rfl
  have q_3 : Cond.fieldLink RX0 23 "ApplauseTallies$Encores" "played" "LApplauseTallies$Row;" ∈ wsX0_copyFrom := List.mem_of_getElem? (i := 3) rfl
  have q_4 : Cond.fieldLink RX0 26 "ApplauseTallies$Encores" "lapsed" "LApplauseTallies$Row;" ∈ wsX0_copyFrom := List.mem_of_getElem? (i := 4) rfl
  have q_5 : Cond.fieldLink RX0 29 "ApplauseTallies$Encores" "pieces" "LApplauseTallies$Row;" ∈ wsX0_copyFrom := List.mem_of_getElem? (i := 5) rfl
  have q_6 : Cond.fieldLink RX0 36 "ApplauseTallies$Encores" "owedCount" "I" ∈ wsX0_copyFrom := List.mem_of_getElem? (i := 6) rfl
  unfold d_X0_copyFrom at hr
  refine lv_aload_n X.1 X.2.1 dX0_copyFrom_0 rfl (lv_at hl 0 rfl) ?_
  refine z_get X hW 0 0 0 (C := RX0) (T := TX0) (N := 6) rfl rfl hn_X0 (by decide) q_0 rfl dX0_copyFrom_1 ?_
  refine lv_aload_n X.1 X.2.1 dX0_copyFrom_4 rfl (lv_at hl 1 rfl) ?_
  refine z_get X hW 11 0 0 (C := RX0) (T := TX0) (N := 6) rfl rfl hn_X0 (by decide) q_0 rfl dX0_copyFrom_5 ?_
  have hp_8 := (z_sp2 (sp_en_1 E a v) (sp_en_1 E b w))
  refine z_callv X hW (fun z9 => (zr v 0 z9)) hr hp_8 (fun z9 => ((rwW E (zh a 1) 8 z9) ++ (rwW E (zh b 1) 8 (w 0)))) (fun v8 => ((enW E a v8) ++ (enW E b w))) (fun z9 => (z_jn2 (sj_en_1 E a v z9) (sp_en_1 E b w).symm)) (fun z9 h => z_runV (As := [.ref (b 1)]) (rest := []) X hW hp_8 (c_X5_copyFrom l E (zh a 1) (zh b 1) 8 (v 0) 8 (w 0) z9 h _) hy_X5_copyFrom 1 5 (C := RX5) (T := TX5) (N := 1) rfl rfl rfl gX0_copyFrom_X5_copyFrom rfl rfl ⟨by decide, by decide⟩ rfl hl rfl rfl (Nat.le_of_ble_eq_true rfl) dX0_copyFrom_8 ⟨Nat.zero_le _, Nat.zero_le _⟩) (fun v8 H locs hr hW => ?_)
  refine lv_aload_n X.1 X.2.1 dX0_copyFrom_11 rfl (lv_at hl 0 rfl) ?_
  refine z_get X hW 0 0 1 (C := RX0) (T := TX0) (N := 6) rfl rfl hn_X0 (by decide) q_2 rfl dX0_copyFrom_12 ?_
  refine lv_aload_n X.1 X.2.1 dX0_copyFrom_15 rfl (lv_at hl 1 rfl) ?_
  refine z_get X hW 11 0 1 (C := RX0) (T := TX0) (N := 6) rfl rfl hn_X0 (by decide) q_2 rfl dX0_copyFrom_16 ?_
  have hp_19 := (z_sp2 (sp_en_3 E a v8) (sp_en_3 E b w))
  refine z_callv X hW (fun z9 => (zr v8 1 z9)) hr hp_19 (fun z9 => ((rwW E (zh a 3) 8 z9) ++ (rwW E (zh b 3) 8 (w 1)))) (fun v19 => ((enW E a v19) ++ (enW E b w))) (fun z9 => (z_jn2 (sj_en_3 E a v8 z9) (sp_en_3 E b w).symm)) (fun z9 h => z_runV (As := [.ref (b 3)]) (rest := []) X hW hp_19 (c_X5_copyFrom l E (zh a 3) (zh b 3) 8 (v8 1) 8 (w 1) z9 h _) hy_X5_copyFrom 3 5 (C := RX5) (T := TX5) (N := 1) rfl rfl rfl gX0_copyFrom_X5_copyFrom rfl rfl ⟨by decide, by decide⟩ rfl hl rfl rfl (Nat.le_of_ble_eq_true rfl) dX0_copyFrom_19 ⟨Nat.zero_le _, Nat.zero_le _⟩) (fun v19 H locs hr hW => ?_)
  refine lv_aload_n X.1 X.2.1 dX0_copyFrom_22 rfl (lv_at hl 0 rfl) ?_
  refine z_get X hW 0 0 2 (C := RX0) (T := TX0) (N := 6) rfl rfl hn_X0 (by decide) q_3 rfl dX0_copyFrom_23 ?_
  refine lv_aload_n X.1 X.2.1 dX0_copyFrom_26 rfl (lv_at hl 1 rfl) ?_
  refine z_get X hW 11 0 2 (C := RX0) (T := TX0) (N := 6) rfl rfl hn_X0 (by decide) q_3 rfl dX0_copyFrom_27 ?_
  have hp_30 := (z_sp2 (sp_en_5 E a v19) (sp_en_5 E b w))
  refine z_callv X hW (fun z9 => (zr v19 2 z9)) hr hp_30 (fun z9 => ((rwW E (zh a 5) 6 z9) ++ (rwW E (zh b 5) 6 (w 2)))) (fun v30 => ((enW E a v30) ++ (enW E b w))) (fun z9 => (z_jn2 (sj_en_5 E a v19 z9) (sp_en_5 E b w).symm)) (fun z9 h => z_runV (As := [.ref (b 5)]) (rest := []) X hW hp_30 (c_X5_copyFrom l E (zh a 5) (zh b 5) 6 (v19 2) 6 (w 2) z9 h _) hy_X5_copyFrom 5 5 (C := RX5) (T := TX5) (N := 1) rfl rfl rfl gX0_copyFrom_X5_copyFrom rfl rfl ⟨by decide, by decide⟩ rfl hl rfl rfl (Nat.le_of_ble_eq_true rfl) dX0_copyFrom_30 ⟨Nat.zero_le _, Nat.zero_le _⟩) (fun v30 H locs hr hW => ?_)
  refine lv_aload_n X.1 X.2.1 dX0_copyFrom_33 rfl (lv_at hl 0 rfl) ?_
  refine z_get X hW 0 0 3 (C := RX0) (T := TX0) (N := 6) rfl rfl hn_X0 (by decide) q_4 rfl dX0_copyFrom_34 ?_
  refine lv_aload_n X.1 X.2.1 dX0_copyFrom_37 rfl (lv_at hl 1 rfl) ?_
  refine z_get X hW 11 0 3 (C := RX0) (T := TX0) (N := 6) rfl rfl hn_X0 (by decide) q_4 rfl dX0_copyFrom_38 ?_
  have hp_41 := (z_sp2 (sp_en_7 E a v30) (sp_en_7 E b w))
  refine z_callv X hW (fun z9 => (zr v30 3 z9)) hr hp_41 (fun z9 => ((rwW E (zh a 7) 6 z9) ++ (rwW E (zh b 7) 6 (w 3)))) (fun v41 => ((enW E a v41) ++ (enW E b w))) (fun z9 => (z_jn2 (sj_en_7 E a v30 z9) (sp_en_7 E b w).symm)) (fun z9 h => z_runV (As := [.ref (b 7)]) (rest := []) X hW hp_41 (c_X5_copyFrom l E (zh a 7) (zh b 7) 6 (v30 3) 6 (w 3) z9 h _) hy_X5_copyFrom 7 5 (C := RX5) (T := TX5) (N := 1) rfl rfl rfl gX0_copyFrom_X5_copyFrom rfl rfl ⟨by decide, by decide⟩ rfl hl rfl rfl (Nat.le_of_ble_eq_true rfl) dX0_copyFrom_41 ⟨Nat.zero_le _, Nat.zero_le _⟩) (fun v41 H locs hr hW => ?_)
  refine lv_aload_n X.1 X.2.1 dX0_copyFrom_44 rfl (lv_at hl 0 rfl) ?_
  refine z_get X hW 0 0 4 (C := RX0) (T := TX0) (N := 6) rfl rfl hn_X0 (by decide) q_5 rfl dX0_copyFrom_45 ?_
  refine lv_aload_n X.1 X.2.1 dX0_copyFrom_48 rfl (lv_at hl 1 rfl) ?_
  refine z_get X hW 11 0 4 (C := RX0) (T := TX0) (N := 6) rfl rfl hn_X0 (by decide) q_5 rfl dX0_copyFrom_49 ?_
  have hp_52 := (z_sp2 (sp_en_9 E a v41) (sp_en_9 E b w))
  refine z_callv X hW (fun z9 => (zr v41 4 z9)) hr hp_52 (fun z9 => ((rwW E (zh a 9) 6 z9) ++ (rwW E (zh b 9) 6 (w 4)))) (fun v52 => ((enW E a v52) ++ (enW E b w))) (fun z9 => (z_jn2 (sj_en_9 E a v41 z9) (sp_en_9 E b w).symm)) (fun z9 h => z_runV (As := [.ref (b 9)]) (rest := []) X hW hp_52 (c_X5_copyFrom l E (zh a 9) (zh b 9) 6 (v41 4) 6 (w 4) z9 h _) hy_X5_copyFrom 9 5 (C := RX5) (T := TX5) (N := 1) rfl rfl rfl gX0_copyFrom_X5_copyFrom rfl rfl ⟨by decide, by decide⟩ rfl hl rfl rfl (Nat.le_of_ble_eq_true rfl) dX0_copyFrom_52 ⟨Nat.zero_le _, Nat.zero_le _⟩) (fun v52 H locs hr hW => ?_)
  refine lv_aload_n X.1 X.2.1 dX0_copyFrom_55 rfl (lv_at hl 0 rfl) ?_
  refine lv_aload_n X.1 X.2.1 dX0_copyFrom_56 rfl (lv_at hl 1 rfl) ?_
  refine z_get X hW 11 0 5 (C := RX0) (T := TX0) (N := 6) rfl rfl hn_X0 (by decide) q_6 rfl dX0_copyFrom_57 ?_
  refine z_put X hW hr (fun v60 => ((enW E a v60) ++ (enW E b w))) tyX0 tyX0_ok nmX0 0 0 5 (C := RX0) (T := TX0) (N := 6) rfl rfl hn_X0 (by decide) q_6 rfl rfl rfl (Nat.le_of_ble_eq_true rfl) rfl dX0_copyFrom_60 (fun v60 H locs hr hW => ?_)
  cases hr
  exact z_vret X hW dX0_copyFrom_63
abbrev rm_X0_owe : Room := { frames := 1, cells := 0, slots := 0, locals := 22 }
theorem hy_X0_owe : zY yX0_owe wsX0_owe cX0_owe 3 (some .boolean) 2 := ⟨⟨_, rfl⟩, by decide, by decide, by decide +kernel⟩
def d_X0_owe (v : zHV) (p1 : Int32) (p2 : Int32) : Option (Int32 × zHV) :=
(if (v 5 0) < 8 then
zup (d_X5_store 8 (v 0) (v 5 0) p1) (fun z9 => (zr v 0 z9)) fun v29 =>
zup (d_X5_store 8 (v29 1) (v29 5 0) p2) (fun z9 => (zr v29 1 z9)) fun v41 =>
zlet ((v41 5 0) + 1) fun t50 =>
zlet (zs v41 5 0 t50) fun v51 =>
some (1, v51)
else
zup (d_X5_add 6 (v 3) p1 1) (fun z9 => (zr v 3 z9)) fun v15 =>
some (0, v15))
set_option maxHeartbeats 4000000 in
set_option maxRecDepth 100000 in
theorem c_X0_owe (l : Launch) (E : zE) (a : Nat → Nat) (v : zHV) (p1 : Int32) (p2 : Int32) (r : Int32 × zHV) (h : d_X0_owe v p1 p2 = some r) : zMi l E yX0_owe wsX0_owe rm_X0_owe [.ref (a 0), .int p1, .int p2] (enW E a v) r.1 (enW E a r.2) := by
  intro sz
  refine z_entry (Qc := fun A => zQi E A r.1 (enW E a r.2)) (by decide) rfl (Nat.le_of_ble_eq_true rfl) ?_
  intro p e s m below meth c A X hW ls hl
  have X : zX E wsX0_owe RX0 cX0_owe 3 (some .boolean) yX0_owe p s m ([.ref (a 0), .int p1, .int p2] : List Value).toArray meth c A := X
  have hl : lv_has ls 3 [(0, .ref (a 0)), (1, .int p1), (2, .int p2)] := hl
  have hr : d_X0_owe v p1 p2 = some r := h
  clear h
  have q_0 : Cond.fieldLink RX0 36 "ApplauseTallies$Encores" "owedCount" "I" ∈ wsX0_owe := List.mem_of_getElem? (i := 1) rfl
  have hn_X0 : ∀ x ∈ wsX00, x ∈ wsX0_owe := zz_in [15, 16, 17, 18, 19, 20] (by decide +kernel)
  have q_2 : Cond.fieldLink RX0 14 "ApplauseTallies$Encores" "owers" "LApplauseTallies$Row;" ∈ wsX0_owe := List.mem_of_getElem? (i := 3) rfl
  have q_3 : Cond.fieldLink RX0 20 "ApplauseTallies$Encores" "since" "LApplauseTallies$Row;" ∈ wsX0_owe := List.mem_of_getElem? (i := 4) rfl
  have q_4 : Cond.fieldLink RX0 26 "ApplauseTallies$Encores" "lapsed" "LApplauseTallies$Row;" ∈ wsX0_owe := List.mem_of_getElem? (i := 2) rfl
  unfold d_X0_owe at hr
  refine lv_aload_n X.1 X.2.1 dX0_owe_0 rfl (lv_at hl 0 rfl) ?_
  refine z_get X hW 0 0 5 (C := RX0) (T := TX0) (N := 6) rfl rfl hn_X0 (by decide) q_0 rfl dX0_owe_1 ?_
  refine lv_bipush (v := 8) X.1 X.2.1 dX0_owe_4 (by decide) ?_
  refine z_cmplt X 20 hr dX0_owe_6 (by decide) (fun hr => ?_) (fun hr => ?_)
  · refine lv_aload_n X.1 X.2.1 dX0_owe_20 rfl (lv_at hl 0 rfl) ?_
    refine z_get X hW 0 0 0 (C := RX0) (T := TX0) (N := 6) rfl rfl hn_X0 (by decide) q_2 rfl dX0_owe_21 ?_
    refine lv_aload_n X.1 X.2.1 dX0_owe_24 rfl (lv_at hl 0 rfl) ?_
    refine z_get X hW 0 0 5 (C := RX0) (T := TX0) (N := 6) rfl rfl hn_X0 (by decide) q_0 rfl dX0_owe_25 ?_
    refine lv_iload_n X.1 X.2.1 dX0_owe_28 rfl (lv_at hl 1 rfl) ?_
    have hp_29 := (sp_en_1 E a v)
    refine z_callv X hW (fun z9 => (zr v 0 z9)) hr hp_29 (fun z9 => (rwW E (zh a 1) 8 z9)) (fun v29 => (enW E a v29)) (fun z9 => (sj_en_1 E a v z9)) (fun z9 h => z_runV (As := [.int (v 5 0), .int p1]) (rest := []) X hW hp_29 (c_X5_store l E (zh a 1) 8 (v 0) (v 5 0) p1 z9 h _) hy_X5_store 1 5 (C := RX5) (T := TX5) (N := 1) rfl rfl rfl gX0_owe_X5_store rfl rfl ⟨by decide, by decide⟩ rfl hl rfl rfl (Nat.le_of_ble_eq_true rfl) dX0_owe_29 ⟨Nat.zero_le _, Nat.zero_le _⟩) (fun v29 H locs hr hW => ?_)
    refine lv_aload_n X.1 X.2.1 dX0_owe_32 rfl (lv_at hl 0 rfl) ?_
    refine z_get X hW 0 0 1 (C := RX0) (T := TX0) (N := 6) rfl rfl hn_X0 (by decide) q_3 rfl dX0_owe_33 ?_
    refine lv_aload_n X.1 X.2.1 dX0_owe_36 rfl (lv_at hl 0 rfl) ?_
    refine z_get X hW 0 0 5 (C := RX0) (T := TX0) (N := 6) rfl rfl hn_X0 (by decide) q_0 rfl dX0_owe_37 ?_
    refine lv_iload_n X.1 X.2.1 dX0_owe_40 rfl (lv_at hl 2 rfl) ?_
    have hp_41 := (sp_en_3 E a v29)
    refine z_callv X hW (fun z9 => (zr v29 1 z9)) hr hp_41 (fun z9 => (rwW E (zh a 3) 8 z9)) (fun v41 => (enW E a v41)) (fun z9 => (sj_en_3 E a v29 z9)) (fun z9 h => z_runV (As := [.int (v29 5 0), .int p2]) (rest := []) X hW hp_41 (c_X5_store l E (zh a 3) 8 (v29 1) (v29 5 0) p2 z9 h _) hy_X5_store 3 5 (C := RX5) (T := TX5) (N := 1) rfl rfl rfl gX0_owe_X5_store rfl rfl ⟨by decide, by decide⟩ rfl hl rfl rfl (Nat.le_of_ble_eq_true rfl) dX0_owe_41 ⟨Nat.zero_le _, Nat.zero_le _⟩) (fun v41 H locs hr hW => ?_)
    refine lv_aload_n X.1 X.2.1 dX0_owe_44 rfl (lv_at hl 0 rfl) ?_
    refine lv_dup X.1 X.2.1 dX0_owe_45 rfl ?_
    refine z_get X hW 0 0 5 (C := RX0) (T := TX0) (N := 6) rfl rfl hn_X0 (by decide) q_0 rfl dX0_owe_46 ?_
    refine lv_iconst (v := 1) X.1 X.2.1 dX0_owe_49 (by decide) ?_
    refine z_iadd X hr dX0_owe_50 (fun t50 hr => ?_)
    refine z_put X hW hr (fun v51 => (enW E a v51)) tyX0 tyX0_ok nmX0 0 0 5 (C := RX0) (T := TX0) (N := 6) rfl rfl hn_X0 (by decide) q_0 rfl rfl rfl (Nat.le_of_ble_eq_true rfl) rfl dX0_owe_51 (fun v51 H locs hr hW => ?_)
    refine lv_iconst (v := 1) X.1 X.2.1 dX0_owe_54 (by decide) ?_
    cases hr
    exact z_zret X hW rfl rfl dX0_owe_55
  · refine lv_aload_n X.1 X.2.1 dX0_owe_9 rfl (lv_at hl 0 rfl) ?_
    refine z_get X hW 0 0 3 (C := RX0) (T := TX0) (N := 6) rfl rfl hn_X0 (by decide) q_4 rfl dX0_owe_10 ?_
    refine lv_iload_n X.1 X.2.1 dX0_owe_13 rfl (lv_at hl 1 rfl) ?_
    refine lv_iconst (v := 1) X.1 X.2.1 dX0_owe_14 (by decide) ?_
    have hp_15 := (sp_en_7 E a v)
    refine z_callv X hW (fun z9 => (zr v 3 z9)) hr hp_15 (fun z9 => (rwW E (zh a 7) 6 z9)) (fun v15 => (enW E a v15)) (fun z9 => (sj_en_7 E a v z9)) (fun z9 h => z_runV (As := [.int p1, .int 1]) (rest := []) X hW hp_15 (c_X5_add l E (zh a 7) 6 (v 3) p1 1 z9 h _) hy_X5_add 7 5 (C := RX5) (T := TX5) (N := 1) rfl rfl rfl gX0_owe_X5_add rfl rfl ⟨by decide, by decide⟩ rfl hl rfl rfl (Nat.le_of_ble_eq_true rfl) dX0_owe_15 ⟨Nat.zero_le _, Nat.zero_le _⟩) (fun v15 H locs hr hW => ?_)
    refine lv_iconst (v := 0) X.1 X.2.1 dX0_owe_18 (by decide) ?_
    cases hr
    exact z_zret X hW rfl rfl dX0_owe_19
abbrev rm_X0_lapseSince : Room := { frames := 1, cells := 0, slots := 0, locals := 22 }
theorem hy_X0_lapseSince : zY yX0_lapseSince wsX0_lapseSince cX0_lapseSince 4 (some .int) 1 := ⟨⟨_, rfl⟩, by decide, by decide, by decide +kernel⟩
def lpB_X0_lapseSince_4 (p1 : Int32)  (k_4 : Int32 → Int32 → zHV → Option (Int32 × zHV)) (x2 : Int32) (x3 : Int32) (v : zHV) : Option (Int32 × zHV) :=
(if (v 5 0) ≤ x3 then
zlet ((v 5 0) - x2) fun t89 =>
zlet (zs v 5 0 x2) fun v93 =>
some (t89, v93)
else
zcl (d_X5_at 8 (v 1) x3) fun t17 =>
(if p1 < t17 then
zcl (d_X5_at 8 (v 0) x3) fun t53 =>
zup (d_X5_store 8 (v 0) x2 t53) (fun z9 => (zr v 0 z9)) fun v56 =>
zcl (d_X5_at 8 (v56 1) x3) fun t69 =>
zup (d_X5_store 8 (v56 1) x2 t69) (fun z9 => (zr v56 1 z9)) fun v72 =>
zlet (x2 + Int32.ofInt 1) fun x2_75 =>
zlet (x3 + Int32.ofInt 1) fun x3_78 =>
k_4 x2_75 x3_78 v72
else
zcl (d_X5_at 8 (v 0) x3) fun t33 =>
zup (d_X5_add 6 (v 3) t33 1) (fun z9 => (zr v 3 z9)) fun v37 =>
zlet (x3 + Int32.ofInt 1) fun x3_78 =>
k_4 x2 x3_78 v37))
def lp_X0_lapseSince_4 (p1 : Int32)  : Nat → Int32 → Int32 → zHV → Option (Int32 × zHV)
  | 0 => fun _ _ _ => none
  | n_ + 1 => lpB_X0_lapseSince_4 p1  (lp_X0_lapseSince_4 p1  n_)
def d_X0_lapseSince (v : zHV) (p1 : Int32) : Option (Int32 × zHV) :=
lp_X0_lapseSince_4 p1  zF 0 0 v
set_option maxHeartbeats 4000000 in
set_option maxRecDepth 100000 in
theorem c_X0_lapseSince (l : Launch) (E : zE) (a : Nat → Nat) (v : zHV) (p1 : Int32) (r : Int32 × zHV) (h : d_X0_lapseSince v p1 = some r) : zMi l E yX0_lapseSince wsX0_lapseSince rm_X0_lapseSince [.ref (a 0), .int p1] (enW E a v) r.1 (enW E a r.2) := by
  intro sz
  refine z_entry (Qc := fun A => zQi E A r.1 (enW E a r.2)) (by decide) rfl (Nat.le_of_ble_eq_true rfl) ?_
  intro p e s m below meth c A X hW ls hl
  have X : zX E wsX0_lapseSince RX0 cX0_lapseSince 4 (some .int) yX0_lapseSince p s m ([.ref (a 0), .int p1] : List Value).toArray meth c A := X
  have hl : lv_has ls 4 [(0, .ref (a 0)), (1, .int p1)] := hl
  have hr : d_X0_lapseSince v p1 = some r := h
  clear h
  have q_0 : Cond.fieldLink RX0 36 "ApplauseTallies$Encores" "owedCount" "I" ∈ wsX0_lapseSince := List.mem_of_getElem? (i := 1) rfl
  have hn_X0 : ∀ x ∈ wsX00, x ∈ wsX0_lapseSince := zz_in [19, 20, 21, 22, 23, 24] (by decide +kernel)
  have q_2 : Cond.fieldLink RX0 20 "ApplauseTallies$Encores" "since" "LApplauseTallies$Row;" ∈ wsX0_lapseSince := List.mem_of_getElem? (i := 2) rfl
  have q_3 : Cond.fieldLink RX0 14 "ApplauseTallies$Encores" "owers" "LApplauseTallies$Row;" ∈ wsX0_lapseSince := List.mem_of_getElem? (i := 4) rfl
  have q_4 : Cond.fieldLink RX0 26 "ApplauseTallies$Encores" "lapsed" "LApplauseTallies$Row;" ∈ wsX0_lapseSince := List.mem_of_getElem? (i := 3) rfl
  unfold d_X0_lapseSince at hr
  refine lv_iconst (v := 0) X.1 X.2.1 dX0_lapseSince_0 (by decide) ?_
  refine lv_istore_n (lv' := [(2, .int 0), (0, .ref (a 0)), (1, .int p1)]) X.1 X.2.1 dX0_lapseSince_1 rfl hl (by decide) rfl (fun ls hl => ?_)
  refine lv_iconst (v := 0) X.1 X.2.1 dX0_lapseSince_2 (by decide) ?_
  refine lv_istore_n (lv' := [(3, .int 0), (2, .int 0), (0, .ref (a 0)), (1, .int p1)]) X.1 X.2.1 dX0_lapseSince_3 rfl hl (by decide) rfl (fun ls hl => ?_)
  have L_4 : ∀ (n_4 : Nat), ∀ (x2 : Int32) (x3 : Int32) (v : zHV) (H : Heap) (locs : List Loc) (ls : Array Slot), lp_X0_lapseSince_4 p1  n_4 x2 x3 v = some r → zW E A s (enW E a v) H locs → lv_has ls 4 [(0, .ref (a 0)), (1, .int p1), (2, .int x2), (3, .int x3)] → W p l e rm_X0_lapseSince s m ([.ref (a 0), .int p1] : List Value).toArray below meth c H locs 0 0 (MQ below (zQi E A r.1 (enW E a r.2)) ([.ref (a 0), .int p1] : List Value).toArray s 0 0 A) (F0 m 4 ls []) := by
    intro n_4
    induction n_4 with
    | zero => exact fun x2 x3 v H locs ls hr hW hl => absurd (show (none : Option (Int32 × zHV)) = some r from hr) (fun h => by cases h)
    | succ n_4 ih_4 =>
      intro x2 x3 v H locs ls hr hW hl
      have hr : lpB_X0_lapseSince_4 p1  (lp_X0_lapseSince_4 p1  n_4) x2 x3 v = some r := hr
      unfold lpB_X0_lapseSince_4 at hr
      refine lv_iload_n X.1 X.2.1 dX0_lapseSince_4 rfl (lv_at hl 3 rfl) ?_
      refine lv_aload_n X.1 X.2.1 dX0_lapseSince_5 rfl (lv_at hl 0 rfl) ?_
      refine z_get X hW 0 0 5 (C := RX0) (T := TX0) (N := 6) rfl rfl hn_X0 (by decide) q_0 rfl dX0_lapseSince_6 ?_
      refine z_cmpge X 84 hr dX0_lapseSince_9 (by decide) (fun hr => ?_) (fun hr => ?_)
      · refine lv_aload_n X.1 X.2.1 dX0_lapseSince_84 rfl (lv_at hl 0 rfl) ?_
        refine z_get X hW 0 0 5 (C := RX0) (T := TX0) (N := 6) rfl rfl hn_X0 (by decide) q_0 rfl dX0_lapseSince_85 ?_
        refine lv_iload_n X.1 X.2.1 dX0_lapseSince_88 rfl (lv_at hl 2 rfl) ?_
        refine z_isub X hr dX0_lapseSince_89 (fun t89 hr => ?_)
        refine lv_istore_n (lv' := [(3, .int t89), (0, .ref (a 0)), (1, .int p1), (2, .int x2)]) X.1 X.2.1 dX0_lapseSince_90 rfl hl (by decide) rfl (fun ls hl => ?_)
        refine lv_aload_n X.1 X.2.1 dX0_lapseSince_91 rfl (lv_at hl 1 rfl) ?_
        refine lv_iload_n X.1 X.2.1 dX0_lapseSince_92 rfl (lv_at hl 3 rfl) ?_
        refine z_put X hW hr (fun v93 => (enW E a v93)) tyX0 tyX0_ok nmX0 0 0 5 (C := RX0) (T := TX0) (N := 6) rfl rfl hn_X0 (by decide) q_0 rfl rfl rfl (Nat.le_of_ble_eq_true rfl) rfl dX0_lapseSince_93 (fun v93 H locs hr hW => ?_)
        refine lv_iload_n X.1 X.2.1 dX0_lapseSince_96 rfl (lv_at hl 0 rfl) ?_
        cases hr
        exact z_iret X hW rfl dX0_lapseSince_97
      · refine lv_aload_n X.1 X.2.1 dX0_lapseSince_12 rfl (lv_at hl 0 rfl) ?_
        refine z_get X hW 0 0 1 (C := RX0) (T := TX0) (N := 6) rfl rfl hn_X0 (by decide) q_2 rfl dX0_lapseSince_13 ?_
        refine lv_iload_n X.1 X.2.1 dX0_lapseSince_16 rfl (lv_at hl 3 rfl) ?_
        have hp_17 := (sp_en_3 E a v)
        refine z_callp X hW hr hp_17 (fun x h => z_runV (As := [.int x3]) (rest := []) X hW hp_17 (c_X5_at l E (zh a 3) 8 (v 1) x3 x h _) hy_X5_at 3 5 (C := RX5) (T := TX5) (N := 1) rfl rfl rfl gX0_lapseSince_X5_at rfl rfl ⟨by decide, by decide⟩ rfl hl rfl rfl (Nat.le_of_ble_eq_true rfl) dX0_lapseSince_17 ⟨Nat.zero_le _, Nat.zero_le _⟩) (fun t17 H locs hr hW => ?_)
        refine lv_iload_n X.1 X.2.1 dX0_lapseSince_20 rfl (lv_at hl 1 rfl) ?_
        refine z_cmpgt X 43 hr dX0_lapseSince_21 (by decide) (fun hr => ?_) (fun hr => ?_)
        · refine lv_aload_n X.1 X.2.1 dX0_lapseSince_43 rfl (lv_at hl 0 rfl) ?_
          refine z_get X hW 0 0 0 (C := RX0) (T := TX0) (N := 6) rfl rfl hn_X0 (by decide) q_3 rfl dX0_lapseSince_44 ?_
          refine lv_iload_n X.1 X.2.1 dX0_lapseSince_47 rfl (lv_at hl 2 rfl) ?_
          refine lv_aload_n X.1 X.2.1 dX0_lapseSince_48 rfl (lv_at hl 0 rfl) ?_
          refine z_get X hW 0 0 0 (C := RX0) (T := TX0) (N := 6) rfl rfl hn_X0 (by decide) q_3 rfl dX0_lapseSince_49 ?_
          refine lv_iload_n X.1 X.2.1 dX0_lapseSince_52 rfl (lv_at hl 3 rfl) ?_
          have hp_53 := (sp_en_1 E a v)
          refine z_callp X hW hr hp_53 (fun x h => z_runV (As := [.int x3]) (rest := [.int x2, .ref (a 1)]) X hW hp_53 (c_X5_at l E (zh a 1) 8 (v 0) x3 x h _) hy_X5_at 1 5 (C := RX5) (T := TX5) (N := 1) rfl rfl rfl gX0_lapseSince_X5_at rfl rfl ⟨by decide, by decide⟩ rfl hl rfl rfl (Nat.le_of_ble_eq_true rfl) dX0_lapseSince_53 ⟨Nat.zero_le _, Nat.zero_le _⟩) (fun t53 H locs hr hW => ?_)
          have hp_56 := (sp_en_1 E a v)
          refine z_callv X hW (fun z9 => (zr v 0 z9)) hr hp_56 (fun z9 => (rwW E (zh a 1) 8 z9)) (fun v56 => (enW E a v56)) (fun z9 => (sj_en_1 E a v z9)) (fun z9 h => z_runV (As := [.int x2, .int t53]) (rest := []) X hW hp_56 (c_X5_store l E (zh a 1) 8 (v 0) x2 t53 z9 h _) hy_X5_store 1 5 (C := RX5) (T := TX5) (N := 1) rfl rfl rfl gX0_lapseSince_X5_store rfl rfl ⟨by decide, by decide⟩ rfl hl rfl rfl (Nat.le_of_ble_eq_true rfl) dX0_lapseSince_56 ⟨Nat.zero_le _, Nat.zero_le _⟩) (fun v56 H locs hr hW => ?_)
          refine lv_aload_n X.1 X.2.1 dX0_lapseSince_59 rfl (lv_at hl 0 rfl) ?_
          refine z_get X hW 0 0 1 (C := RX0) (T := TX0) (N := 6) rfl rfl hn_X0 (by decide) q_2 rfl dX0_lapseSince_60 ?_
          refine lv_iload_n X.1 X.2.1 dX0_lapseSince_63 rfl (lv_at hl 2 rfl) ?_
          refine lv_aload_n X.1 X.2.1 dX0_lapseSince_64 rfl (lv_at hl 0 rfl) ?_
          refine z_get X hW 0 0 1 (C := RX0) (T := TX0) (N := 6) rfl rfl hn_X0 (by decide) q_2 rfl dX0_lapseSince_65 ?_
          refine lv_iload_n X.1 X.2.1 dX0_lapseSince_68 rfl (lv_at hl 3 rfl) ?_
          have hp_69 := (sp_en_3 E a v56)
          refine z_callp X hW hr hp_69 (fun x h => z_runV (As := [.int x3]) (rest := [.int x2, .ref (a 3)]) X hW hp_69 (c_X5_at l E (zh a 3) 8 (v56 1) x3 x h _) hy_X5_at 3 5 (C := RX5) (T := TX5) (N := 1) rfl rfl rfl gX0_lapseSince_X5_at rfl rfl ⟨by decide, by decide⟩ rfl hl rfl rfl (Nat.le_of_ble_eq_true rfl) dX0_lapseSince_69 ⟨Nat.zero_le _, Nat.zero_le _⟩) (fun t69 H locs hr hW => ?_)
          have hp_72 := (sp_en_3 E a v56)
          refine z_callv X hW (fun z9 => (zr v56 1 z9)) hr hp_72 (fun z9 => (rwW E (zh a 3) 8 z9)) (fun v72 => (enW E a v72)) (fun z9 => (sj_en_3 E a v56 z9)) (fun z9 h => z_runV (As := [.int x2, .int t69]) (rest := []) X hW hp_72 (c_X5_store l E (zh a 3) 8 (v56 1) x2 t69 z9 h _) hy_X5_store 3 5 (C := RX5) (T := TX5) (N := 1) rfl rfl rfl gX0_lapseSince_X5_store rfl rfl ⟨by decide, by decide⟩ rfl hl rfl rfl (Nat.le_of_ble_eq_true rfl) dX0_lapseSince_72 ⟨Nat.zero_le _, Nat.zero_le _⟩) (fun v72 H locs hr hW => ?_)
          refine z_iinc X (fun x2_75 => [(2, .int x2_75), (0, .ref (a 0)), (1, .int p1), (3, .int x3)]) hr hl (k := 2) rfl (by decide) (fun _ => rfl) dX0_lapseSince_75 (fun x2_75 ls hr hl => ?_)
          refine z_iinc X (fun x3_78 => [(3, .int x3_78), (2, .int x2_75), (0, .ref (a 0)), (1, .int p1)]) hr hl (k := 3) rfl (by decide) (fun _ => rfl) dX0_lapseSince_78 (fun x3_78 ls hr hl => ?_)
          refine lv_goto (tgt := 4) X.1 X.2.1 dX0_lapseSince_81 (by decide) ?_
          exact ih_4 x2_75 x3_78 v72 _ _ _ hr hW (lv_sub hl [2, 3, 1, 0] rfl)
        · refine lv_aload_n X.1 X.2.1 dX0_lapseSince_24 rfl (lv_at hl 0 rfl) ?_
          refine z_get X hW 0 0 3 (C := RX0) (T := TX0) (N := 6) rfl rfl hn_X0 (by decide) q_4 rfl dX0_lapseSince_25 ?_
          refine lv_aload_n X.1 X.2.1 dX0_lapseSince_28 rfl (lv_at hl 0 rfl) ?_
          refine z_get X hW 0 0 0 (C := RX0) (T := TX0) (N := 6) rfl rfl hn_X0 (by decide) q_3 rfl dX0_lapseSince_29 ?_
          refine lv_iload_n X.1 X.2.1 dX0_lapseSince_32 rfl (lv_at hl 3 rfl) ?_
          have hp_33 := (sp_en_1 E a v)
          refine z_callp X hW hr hp_33 (fun x h => z_runV (As := [.int x3]) (rest := [.ref (a 7)]) X hW hp_33 (c_X5_at l E (zh a 1) 8 (v 0) x3 x h _) hy_X5_at 1 5 (C := RX5) (T := TX5) (N := 1) rfl rfl rfl gX0_lapseSince_X5_at rfl rfl ⟨by decide, by decide⟩ rfl hl rfl rfl (Nat.le_of_ble_eq_true rfl) dX0_lapseSince_33 ⟨Nat.zero_le _, Nat.zero_le _⟩) (fun t33 H locs hr hW => ?_)
          refine lv_iconst (v := 1) X.1 X.2.1 dX0_lapseSince_36 (by decide) ?_
          have hp_37 := (sp_en_7 E a v)
          refine z_callv X hW (fun z9 => (zr v 3 z9)) hr hp_37 (fun z9 => (rwW E (zh a 7) 6 z9)) (fun v37 => (enW E a v37)) (fun z9 => (sj_en_7 E a v z9)) (fun z9 h => z_runV (As := [.int t33, .int 1]) (rest := []) X hW hp_37 (c_X5_add l E (zh a 7) 6 (v 3) t33 1 z9 h _) hy_X5_add 7 5 (C := RX5) (T := TX5) (N := 1) rfl rfl rfl gX0_lapseSince_X5_add rfl rfl ⟨by decide, by decide⟩ rfl hl rfl rfl (Nat.le_of_ble_eq_true rfl) dX0_lapseSince_37 ⟨Nat.zero_le _, Nat.zero_le _⟩) (fun v37 H locs hr hW => ?_)
          refine lv_goto (tgt := 78) X.1 X.2.1 dX0_lapseSince_40 (by decide) ?_
          refine z_iinc X (fun x3_78 => [(3, .int x3_78), (0, .ref (a 0)), (1, .int p1), (2, .int x2)]) hr hl (k := 3) rfl (by decide) (fun _ => rfl) dX0_lapseSince_78 (fun x3_78 ls hr hl => ?_)
          refine lv_goto (tgt := 4) X.1 X.2.1 dX0_lapseSince_81 (by decide) ?_
          exact ih_4 x2 x3_78 v37 _ _ _ hr hW (lv_sub hl [1, 2, 3, 0] rfl)
  exact L_4 _ 0 0 v _ _ _ hr hW (lv_sub hl [2, 3, 1, 0] rfl)
abbrev rm_X0_earliestOf : Room := { frames := 1, cells := 0, slots := 0, locals := 21 }
theorem hy_X0_earliestOf : zY yX0_earliestOf wsX0_earliestOf cX0_earliestOf 3 (some .int) 1 := ⟨⟨_, rfl⟩, by decide, by decide, by decide +kernel⟩
def lpB_X0_earliestOf_2 (v : zHV) (p1 : Int32)  (k_2 : Int32 → Option (Int32)) (x2 : Int32) : Option (Int32) :=
(if (v 5 0) ≤ x2 then
some (-6)
else
zcl (d_X5_at 8 (v 0) x2) fun t15 =>
(if t15 = p1 then
some x2
else
zlet (x2 + Int32.ofInt 1) fun x2_24 =>
k_2 x2_24))
def lp_X0_earliestOf_2 (v : zHV) (p1 : Int32)  : Nat → Int32 → Option (Int32)
  | 0 => fun _ => none
  | n_ + 1 => lpB_X0_earliestOf_2 v p1  (lp_X0_earliestOf_2 v p1  n_)
def d_X0_earliestOf (v : zHV) (p1 : Int32) : Option (Int32) :=
lp_X0_earliestOf_2 v p1  zF 0
set_option maxHeartbeats 4000000 in
set_option maxRecDepth 100000 in
theorem c_X0_earliestOf (l : Launch) (E : zE) (a : Nat → Nat) (v : zHV) (p1 : Int32) (r : Int32) (h : d_X0_earliestOf v p1 = some r) : zMi l E yX0_earliestOf wsX0_earliestOf rm_X0_earliestOf [.ref (a 0), .int p1] (enW E a v) r (enW E a v) := by
  intro sz
  refine z_entry (Qc := fun A => zQi E A r (enW E a v)) (by decide) rfl (Nat.le_of_ble_eq_true rfl) ?_
  intro p e s m below meth c A X hW ls hl
  have X : zX E wsX0_earliestOf RX0 cX0_earliestOf 3 (some .int) yX0_earliestOf p s m ([.ref (a 0), .int p1] : List Value).toArray meth c A := X
  have hl : lv_has ls 3 [(0, .ref (a 0)), (1, .int p1)] := hl
  have hr : d_X0_earliestOf v p1 = some r := h
  clear h
  have q_0 : Cond.fieldLink RX0 36 "ApplauseTallies$Encores" "owedCount" "I" ∈ wsX0_earliestOf := List.mem_of_getElem? (i := 1) rfl
  have hn_X0 : ∀ x ∈ wsX00, x ∈ wsX0_earliestOf := zz_in [9, 10, 11, 12, 13, 14] (by decide +kernel)
  have q_2 : Cond.fieldLink RX0 14 "ApplauseTallies$Encores" "owers" "LApplauseTallies$Row;" ∈ wsX0_earliestOf := List.mem_of_getElem? (i := 2) rfl
  unfold d_X0_earliestOf at hr
  refine lv_iconst (v := 0) X.1 X.2.1 dX0_earliestOf_0 (by decide) ?_
  refine lv_istore_n (lv' := [(2, .int 0), (0, .ref (a 0)), (1, .int p1)]) X.1 X.2.1 dX0_earliestOf_1 rfl hl (by decide) rfl (fun ls hl => ?_)
  have L_2 : ∀ (n_2 : Nat), ∀ (x2 : Int32) (H : Heap) (locs : List Loc) (ls : Array Slot), lp_X0_earliestOf_2 v p1  n_2 x2 = some r → zW E A s (enW E a v) H locs → lv_has ls 3 [(0, .ref (a 0)), (1, .int p1), (2, .int x2)] → W p l e rm_X0_earliestOf s m ([.ref (a 0), .int p1] : List Value).toArray below meth c H locs 0 0 (MQ below (zQi E A r (enW E a v)) ([.ref (a 0), .int p1] : List Value).toArray s 0 0 A) (F0 m 2 ls []) := by
    intro n_2
    induction n_2 with
    | zero => exact fun x2 H locs ls hr hW hl => absurd (show (none : Option (Int32)) = some r from hr) (fun h => by cases h)
    | succ n_2 ih_2 =>
      intro x2 H locs ls hr hW hl
      have hr : lpB_X0_earliestOf_2 v p1  (lp_X0_earliestOf_2 v p1  n_2) x2 = some r := hr
      unfold lpB_X0_earliestOf_2 at hr
      refine lv_iload_n X.1 X.2.1 dX0_earliestOf_2 rfl (lv_at hl 2 rfl) ?_
      refine lv_aload_n X.1 X.2.1 dX0_earliestOf_3 rfl (lv_at hl 0 rfl) ?_
      refine z_get X hW 0 0 5 (C := RX0) (T := TX0) (N := 6) rfl rfl hn_X0 (by decide) q_0 rfl dX0_earliestOf_4 ?_
      refine z_cmpge X 30 hr dX0_earliestOf_7 (by decide) (fun hr => ?_) (fun hr => ?_)
      · refine lv_bipush (v := (-6)) X.1 X.2.1 dX0_earliestOf_30 (by decide) ?_
        cases hr
        exact z_iret X hW rfl dX0_earliestOf_32
      · refine lv_aload_n X.1 X.2.1 dX0_earliestOf_10 rfl (lv_at hl 0 rfl) ?_
        refine z_get X hW 0 0 0 (C := RX0) (T := TX0) (N := 6) rfl rfl hn_X0 (by decide) q_2 rfl dX0_earliestOf_11 ?_
        refine lv_iload_n X.1 X.2.1 dX0_earliestOf_14 rfl (lv_at hl 2 rfl) ?_
        have hp_15 := (sp_en_1 E a v)
        refine z_callp X hW hr hp_15 (fun x h => z_runV (As := [.int x2]) (rest := []) X hW hp_15 (c_X5_at l E (zh a 1) 8 (v 0) x2 x h _) hy_X5_at 1 5 (C := RX5) (T := TX5) (N := 1) rfl rfl rfl gX0_earliestOf_X5_at rfl rfl ⟨by decide, by decide⟩ rfl hl rfl rfl (Nat.le_of_ble_eq_true rfl) dX0_earliestOf_15 ⟨Nat.zero_le _, Nat.zero_le _⟩) (fun t15 H locs hr hW => ?_)
        refine lv_iload_n X.1 X.2.1 dX0_earliestOf_18 rfl (lv_at hl 1 rfl) ?_
        refine z_cmpne X 24 hr dX0_earliestOf_19 (by decide) (fun hr => ?_) (fun hr => ?_)
        · refine z_iinc X (fun x2_24 => [(2, .int x2_24), (0, .ref (a 0)), (1, .int p1)]) hr hl (k := 2) rfl (by decide) (fun _ => rfl) dX0_earliestOf_24 (fun x2_24 ls hr hl => ?_)
          refine lv_goto (tgt := 2) X.1 X.2.1 dX0_earliestOf_27 (by decide) ?_
          exact ih_2 x2_24 _ _ _ hr hW (lv_sub hl [1, 2, 0] rfl)
        · refine lv_iload_n X.1 X.2.1 dX0_earliestOf_22 rfl (lv_at hl 2 rfl) ?_
          cases hr
          exact z_iret X hW rfl dX0_earliestOf_23
  exact L_2 _ 0 _ _ _ hr hW (lv_sub hl [1, 2, 0] rfl)
abbrev rm_X0_owedBy : Room := { frames := 1, cells := 0, slots := 0, locals := 21 }
theorem hy_X0_owedBy : zY yX0_owedBy wsX0_owedBy cX0_owedBy 4 (some .int) 1 := ⟨⟨_, rfl⟩, by decide, by decide, by decide +kernel⟩
def lpB_X0_owedBy_4 (v : zHV) (p1 : Int32)  (k_4 : Int32 → Int32 → Option (Int32)) (x2 : Int32) (x3 : Int32) : Option (Int32) :=
(if (v 5 0) ≤ x3 then
some x2
else
zcl (d_X5_at 8 (v 0) x3) fun t17 =>
(if t17 = p1 then
zlet (x2 + Int32.ofInt 1) fun x2_24 =>
zlet (x3 + Int32.ofInt 1) fun x3_27 =>
k_4 x2_24 x3_27
else
zlet (x3 + Int32.ofInt 1) fun x3_27 =>
k_4 x2 x3_27))
def lp_X0_owedBy_4 (v : zHV) (p1 : Int32)  : Nat → Int32 → Int32 → Option (Int32)
  | 0 => fun _ _ => none
  | n_ + 1 => lpB_X0_owedBy_4 v p1  (lp_X0_owedBy_4 v p1  n_)
def d_X0_owedBy (v : zHV) (p1 : Int32) : Option (Int32) :=
lp_X0_owedBy_4 v p1  zF 0 0
set_option maxHeartbeats 4000000 in
set_option maxRecDepth 100000 in
theorem c_X0_owedBy (l : Launch) (E : zE) (a : Nat → Nat) (v : zHV) (p1 : Int32) (r : Int32) (h : d_X0_owedBy v p1 = some r) : zMi l E yX0_owedBy wsX0_owedBy rm_X0_owedBy [.ref (a 0), .int p1] (enW E a v) r (enW E a v) := by
  intro sz
  refine z_entry (Qc := fun A => zQi E A r (enW E a v)) (by decide) rfl (Nat.le_of_ble_eq_true rfl) ?_
  intro p e s m below meth c A X hW ls hl
  have X : zX E wsX0_owedBy RX0 cX0_owedBy 4 (some .int) yX0_owedBy p s m ([.ref (a 0), .int p1] : List Value).toArray meth c A := X
  have hl : lv_has ls 4 [(0, .ref (a 0)), (1, .int p1)] := hl
  have hr : d_X0_owedBy v p1 = some r := h
  clear h
  have q_0 : Cond.fieldLink RX0 36 "ApplauseTallies$Encores" "owedCount" "I" ∈ wsX0_owedBy := List.mem_of_getElem? (i := 1) rfl
  have hn_X0 : ∀ x ∈ wsX00, x ∈ wsX0_owedBy := zz_in [9, 10, 11, 12, 13, 14] (by decide +kernel)
  have q_2 : Cond.fieldLink RX0 14 "ApplauseTallies$Encores" "owers" "LApplauseTallies$Row;" ∈ wsX0_owedBy := List.mem_of_getElem? (i := 2) rfl
  unfold d_X0_owedBy at hr
  refine lv_iconst (v := 0) X.1 X.2.1 dX0_owedBy_0 (by decide) ?_
  refine lv_istore_n (lv' := [(2, .int 0), (0, .ref (a 0)), (1, .int p1)]) X.1 X.2.1 dX0_owedBy_1 rfl hl (by decide) rfl (fun ls hl => ?_)
  refine lv_iconst (v := 0) X.1 X.2.1 dX0_owedBy_2 (by decide) ?_
  refine lv_istore_n (lv' := [(3, .int 0), (2, .int 0), (0, .ref (a 0)), (1, .int p1)]) X.1 X.2.1 dX0_owedBy_3 rfl hl (by decide) rfl (fun ls hl => ?_)
  have L_4 : ∀ (n_4 : Nat), ∀ (x2 : Int32) (x3 : Int32) (H : Heap) (locs : List Loc) (ls : Array Slot), lp_X0_owedBy_4 v p1  n_4 x2 x3 = some r → zW E A s (enW E a v) H locs → lv_has ls 4 [(0, .ref (a 0)), (1, .int p1), (2, .int x2), (3, .int x3)] → W p l e rm_X0_owedBy s m ([.ref (a 0), .int p1] : List Value).toArray below meth c H locs 0 0 (MQ below (zQi E A r (enW E a v)) ([.ref (a 0), .int p1] : List Value).toArray s 0 0 A) (F0 m 4 ls []) := by
    intro n_4
    induction n_4 with
    | zero => exact fun x2 x3 H locs ls hr hW hl => absurd (show (none : Option (Int32)) = some r from hr) (fun h => by cases h)
    | succ n_4 ih_4 =>
      intro x2 x3 H locs ls hr hW hl
      have hr : lpB_X0_owedBy_4 v p1  (lp_X0_owedBy_4 v p1  n_4) x2 x3 = some r := hr
      unfold lpB_X0_owedBy_4 at hr
      refine lv_iload_n X.1 X.2.1 dX0_owedBy_4 rfl (lv_at hl 3 rfl) ?_
      refine lv_aload_n X.1 X.2.1 dX0_owedBy_5 rfl (lv_at hl 0 rfl) ?_
      refine z_get X hW 0 0 5 (C := RX0) (T := TX0) (N := 6) rfl rfl hn_X0 (by decide) q_0 rfl dX0_owedBy_6 ?_
      refine z_cmpge X 33 hr dX0_owedBy_9 (by decide) (fun hr => ?_) (fun hr => ?_)
      · refine lv_iload_n X.1 X.2.1 dX0_owedBy_33 rfl (lv_at hl 2 rfl) ?_
        cases hr
        exact z_iret X hW rfl dX0_owedBy_34
      · refine lv_aload_n X.1 X.2.1 dX0_owedBy_12 rfl (lv_at hl 0 rfl) ?_
        refine z_get X hW 0 0 0 (C := RX0) (T := TX0) (N := 6) rfl rfl hn_X0 (by decide) q_2 rfl dX0_owedBy_13 ?_
        refine lv_iload_n X.1 X.2.1 dX0_owedBy_16 rfl (lv_at hl 3 rfl) ?_
        have hp_17 := (sp_en_1 E a v)
        refine z_callp X hW hr hp_17 (fun x h => z_runV (As := [.int x3]) (rest := []) X hW hp_17 (c_X5_at l E (zh a 1) 8 (v 0) x3 x h _) hy_X5_at 1 5 (C := RX5) (T := TX5) (N := 1) rfl rfl rfl gX0_owedBy_X5_at rfl rfl ⟨by decide, by decide⟩ rfl hl rfl rfl (Nat.le_of_ble_eq_true rfl) dX0_owedBy_17 ⟨Nat.zero_le _, Nat.zero_le _⟩) (fun t17 H locs hr hW => ?_)
        refine lv_iload_n X.1 X.2.1 dX0_owedBy_20 rfl (lv_at hl 1 rfl) ?_
        refine z_cmpne X 27 hr dX0_owedBy_21 (by decide) (fun hr => ?_) (fun hr => ?_)
        · refine z_iinc X (fun x3_27 => [(3, .int x3_27), (0, .ref (a 0)), (1, .int p1), (2, .int x2)]) hr hl (k := 3) rfl (by decide) (fun _ => rfl) dX0_owedBy_27 (fun x3_27 ls hr hl => ?_)
          refine lv_goto (tgt := 4) X.1 X.2.1 dX0_owedBy_30 (by decide) ?_
          exact ih_4 x2 x3_27 _ _ _ hr hW (lv_sub hl [1, 2, 3, 0] rfl)
        · refine z_iinc X (fun x2_24 => [(2, .int x2_24), (0, .ref (a 0)), (1, .int p1), (3, .int x3)]) hr hl (k := 2) rfl (by decide) (fun _ => rfl) dX0_owedBy_24 (fun x2_24 ls hr hl => ?_)
          refine z_iinc X (fun x3_27 => [(3, .int x3_27), (2, .int x2_24), (0, .ref (a 0)), (1, .int p1)]) hr hl (k := 3) rfl (by decide) (fun _ => rfl) dX0_owedBy_27 (fun x3_27 ls hr hl => ?_)
          refine lv_goto (tgt := 4) X.1 X.2.1 dX0_owedBy_30 (by decide) ?_
          exact ih_4 x2_24 x3_27 _ _ _ hr hW (lv_sub hl [2, 3, 1, 0] rfl)
  exact L_4 _ 0 0 _ _ _ hr hW (lv_sub hl [2, 3, 1, 0] rfl)
abbrev rm_X0_playEarliestOf : Room := { frames := 2, cells := 0, slots := 0, locals := 43 }
theorem hy_X0_playEarliestOf : zY yX0_playEarliestOf wsX0_playEarliestOf cX0_playEarliestOf 4 (some .boolean) 1 := ⟨⟨_, rfl⟩, by decide, by decide, by decide +kernel⟩
def lpB_X0_playEarliestOf_18 (p1 : Int32)  (k_18 : Int32 → Int32 → zHV → Option (Int32 × zHV)) (x2 : Int32) (x3 : Int32) (v : zHV) : Option (Int32 × zHV) :=
(if (v 5 0) ≤ x3 then
zlet ((v 5 0) - 1) fun t74 =>
zlet (zs v 5 0 t74) fun v75 =>
zup (d_X5_add 6 (v75 2) p1 1) (fun z9 => (zr v75 2 z9)) fun v84 =>
some (1, v84)
else
zlet (x3 - 1) fun t32 =>
zcl (d_X5_at 8 (v 0) x3) fun t38 =>
zup (d_X5_store 8 (v 0) t32 t38) (fun z9 => (zr v 0 z9)) fun v41 =>
zlet (x3 - 1) fun t50 =>
zcl (d_X5_at 8 (v41 1) x3) fun t56 =>
zup (d_X5_store 8 (v41 1) t50 t56) (fun z9 => (zr v41 1 z9)) fun v59 =>
zlet (x3 + Int32.ofInt 1) fun x3_62 =>
k_18 x2 x3_62 v59)
def lp_X0_playEarliestOf_18 (p1 : Int32)  : Nat → Int32 → Int32 → zHV → Option (Int32 × zHV)
  | 0 => fun _ _ _ => none
  | n_ + 1 => lpB_X0_playEarliestOf_18 p1  (lp_X0_playEarliestOf_18 p1  n_)
def d_X0_playEarliestOf (v : zHV) (p1 : Int32) : Option (Int32 × zHV) :=
zcl (d_X0_earliestOf v p1) fun t2 =>
(if t2 = (-6) then
some (0, v)
else
zlet (t2 + 1) fun t16 =>
lp_X0_playEarliestOf_18 p1  zF t2 t16 v)
set_option maxHeartbeats 4000000 in
set_option maxRecDepth 100000 in
theorem c_X0_playEarliestOf (l : Launch) (E : zE) (a : Nat → Nat) (v : zHV) (p1 : Int32) (r : Int32 × zHV) (h : d_X0_playEarliestOf v p1 = some r) : zMi l E yX0_playEarliestOf wsX0_playEarliestOf rm_X0_playEarliestOf [.ref (a 0), .int p1] (enW E a v) r.1 (enW E a r.2) := by
  intro sz
  refine z_entry (Qc := fun A => zQi E A r.1 (enW E a r.2)) (by decide) rfl (Nat.le_of_ble_eq_true rfl) ?_
  intro p e s m below meth c A X hW ls hl
  have X : zX E wsX0_playEarliestOf RX0 cX0_playEarliestOf 4 (some .boolean) yX0_playEarliestOf p s m ([.ref (a 0), .int p1] : List Value).toArray meth c A := X
  have hl : lv_has ls 4 [(0, .ref (a 0)), (1, .int p1)] := hl
  have hr : d_X0_playEarliestOf v p1 = some r := h
  clear h
  have q_0 : Cond.fieldLink RX0 36 "ApplauseTallies$Encores" "owedCount" "I" ∈ wsX0_playEarliestOf := List.mem_of_getElem? (i := 1) rfl
  have hn_X0 : ∀ x ∈ wsX00, x ∈ wsX0_playEarliestOf := zz_in [24, 25, 26, 27, 28, 29] (by decide +kernel)
  have q_2 : Cond.fieldLink RX0 23 "ApplauseTallies$Encores" "played" "LApplauseTallies$Row;" ∈ wsX0_playEarliestOf := List.mem_of_getElem? (i := 4) rfl
  have q_3 : Cond.fieldLink RX0 14 "ApplauseTallies$Encores" "owers" "LApplauseTallies$Row;" ∈ wsX0_playEarliestOf := List.mem_of_getElem? (i := 2) rfl
  have q_4 : Cond.fieldLink RX0 20 "ApplauseTallies$Encores" "since" "LApplauseTallies$Row;" ∈ wsX0_playEarliestOf := List.mem_of_getElem? (i := 3) rfl
  unfold d_X0_playEarliestOf at hr
  refine lv_aload_n X.1 X.2.1 dX0_playEarliestOf_0 rfl (lv_at hl 0 rfl) ?_
  refine lv_iload_n X.1 X.2.1 dX0_playEarliestOf_1 rfl (lv_at hl 1 rfl) ?_
  have hp_2 := (z_all (enW E a v))
  refine z_callp X hW hr hp_2 (fun x h => z_runV (As := [.int p1]) (rest := []) X hW hp_2 (c_X0_earliestOf l E a v p1 x h _) hy_X0_earliestOf 0 0 (C := RX0) (T := TX0) (N := 6) rfl rfl rfl gX0_playEarliestOf_X0_earliestOf rfl rfl ⟨by decide, by decide⟩ rfl hl rfl rfl (Nat.le_of_ble_eq_true rfl) dX0_playEarliestOf_2 ⟨Nat.zero_le _, Nat.zero_le _⟩) (fun t2 H locs hr hW => ?_)
  refine lv_istore_n (lv' := [(2, .int t2), (0, .ref (a 0)), (1, .int p1)]) X.1 X.2.1 dX0_playEarliestOf_5 rfl hl (by decide) rfl (fun ls hl => ?_)
  refine lv_iload_n X.1 X.2.1 dX0_playEarliestOf_6 rfl (lv_at hl 0 rfl) ?_
  refine lv_bipush (v := (-6)) X.1 X.2.1 dX0_playEarliestOf_7 (by decide) ?_
  refine z_cmpne X 14 hr dX0_playEarliestOf_9 (by decide) (fun hr => ?_) (fun hr => ?_)
  · refine lv_iload_n X.1 X.2.1 dX0_playEarliestOf_14 rfl (lv_at hl 0 rfl) ?_
    refine lv_iconst (v := 1) X.1 X.2.1 dX0_playEarliestOf_15 (by decide) ?_
    refine z_iadd X hr dX0_playEarliestOf_16 (fun t16 hr => ?_)
    refine lv_istore_n (lv' := [(3, .int t16), (2, .int t2), (0, .ref (a 0)), (1, .int p1)]) X.1 X.2.1 dX0_playEarliestOf_17 rfl hl (by decide) rfl (fun ls hl => ?_)
    have L_18 : ∀ (n_18 : Nat), ∀ (x2 : Int32) (x3 : Int32) (v : zHV) (H : Heap) (locs : List Loc) (ls : Array Slot), lp_X0_playEarliestOf_18 p1  n_18 x2 x3 v = some r → zW E A s (enW E a v) H locs → lv_has ls 4 [(0, .ref (a 0)), (1, .int p1), (2, .int x2), (3, .int x3)] → W p l e rm_X0_playEarliestOf s m ([.ref (a 0), .int p1] : List Value).toArray below meth c H locs 0 0 (MQ below (zQi E A r.1 (enW E a r.2)) ([.ref (a 0), .int p1] : List Value).toArray s 0 0 A) (F0 m 18 ls []) := by
      intro n_18
      induction n_18 with
      | zero => exact fun x2 x3 v H locs ls hr hW hl => absurd (show (none : Option (Int32 × zHV)) = some r from hr) (fun h => by cases h)
      | succ n_18 ih_18 =>
        intro x2 x3 v H locs ls hr hW hl
        have hr : lpB_X0_playEarliestOf_18 p1  (lp_X0_playEarliestOf_18 p1  n_18) x2 x3 v = some r := hr
        unfold lpB_X0_playEarliestOf_18 at hr
        refine lv_iload_n X.1 X.2.1 dX0_playEarliestOf_18 rfl (lv_at hl 3 rfl) ?_
        refine lv_aload_n X.1 X.2.1 dX0_playEarliestOf_19 rfl (lv_at hl 0 rfl) ?_
        refine z_get X hW 0 0 5 (C := RX0) (T := TX0) (N := 6) rfl rfl hn_X0 (by decide) q_0 rfl dX0_playEarliestOf_20 ?_
        refine z_cmpge X 68 hr dX0_playEarliestOf_23 (by decide) (fun hr => ?_) (fun hr => ?_)
        · refine lv_aload_n X.1 X.2.1 dX0_playEarliestOf_68 rfl (lv_at hl 0 rfl) ?_
          refine lv_dup X.1 X.2.1 dX0_playEarliestOf_69 rfl ?_
          refine z_get X hW 0 0 5 (C := RX0) (T := TX0) (N := 6) rfl rfl hn_X0 (by decide) q_0 rfl dX0_playEarliestOf_70 ?_
          refine lv_iconst (v := 1) X.1 X.2.1 dX0_playEarliestOf_73 (by decide) ?_
          refine z_isub X hr dX0_playEarliestOf_74 (fun t74 hr => ?_)
          refine z_put X hW hr (fun v75 => (enW E a v75)) tyX0 tyX0_ok nmX0 0 0 5 (C := RX0) (T := TX0) (N := 6) rfl rfl hn_X0 (by decide) q_0 rfl rfl rfl (Nat.le_of_ble_eq_true rfl) rfl dX0_playEarliestOf_75 (fun v75 H locs hr hW => ?_)
          refine lv_aload_n X.1 X.2.1 dX0_playEarliestOf_78 rfl (lv_at hl 0 rfl) ?_
          refine z_get X hW 0 0 2 (C := RX0) (T := TX0) (N := 6) rfl rfl hn_X0 (by decide) q_2 rfl dX0_playEarliestOf_79 ?_
          refine lv_iload_n X.1 X.2.1 dX0_playEarliestOf_82 rfl (lv_at hl 1 rfl) ?_
          refine lv_iconst (v := 1) X.1 X.2.1 dX0_playEarliestOf_83 (by decide) ?_
          have hp_84 := (sp_en_5 E a v75)
          refine z_callv X hW (fun z9 => (zr v75 2 z9)) hr hp_84 (fun z9 => (rwW E (zh a 5) 6 z9)) (fun v84 => (enW E a v84)) (fun z9 => (sj_en_5 E a v75 z9)) (fun z9 h => z_runV (As := [.int p1, .int 1]) (rest := []) X hW hp_84 (c_X5_add l E (zh a 5) 6 (v75 2) p1 1 z9 h _) hy_X5_add 5 5 (C := RX5) (T := TX5) (N := 1) rfl rfl rfl gX0_playEarliestOf_X5_add rfl rfl ⟨by decide, by decide⟩ rfl hl rfl rfl (Nat.le_of_ble_eq_true rfl) dX0_playEarliestOf_84 ⟨Nat.zero_le _, Nat.zero_le _⟩) (fun v84 H locs hr hW => ?_)
          refine lv_iconst (v := 1) X.1 X.2.1 dX0_playEarliestOf_87 (by decide) ?_
          cases hr
          exact z_zret X hW rfl rfl dX0_playEarliestOf_88
        · refine lv_aload_n X.1 X.2.1 dX0_playEarliestOf_26 rfl (lv_at hl 0 rfl) ?_
          refine z_get X hW 0 0 0 (C := RX0) (T := TX0) (N := 6) rfl rfl hn_X0 (by decide) q_3 rfl dX0_playEarliestOf_27 ?_
          refine lv_iload_n X.1 X.2.1 dX0_playEarliestOf_30 rfl (lv_at hl 3 rfl) ?_
          refine lv_iconst (v := 1) X.1 X.2.1 dX0_playEarliestOf_31 (by decide) ?_
          refine z_isub X hr dX0_playEarliestOf_32 (fun t32 hr => ?_)
          refine lv_aload_n X.1 X.2.1 dX0_playEarliestOf_33 rfl (lv_at hl 0 rfl) ?_
          refine z_get X hW 0 0 0 (C := RX0) (T := TX0) (N := 6) rfl rfl hn_X0 (by decide) q_3 rfl dX0_playEarliestOf_34 ?_
          refine lv_iload_n X.1 X.2.1 dX0_playEarliestOf_37 rfl (lv_at hl 3 rfl) ?_
          have hp_38 := (sp_en_1 E a v)
          refine z_callp X hW hr hp_38 (fun x h => z_runV (As := [.int x3]) (rest := [.int t32, .ref (a 1)]) X hW hp_38 (c_X5_at l E (zh a 1) 8 (v 0) x3 x h _) hy_X5_at 1 5 (C := RX5) (T := TX5) (N := 1) rfl rfl rfl gX0_playEarliestOf_X5_at rfl rfl ⟨by decide, by decide⟩ rfl hl rfl rfl (Nat.le_of_ble_eq_true rfl) dX0_playEarliestOf_38 ⟨Nat.zero_le _, Nat.zero_le _⟩) (fun t38 H locs hr hW => ?_)
          have hp_41 := (sp_en_1 E a v)
          refine z_callv X hW (fun z9 => (zr v 0 z9)) hr hp_41 (fun z9 => (rwW E (zh a 1) 8 z9)) (fun v41 => (enW E a v41)) (fun z9 => (sj_en_1 E a v z9)) (fun z9 h => z_runV (As := [.int t32, .int t38]) (rest := []) X hW hp_41 (c_X5_store l E (zh a 1) 8 (v 0) t32 t38 z9 h _) hy_X5_store 1 5 (C := RX5) (T := TX5) (N := 1) rfl rfl rfl gX0_playEarliestOf_X5_store rfl rfl ⟨by decide, by decide⟩ rfl hl rfl rfl (Nat.le_of_ble_eq_true rfl) dX0_playEarliestOf_41 ⟨Nat.zero_le _, Nat.zero_le _⟩) (fun v41 H locs hr hW => ?_)
          refine lv_aload_n X.1 X.2.1 dX0_playEarliestOf_44 rfl (lv_at hl 0 rfl) ?_
          refine z_get X hW 0 0 1 (C := RX0) (T := TX0) (N := 6) rfl rfl hn_X0 (by decide) q_4 rfl dX0_playEarliestOf_45 ?_
          refine lv_iload_n X.1 X.2.1 dX0_playEarliestOf_48 rfl (lv_at hl 3 rfl) ?_
          refine lv_iconst (v := 1) X.1 X.2.1 dX0_playEarliestOf_49 (by decide) ?_
          refine z_isub X hr dX0_playEarliestOf_50 (fun t50 hr => ?_)
          refine lv_aload_n X.1 X.2.1 dX0_playEarliestOf_51 rfl (lv_at hl 0 rfl) ?_
          refine z_get X hW 0 0 1 (C := RX0) (T := TX0) (N := 6) rfl rfl hn_X0 (by decide) q_4 rfl dX0_playEarliestOf_52 ?_
          refine lv_iload_n X.1 X.2.1 dX0_playEarliestOf_55 rfl (lv_at hl 3 rfl) ?_
          have hp_56 := (sp_en_3 E a v41)
          refine z_callp X hW hr hp_56 (fun x h => z_runV (As := [.int x3]) (rest := [.int t50, .ref (a 3)]) X hW hp_56 (c_X5_at l E (zh a 3) 8 (v41 1) x3 x h _) hy_X5_at 3 5 (C := RX5) (T := TX5) (N := 1) rfl rfl rfl gX0_playEarliestOf_X5_at rfl rfl ⟨by decide, by decide⟩ rfl hl rfl rfl (Nat.le_of_ble_eq_true rfl) dX0_playEarliestOf_56 ⟨Nat.zero_le _, Nat.zero_le _⟩) (fun t56 H locs hr hW => ?_)
          have hp_59 := (sp_en_3 E a v41)
          refine z_callv X hW (fun z9 => (zr v41 1 z9)) hr hp_59 (fun z9 => (rwW E (zh a 3) 8 z9)) (fun v59 => (enW E a v59)) (fun z9 => (sj_en_3 E a v41 z9)) (fun z9 h => z_runV (As := [.int t50, .int t56]) (rest := []) X hW hp_59 (c_X5_store l E (zh a 3) 8 (v41 1) t50 t56 z9 h _) hy_X5_store 3 5 (C := RX5) (T := TX5) (N := 1) rfl rfl rfl gX0_playEarliestOf_X5_store rfl rfl ⟨by decide, by decide⟩ rfl hl rfl rfl (Nat.le_of_ble_eq_true rfl) dX0_playEarliestOf_59 ⟨Nat.zero_le _, Nat.zero_le _⟩) (fun v59 H locs hr hW => ?_)
          refine z_iinc X (fun x3_62 => [(3, .int x3_62), (0, .ref (a 0)), (1, .int p1), (2, .int x2)]) hr hl (k := 3) rfl (by decide) (fun _ => rfl) dX0_playEarliestOf_62 (fun x3_62 ls hr hl => ?_)
          refine lv_goto (tgt := 18) X.1 X.2.1 dX0_playEarliestOf_65 (by decide) ?_
          exact ih_18 x2 x3_62 v59 _ _ _ hr hW (lv_sub hl [1, 2, 3, 0] rfl)
    exact L_18 _ t2 t16 v _ _ _ hr hW (lv_sub hl [2, 3, 1, 0] rfl)
  · refine lv_iconst (v := 0) X.1 X.2.1 dX0_playEarliestOf_12 (by decide) ?_
    cases hr
    exact z_zret X hW rfl rfl dX0_playEarliestOf_13
abbrev rm_X0_aboutPerformer : Room := { frames := 2, cells := 0, slots := 0, locals := 44 }
theorem hy_X0_aboutPerformer : zY yX0_aboutPerformer wsX0_aboutPerformer cX0_aboutPerformer 3 (some .int) 2 := ⟨⟨_, rfl⟩, by decide, by decide, by decide +kernel⟩
def d_X0_aboutPerformer (v : zHV) (p1 : Int32) (p2 : Int32) : Option (Int32) :=
zcl (d_X7_isPerformer p1) fun t1 =>
(if t1 = 0 then
some (-1)
else
(if p2 = 0 then
zcl (d_X0_owedBy v p1) fun t42 =>
some t42
else
(if p2 = 1 then
zcl (d_X5_at 6 (v 2) p1) fun t51 =>
some t51
else
(if p2 = 2 then
zcl (d_X5_at 6 (v 3) p1) fun t60 =>
some t60
else
(if p2 = 3 then
zcl (d_X5_at 6 (v 4) p1) fun t69 =>
some t69
else
some (-2))))))
set_option maxHeartbeats 4000000 in
set_option maxRecDepth 100000 in
theorem c_X0_aboutPerformer (l : Launch) (E : zE) (a : Nat → Nat) (v : zHV) (p1 : Int32) (p2 : Int32) (r : Int32) (h : d_X0_aboutPerformer v p1 p2 = some r) : zMi l E yX0_aboutPerformer wsX0_aboutPerformer rm_X0_aboutPerformer [.ref (a 0), .int p1, .int p2] (enW E a v) r (enW E a v) := by
  intro sz
  refine z_entry (Qc := fun A => zQi E A r (enW E a v)) (by decide) rfl (Nat.le_of_ble_eq_true rfl) ?_
  intro p e s m below meth c A X hW ls hl
  have X : zX E wsX0_aboutPerformer RX0 cX0_aboutPerformer 3 (some .int) yX0_aboutPerformer p s m ([.ref (a 0), .int p1, .int p2] : List Value).toArray meth c A := X
  have hl : lv_has ls 3 [(0, .ref (a 0)), (1, .int p1), (2, .int p2)] := hl
  have hr : d_X0_aboutPerformer v p1 p2 = some r := h
  clear h
  have q_0 : Cond.initialized RX7 ∈ wsX0_aboutPerformer := List.mem_of_getElem? (i := 5) rfl
  have q_1 : Cond.static yX7_isPerformer ∈ wsX0_aboutPerformer := List.mem_of_getElem? (i := 4) rfl
  have q_2 : Cond.fieldLink RX0 23 "ApplauseTallies$Encores" "played" "LApplauseTallies$Row;" ∈ wsX0_aboutPerformer := List.mem_of_getElem? (i := 1) rfl
  have hn_X0 : ∀ x ∈ wsX00, x ∈ wsX0_aboutPerformer := zz_in [20, 21, 22, 23, 24, 25] (by decide +kernel)
  have q_4 : Cond.fieldLink RX0 26 "ApplauseTallies$Encores" "lapsed" "LApplauseTallies$Row;" ∈ wsX0_aboutPerformer := List.mem_of_getElem? (i := 2) rfl
  have q_5 : Cond.fieldLink RX0 29 "ApplauseTallies$Encores" "pieces" "LApplauseTallies$Row;" ∈ wsX0_aboutPerformer := List.mem_of_getElem? (i := 3) rfl
  unfold d_X0_aboutPerformer at hr
  refine lv_iload_n X.1 X.2.1 dX0_aboutPerformer_0 rfl (lv_at hl 1 rfl) ?_
  have hp_1 := (List.Perm.refl ((enW E a v)))
  refine z_callp X hW hr hp_1 (fun x h => z_runSN (As := [.int p1]) (rest := []) X hW hp_1 (c_X7_isPerformer l E p1 x h _) hy_X7_isPerformer q_0 q_1 (List.mem_of_getElem? (i := 17) rfl) gX0_aboutPerformer_X7_isPerformer_n54 rfl rfl ⟨by decide, by decide⟩ rfl hl rfl rfl (Nat.le_of_ble_eq_true rfl) dX0_aboutPerformer_1 ⟨Nat.zero_le _, Nat.zero_le _⟩) (fun t1 H locs hr hW => ?_)
  refine z_ifne X 9 hr dX0_aboutPerformer_4 (by decide) (fun hr => ?_) (fun hr => ?_)
  · refine lv_iload_n X.1 X.2.1 dX0_aboutPerformer_9 rfl (lv_at hl 2 rfl) ?_
    refine z_if hr (fun h_0 hr => ?_) (fun h_0 hr => ?_)
    · refine lv_tableIn (off := 30) (tgt := 40) X.1 X.2.1 dX0_aboutPerformer_10 (by rw [h_0]; decide) (by rw [h_0]; decide) (by rw [h_0]; rfl) (by decide) ?_
      refine lv_aload_n X.1 X.2.1 dX0_aboutPerformer_40 rfl (lv_at hl 0 rfl) ?_
      refine lv_iload_n X.1 X.2.1 dX0_aboutPerformer_41 rfl (lv_at hl 1 rfl) ?_
      have hp_42 := (z_all (enW E a v))
      refine z_callp X hW hr hp_42 (fun x h => z_runV (As := [.int p1]) (rest := []) X hW hp_42 (c_X0_owedBy l E a v p1 x h _) hy_X0_owedBy 0 0 (C := RX0) (T := TX0) (N := 6) rfl rfl rfl gX0_aboutPerformer_X0_owedBy rfl rfl ⟨by decide, by decide⟩ rfl hl rfl rfl (Nat.le_of_ble_eq_true rfl) dX0_aboutPerformer_42 ⟨Nat.zero_le _, Nat.zero_le _⟩) (fun t42 H locs hr hW => ?_)
      cases hr
      exact z_iret X hW rfl dX0_aboutPerformer_45
    · refine z_if hr (fun h_1 hr => ?_) (fun h_1 hr => ?_)
      · refine lv_tableIn (off := 36) (tgt := 46) X.1 X.2.1 dX0_aboutPerformer_10 (by rw [h_1]; decide) (by rw [h_1]; decide) (by rw [h_1]; rfl) (by decide) ?_
        refine lv_aload_n X.1 X.2.1 dX0_aboutPerformer_46 rfl (lv_at hl 0 rfl) ?_
        refine z_get X hW 0 0 2 (C := RX0) (T := TX0) (N := 6) rfl rfl hn_X0 (by decide) q_2 rfl dX0_aboutPerformer_47 ?_
        refine lv_iload_n X.1 X.2.1 dX0_aboutPerformer_50 rfl (lv_at hl 1 rfl) ?_
        have hp_51 := (sp_en_5 E a v)
        refine z_callp X hW hr hp_51 (fun x h => z_runV (As := [.int p1]) (rest := []) X hW hp_51 (c_X5_at l E (zh a 5) 6 (v 2) p1 x h _) hy_X5_at 5 5 (C := RX5) (T := TX5) (N := 1) rfl rfl rfl gX0_aboutPerformer_X5_at rfl rfl ⟨by decide, by decide⟩ rfl hl rfl rfl (Nat.le_of_ble_eq_true rfl) dX0_aboutPerformer_51 ⟨Nat.zero_le _, Nat.zero_le _⟩) (fun t51 H locs hr hW => ?_)
        cases hr
        exact z_iret X hW rfl dX0_aboutPerformer_54
      · refine z_if hr (fun h_2 hr => ?_) (fun h_2 hr => ?_)
        · refine lv_tableIn (off := 45) (tgt := 55) X.1 X.2.1 dX0_aboutPerformer_10 (by rw [h_2]; decide) (by rw [h_2]; decide) (by rw [h_2]; rfl) (by decide) ?_
          refine lv_aload_n X.1 X.2.1 dX0_aboutPerformer_55 rfl (lv_at hl 0 rfl) ?_
          refine z_get X hW 0 0 3 (C := RX0) (T := TX0) (N := 6) rfl rfl hn_X0 (by decide) q_4 rfl dX0_aboutPerformer_56 ?_
          refine lv_iload_n X.1 X.2.1 dX0_aboutPerformer_59 rfl (lv_at hl 1 rfl) ?_
          have hp_60 := (sp_en_7 E a v)
          refine z_callp X hW hr hp_60 (fun x h => z_runV (As := [.int p1]) (rest := []) X hW hp_60 (c_X5_at l E (zh a 7) 6 (v 3) p1 x h _) hy_X5_at 7 5 (C := RX5) (T := TX5) (N := 1) rfl rfl rfl gX0_aboutPerformer_X5_at rfl rfl ⟨by decide, by decide⟩ rfl hl rfl rfl (Nat.le_of_ble_eq_true rfl) dX0_aboutPerformer_60 ⟨Nat.zero_le _, Nat.zero_le _⟩) (fun t60 H locs hr hW => ?_)
          cases hr
          exact z_iret X hW rfl dX0_aboutPerformer_63
        · refine z_if hr (fun h_3 hr => ?_) (fun h_3 hr => ?_)
          · refine lv_tableIn (off := 54) (tgt := 64) X.1 X.2.1 dX0_aboutPerformer_10 (by rw [h_3]; decide) (by rw [h_3]; decide) (by rw [h_3]; rfl) (by decide) ?_
            refine lv_aload_n X.1 X.2.1 dX0_aboutPerformer_64 rfl (lv_at hl 0 rfl) ?_
            refine z_get X hW 0 0 4 (C := RX0) (T := TX0) (N := 6) rfl rfl hn_X0 (by decide) q_5 rfl dX0_aboutPerformer_65 ?_
            refine lv_iload_n X.1 X.2.1 dX0_aboutPerformer_68 rfl (lv_at hl 1 rfl) ?_
            have hp_69 := (sp_en_9 E a v)
            refine z_callp X hW hr hp_69 (fun x h => z_runV (As := [.int p1]) (rest := []) X hW hp_69 (c_X5_at l E (zh a 9) 6 (v 4) p1 x h _) hy_X5_at 9 5 (C := RX5) (T := TX5) (N := 1) rfl rfl rfl gX0_aboutPerformer_X5_at rfl rfl ⟨by decide, by decide⟩ rfl hl rfl rfl (Nat.le_of_ble_eq_true rfl) dX0_aboutPerformer_69 ⟨Nat.zero_le _, Nat.zero_le _⟩) (fun t69 H locs hr hW => ?_)
            cases hr
            exact z_iret X hW rfl dX0_aboutPerformer_72
          · have e_0 := lv_neT h_0 (a := 0) rfl
            have e_1 := lv_neT h_1 (a := 1) rfl
            have e_2 := lv_neT h_2 (a := 2) rfl
            have e_3 := lv_neT h_3 (a := 3) rfl
            refine lv_tableOut (tgt := 73) X.1 X.2.1 dX0_aboutPerformer_10 (by omega) (by decide) ?_
            refine lv_bipush (v := (-2)) X.1 X.2.1 dX0_aboutPerformer_73 (by decide) ?_
            cases hr
            exact z_iret X hW rfl dX0_aboutPerformer_75
  · refine lv_iconst (v := (-1)) X.1 X.2.1 dX0_aboutPerformer_7 (by decide) ?_
    cases hr
    exact z_iret X hW rfl dX0_aboutPerformer_8
abbrev rm_X0_aboutOwed : Room := { frames := 1, cells := 0, slots := 0, locals := 21 }
theorem hy_X0_aboutOwed : zY yX0_aboutOwed wsX0_aboutOwed cX0_aboutOwed 4 (some .int) 3 := ⟨⟨_, rfl⟩, by decide, by decide, by decide +kernel⟩
def d_X0_aboutOwed (v : zHV) (p1 : Int32) (p2 : Int32) (p3 : Int32) : Option (Int32) :=
(if p1 < 0 then
some (-1)
else
(if p1 < (v 5 0) then
(if p2 = 0 then
zcl (d_X5_at 8 (v 0) p1) fun t45 =>
some t45
else
(if p2 = 1 then
zcl (d_X5_at 8 (v 1) p1) fun t55 =>
zlet (p3 - t55) fun t58 =>
some t58
else
some (-2)))
else
some (-1)))
set_option maxHeartbeats 4000000 in
set_option maxRecDepth 100000 in
theorem c_X0_aboutOwed (l : Launch) (E : zE) (a : Nat → Nat) (v : zHV) (p1 : Int32) (p2 : Int32) (p3 : Int32) (r : Int32) (h : d_X0_aboutOwed v p1 p2 p3 = some r) : zMi l E yX0_aboutOwed wsX0_aboutOwed rm_X0_aboutOwed [.ref (a 0), .int p1, .int p2, .int p3] (enW E a v) r (enW E a v) := by
  intro sz
  refine z_entry (Qc := fun A => zQi E A r (enW E a v)) (by decide) rfl (Nat.le_of_ble_eq_true rfl) ?_
  intro p e s m below meth c A X hW ls hl
  have X : zX E wsX0_aboutOwed RX0 cX0_aboutOwed 4 (some .int) yX0_aboutOwed p s m ([.ref (a 0), .int p1, .int p2, .int p3] : List Value).toArray meth c A := X
  have hl : lv_has ls 4 [(0, .ref (a 0)), (1, .int p1), (2, .int p2), (3, .int p3)] := hl
  have hr : d_X0_aboutOwed v p1 p2 p3 = some r := h
  clear h
  have q_0 : Cond.fieldLink RX0 36 "ApplauseTallies$Encores" "owedCount" "I" ∈ wsX0_aboutOwed := List.mem_of_getElem? (i := 1) rfl
  have hn_X0 : ∀ x ∈ wsX00, x ∈ wsX0_aboutOwed := zz_in [10, 11, 12, 13, 14, 15] (by decide +kernel)
  have q_2 : Cond.fieldLink RX0 14 "ApplauseTallies$Encores" "owers" "LApplauseTallies$Row;" ∈ wsX0_aboutOwed := List.mem_of_getElem? (i := 2) rfl
  have q_3 : Cond.fieldLink RX0 20 "ApplauseTallies$Encores" "since" "LApplauseTallies$Row;" ∈ wsX0_aboutOwed := List.mem_of_getElem? (i := 3) rfl
  unfold d_X0_aboutOwed at hr
  refine lv_iload_n X.1 X.2.1 dX0_aboutOwed_0 rfl (lv_at hl 1 rfl) ?_
  refine z_iflt X 12 hr dX0_aboutOwed_1 (by decide) (fun hr => ?_) (fun hr => ?_)
  · refine lv_iconst (v := (-1)) X.1 X.2.1 dX0_aboutOwed_12 (by decide) ?_
    cases hr
    exact z_iret X hW rfl dX0_aboutOwed_13
  · refine lv_iload_n X.1 X.2.1 dX0_aboutOwed_4 rfl (lv_at hl 1 rfl) ?_
    refine lv_aload_n X.1 X.2.1 dX0_aboutOwed_5 rfl (lv_at hl 0 rfl) ?_
    refine z_get X hW 0 0 5 (C := RX0) (T := TX0) (N := 6) rfl rfl hn_X0 (by decide) q_0 rfl dX0_aboutOwed_6 ?_
    refine z_cmplt X 14 hr dX0_aboutOwed_9 (by decide) (fun hr => ?_) (fun hr => ?_)
    · refine lv_iload_n X.1 X.2.1 dX0_aboutOwed_14 rfl (lv_at hl 2 rfl) ?_
      refine z_if hr (fun h_0 hr => ?_) (fun h_0 hr => ?_)
      · refine lv_lookup (off := 25) (tgt := 40) X.1 X.2.1 dX0_aboutOwed_15 (by decide) (by rw [h_0]; rfl) (by decide) ?_
        refine lv_aload_n X.1 X.2.1 dX0_aboutOwed_40 rfl (lv_at hl 0 rfl) ?_
        refine z_get X hW 0 0 0 (C := RX0) (T := TX0) (N := 6) rfl rfl hn_X0 (by decide) q_2 rfl dX0_aboutOwed_41 ?_
        refine lv_iload_n X.1 X.2.1 dX0_aboutOwed_44 rfl (lv_at hl 1 rfl) ?_
        have hp_45 := (sp_en_1 E a v)
        refine z_callp X hW hr hp_45 (fun x h => z_runV (As := [.int p1]) (rest := []) X hW hp_45 (c_X5_at l E (zh a 1) 8 (v 0) p1 x h _) hy_X5_at 1 5 (C := RX5) (T := TX5) (N := 1) rfl rfl rfl gX0_aboutOwed_X5_at rfl rfl ⟨by decide, by decide⟩ rfl hl rfl rfl (Nat.le_of_ble_eq_true rfl) dX0_aboutOwed_45 ⟨Nat.zero_le _, Nat.zero_le _⟩) (fun t45 H locs hr hW => ?_)
        cases hr
        exact z_iret X hW rfl dX0_aboutOwed_48
      · refine z_if hr (fun h_1 hr => ?_) (fun h_1 hr => ?_)
        · refine lv_lookup (off := 34) (tgt := 49) X.1 X.2.1 dX0_aboutOwed_15 (by decide) (by rw [h_1]; rfl) (by decide) ?_
          refine lv_iload_n X.1 X.2.1 dX0_aboutOwed_49 rfl (lv_at hl 3 rfl) ?_
          refine lv_aload_n X.1 X.2.1 dX0_aboutOwed_50 rfl (lv_at hl 0 rfl) ?_
          refine z_get X hW 0 0 1 (C := RX0) (T := TX0) (N := 6) rfl rfl hn_X0 (by decide) q_3 rfl dX0_aboutOwed_51 ?_
          refine lv_iload_n X.1 X.2.1 dX0_aboutOwed_54 rfl (lv_at hl 1 rfl) ?_
          have hp_55 := (sp_en_3 E a v)
          refine z_callp X hW hr hp_55 (fun x h => z_runV (As := [.int p1]) (rest := [.int p3]) X hW hp_55 (c_X5_at l E (zh a 3) 8 (v 1) p1 x h _) hy_X5_at 3 5 (C := RX5) (T := TX5) (N := 1) rfl rfl rfl gX0_aboutOwed_X5_at rfl rfl ⟨by decide, by decide⟩ rfl hl rfl rfl (Nat.le_of_ble_eq_true rfl) dX0_aboutOwed_55 ⟨Nat.zero_le _, Nat.zero_le _⟩) (fun t55 H locs hr hW => ?_)
          refine z_isub X hr dX0_aboutOwed_58 (fun t58 hr => ?_)
          cases hr
          exact z_iret X hW rfl dX0_aboutOwed_59
        · refine lv_lookup (off := 45) (tgt := 60) X.1 X.2.1 dX0_aboutOwed_15 (by decide) ((lv_osw h_0 (by decide)).trans ((lv_osw h_1 (by decide)).trans (rfl))) (by decide) ?_
          refine lv_bipush (v := (-2)) X.1 X.2.1 dX0_aboutOwed_60 (by decide) ?_
          cases hr
          exact z_iret X hW rfl dX0_aboutOwed_62
    · refine lv_iconst (v := (-1)) X.1 X.2.1 dX0_aboutOwed_12 (by decide) ?_
      cases hr
      exact z_iret X hW rfl dX0_aboutOwed_13
