abbrev rm_X2_copyFrom : Room := { frames := 3, cells := 0, slots := 0, locals := 80 }
theorem hy_X2_copyFrom : zY yX2_copyFrom wsX2_copyFrom cX2_copyFrom 2 none 1 := ⟨⟨_, rfl⟩, by decide, by decide, by decide +kernel⟩
def d_X2_copyFrom (v : zHV) (w : zHV) : Option (zHV) :=
zup (d_X5_copyFrom 6 (v 0) 6 (w 0)) (fun z9 => (zr v 0 z9)) fun v8 =>
zup (d_X6_copyFrom (zh v8 1) (zh w 1)) (fun z9 => (zq v8 1 6 z9)) fun v19 =>
zup (d_X0_copyFrom (zh v19 7) (zh w 7)) (fun z9 => (zq v19 7 6 z9)) fun v30 =>
zup (d_X5_copyFrom 4 (v30 13) 4 (w 13)) (fun z9 => (zr v30 13 z9)) fun v41 =>
zup (d_X5_copyFrom 24 (v41 14) 24 (w 14)) (fun z9 => (zr v41 14 z9)) fun v52 =>
zlet (zs v52 15 0 (w 15 0)) fun v60 =>
zlet (zs v60 15 1 (w 15 1)) fun v68 =>
zlet (zs v68 15 2 (w 15 2)) fun v76 =>
zlet (zs v76 15 3 (w 15 3)) fun v84 =>
zlet (zs v84 15 4 (w 15 4)) fun v92 =>
zgb (w 15 5) (
zlet (zs v92 15 5 (w 15 5)) fun v100 =>
some v100)
set_option maxHeartbeats 4000000 in
set_option maxRecDepth 100000 in
theorem c_X2_copyFrom (l : Launch) (E : zE) (a b : Nat → Nat) (v : zHV) (w : zHV) (r : zHV) (h : d_X2_copyFrom v w = some r) : zMv l E yX2_copyFrom wsX2_copyFrom rm_X2_copyFrom [.ref (a 0), .ref (b 0)] ((hsW E a v) ++ (hsW E b w)) ((hsW E a r) ++ (hsW E b w)) := by
  intro sz
  refine z_entry (Qc := fun A => zQv E A ((hsW E a r) ++ (hsW E b w))) (by decide) rfl (Nat.le_of_ble_eq_true rfl) ?_
  intro p e s m below meth c A X hW ls hl
  have X : zX E wsX2_copyFrom RX2 cX2_copyFrom 2 none yX2_copyFrom p s m ([.ref (a 0), .ref (b 0)] : List Value).toArray meth c A := X
  have hl : lv_has ls 2 [(0, .ref (a 0)), (1, .ref (b 0))] := hl
  have hr : d_X2_copyFrom v w = some r := h
  clear h
  have q_0 : Cond.fieldLink RX2 14 "ApplauseTallies$House" "settings" "LApplauseTallies$Row;" ∈ wsX2_copyFrom := List.mem_of_getElem? (i := 1) rfl
  have hn_X2 : ∀ x ∈ wsX20, x ∈ wsX2_copyFrom := zz_in [52, 53, 54, 55, 56, 57, 58, 59, 60, 61, 62] (by decide +kernel)
  have q_2 : Cond.fieldLink RX2 23 "ApplauseTallies$House" "seats" "LApplauseTallies$Seats;" ∈ wsX2_copyFrom := List.mem_of_getElem? (i := 2) rfl
  have q_3 : Cond.fieldLink RX2 30 "ApplauseTallies$House" "encores" "LApplauseTallies$Encores;" ∈ wsX2_copyFrom := List.mem_of_getElem? (i := 3) rfl
  have q_4 : Cond.fieldLink RX2 34 "ApplauseTallies$House" "tonight" "LApplauseTallies$Row;" ∈ wsX2_copyFrom := List.mem_of_getElem? (i := 4) rfl
  have q_5 : Cond.fieldLink RX2 37 "ApplauseTallies$House" "records" "LApplauseTallies$Row;" ∈ wsX2_copyFrom := List.mem_of_getElem? (i := 5) rfl
  have q_6 : Cond.fieldLink RX2 62 "ApplauseTallies$House" "applause" "I" ∈ wsX2_copyFrom := List.mem_of_getElem? (i := 6) rfl
  have q_7 : Cond.fieldLink RX2 65 "ApplauseTallies$House" "time" "I" ∈ wsX2_copyFrom := List.mem_of_getElem? (i := 7) rfl
  have q_8 : Cond.fieldLink RX2 68 "ApplauseTallies$House" "nights" "I" ∈ wsX2_copyFrom := List.mem_of_getElem? (i := 8) rfl
  have q_9 : Cond.fieldLink RX2 40 "ApplauseTallies$House" "pieceBy" "I" ∈ wsX2_copyFrom := List.mem_of_getElem? (i := 9) rfl
  have q_10 : Cond.fieldLink RX2 71 "ApplauseTallies$House" "pieceEnd" "I" ∈ wsX2_copyFrom := List.mem_of_getElem? (i := 10) rfl
  have q_11 : Cond.fieldLink RX2 74 "ApplauseTallies$House" "encoreCame" "Z" ∈ wsX2_copyFrom := List.mem_of_getElem? (i := 11) rfl
  unfold d_X2_copyFrom at hr
  refine lv_aload_n X.1 X.2.1 dX2_copyFrom_0 rfl (lv_at hl 0 rfl) ?_
  refine z_get X hW 0 2 0 (C := RX2) (T := TX2) (N := 11) rfl rfl hn_X2 (by decide) q_0 rfl dX2_copyFrom_1 ?_
  refine lv_aload_n X.1 X.2.1 dX2_copyFrom_4 rfl (lv_at hl 1 rfl) ?_
  refine z_get X hW 29 2 0 (C := RX2) (T := TX2) (N := 11) rfl rfl hn_X2 (by decide) q_0 rfl dX2_copyFrom_5 ?_
  have hp_8 := (z_sp2 (sp_hs_1 E a v) (sp_hs_1 E b w))
  refine z_callv X hW (fun z9 => (zr v 0 z9)) hr hp_8 (fun z9 => ((rwW E (zh a 1) 6 z9) ++ (rwW E (zh b 1) 6 (w 0)))) (fun v8 => ((hsW E a v8) ++ (hsW E b w))) (fun z9 => (z_jn2 (sj_hs_1 E a v z9) (sp_hs_1 E b w).symm)) (fun z9 h => z_runV (As := [.ref (b 1)]) (rest := []) X hW hp_8 (c_X5_copyFrom l E (zh a 1) (zh b 1) 6 (v 0) 6 (w 0) z9 h _) hy_X5_copyFrom 1 5 (C := RX5) (T := TX5) (N := 1) rfl rfl rfl gX2_copyFrom_X5_copyFrom rfl rfl ⟨by decide, by decide⟩ rfl hl rfl rfl (Nat.le_of_ble_eq_true rfl) dX2_copyFrom_8 ⟨Nat.zero_le _, Nat.zero_le _⟩) (fun v8 H locs hr hW => ?_)
  refine lv_aload_n X.1 X.2.1 dX2_copyFrom_11 rfl (lv_at hl 0 rfl) ?_
  refine z_get X hW 0 2 1 (C := RX2) (T := TX2) (N := 11) rfl rfl hn_X2 (by decide) q_2 rfl dX2_copyFrom_12 ?_
  refine lv_aload_n X.1 X.2.1 dX2_copyFrom_15 rfl (lv_at hl 1 rfl) ?_
  refine z_get X hW 29 2 1 (C := RX2) (T := TX2) (N := 11) rfl rfl hn_X2 (by decide) q_2 rfl dX2_copyFrom_16 ?_
  have hp_19 := (z_sp2 (sp_hs_3 E a v8) (sp_hs_3 E b w))
  refine z_callv X hW (fun z9 => (zq v8 1 6 z9)) hr hp_19 (fun z9 => ((stW E (zh a 3) z9) ++ (stW E (zh b 3) (zh w 1)))) (fun v19 => ((hsW E a v19) ++ (hsW E b w))) (fun z9 => (z_jn2 (sj_hs_3 E a v8 z9) (sp_hs_3 E b w).symm)) (fun z9 h => z_runV (As := [.ref (b 3)]) (rest := []) X hW hp_19 (c_X6_copyFrom l E (zh a 3) (zh b 3) (zh v8 1) (zh w 1) z9 h _) hy_X6_copyFrom 3 6 (C := RX6) (T := TX6) (N := 8) rfl rfl rfl gX2_copyFrom_X6_copyFrom rfl rfl ⟨by decide, by decide⟩ rfl hl rfl rfl (Nat.le_of_ble_eq_true rfl) dX2_copyFrom_19 ⟨Nat.zero_le _, Nat.zero_le _⟩) (fun v19 H locs hr hW => ?_)
  refine lv_aload_n X.1 X.2.1 dX2_copyFrom_22 rfl (lv_at hl 0 rfl) ?_
  refine z_get X hW 0 2 2 (C := RX2) (T := TX2) (N := 11) rfl rfl hn_X2 (by decide) q_3 rfl dX2_copyFrom_23 ?_
  refine lv_aload_n X.1 X.2.1 dX2_copyFrom_26 rfl (lv_at hl 1 rfl) ?_
  refine z_get X hW 29 2 2 (C := RX2) (T := TX2) (N := 11) rfl rfl hn_X2 (by decide) q_3 rfl dX2_copyFrom_27 ?_
  have hp_30 := (z_sp2 (sp_hs_14 E a v19) (sp_hs_14 E b w))
  refine z_callv X hW (fun z9 => (zq v19 7 6 z9)) hr hp_30 (fun z9 => ((enW E (zh a 14) z9) ++ (enW E (zh b 14) (zh w 7)))) (fun v30 => ((hsW E a v30) ++ (hsW E b w))) (fun z9 => (z_jn2 (sj_hs_14 E a v19 z9) (sp_hs_14 E b w).symm)) (fun z9 h => z_runV (As := [.ref (b 14)]) (rest := []) X hW hp_30 (c_X0_copyFrom l E (zh a 14) (zh b 14) (zh v19 7) (zh w 7) z9 h _) hy_X0_copyFrom 14 0 (C := RX0) (T := TX0) (N := 6) rfl rfl rfl gX2_copyFrom_X0_copyFrom rfl rfl ⟨by decide, by decide⟩ rfl hl rfl rfl (Nat.le_of_ble_eq_true rfl) dX2_copyFrom_30 ⟨Nat.zero_le _, Nat.zero_le _⟩) (fun v30 H locs hr hW => ?_)
  refine lv_aload_n X.1 X.2.1 dX2_copyFrom_33 rfl (lv_at hl 0 rfl) ?_
  refine z_get X hW 0 2 3 (C := RX2) (T := TX2) (N := 11) rfl rfl hn_X2 (by decide) q_4 rfl dX2_copyFrom_34 ?_
  refine lv_aload_n X.1 X.2.1 dX2_copyFrom_37 rfl (lv_at hl 1 rfl) ?_
  refine z_get X hW 29 2 3 (C := RX2) (T := TX2) (N := 11) rfl rfl hn_X2 (by decide) q_4 rfl dX2_copyFrom_38 ?_
  have hp_41 := (z_sp2 (sp_hs_25 E a v30) (sp_hs_25 E b w))
  refine z_callv X hW (fun z9 => (zr v30 13 z9)) hr hp_41 (fun z9 => ((rwW E (zh a 25) 4 z9) ++ (rwW E (zh b 25) 4 (w 13)))) (fun v41 => ((hsW E a v41) ++ (hsW E b w))) (fun z9 => (z_jn2 (sj_hs_25 E a v30 z9) (sp_hs_25 E b w).symm)) (fun z9 h => z_runV (As := [.ref (b 25)]) (rest := []) X hW hp_41 (c_X5_copyFrom l E (zh a 25) (zh b 25) 4 (v30 13) 4 (w 13) z9 h _) hy_X5_copyFrom 25 5 (C := RX5) (T := TX5) (N := 1) rfl rfl rfl gX2_copyFrom_X5_copyFrom rfl rfl ⟨by decide, by decide⟩ rfl hl rfl rfl (Nat.le_of_ble_eq_true rfl) dX2_copyFrom_41 ⟨Nat.zero_le _, Nat.zero_le _⟩) (fun v41 H locs hr hW => ?_)
  refine lv_aload_n X.1 X.2.1 dX2_copyFrom_44 rfl (lv_at hl 0 rfl) ?_
  refine z_get X hW 0 2 4 (C := RX2) (T := TX2) (N := 11) rfl rfl hn_X2 (by decide) q_5 rfl dX2_copyFrom_45 ?_
  refine lv_aload_n X.1 X.2.1 dX2_copyFrom_48 rfl (lv_at hl 1 rfl) ?_
  refine z_get X hW 29 2 4 (C := RX2) (T := TX2) (N := 11) rfl rfl hn_X2 (by decide) q_5 rfl dX2_copyFrom_49 ?_
  have hp_52 := (z_sp2 (sp_hs_27 E a v41) (sp_hs_27 E b w))
  refine z_callv X hW (fun z9 => (zr v41 14 z9)) hr hp_52 (fun z9 => ((rwW E (zh a 27) 24 z9) ++ (rwW E (zh b 27) 24 (w 14)))) (fun v52 => ((hsW E a v52) ++ (hsW E b w))) (fun z9 => (z_jn2 (sj_hs_27 E a v41 z9) (sp_hs_27 E b w).symm)) (fun z9 h => z_runV (As := [.ref (b 27)]) (rest := []) X hW hp_52 (c_X5_copyFrom l E (zh a 27) (zh b 27) 24 (v41 14) 24 (w 14) z9 h _) hy_X5_copyFrom 27 5 (C := RX5) (T := TX5) (N := 1) rfl rfl rfl gX2_copyFrom_X5_copyFrom rfl rfl ⟨by decide, by decide⟩ rfl hl rfl rfl (Nat.le_of_ble_eq_true rfl) dX2_copyFrom_52 ⟨Nat.zero_le _, Nat.zero_le _⟩) (fun v52 H locs hr hW => ?_)
  refine lv_aload_n X.1 X.2.1 dX2_copyFrom_55 rfl (lv_at hl 0 rfl) ?_
  refine lv_aload_n X.1 X.2.1 dX2_copyFrom_56 rfl (lv_at hl 1 rfl) ?_
  refine z_get X hW 29 2 5 (C := RX2) (T := TX2) (N := 11) rfl rfl hn_X2 (by decide) q_6 rfl dX2_copyFrom_57 ?_
  refine z_put X hW hr (fun v60 => ((hsW E a v60) ++ (hsW E b w))) tyX2 tyX2_ok nmX2 0 2 5 (C := RX2) (T := TX2) (N := 11) rfl rfl hn_X2 (by decide) q_6 rfl rfl rfl (Nat.le_of_ble_eq_true rfl) rfl dX2_copyFrom_60 (fun v60 H locs hr hW => ?_)
  refine lv_aload_n X.1 X.2.1 dX2_copyFrom_63 rfl (lv_at hl 0 rfl) ?_
  refine lv_aload_n X.1 X.2.1 dX2_copyFrom_64 rfl (lv_at hl 1 rfl) ?_
  refine z_get X hW 29 2 6 (C := RX2) (T := TX2) (N := 11) rfl rfl hn_X2 (by decide) q_7 rfl dX2_copyFrom_65 ?_
  refine z_put X hW hr (fun v68 => ((hsW E a v68) ++ (hsW E b w))) tyX2 tyX2_ok nmX2 0 2 6 (C := RX2) (T := TX2) (N := 11) rfl rfl hn_X2 (by decide) q_7 rfl rfl rfl (Nat.le_of_ble_eq_true rfl) rfl dX2_copyFrom_68 (fun v68 H locs hr hW => ?_)
  refine lv_aload_n X.1 X.2.1 dX2_copyFrom_71 rfl (lv_at hl 0 rfl) ?_
  refine lv_aload_n X.1 X.2.1 dX2_copyFrom_72 rfl (lv_at hl 1 rfl) ?_
  refine z_get X hW 29 2 7 (C := RX2) (T := TX2) (N := 11) rfl rfl hn_X2 (by decide) q_8 rfl dX2_copyFrom_73 ?_
  refine z_put X hW hr (fun v76 => ((hsW E a v76) ++ (hsW E b w))) tyX2 tyX2_ok nmX2 0 2 7 (C := RX2) (T := TX2) (N := 11) rfl rfl hn_X2 (by decide) q_8 rfl rfl rfl (Nat.le_of_ble_eq_true rfl) rfl dX2_copyFrom_76 (fun v76 H locs hr hW => ?_)
  refine lv_aload_n X.1 X.2.1 dX2_copyFrom_79 rfl (lv_at hl 0 rfl) ?_
  refine lv_aload_n X.1 X.2.1 dX2_copyFrom_80 rfl (lv_at hl 1 rfl) ?_
  refine z_get X hW 29 2 8 (C := RX2) (T := TX2) (N := 11) rfl rfl hn_X2 (by decide) q_9 rfl dX2_copyFrom_81 ?_
  refine z_put X hW hr (fun v84 => ((hsW E a v84) ++ (hsW E b w))) tyX2 tyX2_ok nmX2 0 2 8 (C := RX2) (T := TX2) (N := 11) rfl rfl hn_X2 (by decide) q_9 rfl rfl rfl (Nat.le_of_ble_eq_true rfl) rfl dX2_copyFrom_84 (fun v84 H locs hr hW => ?_)
  refine lv_aload_n X.1 X.2.1 dX2_copyFrom_87 rfl (lv_at hl 0 rfl) ?_
  refine lv_aload_n X.1 X.2.1 dX2_copyFrom_88 rfl (lv_at hl 1 rfl) ?_
  refine z_get X hW 29 2 9 (C := RX2) (T := TX2) (N := 11) rfl rfl hn_X2 (by decide) q_10 rfl dX2_copyFrom_89 ?_
  refine z_put X hW hr (fun v92 => ((hsW E a v92) ++ (hsW E b w))) tyX2 tyX2_ok nmX2 0 2 9 (C := RX2) (T := TX2) (N := 11) rfl rfl hn_X2 (by decide) q_10 rfl rfl rfl (Nat.le_of_ble_eq_true rfl) rfl dX2_copyFrom_92 (fun v92 H locs hr hW => ?_)
  refine lv_aload_n X.1 X.2.1 dX2_copyFrom_95 rfl (lv_at hl 0 rfl) ?_
  refine lv_aload_n X.1 X.2.1 dX2_copyFrom_96 rfl (lv_at hl 1 rfl) ?_
  refine z_get X hW 29 2 10 (C := RX2) (T := TX2) (N := 11) rfl rfl hn_X2 (by decide) q_11 rfl dX2_copyFrom_97 ?_
  obtain ⟨hg, hr⟩ := zgb_some hr
  refine z_put X hW hr (fun v100 => ((hsW E a v100) ++ (hsW E b w))) tyX2 tyX2_ok nmX2 0 2 10 (C := RX2) (T := TX2) (N := 11) rfl rfl hn_X2 (by decide) q_11 rfl (zgb_n hg) (zgb_f hg) (Nat.le_of_ble_eq_true rfl) rfl dX2_copyFrom_100 (fun v100 H locs hr hW => ?_)
  cases hr
  exact z_vret X hW dX2_copyFrom_103
abbrev rm_X2_changeSetting : Room := { frames := 1, cells := 0, slots := 0, locals := 22 }
theorem hy_X2_changeSetting : zY yX2_changeSetting wsX2_changeSetting cX2_changeSetting 4 (some .int) 2 := ⟨⟨_, rfl⟩, by decide, by decide, by decide +kernel⟩
def d_X2_changeSetting (v : zHV) (p1 : Int32) (p2 : Int32) : Option (Int32 × zHV) :=
(if p1 < 0 then
some ((-2), v)
else
(if (nI 6) ≤ p1 then
some ((-2), v)
else
(if p1 < (nI 6) then
zld 6 zLEAST p1 fun t28 =>
(if p2 < t28 then
some ((-2), v)
else
zld 6 zMOST p1 fun t37 =>
(if p2 ≤ t37 then
zcl (d_X5_at 6 (v 0) p1) fun t49 =>
zup (d_X5_store 6 (v 0) p1 p2) (fun z9 => (zr v 0 z9)) fun v59 =>
some (t49, v59)
else
some ((-2), v)))
else
some ((-2), v))))
set_option maxHeartbeats 4000000 in
set_option maxRecDepth 100000 in
theorem c_X2_changeSetting (l : Launch) (E : zE) (a : Nat → Nat) (v : zHV) (p1 : Int32) (p2 : Int32) (r : Int32 × zHV) (h : d_X2_changeSetting v p1 p2 = some r) : zMi l E yX2_changeSetting wsX2_changeSetting rm_X2_changeSetting [.ref (a 0), .int p1, .int p2] (hsW E a v) r.1 (hsW E a r.2) := by
  intro sz
  refine z_entry (Qc := fun A => zQi E A r.1 (hsW E a r.2)) (by decide) rfl (Nat.le_of_ble_eq_true rfl) ?_
  intro p e s m below meth c A X hW ls hl
  have X : zX E wsX2_changeSetting RX2 cX2_changeSetting 4 (some .int) yX2_changeSetting p s m ([.ref (a 0), .int p1, .int p2] : List Value).toArray meth c A := X
  have hl : lv_has ls 4 [(0, .ref (a 0)), (1, .int p1), (2, .int p2)] := hl
  have hr : d_X2_changeSetting v p1 p2 = some r := h
  clear h
  have q_0 : Cond.fieldLink RX2 14 "ApplauseTallies$House" "settings" "LApplauseTallies$Row;" ∈ wsX2_changeSetting := List.mem_of_getElem? (i := 1) rfl
  have hn_X2 : ∀ x ∈ wsX20, x ∈ wsX2_changeSetting := zz_in [12, 13, 14, 15, 16, 17, 18, 19, 20, 21, 22] (by decide +kernel)
  unfold d_X2_changeSetting at hr
  refine lv_iload_n X.1 X.2.1 dX2_changeSetting_0 rfl (lv_at hl 1 rfl) ?_
  refine z_iflt X 20 hr dX2_changeSetting_1 (by decide) (fun hr => ?_) (fun hr => ?_)
  · refine lv_bipush (v := (-2)) X.1 X.2.1 dX2_changeSetting_20 (by decide) ?_
    cases hr
    exact z_iret X hW rfl dX2_changeSetting_22
  · refine lv_iload_n X.1 X.2.1 dX2_changeSetting_4 rfl (lv_at hl 1 rfl) ?_
    refine z_getsN X hW (X.2.2.2.2.2.1.2.2.2.1.1) (List.mem_of_getElem? (i := 12) rfl) dX2_changeSetting_5 ?_
    refine z_slen X hW (X.2.2.2.2.2.1.2.2.2.1.2) dX2_changeSetting_8 ?_
    refine z_cmpge X 20 hr dX2_changeSetting_9 (by decide) (fun hr => ?_) (fun hr => ?_)
    · refine lv_bipush (v := (-2)) X.1 X.2.1 dX2_changeSetting_20 (by decide) ?_
      cases hr
      exact z_iret X hW rfl dX2_changeSetting_22
    · refine lv_iload_n X.1 X.2.1 dX2_changeSetting_12 rfl (lv_at hl 1 rfl) ?_
      refine z_getsN X hW (X.2.2.2.2.2.1.2.2.2.2.1.1) (List.mem_of_getElem? (i := 13) rfl) dX2_changeSetting_13 ?_
      refine z_slen X hW (X.2.2.2.2.2.1.2.2.2.2.1.2) dX2_changeSetting_16 ?_
      refine z_cmplt X 23 hr dX2_changeSetting_17 (by decide) (fun hr => ?_) (fun hr => ?_)
      · refine lv_iload_n X.1 X.2.1 dX2_changeSetting_23 rfl (lv_at hl 2 rfl) ?_
        refine z_getsN X hW (X.2.2.2.2.2.1.2.2.2.1.1) (List.mem_of_getElem? (i := 12) rfl) dX2_changeSetting_24 ?_
        refine lv_iload_n X.1 X.2.1 dX2_changeSetting_27 rfl (lv_at hl 1 rfl) ?_
        refine z_sld X hW (X.2.2.2.2.2.1.2.2.2.1.2) hr dX2_changeSetting_28 (fun t28 hr => ?_)
        refine z_cmplt X 41 hr dX2_changeSetting_29 (by decide) (fun hr => ?_) (fun hr => ?_)
        · refine lv_bipush (v := (-2)) X.1 X.2.1 dX2_changeSetting_41 (by decide) ?_
          cases hr
          exact z_iret X hW rfl dX2_changeSetting_43
        · refine lv_iload_n X.1 X.2.1 dX2_changeSetting_32 rfl (lv_at hl 2 rfl) ?_
          refine z_getsN X hW (X.2.2.2.2.2.1.2.2.2.2.1.1) (List.mem_of_getElem? (i := 13) rfl) dX2_changeSetting_33 ?_
          refine lv_iload_n X.1 X.2.1 dX2_changeSetting_36 rfl (lv_at hl 1 rfl) ?_
          refine z_sld X hW (X.2.2.2.2.2.1.2.2.2.2.1.2) hr dX2_changeSetting_37 (fun t37 hr => ?_)
          refine z_cmple X 44 hr dX2_changeSetting_38 (by decide) (fun hr => ?_) (fun hr => ?_)
          · refine lv_aload_n X.1 X.2.1 dX2_changeSetting_44 rfl (lv_at hl 0 rfl) ?_
            refine z_get X hW 0 2 0 (C := RX2) (T := TX2) (N := 11) rfl rfl hn_X2 (by decide) q_0 rfl dX2_changeSetting_45 ?_
            refine lv_iload_n X.1 X.2.1 dX2_changeSetting_48 rfl (lv_at hl 1 rfl) ?_
            have hp_49 := (sp_hs_1 E a v)
            refine z_callp X hW hr hp_49 (fun x h => z_runV (As := [.int p1]) (rest := []) X hW hp_49 (c_X5_at l E (zh a 1) 6 (v 0) p1 x h _) hy_X5_at 1 5 (C := RX5) (T := TX5) (N := 1) rfl rfl rfl gX2_changeSetting_X5_at rfl rfl ⟨by decide, by decide⟩ rfl hl rfl rfl (Nat.le_of_ble_eq_true rfl) dX2_changeSetting_49 ⟨Nat.zero_le _, Nat.zero_le _⟩) (fun t49 H locs hr hW => ?_)
            refine lv_istore_n (lv' := [(3, .int t49), (0, .ref (a 0)), (1, .int p1), (2, .int p2)]) X.1 X.2.1 dX2_changeSetting_52 rfl hl (by decide) rfl (fun ls hl => ?_)
            refine lv_aload_n X.1 X.2.1 dX2_changeSetting_53 rfl (lv_at hl 1 rfl) ?_
            refine z_get X hW 0 2 0 (C := RX2) (T := TX2) (N := 11) rfl rfl hn_X2 (by decide) q_0 rfl dX2_changeSetting_54 ?_
            refine lv_iload_n X.1 X.2.1 dX2_changeSetting_57 rfl (lv_at hl 2 rfl) ?_
            refine lv_iload_n X.1 X.2.1 dX2_changeSetting_58 rfl (lv_at hl 3 rfl) ?_
            have hp_59 := (sp_hs_1 E a v)
            refine z_callv X hW (fun z9 => (zr v 0 z9)) hr hp_59 (fun z9 => (rwW E (zh a 1) 6 z9)) (fun v59 => (hsW E a v59)) (fun z9 => (sj_hs_1 E a v z9)) (fun z9 h => z_runV (As := [.int p1, .int p2]) (rest := []) X hW hp_59 (c_X5_store l E (zh a 1) 6 (v 0) p1 p2 z9 h _) hy_X5_store 1 5 (C := RX5) (T := TX5) (N := 1) rfl rfl rfl gX2_changeSetting_X5_store rfl rfl ⟨by decide, by decide⟩ rfl hl rfl rfl (Nat.le_of_ble_eq_true rfl) dX2_changeSetting_59 ⟨Nat.zero_le _, Nat.zero_le _⟩) (fun v59 H locs hr hW => ?_)
            refine lv_iload_n X.1 X.2.1 dX2_changeSetting_62 rfl (lv_at hl 0 rfl) ?_
            cases hr
            exact z_iret X hW rfl dX2_changeSetting_63
          · refine lv_bipush (v := (-2)) X.1 X.2.1 dX2_changeSetting_41 (by decide) ?_
            cases hr
            exact z_iret X hW rfl dX2_changeSetting_43
      · refine lv_bipush (v := (-2)) X.1 X.2.1 dX2_changeSetting_20 (by decide) ?_
        cases hr
        exact z_iret X hW rfl dX2_changeSetting_22
abbrev rm_X2_changeLoudness : Room := { frames := 1, cells := 0, slots := 0, locals := 22 }
theorem hy_X2_changeLoudness : zY yX2_changeLoudness wsX2_changeLoudness cX2_changeLoudness 4 (some .int) 2 := ⟨⟨_, rfl⟩, by decide, by decide, by decide +kernel⟩
def d_X2_changeLoudness (v : zHV) (p1 : Int32) (p2 : Int32) : Option (Int32 × zHV) :=
zcl (d_X7_isSeat p1) fun t1 =>
(if t1 = 0 then
some ((-1), v)
else
(if p2 < 1 then
some ((-2), v)
else
(if p2 ≤ 9 then
zcl (d_X5_at 30 (v 1) p1) fun t31 =>
zup (d_X5_store 30 (v 1) p1 p2) (fun z9 => (zr v 1 z9)) fun v44 =>
some (t31, v44)
else
some ((-2), v))))
set_option maxHeartbeats 4000000 in
set_option maxRecDepth 100000 in
theorem c_X2_changeLoudness (l : Launch) (E : zE) (a : Nat → Nat) (v : zHV) (p1 : Int32) (p2 : Int32) (r : Int32 × zHV) (h : d_X2_changeLoudness v p1 p2 = some r) : zMi l E yX2_changeLoudness wsX2_changeLoudness rm_X2_changeLoudness [.ref (a 0), .int p1, .int p2] (hsW E a v) r.1 (hsW E a r.2) := by
  intro sz
  refine z_entry (Qc := fun A => zQi E A r.1 (hsW E a r.2)) (by decide) rfl (Nat.le_of_ble_eq_true rfl) ?_
  intro p e s m below meth c A X hW ls hl
  have X : zX E wsX2_changeLoudness RX2 cX2_changeLoudness 4 (some .int) yX2_changeLoudness p s m ([.ref (a 0), .int p1, .int p2] : List Value).toArray meth c A := X
  have hl : lv_has ls 4 [(0, .ref (a 0)), (1, .int p1), (2, .int p2)] := hl
  have hr : d_X2_changeLoudness v p1 p2 = some r := h
  clear h
  have q_0 : Cond.initialized RX7 ∈ wsX2_changeLoudness := List.mem_of_getElem? (i := 3) rfl
  have q_1 : Cond.static yX7_isSeat ∈ wsX2_changeLoudness := List.mem_of_getElem? (i := 2) rfl
  have q_2 : Cond.fieldLink RX2 23 "ApplauseTallies$House" "seats" "LApplauseTallies$Seats;" ∈ wsX2_changeLoudness := List.mem_of_getElem? (i := 1) rfl
  have hn_X2 : ∀ x ∈ wsX20, x ∈ wsX2_changeLoudness := zz_in [15, 16, 17, 18, 19, 20, 21, 22, 23, 24, 25] (by decide +kernel)
  have hn_X6 : ∀ x ∈ wsX60, x ∈ wsX2_changeLoudness := zz_in [26, 27, 28, 29, 30, 31, 32, 33] (by decide +kernel)
  unfold d_X2_changeLoudness at hr
  refine lv_iload_n X.1 X.2.1 dX2_changeLoudness_0 rfl (lv_at hl 1 rfl) ?_
  have hp_1 := (List.Perm.refl ((hsW E a v)))
  refine z_callp X hW hr hp_1 (fun x h => z_runSN (As := [.int p1]) (rest := []) X hW hp_1 (c_X7_isSeat l E p1 x h _) hy_X7_isSeat q_0 q_1 (List.mem_of_getElem? (i := 20) rfl) gX2_changeLoudness_X7_isSeat_n88 rfl rfl ⟨by decide, by decide⟩ rfl hl rfl rfl (Nat.le_of_ble_eq_true rfl) dX2_changeLoudness_1 ⟨Nat.zero_le _, Nat.zero_le _⟩) (fun t1 H locs hr hW => ?_)
  refine z_ifne X 9 hr dX2_changeLoudness_4 (by decide) (fun hr => ?_) (fun hr => ?_)
  · refine lv_iload_n X.1 X.2.1 dX2_changeLoudness_9 rfl (lv_at hl 2 rfl) ?_
    refine lv_iconst (v := 1) X.1 X.2.1 dX2_changeLoudness_10 (by decide) ?_
    refine z_cmplt X 20 hr dX2_changeLoudness_11 (by decide) (fun hr => ?_) (fun hr => ?_)
    · refine lv_bipush (v := (-2)) X.1 X.2.1 dX2_changeLoudness_20 (by decide) ?_
      cases hr
      exact z_iret X hW rfl dX2_changeLoudness_22
    · refine lv_iload_n X.1 X.2.1 dX2_changeLoudness_14 rfl (lv_at hl 2 rfl) ?_
      refine lv_bipush (v := 9) X.1 X.2.1 dX2_changeLoudness_15 (by decide) ?_
      refine z_cmple X 23 hr dX2_changeLoudness_17 (by decide) (fun hr => ?_) (fun hr => ?_)
      · refine lv_aload_n X.1 X.2.1 dX2_changeLoudness_23 rfl (lv_at hl 0 rfl) ?_
        refine z_get X hW 0 2 1 (C := RX2) (T := TX2) (N := 11) rfl rfl hn_X2 (by decide) q_2 rfl dX2_changeLoudness_24 ?_
        refine z_getN X hW 3 6 0 (C := RX6) (T := TX6) (N := 8) rfl rfl hn_X6 (by decide) (List.mem_of_getElem? (i := 14) rfl) rfl dX2_changeLoudness_27 ?_
        refine lv_iload_n X.1 X.2.1 dX2_changeLoudness_30 rfl (lv_at hl 1 rfl) ?_
        have hp_31 := (sp_hs_4 E a v)
        refine z_callp X hW hr hp_31 (fun x h => z_runV (As := [.int p1]) (rest := []) X hW hp_31 (c_X5_at l E (zh a 4) 30 (v 1) p1 x h _) hy_X5_at 4 5 (C := RX5) (T := TX5) (N := 1) rfl rfl rfl gX2_changeLoudness_X5_at rfl rfl ⟨by decide, by decide⟩ rfl hl rfl rfl (Nat.le_of_ble_eq_true rfl) dX2_changeLoudness_31 ⟨Nat.zero_le _, Nat.zero_le _⟩) (fun t31 H locs hr hW => ?_)
        refine lv_istore_n (lv' := [(3, .int t31), (0, .ref (a 0)), (1, .int p1), (2, .int p2)]) X.1 X.2.1 dX2_changeLoudness_34 rfl hl (by decide) rfl (fun ls hl => ?_)
        refine lv_aload_n X.1 X.2.1 dX2_changeLoudness_35 rfl (lv_at hl 1 rfl) ?_
        refine z_get X hW 0 2 1 (C := RX2) (T := TX2) (N := 11) rfl rfl hn_X2 (by decide) q_2 rfl dX2_changeLoudness_36 ?_
        refine z_getN X hW 3 6 0 (C := RX6) (T := TX6) (N := 8) rfl rfl hn_X6 (by decide) (List.mem_of_getElem? (i := 14) rfl) rfl dX2_changeLoudness_39 ?_
        refine lv_iload_n X.1 X.2.1 dX2_changeLoudness_42 rfl (lv_at hl 2 rfl) ?_
        refine lv_iload_n X.1 X.2.1 dX2_changeLoudness_43 rfl (lv_at hl 3 rfl) ?_
        have hp_44 := (sp_hs_4 E a v)
        refine z_callv X hW (fun z9 => (zr v 1 z9)) hr hp_44 (fun z9 => (rwW E (zh a 4) 30 z9)) (fun v44 => (hsW E a v44)) (fun z9 => (sj_hs_4 E a v z9)) (fun z9 h => z_runV (As := [.int p1, .int p2]) (rest := []) X hW hp_44 (c_X5_store l E (zh a 4) 30 (v 1) p1 p2 z9 h _) hy_X5_store 4 5 (C := RX5) (T := TX5) (N := 1) rfl rfl rfl gX2_changeLoudness_X5_store rfl rfl ⟨by decide, by decide⟩ rfl hl rfl rfl (Nat.le_of_ble_eq_true rfl) dX2_changeLoudness_44 ⟨Nat.zero_le _, Nat.zero_le _⟩) (fun v44 H locs hr hW => ?_)
        refine lv_iload_n X.1 X.2.1 dX2_changeLoudness_47 rfl (lv_at hl 0 rfl) ?_
        cases hr
        exact z_iret X hW rfl dX2_changeLoudness_48
      · refine lv_bipush (v := (-2)) X.1 X.2.1 dX2_changeLoudness_20 (by decide) ?_
        cases hr
        exact z_iret X hW rfl dX2_changeLoudness_22
  · refine lv_iconst (v := (-1)) X.1 X.2.1 dX2_changeLoudness_7 (by decide) ?_
    cases hr
    exact z_iret X hW rfl dX2_changeLoudness_8
abbrev rm_X2_switchPay : Room := { frames := 1, cells := 0, slots := 0, locals := 20 }
theorem hy_X2_switchPay : zY yX2_switchPay wsX2_switchPay cX2_switchPay 2 (some .int) 1 := ⟨⟨_, rfl⟩, by decide, by decide, by decide +kernel⟩
def d_X2_switchPay (v : zHV) (p1 : Int32) : Option (Int32 × zHV) :=
zcl (d_X7_isSeat p1) fun t1 =>
(if t1 = 0 then
some ((-1), v)
else
zlet (1 <<< (p1 &&& 31)) fun t19 =>
zlet ((v 6 1) ^^^ t19) fun t20 =>
zlet (zs v 6 1 t20) fun v21 =>
some ((v21 6 1), v21))
set_option maxHeartbeats 4000000 in
set_option maxRecDepth 100000 in
theorem c_X2_switchPay (l : Launch) (E : zE) (a : Nat → Nat) (v : zHV) (p1 : Int32) (r : Int32 × zHV) (h : d_X2_switchPay v p1 = some r) : zMi l E yX2_switchPay wsX2_switchPay rm_X2_switchPay [.ref (a 0), .int p1] (hsW E a v) r.1 (hsW E a r.2) := by
  intro sz
  refine z_entry (Qc := fun A => zQi E A r.1 (hsW E a r.2)) (by decide) rfl (Nat.le_of_ble_eq_true rfl) ?_
  intro p e s m below meth c A X hW ls hl
  have X : zX E wsX2_switchPay RX2 cX2_switchPay 2 (some .int) yX2_switchPay p s m ([.ref (a 0), .int p1] : List Value).toArray meth c A := X
  have hl : lv_has ls 2 [(0, .ref (a 0)), (1, .int p1)] := hl
  have hr : d_X2_switchPay v p1 = some r := h
  clear h
  have q_0 : Cond.initialized RX7 ∈ wsX2_switchPay := List.mem_of_getElem? (i := 3) rfl
  have q_1 : Cond.static yX7_isSeat ∈ wsX2_switchPay := List.mem_of_getElem? (i := 2) rfl
  have q_2 : Cond.fieldLink RX2 23 "ApplauseTallies$House" "seats" "LApplauseTallies$Seats;" ∈ wsX2_switchPay := List.mem_of_getElem? (i := 1) rfl
  have hn_X2 : ∀ x ∈ wsX20, x ∈ wsX2_switchPay := zz_in [5, 6, 7, 8, 9, 10, 11, 12, 13, 14, 15] (by decide +kernel)
  have hn_X6 : ∀ x ∈ wsX60, x ∈ wsX2_switchPay := zz_in [16, 17, 18, 19, 20, 21, 22, 23] (by decide +kernel)
  unfold d_X2_switchPay at hr
  refine lv_iload_n X.1 X.2.1 dX2_switchPay_0 rfl (lv_at hl 1 rfl) ?_
  have hp_1 := (List.Perm.refl ((hsW E a v)))
  refine z_callp X hW hr hp_1 (fun x h => z_runSN (As := [.int p1]) (rest := []) X hW hp_1 (c_X7_isSeat l E p1 x h _) hy_X7_isSeat q_0 q_1 (List.mem_of_getElem? (i := 20) rfl) gX2_switchPay_X7_isSeat_n88 rfl rfl ⟨by decide, by decide⟩ rfl hl rfl rfl (Nat.le_of_ble_eq_true rfl) dX2_switchPay_1 ⟨Nat.zero_le _, Nat.zero_le _⟩) (fun t1 H locs hr hW => ?_)
  refine z_ifne X 9 hr dX2_switchPay_4 (by decide) (fun hr => ?_) (fun hr => ?_)
  · refine lv_aload_n X.1 X.2.1 dX2_switchPay_9 rfl (lv_at hl 0 rfl) ?_
    refine z_get X hW 0 2 1 (C := RX2) (T := TX2) (N := 11) rfl rfl hn_X2 (by decide) q_2 rfl dX2_switchPay_10 ?_
    refine lv_dup X.1 X.2.1 dX2_switchPay_13 rfl ?_
    refine z_getN X hW 3 6 6 (C := RX6) (T := TX6) (N := 8) rfl rfl hn_X6 (by decide) (List.mem_of_getElem? (i := 15) rfl) rfl dX2_switchPay_14 ?_
    refine lv_iconst (v := 1) X.1 X.2.1 dX2_switchPay_17 (by decide) ?_
    refine lv_iload_n X.1 X.2.1 dX2_switchPay_18 rfl (lv_at hl 1 rfl) ?_
    refine z_ishl X hr dX2_switchPay_19 (fun t19 hr => ?_)
    refine z_ixor X hr dX2_switchPay_20 (fun t20 hr => ?_)
    refine z_putN X hW hr (fun v21 => (hsW E a v21)) tyX6 tyX6_ok nmX6 3 6 6 (C := RX6) (T := TX6) (N := 8) rfl rfl hn_X6 (by decide) (List.mem_of_getElem? (i := 15) rfl) rfl rfl rfl (Nat.le_of_ble_eq_true rfl) rfl dX2_switchPay_21 (fun v21 H locs hr hW => ?_)
    refine lv_aload_n X.1 X.2.1 dX2_switchPay_24 rfl (lv_at hl 0 rfl) ?_
    refine z_get X hW 0 2 1 (C := RX2) (T := TX2) (N := 11) rfl rfl hn_X2 (by decide) q_2 rfl dX2_switchPay_25 ?_
    refine z_getN X hW 3 6 6 (C := RX6) (T := TX6) (N := 8) rfl rfl hn_X6 (by decide) (List.mem_of_getElem? (i := 15) rfl) rfl dX2_switchPay_28 ?_
    cases hr
    exact z_iret X hW rfl dX2_switchPay_31
  · refine lv_iconst (v := (-1)) X.1 X.2.1 dX2_switchPay_7 (by decide) ?_
    cases hr
    exact z_iret X hW rfl dX2_switchPay_8
abbrev rm_X2_beginApplause : Room := { frames := 1, cells := 0, slots := 0, locals := 22 }
theorem hy_X2_beginApplause : zY yX2_beginApplause wsX2_beginApplause cX2_beginApplause 2 none 1 := ⟨⟨_, rfl⟩, by decide, by decide, by decide +kernel⟩
def d_X2_beginApplause (v : zHV) (p1 : Int32) : Option (zHV) :=
zup (d_X5_add 6 (v 11) p1 1) (fun z9 => (zr v 11 z9)) fun v9 =>
zup (d_X6_beginPiece (zh v9 1)) (fun z9 => (zq v9 1 6 z9)) fun v16 =>
zlet (zs v16 15 0 0) fun v21 =>
zlet (zs v21 15 3 p1) fun v26 =>
zlet (zs v26 15 4 (v26 15 1)) fun v34 =>
zlet (zs v34 15 5 0) fun v39 =>
some v39
set_option maxHeartbeats 4000000 in
set_option maxRecDepth 100000 in
theorem c_X2_beginApplause (l : Launch) (E : zE) (a : Nat → Nat) (v : zHV) (p1 : Int32) (r : zHV) (h : d_X2_beginApplause v p1 = some r) : zMv l E yX2_beginApplause wsX2_beginApplause rm_X2_beginApplause [.ref (a 0), .int p1] (hsW E a v) (hsW E a r) := by
  intro sz
  refine z_entry (Qc := fun A => zQv E A (hsW E a r)) (by decide) rfl (Nat.le_of_ble_eq_true rfl) ?_
  intro p e s m below meth c A X hW ls hl
  have X : zX E wsX2_beginApplause RX2 cX2_beginApplause 2 none yX2_beginApplause p s m ([.ref (a 0), .int p1] : List Value).toArray meth c A := X
  have hl : lv_has ls 2 [(0, .ref (a 0)), (1, .int p1)] := hl
  have hr : d_X2_beginApplause v p1 = some r := h
  clear h
  have q_0 : Cond.fieldLink RX2 30 "ApplauseTallies$House" "encores" "LApplauseTallies$Encores;" ∈ wsX2_beginApplause := List.mem_of_getElem? (i := 1) rfl
  have hn_X2 : ∀ x ∈ wsX20, x ∈ wsX2_beginApplause := zz_in [20, 21, 22, 23, 24, 25, 26, 27, 28, 29, 30] (by decide +kernel)
  have hn_X0 : ∀ x ∈ wsX00, x ∈ wsX2_beginApplause := zz_in [31, 32, 33, 34, 35, 36] (by decide +kernel)
  have q_3 : Cond.fieldLink RX2 23 "ApplauseTallies$House" "seats" "LApplauseTallies$Seats;" ∈ wsX2_beginApplause := List.mem_of_getElem? (i := 2) rfl
  have q_4 : Cond.fieldLink RX2 62 "ApplauseTallies$House" "applause" "I" ∈ wsX2_beginApplause := List.mem_of_getElem? (i := 3) rfl
  have q_5 : Cond.fieldLink RX2 40 "ApplauseTallies$House" "pieceBy" "I" ∈ wsX2_beginApplause := List.mem_of_getElem? (i := 4) rfl
  have q_6 : Cond.fieldLink RX2 65 "ApplauseTallies$House" "time" "I" ∈ wsX2_beginApplause := List.mem_of_getElem? (i := 5) rfl
  have q_7 : Cond.fieldLink RX2 71 "ApplauseTallies$House" "pieceEnd" "I" ∈ wsX2_beginApplause := List.mem_of_getElem? (i := 6) rfl
  have q_8 : Cond.fieldLink RX2 74 "ApplauseTallies$House" "encoreCame" "Z" ∈ wsX2_beginApplause := List.mem_of_getElem? (i := 7) rfl
  unfold d_X2_beginApplause at hr
  refine lv_aload_n X.1 X.2.1 dX2_beginApplause_0 rfl (lv_at hl 0 rfl) ?_
  refine z_get X hW 0 2 2 (C := RX2) (T := TX2) (N := 11) rfl rfl hn_X2 (by decide) q_0 rfl dX2_beginApplause_1 ?_
  refine z_getN X hW 14 0 4 (C := RX0) (T := TX0) (N := 6) rfl rfl hn_X0 (by decide) (List.mem_of_getElem? (i := 3) rfl) rfl dX2_beginApplause_4 ?_
  refine lv_iload_n X.1 X.2.1 dX2_beginApplause_7 rfl (lv_at hl 1 rfl) ?_
  refine lv_iconst (v := 1) X.1 X.2.1 dX2_beginApplause_8 (by decide) ?_
  have hp_9 := (sp_hs_23 E a v)
  refine z_callv X hW (fun z9 => (zr v 11 z9)) hr hp_9 (fun z9 => (rwW E (zh a 23) 6 z9)) (fun v9 => (hsW E a v9)) (fun z9 => (sj_hs_23 E a v z9)) (fun z9 h => z_runV (As := [.int p1, .int 1]) (rest := []) X hW hp_9 (c_X5_add l E (zh a 23) 6 (v 11) p1 1 z9 h _) hy_X5_add 23 5 (C := RX5) (T := TX5) (N := 1) rfl rfl rfl gX2_beginApplause_X5_add rfl rfl ⟨by decide, by decide⟩ rfl hl rfl rfl (Nat.le_of_ble_eq_true rfl) dX2_beginApplause_9 ⟨Nat.zero_le _, Nat.zero_le _⟩) (fun v9 H locs hr hW => ?_)
  refine lv_aload_n X.1 X.2.1 dX2_beginApplause_12 rfl (lv_at hl 0 rfl) ?_
  refine z_get X hW 0 2 1 (C := RX2) (T := TX2) (N := 11) rfl rfl hn_X2 (by decide) q_3 rfl dX2_beginApplause_13 ?_
  have hp_16 := (sp_hs_3 E a v9)
  refine z_callv X hW (fun z9 => (zq v9 1 6 z9)) hr hp_16 (fun z9 => (stW E (zh a 3) z9)) (fun v16 => (hsW E a v16)) (fun z9 => (sj_hs_3 E a v9 z9)) (fun z9 h => z_runV (As := []) (rest := []) X hW hp_16 (c_X6_beginPiece l E (zh a 3) (zh v9 1) z9 h _) hy_X6_beginPiece 3 6 (C := RX6) (T := TX6) (N := 8) rfl rfl rfl gX2_beginApplause_X6_beginPiece rfl rfl ⟨by decide, by decide⟩ rfl hl rfl rfl (Nat.le_of_ble_eq_true rfl) dX2_beginApplause_16 ⟨Nat.zero_le _, Nat.zero_le _⟩) (fun v16 H locs hr hW => ?_)
  refine lv_aload_n X.1 X.2.1 dX2_beginApplause_19 rfl (lv_at hl 0 rfl) ?_
  refine lv_iconst (v := 0) X.1 X.2.1 dX2_beginApplause_20 (by decide) ?_
  refine z_put X hW hr (fun v21 => (hsW E a v21)) tyX2 tyX2_ok nmX2 0 2 5 (C := RX2) (T := TX2) (N := 11) rfl rfl hn_X2 (by decide) q_4 rfl rfl rfl (Nat.le_of_ble_eq_true rfl) rfl dX2_beginApplause_21 (fun v21 H locs hr hW => ?_)
  refine lv_aload_n X.1 X.2.1 dX2_beginApplause_24 rfl (lv_at hl 0 rfl) ?_
  refine lv_iload_n X.1 X.2.1 dX2_beginApplause_25 rfl (lv_at hl 1 rfl) ?_
  refine z_put X hW hr (fun v26 => (hsW E a v26)) tyX2 tyX2_ok nmX2 0 2 8 (C := RX2) (T := TX2) (N := 11) rfl rfl hn_X2 (by decide) q_5 rfl rfl rfl (Nat.le_of_ble_eq_true rfl) rfl dX2_beginApplause_26 (fun v26 H locs hr hW => ?_)
  refine lv_aload_n X.1 X.2.1 dX2_beginApplause_29 rfl (lv_at hl 0 rfl) ?_
  refine lv_aload_n X.1 X.2.1 dX2_beginApplause_30 rfl (lv_at hl 0 rfl) ?_
  refine z_get X hW 0 2 6 (C := RX2) (T := TX2) (N := 11) rfl rfl hn_X2 (by decide) q_6 rfl dX2_beginApplause_31 ?_
  refine z_put X hW hr (fun v34 => (hsW E a v34)) tyX2 tyX2_ok nmX2 0 2 9 (C := RX2) (T := TX2) (N := 11) rfl rfl hn_X2 (by decide) q_7 rfl rfl rfl (Nat.le_of_ble_eq_true rfl) rfl dX2_beginApplause_34 (fun v34 H locs hr hW => ?_)
  refine lv_aload_n X.1 X.2.1 dX2_beginApplause_37 rfl (lv_at hl 0 rfl) ?_
  refine lv_iconst (v := 0) X.1 X.2.1 dX2_beginApplause_38 (by decide) ?_
  refine z_put X hW hr (fun v39 => (hsW E a v39)) tyX2 tyX2_ok nmX2 0 2 10 (C := RX2) (T := TX2) (N := 11) rfl rfl hn_X2 (by decide) q_8 rfl rfl rfl (Nat.le_of_ble_eq_true rfl) rfl dX2_beginApplause_39 (fun v39 H locs hr hW => ?_)
  cases hr
  exact z_vret X hW dX2_beginApplause_42
abbrev rm_X2_endPiece : Room := { frames := 2, cells := 0, slots := 0, locals := 43 }
theorem hy_X2_endPiece : zY yX2_endPiece wsX2_endPiece cX2_endPiece 3 (some .int) 1 := ⟨⟨_, rfl⟩, by decide, by decide, by decide +kernel⟩
def d_X2_endPiece (v : zHV) (p1 : Int32) : Option (Int32 × zHV) :=
zcl (d_X7_isPerformer p1) fun t1 =>
(if t1 = 0 then
some ((-1), v)
else
zup (d_X2_beginApplause v p1) (fun z9 => z9) fun v16 =>
some ((v 15 0), v16))
set_option maxHeartbeats 4000000 in
set_option maxRecDepth 100000 in
theorem c_X2_endPiece (l : Launch) (E : zE) (a : Nat → Nat) (v : zHV) (p1 : Int32) (r : Int32 × zHV) (h : d_X2_endPiece v p1 = some r) : zMi l E yX2_endPiece wsX2_endPiece rm_X2_endPiece [.ref (a 0), .int p1] (hsW E a v) r.1 (hsW E a r.2) := by
  intro sz
  refine z_entry (Qc := fun A => zQi E A r.1 (hsW E a r.2)) (by decide) rfl (Nat.le_of_ble_eq_true rfl) ?_
  intro p e s m below meth c A X hW ls hl
  have X : zX E wsX2_endPiece RX2 cX2_endPiece 3 (some .int) yX2_endPiece p s m ([.ref (a 0), .int p1] : List Value).toArray meth c A := X
  have hl : lv_has ls 3 [(0, .ref (a 0)), (1, .int p1)] := hl
  have hr : d_X2_endPiece v p1 = some r := h
  clear h
  have q_0 : Cond.initialized RX7 ∈ wsX2_endPiece := List.mem_of_getElem? (i := 3) rfl
  have q_1 : Cond.static yX7_isPerformer ∈ wsX2_endPiece := List.mem_of_getElem? (i := 2) rfl
  have q_2 : Cond.fieldLink RX2 62 "ApplauseTallies$House" "applause" "I" ∈ wsX2_endPiece := List.mem_of_getElem? (i := 1) rfl
  have hn_X2 : ∀ x ∈ wsX20, x ∈ wsX2_endPiece := zz_in [28, 29, 30, 31, 32, 33, 34, 35, 36, 37, 38] (by decide +kernel)
  unfold d_X2_endPiece at hr
  refine lv_iload_n X.1 X.2.1 dX2_endPiece_0 rfl (lv_at hl 1 rfl) ?_
  have hp_1 := (List.Perm.refl ((hsW E a v)))
  refine z_callp X hW hr hp_1 (fun x h => z_runSN (As := [.int p1]) (rest := []) X hW hp_1 (c_X7_isPerformer l E p1 x h _) hy_X7_isPerformer q_0 q_1 (List.mem_of_getElem? (i := 21) rfl) gX2_endPiece_X7_isPerformer_n98 rfl rfl ⟨by decide, by decide⟩ rfl hl rfl rfl (Nat.le_of_ble_eq_true rfl) dX2_endPiece_1 ⟨Nat.zero_le _, Nat.zero_le _⟩) (fun t1 H locs hr hW => ?_)
  refine z_ifne X 9 hr dX2_endPiece_4 (by decide) (fun hr => ?_) (fun hr => ?_)
  · refine lv_aload_n X.1 X.2.1 dX2_endPiece_9 rfl (lv_at hl 0 rfl) ?_
    refine z_get X hW 0 2 5 (C := RX2) (T := TX2) (N := 11) rfl rfl hn_X2 (by decide) q_2 rfl dX2_endPiece_10 ?_
    refine lv_istore_n (lv' := [(2, .int (v 15 0)), (0, .ref (a 0)), (1, .int p1)]) X.1 X.2.1 dX2_endPiece_13 rfl hl (by decide) rfl (fun ls hl => ?_)
    refine lv_aload_n X.1 X.2.1 dX2_endPiece_14 rfl (lv_at hl 1 rfl) ?_
    refine lv_iload_n X.1 X.2.1 dX2_endPiece_15 rfl (lv_at hl 2 rfl) ?_
    have hp_16 := (z_all (hsW E a v))
    refine z_callv X hW (fun z9 => z9) hr hp_16 (fun z9 => (hsW E a z9)) (fun v16 => (hsW E a v16)) (fun z9 => (z_lla (hsW E a z9))) (fun z9 h => z_runV (As := [.int p1]) (rest := []) X hW hp_16 (c_X2_beginApplause l E a v p1 z9 h _) hy_X2_beginApplause 0 2 (C := RX2) (T := TX2) (N := 11) rfl rfl rfl gX2_endPiece_X2_beginApplause rfl rfl ⟨by decide, by decide⟩ rfl hl rfl rfl (Nat.le_of_ble_eq_true rfl) dX2_endPiece_16 ⟨Nat.zero_le _, Nat.zero_le _⟩) (fun v16 H locs hr hW => ?_)
    refine lv_iload_n X.1 X.2.1 dX2_endPiece_19 rfl (lv_at hl 0 rfl) ?_
    cases hr
    exact z_iret X hW rfl dX2_endPiece_20
  · refine lv_iconst (v := (-1)) X.1 X.2.1 dX2_endPiece_7 (by decide) ?_
    cases hr
    exact z_iret X hW rfl dX2_endPiece_8
abbrev rm_X2_bringEncore : Room := { frames := 2, cells := 0, slots := 0, locals := 44 }
theorem hy_X2_bringEncore : zY yX2_bringEncore wsX2_bringEncore cX2_bringEncore 1 none 0 := ⟨⟨_, rfl⟩, by decide, by decide, by decide +kernel⟩
def d_X2_bringEncore (v : zHV) : Option (zHV) :=
zlet (zs v 15 5 1) fun v2 =>
zup2 (d_X0_owe (zh v2 7) (v2 15 3) (v2 15 1)) (fun z9 => (zq v2 7 6 z9)) fun t17 v17 =>
(if t17 = 0 then
zup (d_X5_add 4 (v17 13) 2 1) (fun z9 => (zr v17 13 z9)) fun v29 =>
some v29
else
some v17)
set_option maxHeartbeats 4000000 in
set_option maxRecDepth 100000 in
theorem c_X2_bringEncore (l : Launch) (E : zE) (a : Nat → Nat) (v : zHV) (r : zHV) (h : d_X2_bringEncore v = some r) : zMv l E yX2_bringEncore wsX2_bringEncore rm_X2_bringEncore [.ref (a 0)] (hsW E a v) (hsW E a r) := by
  intro sz
  refine z_entry (Qc := fun A => zQv E A (hsW E a r)) (by decide) rfl (Nat.le_of_ble_eq_true rfl) ?_
  intro p e s m below meth c A X hW ls hl
  have X : zX E wsX2_bringEncore RX2 cX2_bringEncore 1 none yX2_bringEncore p s m ([.ref (a 0)] : List Value).toArray meth c A := X
  have hl : lv_has ls 1 [(0, .ref (a 0))] := hl
  have hr : d_X2_bringEncore v = some r := h
  clear h
  have q_0 : Cond.fieldLink RX2 74 "ApplauseTallies$House" "encoreCame" "Z" ∈ wsX2_bringEncore := List.mem_of_getElem? (i := 1) rfl
  have q_1 : Cond.fieldLink RX2 30 "ApplauseTallies$House" "encores" "LApplauseTallies$Encores;" ∈ wsX2_bringEncore := List.mem_of_getElem? (i := 2) rfl
  have hn_X2 : ∀ x ∈ wsX20, x ∈ wsX2_bringEncore := zz_in [26, 27, 28, 29, 30, 31, 32, 33, 34, 35, 36] (by decide +kernel)
  have q_3 : Cond.fieldLink RX2 40 "ApplauseTallies$House" "pieceBy" "I" ∈ wsX2_bringEncore := List.mem_of_getElem? (i := 3) rfl
  have q_4 : Cond.fieldLink RX2 65 "ApplauseTallies$House" "time" "I" ∈ wsX2_bringEncore := List.mem_of_getElem? (i := 4) rfl
  have q_5 : Cond.fieldLink RX2 34 "ApplauseTallies$House" "tonight" "LApplauseTallies$Row;" ∈ wsX2_bringEncore := List.mem_of_getElem? (i := 5) rfl
  unfold d_X2_bringEncore at hr
  refine lv_aload_n X.1 X.2.1 dX2_bringEncore_0 rfl (lv_at hl 0 rfl) ?_
  refine lv_iconst (v := 1) X.1 X.2.1 dX2_bringEncore_1 (by decide) ?_
  refine z_put X hW hr (fun v2 => (hsW E a v2)) tyX2 tyX2_ok nmX2 0 2 10 (C := RX2) (T := TX2) (N := 11) rfl rfl hn_X2 (by decide) q_0 rfl rfl rfl (Nat.le_of_ble_eq_true rfl) rfl dX2_bringEncore_2 (fun v2 H locs hr hW => ?_)
  refine lv_aload_n X.1 X.2.1 dX2_bringEncore_5 rfl (lv_at hl 0 rfl) ?_
  refine z_get X hW 0 2 2 (C := RX2) (T := TX2) (N := 11) rfl rfl hn_X2 (by decide) q_1 rfl dX2_bringEncore_6 ?_
  refine lv_aload_n X.1 X.2.1 dX2_bringEncore_9 rfl (lv_at hl 0 rfl) ?_
  refine z_get X hW 0 2 8 (C := RX2) (T := TX2) (N := 11) rfl rfl hn_X2 (by decide) q_3 rfl dX2_bringEncore_10 ?_
  refine lv_aload_n X.1 X.2.1 dX2_bringEncore_13 rfl (lv_at hl 0 rfl) ?_
  refine z_get X hW 0 2 6 (C := RX2) (T := TX2) (N := 11) rfl rfl hn_X2 (by decide) q_4 rfl dX2_bringEncore_14 ?_
  have hp_17 := (sp_hs_14 E a v2)
  refine z_calli X hW (fun z9 => (zq v2 7 6 z9)) hr hp_17 (fun z9 => (enW E (zh a 14) z9)) (fun v17 => (hsW E a v17)) (fun z9 => (sj_hs_14 E a v2 z9)) (fun x z9 h => z_runV (As := [.int (v2 15 3), .int (v2 15 1)]) (rest := []) X hW hp_17 (c_X0_owe l E (zh a 14) (zh v2 7) (v2 15 3) (v2 15 1) (x, z9) h _) hy_X0_owe 14 0 (C := RX0) (T := TX0) (N := 6) rfl rfl rfl gX2_bringEncore_X0_owe rfl rfl ⟨by decide, by decide⟩ rfl hl rfl rfl (Nat.le_of_ble_eq_true rfl) dX2_bringEncore_17 ⟨Nat.zero_le _, Nat.zero_le _⟩) (fun t17 v17 H locs hr hW => ?_)
  refine z_ifne X 32 hr dX2_bringEncore_20 (by decide) (fun hr => ?_) (fun hr => ?_)
  · cases hr
    exact z_vret X hW dX2_bringEncore_32
  · refine lv_aload_n X.1 X.2.1 dX2_bringEncore_23 rfl (lv_at hl 0 rfl) ?_
    refine z_get X hW 0 2 3 (C := RX2) (T := TX2) (N := 11) rfl rfl hn_X2 (by decide) q_5 rfl dX2_bringEncore_24 ?_
    refine lv_iconst (v := 2) X.1 X.2.1 dX2_bringEncore_27 (by decide) ?_
    refine lv_iconst (v := 1) X.1 X.2.1 dX2_bringEncore_28 (by decide) ?_
    have hp_29 := (sp_hs_25 E a v17)
    refine z_callv X hW (fun z9 => (zr v17 13 z9)) hr hp_29 (fun z9 => (rwW E (zh a 25) 4 z9)) (fun v29 => (hsW E a v29)) (fun z9 => (sj_hs_25 E a v17 z9)) (fun z9 h => z_runV (As := [.int 2, .int 1]) (rest := []) X hW hp_29 (c_X5_add l E (zh a 25) 4 (v17 13) 2 1 z9 h _) hy_X5_add 25 5 (C := RX5) (T := TX5) (N := 1) rfl rfl rfl gX2_bringEncore_X5_add rfl rfl ⟨by decide, by decide⟩ rfl hl rfl rfl (Nat.le_of_ble_eq_true rfl) dX2_bringEncore_29 ⟨Nat.zero_le _, Nat.zero_le _⟩) (fun v29 H locs hr hW => ?_)
    cases hr
    exact z_vret X hW dX2_bringEncore_32
abbrev rm_X2_takeClap : Room := { frames := 3, cells := 0, slots := 0, locals := 64 }
theorem hy_X2_takeClap : zY yX2_takeClap wsX2_takeClap cX2_takeClap 2 (some .int) 1 := ⟨⟨_, rfl⟩, by decide, by decide, by decide +kernel⟩
def d_X2_takeClap (v : zHV) (p1 : Int32) : Option (Int32 × zHV) :=
zcl (d_X7_isSeat p1) fun t1 =>
(if t1 = 0 then
some ((-1), v)
else
(if (v 15 3) = (-6) then
some ((-5), v)
else
zlet ((v 15 1) - (v 15 4)) fun t34 =>
zcl (d_X5_at 6 (v 0) 3) fun t40 =>
zjn (fun (s0 : Int32) (s1 : Int32) (v : zHV) =>
zup (d_X6_addClap (zh v 1) s1 s0) (fun z9 => (zq v 1 6 z9)) fun v51 =>
zup (d_X5_add 4 (v51 13) 0 1) (fun z9 => (zr v51 13 z9)) fun v60 =>
zcl (d_X5_at 30 (v60 1) p1) fun t78 =>
zlet (10 * t78) fun t81 =>
zlet ((v60 15 0) + t81) fun t82 =>
zlet (if 9999 < t82 then 9999 else t82) fun t86 =>
zlet (zs v60 15 0 t86) fun v89 =>
zcl (d_X5_at 6 (v89 0) 1) fun t101 =>
(if (v89 15 0) < t101 then
some ((v89 15 0), v89)
else
(if (v89 15 5) = 0 then
zup (d_X2_bringEncore v89) (fun z9 => z9) fun v115 =>
some ((v115 15 0), v115)
else
some ((v89 15 0), v89)))) fun j_51 =>
(if t40 < t34 then
j_51 0 p1 v
else
j_51 1 p1 v)))
set_option maxHeartbeats 4000000 in
set_option maxRecDepth 100000 in
theorem c_X2_takeClap (l : Launch) (E : zE) (a : Nat → Nat) (v : zHV) (p1 : Int32) (r : Int32 × zHV) (h : d_X2_takeClap v p1 = some r) : zMi l E yX2_takeClap wsX2_takeClap rm_X2_takeClap [.ref (a 0), .int p1] (hsW E a v) r.1 (hsW E a r.2) := by
  intro sz
  refine z_entry (Qc := fun A => zQi E A r.1 (hsW E a r.2)) (by decide) rfl (Nat.le_of_ble_eq_true rfl) ?_
  intro p e s m below meth c A X hW ls hl
  have X : zX E wsX2_takeClap RX2 cX2_takeClap 2 (some .int) yX2_takeClap p s m ([.ref (a 0), .int p1] : List Value).toArray meth c A := X
  have hl : lv_has ls 2 [(0, .ref (a 0)), (1, .int p1)] := hl
  have hr : d_X2_takeClap v p1 = some r := h
  clear h
  have q_0 : Cond.initialized RX7 ∈ wsX2_takeClap := List.mem_of_getElem? (i := 14) rfl
  have q_1 : Cond.static yX7_isSeat ∈ wsX2_takeClap := List.mem_of_getElem? (i := 13) rfl
  have q_2 : Cond.fieldLink RX2 40 "ApplauseTallies$House" "pieceBy" "I" ∈ wsX2_takeClap := List.mem_of_getElem? (i := 1) rfl
  have hn_X2 : ∀ x ∈ wsX20, x ∈ wsX2_takeClap := zz_in [64, 65, 66, 67, 68, 69, 70, 71, 72, 73, 74] (by decide +kernel)
  have q_4 : Cond.fieldLink RX2 23 "ApplauseTallies$House" "seats" "LApplauseTallies$Seats;" ∈ wsX2_takeClap := List.mem_of_getElem? (i := 2) rfl
  have q_5 : Cond.fieldLink RX2 65 "ApplauseTallies$House" "time" "I" ∈ wsX2_takeClap := List.mem_of_getElem? (i := 3) rfl
  have q_6 : Cond.fieldLink RX2 71 "ApplauseTallies$House" "pieceEnd" "I" ∈ wsX2_takeClap := List.mem_of_getElem? (i := 4) rfl
  have q_7 : Cond.fieldLink RX2 14 "ApplauseTallies$House" "settings" "LApplauseTallies$Row;" ∈ wsX2_takeClap := List.mem_of_getElem? (i := 5) rfl
  have q_8 : Cond.fieldLink RX2 34 "ApplauseTallies$House" "tonight" "LApplauseTallies$Row;" ∈ wsX2_takeClap := List.mem_of_getElem? (i := 6) rfl
  have q_9 : Cond.fieldLink RX2 62 "ApplauseTallies$House" "applause" "I" ∈ wsX2_takeClap := List.mem_of_getElem? (i := 7) rfl
  have hn_X6 : ∀ x ∈ wsX60, x ∈ wsX2_takeClap := zz_in [75, 76, 77, 78, 79, 80, 81, 82] (by decide +kernel)
  have q_11 : Cond.methodLink RX2 117 Lib.Math.min.name ∈ wsX2_takeClap := List.mem_of_getElem? (i := 8) rfl
  have q_12 : Cond.static Lib.Math.min.name ∈ wsX2_takeClap := List.mem_of_getElem? (i := 9) rfl
  have q_13 : Cond.initialized "java/lang/Math" ∈ wsX2_takeClap := List.mem_of_getElem? (i := 10) rfl
  have q_14 : Cond.code Lib.Math.min.name Lib.Math.min.code 2 (some .int) ∈ wsX2_takeClap := List.mem_of_getElem? (i := 11) rfl
  have q_15 : Cond.fieldLink RX2 74 "ApplauseTallies$House" "encoreCame" "Z" ∈ wsX2_takeClap := List.mem_of_getElem? (i := 12) rfl
  unfold d_X2_takeClap at hr
  refine lv_iload_n X.1 X.2.1 dX2_takeClap_0 rfl (lv_at hl 1 rfl) ?_
  have hp_1 := (List.Perm.refl ((hsW E a v)))
  refine z_callp X hW hr hp_1 (fun x h => z_runSN (As := [.int p1]) (rest := []) X hW hp_1 (c_X7_isSeat l E p1 x h _) hy_X7_isSeat q_0 q_1 (List.mem_of_getElem? (i := 20) rfl) gX2_takeClap_X7_isSeat_n88 rfl rfl ⟨by decide, by decide⟩ rfl hl rfl rfl (Nat.le_of_ble_eq_true rfl) dX2_takeClap_1 ⟨Nat.zero_le _, Nat.zero_le _⟩) (fun t1 H locs hr hW => ?_)
  refine z_ifne X 9 hr dX2_takeClap_4 (by decide) (fun hr => ?_) (fun hr => ?_)
  · refine lv_aload_n X.1 X.2.1 dX2_takeClap_9 rfl (lv_at hl 0 rfl) ?_
    refine z_get X hW 0 2 8 (C := RX2) (T := TX2) (N := 11) rfl rfl hn_X2 (by decide) q_2 rfl dX2_takeClap_10 ?_
    refine lv_bipush (v := (-6)) X.1 X.2.1 dX2_takeClap_13 (by decide) ?_
    refine z_cmpne X 21 hr dX2_takeClap_15 (by decide) (fun hr => ?_) (fun hr => ?_)
    · refine lv_aload_n X.1 X.2.1 dX2_takeClap_21 rfl (lv_at hl 0 rfl) ?_
      refine z_get X hW 0 2 1 (C := RX2) (T := TX2) (N := 11) rfl rfl hn_X2 (by decide) q_4 rfl dX2_takeClap_22 ?_
      refine lv_iload_n X.1 X.2.1 dX2_takeClap_25 rfl (lv_at hl 1 rfl) ?_
      refine lv_aload_n X.1 X.2.1 dX2_takeClap_26 rfl (lv_at hl 0 rfl) ?_
      refine z_get X hW 0 2 6 (C := RX2) (T := TX2) (N := 11) rfl rfl hn_X2 (by decide) q_5 rfl dX2_takeClap_27 ?_
      refine lv_aload_n X.1 X.2.1 dX2_takeClap_30 rfl (lv_at hl 0 rfl) ?_
      refine z_get X hW 0 2 9 (C := RX2) (T := TX2) (N := 11) rfl rfl hn_X2 (by decide) q_6 rfl dX2_takeClap_31 ?_
      refine z_isub X hr dX2_takeClap_34 (fun t34 hr => ?_)
      refine lv_aload_n X.1 X.2.1 dX2_takeClap_35 rfl (lv_at hl 0 rfl) ?_
      refine z_get X hW 0 2 0 (C := RX2) (T := TX2) (N := 11) rfl rfl hn_X2 (by decide) q_7 rfl dX2_takeClap_36 ?_
      refine lv_iconst (v := 3) X.1 X.2.1 dX2_takeClap_39 (by decide) ?_
      have hp_40 := (sp_hs_1 E a v)
      refine z_callp X hW hr hp_40 (fun x h => z_runV (As := [.int 3]) (rest := [.int t34, .int p1, .ref (a 3)]) X hW hp_40 (c_X5_at l E (zh a 1) 6 (v 0) 3 x h _) hy_X5_at 1 5 (C := RX5) (T := TX5) (N := 1) rfl rfl rfl gX2_takeClap_X5_at rfl rfl ⟨by decide, by decide⟩ rfl hl rfl rfl (Nat.le_of_ble_eq_true rfl) dX2_takeClap_40 ⟨Nat.zero_le _, Nat.zero_le _⟩) (fun t40 H locs hr hW => ?_)
      obtain ⟨j_51, e_51, hr⟩ := zjn_some hr
      have J_51 : ∀ (s0 : Int32) (s1 : Int32) (v : zHV) (H : Heap) (locs : List Loc) (ls : Array Slot), j_51 s0 s1 v = some r → zW E A s (hsW E a v) H locs → lv_has ls 2 [(0, .ref (a 0)), (1, .int p1)] → W p l e rm_X2_takeClap s m ([.ref (a 0), .int p1] : List Value).toArray below meth c H locs 0 0 (MQ below (zQi E A r.1 (hsW E a r.2)) ([.ref (a 0), .int p1] : List Value).toArray s 0 0 A) (F0 m 51 ls [.int s0, .int s1, .ref (a 3)]) := by
        intro s0 s1 v H locs ls hr hW hl
        rw [e_51] at hr
        have hp_51 := (sp_hs_3 E a v)
        refine z_callv X hW (fun z9 => (zq v 1 6 z9)) hr hp_51 (fun z9 => (stW E (zh a 3) z9)) (fun v51 => (hsW E a v51)) (fun z9 => (sj_hs_3 E a v z9)) (fun z9 h => z_runV (As := [.int s1, .int s0]) (rest := []) X hW hp_51 (c_X6_addClap l E (zh a 3) (zh v 1) s1 s0 z9 h _) hy_X6_addClap 3 6 (C := RX6) (T := TX6) (N := 8) rfl rfl rfl gX2_takeClap_X6_addClap rfl rfl ⟨by decide, by decide⟩ rfl hl rfl rfl (Nat.le_of_ble_eq_true rfl) dX2_takeClap_51 ⟨Nat.zero_le _, Nat.zero_le _⟩) (fun v51 H locs hr hW => ?_)
        refine lv_aload_n X.1 X.2.1 dX2_takeClap_54 rfl (lv_at hl 0 rfl) ?_
        refine z_get X hW 0 2 3 (C := RX2) (T := TX2) (N := 11) rfl rfl hn_X2 (by decide) q_8 rfl dX2_takeClap_55 ?_
        refine lv_iconst (v := 0) X.1 X.2.1 dX2_takeClap_58 (by decide) ?_
        refine lv_iconst (v := 1) X.1 X.2.1 dX2_takeClap_59 (by decide) ?_
        have hp_60 := (sp_hs_25 E a v51)
        refine z_callv X hW (fun z9 => (zr v51 13 z9)) hr hp_60 (fun z9 => (rwW E (zh a 25) 4 z9)) (fun v60 => (hsW E a v60)) (fun z9 => (sj_hs_25 E a v51 z9)) (fun z9 h => z_runV (As := [.int 0, .int 1]) (rest := []) X hW hp_60 (c_X5_add l E (zh a 25) 4 (v51 13) 0 1 z9 h _) hy_X5_add 25 5 (C := RX5) (T := TX5) (N := 1) rfl rfl rfl gX2_takeClap_X5_add rfl rfl ⟨by decide, by decide⟩ rfl hl rfl rfl (Nat.le_of_ble_eq_true rfl) dX2_takeClap_60 ⟨Nat.zero_le _, Nat.zero_le _⟩) (fun v60 H locs hr hW => ?_)
        refine lv_aload_n X.1 X.2.1 dX2_takeClap_63 rfl (lv_at hl 0 rfl) ?_
        refine lv_aload_n X.1 X.2.1 dX2_takeClap_64 rfl (lv_at hl 0 rfl) ?_
        refine z_get X hW 0 2 5 (C := RX2) (T := TX2) (N := 11) rfl rfl hn_X2 (by decide) q_9 rfl dX2_takeClap_65 ?_
        refine lv_bipush (v := 10) X.1 X.2.1 dX2_takeClap_68 (by decide) ?_
        refine lv_aload_n X.1 X.2.1 dX2_takeClap_70 rfl (lv_at hl 0 rfl) ?_
        refine z_get X hW 0 2 1 (C := RX2) (T := TX2) (N := 11) rfl rfl hn_X2 (by decide) q_4 rfl dX2_takeClap_71 ?_
        refine z_getN X hW 3 6 0 (C := RX6) (T := TX6) (N := 8) rfl rfl hn_X6 (by decide) (List.mem_of_getElem? (i := 14) rfl) rfl dX2_takeClap_74 ?_
        refine lv_iload_n X.1 X.2.1 dX2_takeClap_77 rfl (lv_at hl 1 rfl) ?_
        have hp_78 := (sp_hs_4 E a v60)
        refine z_callp X hW hr hp_78 (fun x h => z_runV (As := [.int p1]) (rest := [.int 10, .int (v60 15 0), .ref (a 0)]) X hW hp_78 (c_X5_at l E (zh a 4) 30 (v60 1) p1 x h _) hy_X5_at 4 5 (C := RX5) (T := TX5) (N := 1) rfl rfl rfl gX2_takeClap_X5_at rfl rfl ⟨by decide, by decide⟩ rfl hl rfl rfl (Nat.le_of_ble_eq_true rfl) dX2_takeClap_78 ⟨Nat.zero_le _, Nat.zero_le _⟩) (fun t78 H locs hr hW => ?_)
        refine z_imul X hr dX2_takeClap_81 (fun t81 hr => ?_)
        refine z_iadd X hr dX2_takeClap_82 (fun t82 hr => ?_)
        refine lv_sipush (v := 9999) X.1 X.2.1 dX2_takeClap_83 (by decide) ?_
        refine z_min X hl rfl hr q_11 q_12 q_13 q_14 (by decide) (Nat.le_of_ble_eq_true rfl) (Nat.zero_le _) (Nat.zero_le _) dX2_takeClap_86 (fun t86 hr => ?_)
        refine z_put X hW hr (fun v89 => (hsW E a v89)) tyX2 tyX2_ok nmX2 0 2 5 (C := RX2) (T := TX2) (N := 11) rfl rfl hn_X2 (by decide) q_9 rfl rfl rfl (Nat.le_of_ble_eq_true rfl) rfl dX2_takeClap_89 (fun v89 H locs hr hW => ?_)
        refine lv_aload_n X.1 X.2.1 dX2_takeClap_92 rfl (lv_at hl 0 rfl) ?_
        refine z_get X hW 0 2 5 (C := RX2) (T := TX2) (N := 11) rfl rfl hn_X2 (by decide) q_9 rfl dX2_takeClap_93 ?_
        refine lv_aload_n X.1 X.2.1 dX2_takeClap_96 rfl (lv_at hl 0 rfl) ?_
        refine z_get X hW 0 2 0 (C := RX2) (T := TX2) (N := 11) rfl rfl hn_X2 (by decide) q_7 rfl dX2_takeClap_97 ?_
        refine lv_iconst (v := 1) X.1 X.2.1 dX2_takeClap_100 (by decide) ?_
        have hp_101 := (sp_hs_1 E a v89)
        refine z_callp X hW hr hp_101 (fun x h => z_runV (As := [.int 1]) (rest := [.int (v89 15 0)]) X hW hp_101 (c_X5_at l E (zh a 1) 6 (v89 0) 1 x h _) hy_X5_at 1 5 (C := RX5) (T := TX5) (N := 1) rfl rfl rfl gX2_takeClap_X5_at rfl rfl ⟨by decide, by decide⟩ rfl hl rfl rfl (Nat.le_of_ble_eq_true rfl) dX2_takeClap_101 ⟨Nat.zero_le _, Nat.zero_le _⟩) (fun t101 H locs hr hW => ?_)
        refine z_cmplt X 118 hr dX2_takeClap_104 (by decide) (fun hr => ?_) (fun hr => ?_)
        · refine lv_aload_n X.1 X.2.1 dX2_takeClap_118 rfl (lv_at hl 0 rfl) ?_
          refine z_get X hW 0 2 5 (C := RX2) (T := TX2) (N := 11) rfl rfl hn_X2 (by decide) q_9 rfl dX2_takeClap_119 ?_
          cases hr
          exact z_iret X hW rfl dX2_takeClap_122
        · refine lv_aload_n X.1 X.2.1 dX2_takeClap_107 rfl (lv_at hl 0 rfl) ?_
          refine z_get X hW 0 2 10 (C := RX2) (T := TX2) (N := 11) rfl rfl hn_X2 (by decide) q_15 rfl dX2_takeClap_108 ?_
          refine z_ifne X 118 hr dX2_takeClap_111 (by decide) (fun hr => ?_) (fun hr => ?_)
          · refine lv_aload_n X.1 X.2.1 dX2_takeClap_118 rfl (lv_at hl 0 rfl) ?_
            refine z_get X hW 0 2 5 (C := RX2) (T := TX2) (N := 11) rfl rfl hn_X2 (by decide) q_9 rfl dX2_takeClap_119 ?_
            cases hr
            exact z_iret X hW rfl dX2_takeClap_122
          · refine lv_aload_n X.1 X.2.1 dX2_takeClap_114 rfl (lv_at hl 0 rfl) ?_
            have hp_115 := (z_all (hsW E a v89))
            refine z_callv X hW (fun z9 => z9) hr hp_115 (fun z9 => (hsW E a z9)) (fun v115 => (hsW E a v115)) (fun z9 => (z_lla (hsW E a z9))) (fun z9 h => z_runV (As := []) (rest := []) X hW hp_115 (c_X2_bringEncore l E a v89 z9 h _) hy_X2_bringEncore 0 2 (C := RX2) (T := TX2) (N := 11) rfl rfl rfl gX2_takeClap_X2_bringEncore rfl rfl ⟨by decide, by decide⟩ rfl hl rfl rfl (Nat.le_of_ble_eq_true rfl) dX2_takeClap_115 ⟨Nat.zero_le _, Nat.zero_le _⟩) (fun v115 H locs hr hW => ?_)
            refine lv_aload_n X.1 X.2.1 dX2_takeClap_118 rfl (lv_at hl 0 rfl) ?_
            refine z_get X hW 0 2 5 (C := RX2) (T := TX2) (N := 11) rfl rfl hn_X2 (by decide) q_9 rfl dX2_takeClap_119 ?_
            cases hr
            exact z_iret X hW rfl dX2_takeClap_122
      refine z_cmpgt X 50 hr dX2_takeClap_43 (by decide) (fun hr => ?_) (fun hr => ?_)
      · refine lv_iconst (v := 0) X.1 X.2.1 dX2_takeClap_50 (by decide) ?_
        exact J_51 0 p1 v _ _ _ hr hW (lv_sub hl [0, 1] rfl)
      · refine lv_iconst (v := 1) X.1 X.2.1 dX2_takeClap_46 (by decide) ?_
        refine lv_goto (tgt := 51) X.1 X.2.1 dX2_takeClap_47 (by decide) ?_
        exact J_51 1 p1 v _ _ _ hr hW (lv_sub hl [0, 1] rfl)
    · refine lv_bipush (v := (-5)) X.1 X.2.1 dX2_takeClap_18 (by decide) ?_
      cases hr
      exact z_iret X hW rfl dX2_takeClap_20
  · refine lv_iconst (v := (-1)) X.1 X.2.1 dX2_takeClap_7 (by decide) ?_
    cases hr
    exact z_iret X hW rfl dX2_takeClap_8
abbrev rm_X2_letPass : Room := { frames := 2, cells := 0, slots := 0, locals := 45 }
theorem hy_X2_letPass : zY yX2_letPass wsX2_letPass cX2_letPass 3 (some .int) 1 := ⟨⟨_, rfl⟩, by decide, by decide, by decide +kernel⟩
def lpB_X2_letPass_30 (p1 : Int32)  (k_30 : Int32 → zHV → Option (Int32 × zHV)) (x2 : Int32) (v : zHV) : Option (Int32 × zHV) :=
(if p1 ≤ x2 then
some ((v 15 0), v)
else
zcl (d_X5_at 6 (v 0) 0) fun t45 =>
zcl (d_X7_afterSecond (v 15 0) t45) fun t48 =>
zlet (zs v 15 0 t48) fun v51 =>
zlet ((v51 15 1) + 1) fun t60 =>
zlet (zs v51 15 1 t60) fun v61 =>
zcl (d_X5_at 6 (v61 0) 2) fun t82 =>
zlet ((v61 15 1) - t82) fun t85 =>
zup2 (d_X0_lapseSince (zh v61 7) t85) (fun z9 => (zq v61 7 6 z9)) fun t86 v86 =>
zup (d_X5_add 4 (v86 13) 2 t86) (fun z9 => (zr v86 13 z9)) fun v89 =>
zlet (x2 + Int32.ofInt 1) fun x2_92 =>
k_30 x2_92 v89)
def lp_X2_letPass_30 (p1 : Int32)  : Nat → Int32 → zHV → Option (Int32 × zHV)
  | 0 => fun _ _ => none
  | n_ + 1 => lpB_X2_letPass_30 p1  (lp_X2_letPass_30 p1  n_)
def d_X2_letPass (v : zHV) (p1 : Int32) : Option (Int32 × zHV) :=
(if p1 < 1 then
some ((-2), v)
else
(if p1 ≤ 99 then
zlet (99999 - p1) fun t21 =>
(if (v 15 1) ≤ t21 then
lp_X2_letPass_30 p1  zF 0 v
else
some ((-5), v))
else
some ((-2), v)))
set_option maxHeartbeats 4000000 in
set_option maxRecDepth 100000 in
theorem c_X2_letPass (l : Launch) (E : zE) (a : Nat → Nat) (v : zHV) (p1 : Int32) (r : Int32 × zHV) (h : d_X2_letPass v p1 = some r) : zMi l E yX2_letPass wsX2_letPass rm_X2_letPass [.ref (a 0), .int p1] (hsW E a v) r.1 (hsW E a r.2) := by
  intro sz
  refine z_entry (Qc := fun A => zQi E A r.1 (hsW E a r.2)) (by decide) rfl (Nat.le_of_ble_eq_true rfl) ?_
  intro p e s m below meth c A X hW ls hl
  have X : zX E wsX2_letPass RX2 cX2_letPass 3 (some .int) yX2_letPass p s m ([.ref (a 0), .int p1] : List Value).toArray meth c A := X
  have hl : lv_has ls 3 [(0, .ref (a 0)), (1, .int p1)] := hl
  have hr : d_X2_letPass v p1 = some r := h
  clear h
  have q_0 : Cond.fieldLink RX2 65 "ApplauseTallies$House" "time" "I" ∈ wsX2_letPass := List.mem_of_getElem? (i := 1) rfl
  have hn_X2 : ∀ x ∈ wsX20, x ∈ wsX2_letPass := zz_in [39, 40, 41, 42, 43, 44, 45, 46, 47, 48, 49] (by decide +kernel)
  have q_2 : Cond.constant RX2 130 99999 ∈ wsX2_letPass := List.mem_of_getElem? (i := 2) rfl
  have q_3 : Cond.fieldLink RX2 62 "ApplauseTallies$House" "applause" "I" ∈ wsX2_letPass := List.mem_of_getElem? (i := 3) rfl
  have q_4 : Cond.fieldLink RX2 14 "ApplauseTallies$House" "settings" "LApplauseTallies$Row;" ∈ wsX2_letPass := List.mem_of_getElem? (i := 4) rfl
  have q_5 : Cond.initialized RX7 ∈ wsX2_letPass := List.mem_of_getElem? (i := 14) rfl
  have q_6 : Cond.static yX7_afterSecond ∈ wsX2_letPass := List.mem_of_getElem? (i := 13) rfl
  have q_7 : Cond.fieldLink RX2 34 "ApplauseTallies$House" "tonight" "LApplauseTallies$Row;" ∈ wsX2_letPass := List.mem_of_getElem? (i := 5) rfl
  have q_8 : Cond.fieldLink RX2 30 "ApplauseTallies$House" "encores" "LApplauseTallies$Encores;" ∈ wsX2_letPass := List.mem_of_getElem? (i := 6) rfl
  unfold d_X2_letPass at hr
  refine lv_iload_n X.1 X.2.1 dX2_letPass_0 rfl (lv_at hl 1 rfl) ?_
  refine lv_iconst (v := 1) X.1 X.2.1 dX2_letPass_1 (by decide) ?_
  refine z_cmplt X 11 hr dX2_letPass_2 (by decide) (fun hr => ?_) (fun hr => ?_)
  · refine lv_bipush (v := (-2)) X.1 X.2.1 dX2_letPass_11 (by decide) ?_
    cases hr
    exact z_iret X hW rfl dX2_letPass_13
  · refine lv_iload_n X.1 X.2.1 dX2_letPass_5 rfl (lv_at hl 1 rfl) ?_
    refine lv_bipush (v := 99) X.1 X.2.1 dX2_letPass_6 (by decide) ?_
    refine z_cmple X 14 hr dX2_letPass_8 (by decide) (fun hr => ?_) (fun hr => ?_)
    · refine lv_aload_n X.1 X.2.1 dX2_letPass_14 rfl (lv_at hl 0 rfl) ?_
      refine z_get X hW 0 2 6 (C := RX2) (T := TX2) (N := 11) rfl rfl hn_X2 (by decide) q_0 rfl dX2_letPass_15 ?_
      refine lv_ldc (v := 99999) X.1 X.2.1 X.2.2.2.1 (X.2.2.2.2.1 _ q_2) dX2_letPass_18 ?_
      refine lv_iload_n X.1 X.2.1 dX2_letPass_20 rfl (lv_at hl 1 rfl) ?_
      refine z_isub X hr dX2_letPass_21 (fun t21 hr => ?_)
      refine z_cmple X 28 hr dX2_letPass_22 (by decide) (fun hr => ?_) (fun hr => ?_)
      · refine lv_iconst (v := 0) X.1 X.2.1 dX2_letPass_28 (by decide) ?_
        refine lv_istore_n (lv' := [(2, .int 0), (0, .ref (a 0)), (1, .int p1)]) X.1 X.2.1 dX2_letPass_29 rfl hl (by decide) rfl (fun ls hl => ?_)
        have L_30 : ∀ (n_30 : Nat), ∀ (x2 : Int32) (v : zHV) (H : Heap) (locs : List Loc) (ls : Array Slot), lp_X2_letPass_30 p1  n_30 x2 v = some r → zW E A s (hsW E a v) H locs → lv_has ls 3 [(0, .ref (a 0)), (1, .int p1), (2, .int x2)] → W p l e rm_X2_letPass s m ([.ref (a 0), .int p1] : List Value).toArray below meth c H locs 0 0 (MQ below (zQi E A r.1 (hsW E a r.2)) ([.ref (a 0), .int p1] : List Value).toArray s 0 0 A) (F0 m 30 ls []) := by
          intro n_30
          induction n_30 with
          | zero => exact fun x2 v H locs ls hr hW hl => absurd (show (none : Option (Int32 × zHV)) = some r from hr) (fun h => by cases h)
          | succ n_30 ih_30 =>
            intro x2 v H locs ls hr hW hl
            have hr : lpB_X2_letPass_30 p1  (lp_X2_letPass_30 p1  n_30) x2 v = some r := hr
            unfold lpB_X2_letPass_30 at hr
            refine lv_iload_n X.1 X.2.1 dX2_letPass_30 rfl (lv_at hl 2 rfl) ?_
            refine lv_iload_n X.1 X.2.1 dX2_letPass_31 rfl (lv_at hl 1 rfl) ?_
            refine z_cmpge X 98 hr dX2_letPass_32 (by decide) (fun hr => ?_) (fun hr => ?_)
            · refine lv_aload_n X.1 X.2.1 dX2_letPass_98 rfl (lv_at hl 0 rfl) ?_
              refine z_get X hW 0 2 5 (C := RX2) (T := TX2) (N := 11) rfl rfl hn_X2 (by decide) q_3 rfl dX2_letPass_99 ?_
              cases hr
              exact z_iret X hW rfl dX2_letPass_102
            · refine lv_aload_n X.1 X.2.1 dX2_letPass_35 rfl (lv_at hl 0 rfl) ?_
              refine lv_aload_n X.1 X.2.1 dX2_letPass_36 rfl (lv_at hl 0 rfl) ?_
              refine z_get X hW 0 2 5 (C := RX2) (T := TX2) (N := 11) rfl rfl hn_X2 (by decide) q_3 rfl dX2_letPass_37 ?_
              refine lv_aload_n X.1 X.2.1 dX2_letPass_40 rfl (lv_at hl 0 rfl) ?_
              refine z_get X hW 0 2 0 (C := RX2) (T := TX2) (N := 11) rfl rfl hn_X2 (by decide) q_4 rfl dX2_letPass_41 ?_
              refine lv_iconst (v := 0) X.1 X.2.1 dX2_letPass_44 (by decide) ?_
              have hp_45 := (sp_hs_1 E a v)
              refine z_callp X hW hr hp_45 (fun x h => z_runV (As := [.int 0]) (rest := [.int (v 15 0), .ref (a 0)]) X hW hp_45 (c_X5_at l E (zh a 1) 6 (v 0) 0 x h _) hy_X5_at 1 5 (C := RX5) (T := TX5) (N := 1) rfl rfl rfl gX2_letPass_X5_at rfl rfl ⟨by decide, by decide⟩ rfl hl rfl rfl (Nat.le_of_ble_eq_true rfl) dX2_letPass_45 ⟨Nat.zero_le _, Nat.zero_le _⟩) (fun t45 H locs hr hW => ?_)
              have hp_48 := (List.Perm.refl ((hsW E a v)))
              refine z_callp X hW hr hp_48 (fun x h => z_runSN (As := [.int (v 15 0), .int t45]) (rest := [.ref (a 0)]) X hW hp_48 (c_X7_afterSecond l E (v 15 0) t45 x h _) hy_X7_afterSecond q_5 q_6 (List.mem_of_getElem? (i := 18) rfl) gX2_letPass_X7_afterSecond_n131 rfl rfl ⟨by decide, by decide⟩ rfl hl rfl rfl (Nat.le_of_ble_eq_true rfl) dX2_letPass_48 ⟨Nat.zero_le _, Nat.zero_le _⟩) (fun t48 H locs hr hW => ?_)
              refine z_put X hW hr (fun v51 => (hsW E a v51)) tyX2 tyX2_ok nmX2 0 2 5 (C := RX2) (T := TX2) (N := 11) rfl rfl hn_X2 (by decide) q_3 rfl rfl rfl (Nat.le_of_ble_eq_true rfl) rfl dX2_letPass_51 (fun v51 H locs hr hW => ?_)
              refine lv_aload_n X.1 X.2.1 dX2_letPass_54 rfl (lv_at hl 0 rfl) ?_
              refine lv_dup X.1 X.2.1 dX2_letPass_55 rfl ?_
              refine z_get X hW 0 2 6 (C := RX2) (T := TX2) (N := 11) rfl rfl hn_X2 (by decide) q_0 rfl dX2_letPass_56 ?_
              refine lv_iconst (v := 1) X.1 X.2.1 dX2_letPass_59 (by decide) ?_
              refine z_iadd X hr dX2_letPass_60 (fun t60 hr => ?_)
              refine z_put X hW hr (fun v61 => (hsW E a v61)) tyX2 tyX2_ok nmX2 0 2 6 (C := RX2) (T := TX2) (N := 11) rfl rfl hn_X2 (by decide) q_0 rfl rfl rfl (Nat.le_of_ble_eq_true rfl) rfl dX2_letPass_61 (fun v61 H locs hr hW => ?_)
              refine lv_aload_n X.1 X.2.1 dX2_letPass_64 rfl (lv_at hl 0 rfl) ?_
              refine z_get X hW 0 2 3 (C := RX2) (T := TX2) (N := 11) rfl rfl hn_X2 (by decide) q_7 rfl dX2_letPass_65 ?_
              refine lv_iconst (v := 2) X.1 X.2.1 dX2_letPass_68 (by decide) ?_
              refine lv_aload_n X.1 X.2.1 dX2_letPass_69 rfl (lv_at hl 0 rfl) ?_
              refine z_get X hW 0 2 2 (C := RX2) (T := TX2) (N := 11) rfl rfl hn_X2 (by decide) q_8 rfl dX2_letPass_70 ?_
              refine lv_aload_n X.1 X.2.1 dX2_letPass_73 rfl (lv_at hl 0 rfl) ?_
              refine z_get X hW 0 2 6 (C := RX2) (T := TX2) (N := 11) rfl rfl hn_X2 (by decide) q_0 rfl dX2_letPass_74 ?_
              refine lv_aload_n X.1 X.2.1 dX2_letPass_77 rfl (lv_at hl 0 rfl) ?_
              refine z_get X hW 0 2 0 (C := RX2) (T := TX2) (N := 11) rfl rfl hn_X2 (by decide) q_4 rfl dX2_letPass_78 ?_
              refine lv_iconst (v := 2) X.1 X.2.1 dX2_letPass_81 (by decide) ?_
              have hp_82 := (sp_hs_1 E a v61)
              refine z_callp X hW hr hp_82 (fun x h => z_runV (As := [.int 2]) (rest := [.int (v61 15 1), .ref (a 14), .int 2, .ref (a 25)]) X hW hp_82 (c_X5_at l E (zh a 1) 6 (v61 0) 2 x h _) hy_X5_at 1 5 (C := RX5) (T := TX5) (N := 1) rfl rfl rfl gX2_letPass_X5_at rfl rfl ⟨by decide, by decide⟩ rfl hl rfl rfl (Nat.le_of_ble_eq_true rfl) dX2_letPass_82 ⟨Nat.zero_le _, Nat.zero_le _⟩) (fun t82 H locs hr hW => ?_)
              refine z_isub X hr dX2_letPass_85 (fun t85 hr => ?_)
              have hp_86 := (sp_hs_14 E a v61)
              refine z_calli X hW (fun z9 => (zq v61 7 6 z9)) hr hp_86 (fun z9 => (enW E (zh a 14) z9)) (fun v86 => (hsW E a v86)) (fun z9 => (sj_hs_14 E a v61 z9)) (fun x z9 h => z_runV (As := [.int t85]) (rest := [.int 2, .ref (a 25)]) X hW hp_86 (c_X0_lapseSince l E (zh a 14) (zh v61 7) t85 (x, z9) h _) hy_X0_lapseSince 14 0 (C := RX0) (T := TX0) (N := 6) rfl rfl rfl gX2_letPass_X0_lapseSince rfl rfl ⟨by decide, by decide⟩ rfl hl rfl rfl (Nat.le_of_ble_eq_true rfl) dX2_letPass_86 ⟨Nat.zero_le _, Nat.zero_le _⟩) (fun t86 v86 H locs hr hW => ?_)
              have hp_89 := (sp_hs_25 E a v86)
              refine z_callv X hW (fun z9 => (zr v86 13 z9)) hr hp_89 (fun z9 => (rwW E (zh a 25) 4 z9)) (fun v89 => (hsW E a v89)) (fun z9 => (sj_hs_25 E a v86 z9)) (fun z9 h => z_runV (As := [.int 2, .int t86]) (rest := []) X hW hp_89 (c_X5_add l E (zh a 25) 4 (v86 13) 2 t86 z9 h _) hy_X5_add 25 5 (C := RX5) (T := TX5) (N := 1) rfl rfl rfl gX2_letPass_X5_add rfl rfl ⟨by decide, by decide⟩ rfl hl rfl rfl (Nat.le_of_ble_eq_true rfl) dX2_letPass_89 ⟨Nat.zero_le _, Nat.zero_le _⟩) (fun v89 H locs hr hW => ?_)
              refine z_iinc X (fun x2_92 => [(2, .int x2_92), (0, .ref (a 0)), (1, .int p1)]) hr hl (k := 2) rfl (by decide) (fun _ => rfl) dX2_letPass_92 (fun x2_92 ls hr hl => ?_)
              refine lv_goto (tgt := 30) X.1 X.2.1 dX2_letPass_95 (by decide) ?_
              exact ih_30 x2_92 v89 _ _ _ hr hW (lv_sub hl [1, 2, 0] rfl)
        exact L_30 _ 0 v _ _ _ hr hW (lv_sub hl [1, 2, 0] rfl)
      · refine lv_bipush (v := (-5)) X.1 X.2.1 dX2_letPass_25 (by decide) ?_
        cases hr
        exact z_iret X hW rfl dX2_letPass_27
    · refine lv_bipush (v := (-2)) X.1 X.2.1 dX2_letPass_11 (by decide) ?_
      cases hr
      exact z_iret X hW rfl dX2_letPass_13
abbrev rm_X2_playEncore : Room := { frames := 3, cells := 0, slots := 0, locals := 66 }
theorem hy_X2_playEncore : zY yX2_playEncore wsX2_playEncore cX2_playEncore 2 (some .int) 1 := ⟨⟨_, rfl⟩, by decide, by decide, by decide +kernel⟩
def d_X2_playEncore (v : zHV) (p1 : Int32) : Option (Int32 × zHV) :=
zcl (d_X7_isPerformer p1) fun t1 =>
(if t1 = 0 then
some ((-1), v)
else
zup2 (d_X0_playEarliestOf (zh v 7) p1) (fun z9 => (zq v 7 6 z9)) fun t14 v14 =>
(if t14 = 0 then
some ((-5), v14)
else
zup (d_X5_add 4 (v14 13) 1 1) (fun z9 => (zr v14 13 z9)) fun v29 =>
zup (d_X2_beginApplause v29 p1) (fun z9 => z9) fun v34 =>
zcl (d_X0_owedBy (zh v34 7) p1) fun t42 =>
some (t42, v34)))
set_option maxHeartbeats 4000000 in
set_option maxRecDepth 100000 in
theorem c_X2_playEncore (l : Launch) (E : zE) (a : Nat → Nat) (v : zHV) (p1 : Int32) (r : Int32 × zHV) (h : d_X2_playEncore v p1 = some r) : zMi l E yX2_playEncore wsX2_playEncore rm_X2_playEncore [.ref (a 0), .int p1] (hsW E a v) r.1 (hsW E a r.2) := by
  intro sz
  refine z_entry (Qc := fun A => zQi E A r.1 (hsW E a r.2)) (by decide) rfl (Nat.le_of_ble_eq_true rfl) ?_
  intro p e s m below meth c A X hW ls hl
  have X : zX E wsX2_playEncore RX2 cX2_playEncore 2 (some .int) yX2_playEncore p s m ([.ref (a 0), .int p1] : List Value).toArray meth c A := X
  have hl : lv_has ls 2 [(0, .ref (a 0)), (1, .int p1)] := hl
  have hr : d_X2_playEncore v p1 = some r := h
  clear h
  have q_0 : Cond.initialized RX7 ∈ wsX2_playEncore := List.mem_of_getElem? (i := 4) rfl
  have q_1 : Cond.static yX7_isPerformer ∈ wsX2_playEncore := List.mem_of_getElem? (i := 3) rfl
  have q_2 : Cond.fieldLink RX2 30 "ApplauseTallies$House" "encores" "LApplauseTallies$Encores;" ∈ wsX2_playEncore := List.mem_of_getElem? (i := 1) rfl
  have hn_X2 : ∀ x ∈ wsX20, x ∈ wsX2_playEncore := zz_in [55, 56, 57, 58, 59, 60, 61, 62, 63, 64, 65] (by decide +kernel)
  have q_4 : Cond.fieldLink RX2 34 "ApplauseTallies$House" "tonight" "LApplauseTallies$Row;" ∈ wsX2_playEncore := List.mem_of_getElem? (i := 2) rfl
  unfold d_X2_playEncore at hr
  refine lv_iload_n X.1 X.2.1 dX2_playEncore_0 rfl (lv_at hl 1 rfl) ?_
  have hp_1 := (List.Perm.refl ((hsW E a v)))
  refine z_callp X hW hr hp_1 (fun x h => z_runSN (As := [.int p1]) (rest := []) X hW hp_1 (c_X7_isPerformer l E p1 x h _) hy_X7_isPerformer q_0 q_1 (List.mem_of_getElem? (i := 21) rfl) gX2_playEncore_X7_isPerformer_n98 rfl rfl ⟨by decide, by decide⟩ rfl hl rfl rfl (Nat.le_of_ble_eq_true rfl) dX2_playEncore_1 ⟨Nat.zero_le _, Nat.zero_le _⟩) (fun t1 H locs hr hW => ?_)
  refine z_ifne X 9 hr dX2_playEncore_4 (by decide) (fun hr => ?_) (fun hr => ?_)
  · refine lv_aload_n X.1 X.2.1 dX2_playEncore_9 rfl (lv_at hl 0 rfl) ?_
    refine z_get X hW 0 2 2 (C := RX2) (T := TX2) (N := 11) rfl rfl hn_X2 (by decide) q_2 rfl dX2_playEncore_10 ?_
    refine lv_iload_n X.1 X.2.1 dX2_playEncore_13 rfl (lv_at hl 1 rfl) ?_
    have hp_14 := (sp_hs_14 E a v)
    refine z_calli X hW (fun z9 => (zq v 7 6 z9)) hr hp_14 (fun z9 => (enW E (zh a 14) z9)) (fun v14 => (hsW E a v14)) (fun z9 => (sj_hs_14 E a v z9)) (fun x z9 h => z_runV (As := [.int p1]) (rest := []) X hW hp_14 (c_X0_playEarliestOf l E (zh a 14) (zh v 7) p1 (x, z9) h _) hy_X0_playEarliestOf 14 0 (C := RX0) (T := TX0) (N := 6) rfl rfl rfl gX2_playEncore_X0_playEarliestOf rfl rfl ⟨by decide, by decide⟩ rfl hl rfl rfl (Nat.le_of_ble_eq_true rfl) dX2_playEncore_14 ⟨Nat.zero_le _, Nat.zero_le _⟩) (fun t14 v14 H locs hr hW => ?_)
    refine z_ifne X 23 hr dX2_playEncore_17 (by decide) (fun hr => ?_) (fun hr => ?_)
    · refine lv_aload_n X.1 X.2.1 dX2_playEncore_23 rfl (lv_at hl 0 rfl) ?_
      refine z_get X hW 0 2 3 (C := RX2) (T := TX2) (N := 11) rfl rfl hn_X2 (by decide) q_4 rfl dX2_playEncore_24 ?_
      refine lv_iconst (v := 1) X.1 X.2.1 dX2_playEncore_27 (by decide) ?_
      refine lv_iconst (v := 1) X.1 X.2.1 dX2_playEncore_28 (by decide) ?_
      have hp_29 := (sp_hs_25 E a v14)
      refine z_callv X hW (fun z9 => (zr v14 13 z9)) hr hp_29 (fun z9 => (rwW E (zh a 25) 4 z9)) (fun v29 => (hsW E a v29)) (fun z9 => (sj_hs_25 E a v14 z9)) (fun z9 h => z_runV (As := [.int 1, .int 1]) (rest := []) X hW hp_29 (c_X5_add l E (zh a 25) 4 (v14 13) 1 1 z9 h _) hy_X5_add 25 5 (C := RX5) (T := TX5) (N := 1) rfl rfl rfl gX2_playEncore_X5_add rfl rfl ⟨by decide, by decide⟩ rfl hl rfl rfl (Nat.le_of_ble_eq_true rfl) dX2_playEncore_29 ⟨Nat.zero_le _, Nat.zero_le _⟩) (fun v29 H locs hr hW => ?_)
      refine lv_aload_n X.1 X.2.1 dX2_playEncore_32 rfl (lv_at hl 0 rfl) ?_
      refine lv_iload_n X.1 X.2.1 dX2_playEncore_33 rfl (lv_at hl 1 rfl) ?_
      have hp_34 := (z_all (hsW E a v29))
      refine z_callv X hW (fun z9 => z9) hr hp_34 (fun z9 => (hsW E a z9)) (fun v34 => (hsW E a v34)) (fun z9 => (z_lla (hsW E a z9))) (fun z9 h => z_runV (As := [.int p1]) (rest := []) X hW hp_34 (c_X2_beginApplause l E a v29 p1 z9 h _) hy_X2_beginApplause 0 2 (C := RX2) (T := TX2) (N := 11) rfl rfl rfl gX2_playEncore_X2_beginApplause rfl rfl ⟨by decide, by decide⟩ rfl hl rfl rfl (Nat.le_of_ble_eq_true rfl) dX2_playEncore_34 ⟨Nat.zero_le _, Nat.zero_le _⟩) (fun v34 H locs hr hW => ?_)
      refine lv_aload_n X.1 X.2.1 dX2_playEncore_37 rfl (lv_at hl 0 rfl) ?_
      refine z_get X hW 0 2 2 (C := RX2) (T := TX2) (N := 11) rfl rfl hn_X2 (by decide) q_2 rfl dX2_playEncore_38 ?_
      refine lv_iload_n X.1 X.2.1 dX2_playEncore_41 rfl (lv_at hl 1 rfl) ?_
      have hp_42 := (sp_hs_14 E a v34)
      refine z_callp X hW hr hp_42 (fun x h => z_runV (As := [.int p1]) (rest := []) X hW hp_42 (c_X0_owedBy l E (zh a 14) (zh v34 7) p1 x h _) hy_X0_owedBy 14 0 (C := RX0) (T := TX0) (N := 6) rfl rfl rfl gX2_playEncore_X0_owedBy rfl rfl ⟨by decide, by decide⟩ rfl hl rfl rfl (Nat.le_of_ble_eq_true rfl) dX2_playEncore_42 ⟨Nat.zero_le _, Nat.zero_le _⟩) (fun t42 H locs hr hW => ?_)
      cases hr
      exact z_iret X hW rfl dX2_playEncore_45
    · refine lv_bipush (v := (-5)) X.1 X.2.1 dX2_playEncore_20 (by decide) ?_
      cases hr
      exact z_iret X hW rfl dX2_playEncore_22
  · refine lv_iconst (v := (-1)) X.1 X.2.1 dX2_playEncore_7 (by decide) ?_
    cases hr
    exact z_iret X hW rfl dX2_playEncore_8
abbrev rm_X2_takeCurtain : Room := { frames := 1, cells := 0, slots := 0, locals := 22 }
theorem hy_X2_takeCurtain : zY yX2_takeCurtain wsX2_takeCurtain cX2_takeCurtain 1 (some .int) 0 := ⟨⟨_, rfl⟩, by decide, by decide, by decide +kernel⟩
def d_X2_takeCurtain (v : zHV) : Option (Int32 × zHV) :=
zcl (d_X5_at 6 (v 0) 5) fun t9 =>
(if t9 ≤ (v 15 0) then
zdv (v 15 0) 2 fun t24 =>
zlet (zs v 15 0 t24) fun v25 =>
zup (d_X5_add 4 (v25 13) 3 1) (fun z9 => (zr v25 13 z9)) fun v34 =>
some ((v34 15 0), v34)
else
some ((-5), v))
set_option maxHeartbeats 4000000 in
set_option maxRecDepth 100000 in
theorem c_X2_takeCurtain (l : Launch) (E : zE) (a : Nat → Nat) (v : zHV) (r : Int32 × zHV) (h : d_X2_takeCurtain v = some r) : zMi l E yX2_takeCurtain wsX2_takeCurtain rm_X2_takeCurtain [.ref (a 0)] (hsW E a v) r.1 (hsW E a r.2) := by
  intro sz
  refine z_entry (Qc := fun A => zQi E A r.1 (hsW E a r.2)) (by decide) rfl (Nat.le_of_ble_eq_true rfl) ?_
  intro p e s m below meth c A X hW ls hl
  have X : zX E wsX2_takeCurtain RX2 cX2_takeCurtain 1 (some .int) yX2_takeCurtain p s m ([.ref (a 0)] : List Value).toArray meth c A := X
  have hl : lv_has ls 1 [(0, .ref (a 0))] := hl
  have hr : d_X2_takeCurtain v = some r := h
  clear h
  have q_0 : Cond.fieldLink RX2 62 "ApplauseTallies$House" "applause" "I" ∈ wsX2_takeCurtain := List.mem_of_getElem? (i := 1) rfl
  have hn_X2 : ∀ x ∈ wsX20, x ∈ wsX2_takeCurtain := zz_in [14, 15, 16, 17, 18, 19, 20, 21, 22, 23, 24] (by decide +kernel)
  have q_2 : Cond.fieldLink RX2 14 "ApplauseTallies$House" "settings" "LApplauseTallies$Row;" ∈ wsX2_takeCurtain := List.mem_of_getElem? (i := 2) rfl
  have q_3 : Cond.fieldLink RX2 34 "ApplauseTallies$House" "tonight" "LApplauseTallies$Row;" ∈ wsX2_takeCurtain := List.mem_of_getElem? (i := 3) rfl
  unfold d_X2_takeCurtain at hr
  refine lv_aload_n X.1 X.2.1 dX2_takeCurtain_0 rfl (lv_at hl 0 rfl) ?_
  refine z_get X hW 0 2 5 (C := RX2) (T := TX2) (N := 11) rfl rfl hn_X2 (by decide) q_0 rfl dX2_takeCurtain_1 ?_
  refine lv_aload_n X.1 X.2.1 dX2_takeCurtain_4 rfl (lv_at hl 0 rfl) ?_
  refine z_get X hW 0 2 0 (C := RX2) (T := TX2) (N := 11) rfl rfl hn_X2 (by decide) q_2 rfl dX2_takeCurtain_5 ?_
  refine lv_iconst (v := 5) X.1 X.2.1 dX2_takeCurtain_8 (by decide) ?_
  have hp_9 := (sp_hs_1 E a v)
  refine z_callp X hW hr hp_9 (fun x h => z_runV (As := [.int 5]) (rest := [.int (v 15 0)]) X hW hp_9 (c_X5_at l E (zh a 1) 6 (v 0) 5 x h _) hy_X5_at 1 5 (C := RX5) (T := TX5) (N := 1) rfl rfl rfl gX2_takeCurtain_X5_at rfl rfl ⟨by decide, by decide⟩ rfl hl rfl rfl (Nat.le_of_ble_eq_true rfl) dX2_takeCurtain_9 ⟨Nat.zero_le _, Nat.zero_le _⟩) (fun t9 H locs hr hW => ?_)
  refine z_cmpge X 18 hr dX2_takeCurtain_12 (by decide) (fun hr => ?_) (fun hr => ?_)
  · refine lv_aload_n X.1 X.2.1 dX2_takeCurtain_18 rfl (lv_at hl 0 rfl) ?_
    refine lv_dup X.1 X.2.1 dX2_takeCurtain_19 rfl ?_
    refine z_get X hW 0 2 5 (C := RX2) (T := TX2) (N := 11) rfl rfl hn_X2 (by decide) q_0 rfl dX2_takeCurtain_20 ?_
    refine lv_iconst (v := 2) X.1 X.2.1 dX2_takeCurtain_23 (by decide) ?_
    refine z_idiv X hr dX2_takeCurtain_24 (fun t24 hr => ?_)
    refine z_put X hW hr (fun v25 => (hsW E a v25)) tyX2 tyX2_ok nmX2 0 2 5 (C := RX2) (T := TX2) (N := 11) rfl rfl hn_X2 (by decide) q_0 rfl rfl rfl (Nat.le_of_ble_eq_true rfl) rfl dX2_takeCurtain_25 (fun v25 H locs hr hW => ?_)
    refine lv_aload_n X.1 X.2.1 dX2_takeCurtain_28 rfl (lv_at hl 0 rfl) ?_
    refine z_get X hW 0 2 3 (C := RX2) (T := TX2) (N := 11) rfl rfl hn_X2 (by decide) q_3 rfl dX2_takeCurtain_29 ?_
    refine lv_iconst (v := 3) X.1 X.2.1 dX2_takeCurtain_32 (by decide) ?_
    refine lv_iconst (v := 1) X.1 X.2.1 dX2_takeCurtain_33 (by decide) ?_
    have hp_34 := (sp_hs_25 E a v25)
    refine z_callv X hW (fun z9 => (zr v25 13 z9)) hr hp_34 (fun z9 => (rwW E (zh a 25) 4 z9)) (fun v34 => (hsW E a v34)) (fun z9 => (sj_hs_25 E a v25 z9)) (fun z9 h => z_runV (As := [.int 3, .int 1]) (rest := []) X hW hp_34 (c_X5_add l E (zh a 25) 4 (v25 13) 3 1 z9 h _) hy_X5_add 25 5 (C := RX5) (T := TX5) (N := 1) rfl rfl rfl gX2_takeCurtain_X5_add rfl rfl ⟨by decide, by decide⟩ rfl hl rfl rfl (Nat.le_of_ble_eq_true rfl) dX2_takeCurtain_34 ⟨Nat.zero_le _, Nat.zero_le _⟩) (fun v34 H locs hr hW => ?_)
    refine lv_aload_n X.1 X.2.1 dX2_takeCurtain_37 rfl (lv_at hl 0 rfl) ?_
    refine z_get X hW 0 2 5 (C := RX2) (T := TX2) (N := 11) rfl rfl hn_X2 (by decide) q_0 rfl dX2_takeCurtain_38 ?_
    cases hr
    exact z_iret X hW rfl dX2_takeCurtain_41
  · refine lv_bipush (v := (-5)) X.1 X.2.1 dX2_takeCurtain_15 (by decide) ?_
    cases hr
    exact z_iret X hW rfl dX2_takeCurtain_17
abbrev rm_X2_recordPlace : Room := { frames := 0, cells := 0, slots := 0, locals := 0 }
theorem hy_X2_recordPlace : zY yX2_recordPlace wsX2_recordPlace cX2_recordPlace 2 (some .int) 2 := ⟨⟨_, rfl⟩, by decide, by decide, by decide +kernel⟩
def d_X2_recordPlace (p0 : Int32) (p1 : Int32) : Option (Int32) :=
zrm p0 6 fun t3 =>
zlet (t3 * 4) fun t5 =>
zlet (t5 + p1) fun t7 =>
some t7
set_option maxHeartbeats 4000000 in
set_option maxRecDepth 100000 in
theorem c_X2_recordPlace (l : Launch) (E : zE) (p0 : Int32) (p1 : Int32) (r : Int32) (h : d_X2_recordPlace p0 p1 = some r) : zMi l E yX2_recordPlace wsX2_recordPlace rm_X2_recordPlace [.int p0, .int p1] ([] : va_W) r ([] : va_W) := by
  intro sz
  refine z_entry (Qc := fun A => zQi E A r ([] : va_W)) (by decide) rfl (Nat.le_of_ble_eq_true rfl) ?_
  intro p e s m below meth c A X hW ls hl
  have X : zX E wsX2_recordPlace RX2 cX2_recordPlace 2 (some .int) yX2_recordPlace p s m ([.int p0, .int p1] : List Value).toArray meth c A := X
  have hl : lv_has ls 2 [(0, .int p0), (1, .int p1)] := hl
  have hr : d_X2_recordPlace p0 p1 = some r := h
  clear h
  unfold d_X2_recordPlace at hr
  refine lv_iload_n X.1 X.2.1 dX2_recordPlace_0 rfl (lv_at hl 0 rfl) ?_
  refine lv_bipush (v := 6) X.1 X.2.1 dX2_recordPlace_1 (by decide) ?_
  refine z_irem X hr dX2_recordPlace_3 (fun t3 hr => ?_)
  refine lv_iconst (v := 4) X.1 X.2.1 dX2_recordPlace_4 (by decide) ?_
  refine z_imul X hr dX2_recordPlace_5 (fun t5 hr => ?_)
  refine lv_iload_n X.1 X.2.1 dX2_recordPlace_6 rfl (lv_at hl 1 rfl) ?_
  refine z_iadd X hr dX2_recordPlace_7 (fun t7 hr => ?_)
  cases hr
  exact z_iret X hW rfl dX2_recordPlace_8
abbrev rm_X2_endNight : Room := { frames := 2, cells := 0, slots := 0, locals := 45 }
theorem hy_X2_endNight : zY yX2_endNight wsX2_endNight cX2_endNight 3 (some .int) 0 := ⟨⟨_, rfl⟩, by decide, by decide, by decide +kernel⟩
def lpB_X2_endNight_35   (k_35 : Int32 → Int32 → zHV → Option (Int32 × zHV)) (x1 : Int32) (x2 : Int32) (v : zHV) : Option (Int32 × zHV) :=
(if 4 ≤ x2 then
zlet ((v 15 2) + 1) fun t75 =>
zlet (zs v 15 2 t75) fun v76 =>
zup (d_X5_fill 4 (v76 13) 0) (fun z9 => (zr v76 13 z9)) fun v84 =>
zup (d_X6_beginNight (zh v84 1)) (fun z9 => (zq v84 1 6 z9)) fun v91 =>
zlet (zs v91 15 0 0) fun v96 =>
zlet (zs v96 15 3 (-6)) fun v102 =>
some (x1, v102)
else
zcl (d_X2_recordPlace (v 15 2) x2) fun t49 =>
zcl (d_X5_at 4 (v 13) x2) fun t57 =>
zup (d_X5_store 24 (v 14) t49 t57) (fun z9 => (zr v 14 z9)) fun v60 =>
zlet (x2 + Int32.ofInt 1) fun x2_63 =>
k_35 x1 x2_63 v60)
def lp_X2_endNight_35   : Nat → Int32 → Int32 → zHV → Option (Int32 × zHV)
  | 0 => fun _ _ _ => none
  | n_ + 1 => lpB_X2_endNight_35   (lp_X2_endNight_35   n_)
def d_X2_endNight (v : zHV) : Option (Int32 × zHV) :=
(if (v 15 2) < 99 then
zup2 (d_X0_lapseSince (zh v 7) (v 15 1)) (fun z9 => (zq v 7 6 z9)) fun t20 v20 =>
zup (d_X5_add 4 (v20 13) 2 t20) (fun z9 => (zr v20 13 z9)) fun v30 =>
lp_X2_endNight_35   zF t20 0 v30
else
some ((-5), v))
set_option maxHeartbeats 4000000 in
set_option maxRecDepth 100000 in
theorem c_X2_endNight (l : Launch) (E : zE) (a : Nat → Nat) (v : zHV) (r : Int32 × zHV) (h : d_X2_endNight v = some r) : zMi l E yX2_endNight wsX2_endNight rm_X2_endNight [.ref (a 0)] (hsW E a v) r.1 (hsW E a r.2) := by
  intro sz
  refine z_entry (Qc := fun A => zQi E A r.1 (hsW E a r.2)) (by decide) rfl (Nat.le_of_ble_eq_true rfl) ?_
  intro p e s m below meth c A X hW ls hl
  have X : zX E wsX2_endNight RX2 cX2_endNight 3 (some .int) yX2_endNight p s m ([.ref (a 0)] : List Value).toArray meth c A := X
  have hl : lv_has ls 3 [(0, .ref (a 0))] := hl
  have hr : d_X2_endNight v = some r := h
  clear h
  have q_0 : Cond.fieldLink RX2 68 "ApplauseTallies$House" "nights" "I" ∈ wsX2_endNight := List.mem_of_getElem? (i := 1) rfl
  have hn_X2 : ∀ x ∈ wsX20, x ∈ wsX2_endNight := zz_in [52, 53, 54, 55, 56, 57, 58, 59, 60, 61, 62] (by decide +kernel)
  have q_2 : Cond.fieldLink RX2 30 "ApplauseTallies$House" "encores" "LApplauseTallies$Encores;" ∈ wsX2_endNight := List.mem_of_getElem? (i := 2) rfl
  have q_3 : Cond.fieldLink RX2 65 "ApplauseTallies$House" "time" "I" ∈ wsX2_endNight := List.mem_of_getElem? (i := 3) rfl
  have q_4 : Cond.fieldLink RX2 34 "ApplauseTallies$House" "tonight" "LApplauseTallies$Row;" ∈ wsX2_endNight := List.mem_of_getElem? (i := 4) rfl
  have q_5 : Cond.fieldLink RX2 23 "ApplauseTallies$House" "seats" "LApplauseTallies$Seats;" ∈ wsX2_endNight := List.mem_of_getElem? (i := 6) rfl
  have q_6 : Cond.fieldLink RX2 62 "ApplauseTallies$House" "applause" "I" ∈ wsX2_endNight := List.mem_of_getElem? (i := 7) rfl
  have q_7 : Cond.fieldLink RX2 40 "ApplauseTallies$House" "pieceBy" "I" ∈ wsX2_endNight := List.mem_of_getElem? (i := 8) rfl
  have q_8 : Cond.fieldLink RX2 37 "ApplauseTallies$House" "records" "LApplauseTallies$Row;" ∈ wsX2_endNight := List.mem_of_getElem? (i := 5) rfl
  unfold d_X2_endNight at hr
  refine lv_aload_n X.1 X.2.1 dX2_endNight_0 rfl (lv_at hl 0 rfl) ?_
  refine z_get X hW 0 2 7 (C := RX2) (T := TX2) (N := 11) rfl rfl hn_X2 (by decide) q_0 rfl dX2_endNight_1 ?_
  refine lv_bipush (v := 99) X.1 X.2.1 dX2_endNight_4 (by decide) ?_
  refine z_cmplt X 12 hr dX2_endNight_6 (by decide) (fun hr => ?_) (fun hr => ?_)
  · refine lv_aload_n X.1 X.2.1 dX2_endNight_12 rfl (lv_at hl 0 rfl) ?_
    refine z_get X hW 0 2 2 (C := RX2) (T := TX2) (N := 11) rfl rfl hn_X2 (by decide) q_2 rfl dX2_endNight_13 ?_
    refine lv_aload_n X.1 X.2.1 dX2_endNight_16 rfl (lv_at hl 0 rfl) ?_
    refine z_get X hW 0 2 6 (C := RX2) (T := TX2) (N := 11) rfl rfl hn_X2 (by decide) q_3 rfl dX2_endNight_17 ?_
    have hp_20 := (sp_hs_14 E a v)
    refine z_calli X hW (fun z9 => (zq v 7 6 z9)) hr hp_20 (fun z9 => (enW E (zh a 14) z9)) (fun v20 => (hsW E a v20)) (fun z9 => (sj_hs_14 E a v z9)) (fun x z9 h => z_runV (As := [.int (v 15 1)]) (rest := []) X hW hp_20 (c_X0_lapseSince l E (zh a 14) (zh v 7) (v 15 1) (x, z9) h _) hy_X0_lapseSince 14 0 (C := RX0) (T := TX0) (N := 6) rfl rfl rfl gX2_endNight_X0_lapseSince rfl rfl ⟨by decide, by decide⟩ rfl hl rfl rfl (Nat.le_of_ble_eq_true rfl) dX2_endNight_20 ⟨Nat.zero_le _, Nat.zero_le _⟩) (fun t20 v20 H locs hr hW => ?_)
    refine lv_istore_n (lv' := [(1, .int t20), (0, .ref (a 0))]) X.1 X.2.1 dX2_endNight_23 rfl hl (by decide) rfl (fun ls hl => ?_)
    refine lv_aload_n X.1 X.2.1 dX2_endNight_24 rfl (lv_at hl 1 rfl) ?_
    refine z_get X hW 0 2 3 (C := RX2) (T := TX2) (N := 11) rfl rfl hn_X2 (by decide) q_4 rfl dX2_endNight_25 ?_
    refine lv_iconst (v := 2) X.1 X.2.1 dX2_endNight_28 (by decide) ?_
    refine lv_iload_n X.1 X.2.1 dX2_endNight_29 rfl (lv_at hl 0 rfl) ?_
    have hp_30 := (sp_hs_25 E a v20)
    refine z_callv X hW (fun z9 => (zr v20 13 z9)) hr hp_30 (fun z9 => (rwW E (zh a 25) 4 z9)) (fun v30 => (hsW E a v30)) (fun z9 => (sj_hs_25 E a v20 z9)) (fun z9 h => z_runV (As := [.int 2, .int t20]) (rest := []) X hW hp_30 (c_X5_add l E (zh a 25) 4 (v20 13) 2 t20 z9 h _) hy_X5_add 25 5 (C := RX5) (T := TX5) (N := 1) rfl rfl rfl gX2_endNight_X5_add rfl rfl ⟨by decide, by decide⟩ rfl hl rfl rfl (Nat.le_of_ble_eq_true rfl) dX2_endNight_30 ⟨Nat.zero_le _, Nat.zero_le _⟩) (fun v30 H locs hr hW => ?_)
    refine lv_iconst (v := 0) X.1 X.2.1 dX2_endNight_33 (by decide) ?_
    refine lv_istore_n (lv' := [(2, .int 0), (1, .int t20), (0, .ref (a 0))]) X.1 X.2.1 dX2_endNight_34 rfl hl (by decide) rfl (fun ls hl => ?_)
    have L_35 : ∀ (n_35 : Nat), ∀ (x1 : Int32) (x2 : Int32) (v : zHV) (H : Heap) (locs : List Loc) (ls : Array Slot), lp_X2_endNight_35   n_35 x1 x2 v = some r → zW E A s (hsW E a v) H locs → lv_has ls 3 [(0, .ref (a 0)), (1, .int x1), (2, .int x2)] → W p l e rm_X2_endNight s m ([.ref (a 0)] : List Value).toArray below meth c H locs 0 0 (MQ below (zQi E A r.1 (hsW E a r.2)) ([.ref (a 0)] : List Value).toArray s 0 0 A) (F0 m 35 ls []) := by
      intro n_35
      induction n_35 with
      | zero => exact fun x1 x2 v H locs ls hr hW hl => absurd (show (none : Option (Int32 × zHV)) = some r from hr) (fun h => by cases h)
      | succ n_35 ih_35 =>
        intro x1 x2 v H locs ls hr hW hl
        have hr : lpB_X2_endNight_35   (lp_X2_endNight_35   n_35) x1 x2 v = some r := hr
        unfold lpB_X2_endNight_35 at hr
        refine lv_iload_n X.1 X.2.1 dX2_endNight_35 rfl (lv_at hl 2 rfl) ?_
        refine lv_iconst (v := 4) X.1 X.2.1 dX2_endNight_36 (by decide) ?_
        refine z_cmpge X 69 hr dX2_endNight_37 (by decide) (fun hr => ?_) (fun hr => ?_)
        · refine lv_aload_n X.1 X.2.1 dX2_endNight_69 rfl (lv_at hl 0 rfl) ?_
          refine lv_dup X.1 X.2.1 dX2_endNight_70 rfl ?_
          refine z_get X hW 0 2 7 (C := RX2) (T := TX2) (N := 11) rfl rfl hn_X2 (by decide) q_0 rfl dX2_endNight_71 ?_
          refine lv_iconst (v := 1) X.1 X.2.1 dX2_endNight_74 (by decide) ?_
          refine z_iadd X hr dX2_endNight_75 (fun t75 hr => ?_)
          refine z_put X hW hr (fun v76 => (hsW E a v76)) tyX2 tyX2_ok nmX2 0 2 7 (C := RX2) (T := TX2) (N := 11) rfl rfl hn_X2 (by decide) q_0 rfl rfl rfl (Nat.le_of_ble_eq_true rfl) rfl dX2_endNight_76 (fun v76 H locs hr hW => ?_)
          refine lv_aload_n X.1 X.2.1 dX2_endNight_79 rfl (lv_at hl 0 rfl) ?_
          refine z_get X hW 0 2 3 (C := RX2) (T := TX2) (N := 11) rfl rfl hn_X2 (by decide) q_4 rfl dX2_endNight_80 ?_
          refine lv_iconst (v := 0) X.1 X.2.1 dX2_endNight_83 (by decide) ?_
          have hp_84 := (sp_hs_25 E a v76)
          refine z_callv X hW (fun z9 => (zr v76 13 z9)) hr hp_84 (fun z9 => (rwW E (zh a 25) 4 z9)) (fun v84 => (hsW E a v84)) (fun z9 => (sj_hs_25 E a v76 z9)) (fun z9 h => z_runV (As := [.int 0]) (rest := []) X hW hp_84 (c_X5_fill l E (zh a 25) 4 (v76 13) 0 z9 h _) hy_X5_fill 25 5 (C := RX5) (T := TX5) (N := 1) rfl rfl rfl gX2_endNight_X5_fill rfl rfl ⟨by decide, by decide⟩ rfl hl rfl rfl (Nat.le_of_ble_eq_true rfl) dX2_endNight_84 ⟨Nat.zero_le _, Nat.zero_le _⟩) (fun v84 H locs hr hW => ?_)
          refine lv_aload_n X.1 X.2.1 dX2_endNight_87 rfl (lv_at hl 0 rfl) ?_
          refine z_get X hW 0 2 1 (C := RX2) (T := TX2) (N := 11) rfl rfl hn_X2 (by decide) q_5 rfl dX2_endNight_88 ?_
          have hp_91 := (sp_hs_3 E a v84)
          refine z_callv X hW (fun z9 => (zq v84 1 6 z9)) hr hp_91 (fun z9 => (stW E (zh a 3) z9)) (fun v91 => (hsW E a v91)) (fun z9 => (sj_hs_3 E a v84 z9)) (fun z9 h => z_runV (As := []) (rest := []) X hW hp_91 (c_X6_beginNight l E (zh a 3) (zh v84 1) z9 h _) hy_X6_beginNight 3 6 (C := RX6) (T := TX6) (N := 8) rfl rfl rfl gX2_endNight_X6_beginNight rfl rfl ⟨by decide, by decide⟩ rfl hl rfl rfl (Nat.le_of_ble_eq_true rfl) dX2_endNight_91 ⟨Nat.zero_le _, Nat.zero_le _⟩) (fun v91 H locs hr hW => ?_)
          refine lv_aload_n X.1 X.2.1 dX2_endNight_94 rfl (lv_at hl 0 rfl) ?_
          refine lv_iconst (v := 0) X.1 X.2.1 dX2_endNight_95 (by decide) ?_
          refine z_put X hW hr (fun v96 => (hsW E a v96)) tyX2 tyX2_ok nmX2 0 2 5 (C := RX2) (T := TX2) (N := 11) rfl rfl hn_X2 (by decide) q_6 rfl rfl rfl (Nat.le_of_ble_eq_true rfl) rfl dX2_endNight_96 (fun v96 H locs hr hW => ?_)
          refine lv_aload_n X.1 X.2.1 dX2_endNight_99 rfl (lv_at hl 0 rfl) ?_
          refine lv_bipush (v := (-6)) X.1 X.2.1 dX2_endNight_100 (by decide) ?_
          refine z_put X hW hr (fun v102 => (hsW E a v102)) tyX2 tyX2_ok nmX2 0 2 8 (C := RX2) (T := TX2) (N := 11) rfl rfl hn_X2 (by decide) q_7 rfl rfl rfl (Nat.le_of_ble_eq_true rfl) rfl dX2_endNight_102 (fun v102 H locs hr hW => ?_)
          refine lv_iload_n X.1 X.2.1 dX2_endNight_105 rfl (lv_at hl 1 rfl) ?_
          cases hr
          exact z_iret X hW rfl dX2_endNight_106
        · refine lv_aload_n X.1 X.2.1 dX2_endNight_40 rfl (lv_at hl 0 rfl) ?_
          refine z_get X hW 0 2 4 (C := RX2) (T := TX2) (N := 11) rfl rfl hn_X2 (by decide) q_8 rfl dX2_endNight_41 ?_
          refine lv_aload_n X.1 X.2.1 dX2_endNight_44 rfl (lv_at hl 0 rfl) ?_
          refine z_get X hW 0 2 7 (C := RX2) (T := TX2) (N := 11) rfl rfl hn_X2 (by decide) q_0 rfl dX2_endNight_45 ?_
          refine lv_iload_n X.1 X.2.1 dX2_endNight_48 rfl (lv_at hl 2 rfl) ?_
          have hp_49 := (List.Perm.refl ((hsW E a v)))
          refine z_callp X hW hr hp_49 (fun x h => z_runS (As := [.int (v 15 2), .int x2]) (rest := [.ref (a 27)]) X hW hp_49 (c_X2_recordPlace l E (v 15 2) x2 x h _) hy_X2_recordPlace gX2_endNight_X2_recordPlace rfl rfl ⟨by decide, by decide⟩ rfl hl rfl rfl (Nat.le_of_ble_eq_true rfl) dX2_endNight_49 ⟨Nat.zero_le _, Nat.zero_le _⟩) (fun t49 H locs hr hW => ?_)
          refine lv_aload_n X.1 X.2.1 dX2_endNight_52 rfl (lv_at hl 0 rfl) ?_
          refine z_get X hW 0 2 3 (C := RX2) (T := TX2) (N := 11) rfl rfl hn_X2 (by decide) q_4 rfl dX2_endNight_53 ?_
          refine lv_iload_n X.1 X.2.1 dX2_endNight_56 rfl (lv_at hl 2 rfl) ?_
          have hp_57 := (sp_hs_25 E a v)
          refine z_callp X hW hr hp_57 (fun x h => z_runV (As := [.int x2]) (rest := [.int t49, .ref (a 27)]) X hW hp_57 (c_X5_at l E (zh a 25) 4 (v 13) x2 x h _) hy_X5_at 25 5 (C := RX5) (T := TX5) (N := 1) rfl rfl rfl gX2_endNight_X5_at rfl rfl ⟨by decide, by decide⟩ rfl hl rfl rfl (Nat.le_of_ble_eq_true rfl) dX2_endNight_57 ⟨Nat.zero_le _, Nat.zero_le _⟩) (fun t57 H locs hr hW => ?_)
          have hp_60 := (sp_hs_27 E a v)
          refine z_callv X hW (fun z9 => (zr v 14 z9)) hr hp_60 (fun z9 => (rwW E (zh a 27) 24 z9)) (fun v60 => (hsW E a v60)) (fun z9 => (sj_hs_27 E a v z9)) (fun z9 h => z_runV (As := [.int t49, .int t57]) (rest := []) X hW hp_60 (c_X5_store l E (zh a 27) 24 (v 14) t49 t57 z9 h _) hy_X5_store 27 5 (C := RX5) (T := TX5) (N := 1) rfl rfl rfl gX2_endNight_X5_store rfl rfl ⟨by decide, by decide⟩ rfl hl rfl rfl (Nat.le_of_ble_eq_true rfl) dX2_endNight_60 ⟨Nat.zero_le _, Nat.zero_le _⟩) (fun v60 H locs hr hW => ?_)
          refine z_iinc X (fun x2_63 => [(2, .int x2_63), (0, .ref (a 0)), (1, .int x1)]) hr hl (k := 2) rfl (by decide) (fun _ => rfl) dX2_endNight_63 (fun x2_63 ls hr hl => ?_)
          refine lv_goto (tgt := 35) X.1 X.2.1 dX2_endNight_66 (by decide) ?_
          exact ih_35 x1 x2_63 v60 _ _ _ hr hW (lv_sub hl [1, 2, 0] rfl)
    exact L_35 _ t20 0 v30 _ _ _ hr hW (lv_sub hl [2, 1, 0] rfl)
  · refine lv_bipush (v := (-5)) X.1 X.2.1 dX2_endNight_9 (by decide) ?_
    cases hr
    exact z_iret X hW rfl dX2_endNight_11
abbrev rm_X2_aboutSeat : Room := { frames := 1, cells := 0, slots := 0, locals := 21 }
theorem hy_X2_aboutSeat : zY yX2_aboutSeat wsX2_aboutSeat cX2_aboutSeat 3 (some .int) 2 := ⟨⟨_, rfl⟩, by decide, by decide, by decide +kernel⟩
def d_X2_aboutSeat (v : zHV) (p1 : Int32) (p2 : Int32) : Option (Int32) :=
zcl (d_X7_isSeat p1) fun t1 =>
(if t1 = 0 then
some (-1)
else
(if p2 = 0 then
zcl (d_X5_at 30 (v 1) p1) fun t60 =>
some t60
else
(if p2 = 1 then
zlet ((v 6 1) >>> (p1 &&& 31)) fun t72 =>
zlet (t72 &&& 1) fun t74 =>
some t74
else
(if p2 = 2 then
zcl (d_X5_at 30 (v 2) p1) fun t84 =>
zcl (d_X5_at 6 (v 0) 4) fun t92 =>
(if t84 < t92 then
some 0
else
some 1)
else
(if p2 = 3 then
zcl (d_X5_at 30 (v 2) p1) fun t112 =>
some t112
else
(if p2 = 4 then
zcl (d_X5_at 30 (v 3) p1) fun t124 =>
some t124
else
(if p2 = 5 then
zcl (d_X6_hasClapped (zh v 1) p1) fun t133 =>
(if t133 = 0 then
some 0
else
some 1)
else
(if p2 = 6 then
zcl (d_X5_at 30 (v 4) p1) fun t153 =>
some t153
else
some (-2)))))))))
set_option maxHeartbeats 4000000 in
set_option maxRecDepth 100000 in
theorem c_X2_aboutSeat (l : Launch) (E : zE) (a : Nat → Nat) (v : zHV) (p1 : Int32) (p2 : Int32) (r : Int32) (h : d_X2_aboutSeat v p1 p2 = some r) : zMi l E yX2_aboutSeat wsX2_aboutSeat rm_X2_aboutSeat [.ref (a 0), .int p1, .int p2] (hsW E a v) r (hsW E a v) := by
  intro sz
  refine z_entry (Qc := fun A => zQi E A r (hsW E a v)) (by decide) rfl (Nat.le_of_ble_eq_true rfl) ?_
  intro p e s m below meth c A X hW ls hl
  have X : zX E wsX2_aboutSeat RX2 cX2_aboutSeat 3 (some .int) yX2_aboutSeat p s m ([.ref (a 0), .int p1, .int p2] : List Value).toArray meth c A := X
  have hl : lv_has ls 3 [(0, .ref (a 0)), (1, .int p1), (2, .int p2)] := hl
  have hr : d_X2_aboutSeat v p1 p2 = some r := h
  clear h
  have q_0 : Cond.initialized RX7 ∈ wsX2_aboutSeat := List.mem_of_getElem? (i := 4) rfl
  have q_1 : Cond.static yX7_isSeat ∈ wsX2_aboutSeat := List.mem_of_getElem? (i := 3) rfl
  have q_2 : Cond.fieldLink RX2 23 "ApplauseTallies$House" "seats" "LApplauseTallies$Seats;" ∈ wsX2_aboutSeat := List.mem_of_getElem? (i := 1) rfl
  have hn_X2 : ∀ x ∈ wsX20, x ∈ wsX2_aboutSeat := zz_in [18, 19, 20, 21, 22, 23, 24, 25, 26, 27, 28] (by decide +kernel)
  have hn_X6 : ∀ x ∈ wsX60, x ∈ wsX2_aboutSeat := zz_in [29, 30, 31, 32, 33, 34, 35, 36] (by decide +kernel)
  have q_5 : Cond.fieldLink RX2 14 "ApplauseTallies$House" "settings" "LApplauseTallies$Row;" ∈ wsX2_aboutSeat := List.mem_of_getElem? (i := 2) rfl
  unfold d_X2_aboutSeat at hr
  refine lv_iload_n X.1 X.2.1 dX2_aboutSeat_0 rfl (lv_at hl 1 rfl) ?_
  have hp_1 := (List.Perm.refl ((hsW E a v)))
  refine z_callp X hW hr hp_1 (fun x h => z_runSN (As := [.int p1]) (rest := []) X hW hp_1 (c_X7_isSeat l E p1 x h _) hy_X7_isSeat q_0 q_1 (List.mem_of_getElem? (i := 20) rfl) gX2_aboutSeat_X7_isSeat_n88 rfl rfl ⟨by decide, by decide⟩ rfl hl rfl rfl (Nat.le_of_ble_eq_true rfl) dX2_aboutSeat_1 ⟨Nat.zero_le _, Nat.zero_le _⟩) (fun t1 H locs hr hW => ?_)
  refine z_ifne X 9 hr dX2_aboutSeat_4 (by decide) (fun hr => ?_) (fun hr => ?_)
  · refine lv_iload_n X.1 X.2.1 dX2_aboutSeat_9 rfl (lv_at hl 2 rfl) ?_
    refine z_if hr (fun h_0 hr => ?_) (fun h_0 hr => ?_)
    · refine lv_tableIn (off := 42) (tgt := 52) X.1 X.2.1 dX2_aboutSeat_10 (by rw [h_0]; decide) (by rw [h_0]; decide) (by rw [h_0]; rfl) (by decide) ?_
      refine lv_aload_n X.1 X.2.1 dX2_aboutSeat_52 rfl (lv_at hl 0 rfl) ?_
      refine z_get X hW 0 2 1 (C := RX2) (T := TX2) (N := 11) rfl rfl hn_X2 (by decide) q_2 rfl dX2_aboutSeat_53 ?_
      refine z_getN X hW 3 6 0 (C := RX6) (T := TX6) (N := 8) rfl rfl hn_X6 (by decide) (List.mem_of_getElem? (i := 14) rfl) rfl dX2_aboutSeat_56 ?_
      refine lv_iload_n X.1 X.2.1 dX2_aboutSeat_59 rfl (lv_at hl 1 rfl) ?_
      have hp_60 := (sp_hs_4 E a v)
      refine z_callp X hW hr hp_60 (fun x h => z_runV (As := [.int p1]) (rest := []) X hW hp_60 (c_X5_at l E (zh a 4) 30 (v 1) p1 x h _) hy_X5_at 4 5 (C := RX5) (T := TX5) (N := 1) rfl rfl rfl gX2_aboutSeat_X5_at rfl rfl ⟨by decide, by decide⟩ rfl hl rfl rfl (Nat.le_of_ble_eq_true rfl) dX2_aboutSeat_60 ⟨Nat.zero_le _, Nat.zero_le _⟩) (fun t60 H locs hr hW => ?_)
      cases hr
      exact z_iret X hW rfl dX2_aboutSeat_63
    · refine z_if hr (fun h_1 hr => ?_) (fun h_1 hr => ?_)
      · refine lv_tableIn (off := 54) (tgt := 64) X.1 X.2.1 dX2_aboutSeat_10 (by rw [h_1]; decide) (by rw [h_1]; decide) (by rw [h_1]; rfl) (by decide) ?_
        refine lv_aload_n X.1 X.2.1 dX2_aboutSeat_64 rfl (lv_at hl 0 rfl) ?_
        refine z_get X hW 0 2 1 (C := RX2) (T := TX2) (N := 11) rfl rfl hn_X2 (by decide) q_2 rfl dX2_aboutSeat_65 ?_
        refine z_getN X hW 3 6 6 (C := RX6) (T := TX6) (N := 8) rfl rfl hn_X6 (by decide) (List.mem_of_getElem? (i := 15) rfl) rfl dX2_aboutSeat_68 ?_
        refine lv_iload_n X.1 X.2.1 dX2_aboutSeat_71 rfl (lv_at hl 1 rfl) ?_
        refine z_ishr X hr dX2_aboutSeat_72 (fun t72 hr => ?_)
        refine lv_iconst (v := 1) X.1 X.2.1 dX2_aboutSeat_73 (by decide) ?_
        refine z_iand X hr dX2_aboutSeat_74 (fun t74 hr => ?_)
        cases hr
        exact z_iret X hW rfl dX2_aboutSeat_75
      · refine z_if hr (fun h_2 hr => ?_) (fun h_2 hr => ?_)
        · refine lv_tableIn (off := 66) (tgt := 76) X.1 X.2.1 dX2_aboutSeat_10 (by rw [h_2]; decide) (by rw [h_2]; decide) (by rw [h_2]; rfl) (by decide) ?_
          refine lv_aload_n X.1 X.2.1 dX2_aboutSeat_76 rfl (lv_at hl 0 rfl) ?_
          refine z_get X hW 0 2 1 (C := RX2) (T := TX2) (N := 11) rfl rfl hn_X2 (by decide) q_2 rfl dX2_aboutSeat_77 ?_
          refine z_getN X hW 3 6 1 (C := RX6) (T := TX6) (N := 8) rfl rfl hn_X6 (by decide) (List.mem_of_getElem? (i := 4) rfl) rfl dX2_aboutSeat_80 ?_
          refine lv_iload_n X.1 X.2.1 dX2_aboutSeat_83 rfl (lv_at hl 1 rfl) ?_
          have hp_84 := (sp_hs_6 E a v)
          refine z_callp X hW hr hp_84 (fun x h => z_runV (As := [.int p1]) (rest := []) X hW hp_84 (c_X5_at l E (zh a 6) 30 (v 2) p1 x h _) hy_X5_at 6 5 (C := RX5) (T := TX5) (N := 1) rfl rfl rfl gX2_aboutSeat_X5_at rfl rfl ⟨by decide, by decide⟩ rfl hl rfl rfl (Nat.le_of_ble_eq_true rfl) dX2_aboutSeat_84 ⟨Nat.zero_le _, Nat.zero_le _⟩) (fun t84 H locs hr hW => ?_)
          refine lv_aload_n X.1 X.2.1 dX2_aboutSeat_87 rfl (lv_at hl 0 rfl) ?_
          refine z_get X hW 0 2 0 (C := RX2) (T := TX2) (N := 11) rfl rfl hn_X2 (by decide) q_5 rfl dX2_aboutSeat_88 ?_
          refine lv_iconst (v := 4) X.1 X.2.1 dX2_aboutSeat_91 (by decide) ?_
          have hp_92 := (sp_hs_1 E a v)
          refine z_callp X hW hr hp_92 (fun x h => z_runV (As := [.int 4]) (rest := [.int t84]) X hW hp_92 (c_X5_at l E (zh a 1) 6 (v 0) 4 x h _) hy_X5_at 1 5 (C := RX5) (T := TX5) (N := 1) rfl rfl rfl gX2_aboutSeat_X5_at rfl rfl ⟨by decide, by decide⟩ rfl hl rfl rfl (Nat.le_of_ble_eq_true rfl) dX2_aboutSeat_92 ⟨Nat.zero_le _, Nat.zero_le _⟩) (fun t92 H locs hr hW => ?_)
          refine z_cmplt X 102 hr dX2_aboutSeat_95 (by decide) (fun hr => ?_) (fun hr => ?_)
          · refine lv_iconst (v := 0) X.1 X.2.1 dX2_aboutSeat_102 (by decide) ?_
            cases hr
            exact z_iret X hW rfl dX2_aboutSeat_103
          · refine lv_iconst (v := 1) X.1 X.2.1 dX2_aboutSeat_98 (by decide) ?_
            refine lv_goto (tgt := 103) X.1 X.2.1 dX2_aboutSeat_99 (by decide) ?_
            cases hr
            exact z_iret X hW rfl dX2_aboutSeat_103
        · refine z_if hr (fun h_3 hr => ?_) (fun h_3 hr => ?_)
          · refine lv_tableIn (off := 94) (tgt := 104) X.1 X.2.1 dX2_aboutSeat_10 (by rw [h_3]; decide) (by rw [h_3]; decide) (by rw [h_3]; rfl) (by decide) ?_
            refine lv_aload_n X.1 X.2.1 dX2_aboutSeat_104 rfl (lv_at hl 0 rfl) ?_
            refine z_get X hW 0 2 1 (C := RX2) (T := TX2) (N := 11) rfl rfl hn_X2 (by decide) q_2 rfl dX2_aboutSeat_105 ?_
            refine z_getN X hW 3 6 1 (C := RX6) (T := TX6) (N := 8) rfl rfl hn_X6 (by decide) (List.mem_of_getElem? (i := 4) rfl) rfl dX2_aboutSeat_108 ?_
            refine lv_iload_n X.1 X.2.1 dX2_aboutSeat_111 rfl (lv_at hl 1 rfl) ?_
            have hp_112 := (sp_hs_6 E a v)
            refine z_callp X hW hr hp_112 (fun x h => z_runV (As := [.int p1]) (rest := []) X hW hp_112 (c_X5_at l E (zh a 6) 30 (v 2) p1 x h _) hy_X5_at 6 5 (C := RX5) (T := TX5) (N := 1) rfl rfl rfl gX2_aboutSeat_X5_at rfl rfl ⟨by decide, by decide⟩ rfl hl rfl rfl (Nat.le_of_ble_eq_true rfl) dX2_aboutSeat_112 ⟨Nat.zero_le _, Nat.zero_le _⟩) (fun t112 H locs hr hW => ?_)
            cases hr
            exact z_iret X hW rfl dX2_aboutSeat_115
          · refine z_if hr (fun h_4 hr => ?_) (fun h_4 hr => ?_)
            · refine lv_tableIn (off := 106) (tgt := 116) X.1 X.2.1 dX2_aboutSeat_10 (by rw [h_4]; decide) (by rw [h_4]; decide) (by rw [h_4]; rfl) (by decide) ?_
              refine lv_aload_n X.1 X.2.1 dX2_aboutSeat_116 rfl (lv_at hl 0 rfl) ?_
              refine z_get X hW 0 2 1 (C := RX2) (T := TX2) (N := 11) rfl rfl hn_X2 (by decide) q_2 rfl dX2_aboutSeat_117 ?_
              refine z_getN X hW 3 6 2 (C := RX6) (T := TX6) (N := 8) rfl rfl hn_X6 (by decide) (List.mem_of_getElem? (i := 5) rfl) rfl dX2_aboutSeat_120 ?_
              refine lv_iload_n X.1 X.2.1 dX2_aboutSeat_123 rfl (lv_at hl 1 rfl) ?_
              have hp_124 := (sp_hs_8 E a v)
              refine z_callp X hW hr hp_124 (fun x h => z_runV (As := [.int p1]) (rest := []) X hW hp_124 (c_X5_at l E (zh a 8) 30 (v 3) p1 x h _) hy_X5_at 8 5 (C := RX5) (T := TX5) (N := 1) rfl rfl rfl gX2_aboutSeat_X5_at rfl rfl ⟨by decide, by decide⟩ rfl hl rfl rfl (Nat.le_of_ble_eq_true rfl) dX2_aboutSeat_124 ⟨Nat.zero_le _, Nat.zero_le _⟩) (fun t124 H locs hr hW => ?_)
              cases hr
              exact z_iret X hW rfl dX2_aboutSeat_127
            · refine z_if hr (fun h_5 hr => ?_) (fun h_5 hr => ?_)
              · refine lv_tableIn (off := 118) (tgt := 128) X.1 X.2.1 dX2_aboutSeat_10 (by rw [h_5]; decide) (by rw [h_5]; decide) (by rw [h_5]; rfl) (by decide) ?_
                refine lv_aload_n X.1 X.2.1 dX2_aboutSeat_128 rfl (lv_at hl 0 rfl) ?_
                refine z_get X hW 0 2 1 (C := RX2) (T := TX2) (N := 11) rfl rfl hn_X2 (by decide) q_2 rfl dX2_aboutSeat_129 ?_
                refine lv_iload_n X.1 X.2.1 dX2_aboutSeat_132 rfl (lv_at hl 1 rfl) ?_
                have hp_133 := (sp_hs_3 E a v)
                refine z_callp X hW hr hp_133 (fun x h => z_runV (As := [.int p1]) (rest := []) X hW hp_133 (c_X6_hasClapped l E (zh a 3) (zh v 1) p1 x h _) hy_X6_hasClapped 3 6 (C := RX6) (T := TX6) (N := 8) rfl rfl rfl gX2_aboutSeat_X6_hasClapped rfl rfl ⟨by decide, by decide⟩ rfl hl rfl rfl (Nat.le_of_ble_eq_true rfl) dX2_aboutSeat_133 ⟨Nat.zero_le _, Nat.zero_le _⟩) (fun t133 H locs hr hW => ?_)
                refine z_ifeq X 143 hr dX2_aboutSeat_136 (by decide) (fun hr => ?_) (fun hr => ?_)
                · refine lv_iconst (v := 0) X.1 X.2.1 dX2_aboutSeat_143 (by decide) ?_
                  cases hr
                  exact z_iret X hW rfl dX2_aboutSeat_144
                · refine lv_iconst (v := 1) X.1 X.2.1 dX2_aboutSeat_139 (by decide) ?_
                  refine lv_goto (tgt := 144) X.1 X.2.1 dX2_aboutSeat_140 (by decide) ?_
                  cases hr
                  exact z_iret X hW rfl dX2_aboutSeat_144
              · refine z_if hr (fun h_6 hr => ?_) (fun h_6 hr => ?_)
                · refine lv_tableIn (off := 135) (tgt := 145) X.1 X.2.1 dX2_aboutSeat_10 (by rw [h_6]; decide) (by rw [h_6]; decide) (by rw [h_6]; rfl) (by decide) ?_
                  refine lv_aload_n X.1 X.2.1 dX2_aboutSeat_145 rfl (lv_at hl 0 rfl) ?_
                  refine z_get X hW 0 2 1 (C := RX2) (T := TX2) (N := 11) rfl rfl hn_X2 (by decide) q_2 rfl dX2_aboutSeat_146 ?_
                  refine z_getN X hW 3 6 3 (C := RX6) (T := TX6) (N := 8) rfl rfl hn_X6 (by decide) (List.mem_of_getElem? (i := 6) rfl) rfl dX2_aboutSeat_149 ?_
                  refine lv_iload_n X.1 X.2.1 dX2_aboutSeat_152 rfl (lv_at hl 1 rfl) ?_
                  have hp_153 := (sp_hs_10 E a v)
                  refine z_callp X hW hr hp_153 (fun x h => z_runV (As := [.int p1]) (rest := []) X hW hp_153 (c_X5_at l E (zh a 10) 30 (v 4) p1 x h _) hy_X5_at 10 5 (C := RX5) (T := TX5) (N := 1) rfl rfl rfl gX2_aboutSeat_X5_at rfl rfl ⟨by decide, by decide⟩ rfl hl rfl rfl (Nat.le_of_ble_eq_true rfl) dX2_aboutSeat_153 ⟨Nat.zero_le _, Nat.zero_le _⟩) (fun t153 H locs hr hW => ?_)
                  cases hr
                  exact z_iret X hW rfl dX2_aboutSeat_156
                · have e_0 := lv_neT h_0 (a := 0) rfl
                  have e_1 := lv_neT h_1 (a := 1) rfl
                  have e_2 := lv_neT h_2 (a := 2) rfl
                  have e_3 := lv_neT h_3 (a := 3) rfl
                  have e_4 := lv_neT h_4 (a := 4) rfl
                  have e_5 := lv_neT h_5 (a := 5) rfl
                  have e_6 := lv_neT h_6 (a := 6) rfl
                  refine lv_tableOut (tgt := 157) X.1 X.2.1 dX2_aboutSeat_10 (by omega) (by decide) ?_
                  refine lv_bipush (v := (-2)) X.1 X.2.1 dX2_aboutSeat_157 (by decide) ?_
                  cases hr
                  exact z_iret X hW rfl dX2_aboutSeat_159
  · refine lv_iconst (v := (-1)) X.1 X.2.1 dX2_aboutSeat_7 (by decide) ?_
    cases hr
    exact z_iret X hW rfl dX2_aboutSeat_8
abbrev rm_X2_suspectedNow : Room := { frames := 2, cells := 0, slots := 0, locals := 44 }
theorem hy_X2_suspectedNow : zY yX2_suspectedNow wsX2_suspectedNow cX2_suspectedNow 1 (some .int) 0 := ⟨⟨_, rfl⟩, by decide, by decide, by decide +kernel⟩
def d_X2_suspectedNow (v : zHV) : Option (Int32) :=
zcl (d_X5_at 6 (v 0) 4) fun t9 =>
zcl (d_X6_suspected (zh v 1) t9) fun t12 =>
some t12
set_option maxHeartbeats 4000000 in
set_option maxRecDepth 100000 in
theorem c_X2_suspectedNow (l : Launch) (E : zE) (a : Nat → Nat) (v : zHV) (r : Int32) (h : d_X2_suspectedNow v = some r) : zMi l E yX2_suspectedNow wsX2_suspectedNow rm_X2_suspectedNow [.ref (a 0)] (hsW E a v) r (hsW E a v) := by
  intro sz
  refine z_entry (Qc := fun A => zQi E A r (hsW E a v)) (by decide) rfl (Nat.le_of_ble_eq_true rfl) ?_
  intro p e s m below meth c A X hW ls hl
  have X : zX E wsX2_suspectedNow RX2 cX2_suspectedNow 1 (some .int) yX2_suspectedNow p s m ([.ref (a 0)] : List Value).toArray meth c A := X
  have hl : lv_has ls 1 [(0, .ref (a 0))] := hl
  have hr : d_X2_suspectedNow v = some r := h
  clear h
  have q_0 : Cond.fieldLink RX2 23 "ApplauseTallies$House" "seats" "LApplauseTallies$Seats;" ∈ wsX2_suspectedNow := List.mem_of_getElem? (i := 1) rfl
  have hn_X2 : ∀ x ∈ wsX20, x ∈ wsX2_suspectedNow := zz_in [16, 17, 18, 19, 20, 21, 22, 23, 24, 25, 26] (by decide +kernel)
  have q_2 : Cond.fieldLink RX2 14 "ApplauseTallies$House" "settings" "LApplauseTallies$Row;" ∈ wsX2_suspectedNow := List.mem_of_getElem? (i := 2) rfl
  unfold d_X2_suspectedNow at hr
  refine lv_aload_n X.1 X.2.1 dX2_suspectedNow_0 rfl (lv_at hl 0 rfl) ?_
  refine z_get X hW 0 2 1 (C := RX2) (T := TX2) (N := 11) rfl rfl hn_X2 (by decide) q_0 rfl dX2_suspectedNow_1 ?_
  refine lv_aload_n X.1 X.2.1 dX2_suspectedNow_4 rfl (lv_at hl 0 rfl) ?_
  refine z_get X hW 0 2 0 (C := RX2) (T := TX2) (N := 11) rfl rfl hn_X2 (by decide) q_2 rfl dX2_suspectedNow_5 ?_
  refine lv_iconst (v := 4) X.1 X.2.1 dX2_suspectedNow_8 (by decide) ?_
  have hp_9 := (sp_hs_1 E a v)
  refine z_callp X hW hr hp_9 (fun x h => z_runV (As := [.int 4]) (rest := [.ref (a 3)]) X hW hp_9 (c_X5_at l E (zh a 1) 6 (v 0) 4 x h _) hy_X5_at 1 5 (C := RX5) (T := TX5) (N := 1) rfl rfl rfl gX2_suspectedNow_X5_at rfl rfl ⟨by decide, by decide⟩ rfl hl rfl rfl (Nat.le_of_ble_eq_true rfl) dX2_suspectedNow_9 ⟨Nat.zero_le _, Nat.zero_le _⟩) (fun t9 H locs hr hW => ?_)
  have hp_12 := (sp_hs_3 E a v)
  refine z_callp X hW hr hp_12 (fun x h => z_runV (As := [.int t9]) (rest := []) X hW hp_12 (c_X6_suspected l E (zh a 3) (zh v 1) t9 x h _) hy_X6_suspected 3 6 (C := RX6) (T := TX6) (N := 8) rfl rfl rfl gX2_suspectedNow_X6_suspected rfl rfl ⟨by decide, by decide⟩ rfl hl rfl rfl (Nat.le_of_ble_eq_true rfl) dX2_suspectedNow_12 ⟨Nat.zero_le _, Nat.zero_le _⟩) (fun t12 H locs hr hW => ?_)
  cases hr
  exact z_iret X hW rfl dX2_suspectedNow_15
abbrev rm_X2_recordOf : Room := { frames := 1, cells := 0, slots := 0, locals := 21 }
theorem hy_X2_recordOf : zY yX2_recordOf wsX2_recordOf cX2_recordOf 3 (some .int) 2 := ⟨⟨_, rfl⟩, by decide, by decide, by decide +kernel⟩
def d_X2_recordOf (v : zHV) (p1 : Int32) (p2 : Int32) : Option (Int32) :=
(if p1 < 0 then
some (-1)
else
zlet (if 6 < (v 15 2) then 6 else (v 15 2)) fun t11 =>
(if p1 < t11 then
(if p2 < 0 then
some (-2)
else
(if p2 < 4 then
zlet ((v 15 2) - 1) fun t40 =>
zlet (t40 - p1) fun t42 =>
zcl (d_X2_recordPlace t42 p2) fun t44 =>
zcl (d_X5_at 24 (v 14) t44) fun t47 =>
some t47
else
some (-2)))
else
some (-1)))
set_option maxHeartbeats 4000000 in
set_option maxRecDepth 100000 in
theorem c_X2_recordOf (l : Launch) (E : zE) (a : Nat → Nat) (v : zHV) (p1 : Int32) (p2 : Int32) (r : Int32) (h : d_X2_recordOf v p1 p2 = some r) : zMi l E yX2_recordOf wsX2_recordOf rm_X2_recordOf [.ref (a 0), .int p1, .int p2] (hsW E a v) r (hsW E a v) := by
  intro sz
  refine z_entry (Qc := fun A => zQi E A r (hsW E a v)) (by decide) rfl (Nat.le_of_ble_eq_true rfl) ?_
  intro p e s m below meth c A X hW ls hl
  have X : zX E wsX2_recordOf RX2 cX2_recordOf 3 (some .int) yX2_recordOf p s m ([.ref (a 0), .int p1, .int p2] : List Value).toArray meth c A := X
  have hl : lv_has ls 3 [(0, .ref (a 0)), (1, .int p1), (2, .int p2)] := hl
  have hr : d_X2_recordOf v p1 p2 = some r := h
  clear h
  have q_0 : Cond.fieldLink RX2 68 "ApplauseTallies$House" "nights" "I" ∈ wsX2_recordOf := List.mem_of_getElem? (i := 1) rfl
  have hn_X2 : ∀ x ∈ wsX20, x ∈ wsX2_recordOf := zz_in [17, 18, 19, 20, 21, 22, 23, 24, 25, 26, 27] (by decide +kernel)
  have q_2 : Cond.methodLink RX2 117 Lib.Math.min.name ∈ wsX2_recordOf := List.mem_of_getElem? (i := 2) rfl
  have q_3 : Cond.static Lib.Math.min.name ∈ wsX2_recordOf := List.mem_of_getElem? (i := 3) rfl
  have q_4 : Cond.initialized "java/lang/Math" ∈ wsX2_recordOf := List.mem_of_getElem? (i := 4) rfl
  have q_5 : Cond.code Lib.Math.min.name Lib.Math.min.code 2 (some .int) ∈ wsX2_recordOf := List.mem_of_getElem? (i := 5) rfl
  have q_6 : Cond.fieldLink RX2 37 "ApplauseTallies$House" "records" "LApplauseTallies$Row;" ∈ wsX2_recordOf := List.mem_of_getElem? (i := 6) rfl
  unfold d_X2_recordOf at hr
  refine lv_iload_n X.1 X.2.1 dX2_recordOf_0 rfl (lv_at hl 1 rfl) ?_
  refine z_iflt X 17 hr dX2_recordOf_1 (by decide) (fun hr => ?_) (fun hr => ?_)
  · refine lv_iconst (v := (-1)) X.1 X.2.1 dX2_recordOf_17 (by decide) ?_
    cases hr
    exact z_iret X hW rfl dX2_recordOf_18
  · refine lv_iload_n X.1 X.2.1 dX2_recordOf_4 rfl (lv_at hl 1 rfl) ?_
    refine lv_aload_n X.1 X.2.1 dX2_recordOf_5 rfl (lv_at hl 0 rfl) ?_
    refine z_get X hW 0 2 7 (C := RX2) (T := TX2) (N := 11) rfl rfl hn_X2 (by decide) q_0 rfl dX2_recordOf_6 ?_
    refine lv_bipush (v := 6) X.1 X.2.1 dX2_recordOf_9 (by decide) ?_
    refine z_min X hl rfl hr q_2 q_3 q_4 q_5 (by decide) (Nat.le_of_ble_eq_true rfl) (Nat.zero_le _) (Nat.zero_le _) dX2_recordOf_11 (fun t11 hr => ?_)
    refine z_cmplt X 19 hr dX2_recordOf_14 (by decide) (fun hr => ?_) (fun hr => ?_)
    · refine lv_iload_n X.1 X.2.1 dX2_recordOf_19 rfl (lv_at hl 2 rfl) ?_
      refine z_iflt X 28 hr dX2_recordOf_20 (by decide) (fun hr => ?_) (fun hr => ?_)
      · refine lv_bipush (v := (-2)) X.1 X.2.1 dX2_recordOf_28 (by decide) ?_
        cases hr
        exact z_iret X hW rfl dX2_recordOf_30
      · refine lv_iload_n X.1 X.2.1 dX2_recordOf_23 rfl (lv_at hl 2 rfl) ?_
        refine lv_iconst (v := 4) X.1 X.2.1 dX2_recordOf_24 (by decide) ?_
        refine z_cmplt X 31 hr dX2_recordOf_25 (by decide) (fun hr => ?_) (fun hr => ?_)
        · refine lv_aload_n X.1 X.2.1 dX2_recordOf_31 rfl (lv_at hl 0 rfl) ?_
          refine z_get X hW 0 2 4 (C := RX2) (T := TX2) (N := 11) rfl rfl hn_X2 (by decide) q_6 rfl dX2_recordOf_32 ?_
          refine lv_aload_n X.1 X.2.1 dX2_recordOf_35 rfl (lv_at hl 0 rfl) ?_
          refine z_get X hW 0 2 7 (C := RX2) (T := TX2) (N := 11) rfl rfl hn_X2 (by decide) q_0 rfl dX2_recordOf_36 ?_
          refine lv_iconst (v := 1) X.1 X.2.1 dX2_recordOf_39 (by decide) ?_
          refine z_isub X hr dX2_recordOf_40 (fun t40 hr => ?_)
          refine lv_iload_n X.1 X.2.1 dX2_recordOf_41 rfl (lv_at hl 1 rfl) ?_
          refine z_isub X hr dX2_recordOf_42 (fun t42 hr => ?_)
          refine lv_iload_n X.1 X.2.1 dX2_recordOf_43 rfl (lv_at hl 2 rfl) ?_
          have hp_44 := (List.Perm.refl ((hsW E a v)))
          refine z_callp X hW hr hp_44 (fun x h => z_runS (As := [.int t42, .int p2]) (rest := [.ref (a 27)]) X hW hp_44 (c_X2_recordPlace l E t42 p2 x h _) hy_X2_recordPlace gX2_recordOf_X2_recordPlace rfl rfl ⟨by decide, by decide⟩ rfl hl rfl rfl (Nat.le_of_ble_eq_true rfl) dX2_recordOf_44 ⟨Nat.zero_le _, Nat.zero_le _⟩) (fun t44 H locs hr hW => ?_)
          have hp_47 := (sp_hs_27 E a v)
          refine z_callp X hW hr hp_47 (fun x h => z_runV (As := [.int t44]) (rest := []) X hW hp_47 (c_X5_at l E (zh a 27) 24 (v 14) t44 x h _) hy_X5_at 27 5 (C := RX5) (T := TX5) (N := 1) rfl rfl rfl gX2_recordOf_X5_at rfl rfl ⟨by decide, by decide⟩ rfl hl rfl rfl (Nat.le_of_ble_eq_true rfl) dX2_recordOf_47 ⟨Nat.zero_le _, Nat.zero_le _⟩) (fun t47 H locs hr hW => ?_)
          cases hr
          exact z_iret X hW rfl dX2_recordOf_50
        · refine lv_bipush (v := (-2)) X.1 X.2.1 dX2_recordOf_28 (by decide) ?_
          cases hr
          exact z_iret X hW rfl dX2_recordOf_30
    · refine lv_iconst (v := (-1)) X.1 X.2.1 dX2_recordOf_17 (by decide) ?_
      cases hr
      exact z_iret X hW rfl dX2_recordOf_18
abbrev rm_X2_numberOf : Room := { frames := 3, cells := 0, slots := 0, locals := 64 }
theorem hy_X2_numberOf : zY yX2_numberOf wsX2_numberOf cX2_numberOf 2 (some .int) 1 := ⟨⟨_, rfl⟩, by decide, by decide, by decide +kernel⟩
def d_X2_numberOf (v : zHV) (p1 : Int32) : Option (Int32) :=
(if p1 = 0 then
some (v 15 0)
else
(if p1 = 1 then
some (v 15 1)
else
(if p1 = 2 then
some (v 15 2)
else
(if p1 = 3 then
zcl (d_X5_at 4 (v 13) 0) fun t88 =>
some t88
else
(if p1 = 4 then
some (v 12 0)
else
(if p1 = 5 then
zcl (d_X5_sum 6 (v 9)) fun t107 =>
some t107
else
(if p1 = 6 then
zcl (d_X5_sum 6 (v 10)) fun t118 =>
some t118
else
(if p1 = 7 then
zcl (d_X5_at 4 (v 13) 3) fun t127 =>
some t127
else
(if p1 = 8 then
(if (v 15 3) = (-6) then
some (-6)
else
zlet ((v 15 1) - (v 15 4)) fun t153 =>
some t153)
else
(if p1 = 9 then
some (v 15 3)
else
(if p1 = 10 then
some (v 6 1)
else
(if p1 = 11 then
zcl (d_X2_suspectedNow v) fun t169 =>
some t169
else
(if p1 = 12 then
zcl (d_X2_suspectedNow v) fun t181 =>
zlet ((v 6 1) &&& t181) fun t184 =>
some t184
else
(if p1 < 13 then
some (-2)
else
(if 19 ≤ p1 then
some (-2)
else
zlet (p1 - 13) fun t205 =>
zcl (d_X5_at 6 (v 0) t205) fun t206 =>
some t206)))))))))))))))
set_option maxHeartbeats 4000000 in
set_option maxRecDepth 100000 in
theorem c_X2_numberOf (l : Launch) (E : zE) (a : Nat → Nat) (v : zHV) (p1 : Int32) (r : Int32) (h : d_X2_numberOf v p1 = some r) : zMi l E yX2_numberOf wsX2_numberOf rm_X2_numberOf [.ref (a 0), .int p1] (hsW E a v) r (hsW E a v) := by
  intro sz
  refine z_entry (Qc := fun A => zQi E A r (hsW E a v)) (by decide) rfl (Nat.le_of_ble_eq_true rfl) ?_
  intro p e s m below meth c A X hW ls hl
  have X : zX E wsX2_numberOf RX2 cX2_numberOf 2 (some .int) yX2_numberOf p s m ([.ref (a 0), .int p1] : List Value).toArray meth c A := X
  have hl : lv_has ls 2 [(0, .ref (a 0)), (1, .int p1)] := hl
  have hr : d_X2_numberOf v p1 = some r := h
  clear h
  have q_0 : Cond.fieldLink RX2 62 "ApplauseTallies$House" "applause" "I" ∈ wsX2_numberOf := List.mem_of_getElem? (i := 1) rfl
  have hn_X2 : ∀ x ∈ wsX20, x ∈ wsX2_numberOf := zz_in [32, 33, 34, 35, 36, 37, 38, 39, 40, 41, 42] (by decide +kernel)
  have q_2 : Cond.fieldLink RX2 65 "ApplauseTallies$House" "time" "I" ∈ wsX2_numberOf := List.mem_of_getElem? (i := 2) rfl
  have q_3 : Cond.fieldLink RX2 68 "ApplauseTallies$House" "nights" "I" ∈ wsX2_numberOf := List.mem_of_getElem? (i := 3) rfl
  have q_4 : Cond.fieldLink RX2 34 "ApplauseTallies$House" "tonight" "LApplauseTallies$Row;" ∈ wsX2_numberOf := List.mem_of_getElem? (i := 4) rfl
  have q_5 : Cond.fieldLink RX2 30 "ApplauseTallies$House" "encores" "LApplauseTallies$Encores;" ∈ wsX2_numberOf := List.mem_of_getElem? (i := 5) rfl
  have hn_X0 : ∀ x ∈ wsX00, x ∈ wsX2_numberOf := zz_in [43, 44, 45, 46, 47, 48] (by decide +kernel)
  have q_7 : Cond.fieldLink RX2 40 "ApplauseTallies$House" "pieceBy" "I" ∈ wsX2_numberOf := List.mem_of_getElem? (i := 6) rfl
  have q_8 : Cond.fieldLink RX2 71 "ApplauseTallies$House" "pieceEnd" "I" ∈ wsX2_numberOf := List.mem_of_getElem? (i := 7) rfl
  have q_9 : Cond.fieldLink RX2 23 "ApplauseTallies$House" "seats" "LApplauseTallies$Seats;" ∈ wsX2_numberOf := List.mem_of_getElem? (i := 8) rfl
  have hn_X6 : ∀ x ∈ wsX60, x ∈ wsX2_numberOf := zz_in [49, 50, 51, 52, 53, 54, 55, 56] (by decide +kernel)
  have q_11 : Cond.fieldLink RX2 14 "ApplauseTallies$House" "settings" "LApplauseTallies$Row;" ∈ wsX2_numberOf := List.mem_of_getElem? (i := 9) rfl
  unfold d_X2_numberOf at hr
  refine lv_iload_n X.1 X.2.1 dX2_numberOf_0 rfl (lv_at hl 1 rfl) ?_
  refine z_if hr (fun h_0 hr => ?_) (fun h_0 hr => ?_)
  · refine lv_tableIn (off := 67) (tgt := 68) X.1 X.2.1 dX2_numberOf_1 (by rw [h_0]; decide) (by rw [h_0]; decide) (by rw [h_0]; rfl) (by decide) ?_
    refine lv_aload_n X.1 X.2.1 dX2_numberOf_68 rfl (lv_at hl 0 rfl) ?_
    refine z_get X hW 0 2 5 (C := RX2) (T := TX2) (N := 11) rfl rfl hn_X2 (by decide) q_0 rfl dX2_numberOf_69 ?_
    cases hr
    exact z_iret X hW rfl dX2_numberOf_72
  · refine z_if hr (fun h_1 hr => ?_) (fun h_1 hr => ?_)
    · refine lv_tableIn (off := 72) (tgt := 73) X.1 X.2.1 dX2_numberOf_1 (by rw [h_1]; decide) (by rw [h_1]; decide) (by rw [h_1]; rfl) (by decide) ?_
      refine lv_aload_n X.1 X.2.1 dX2_numberOf_73 rfl (lv_at hl 0 rfl) ?_
      refine z_get X hW 0 2 6 (C := RX2) (T := TX2) (N := 11) rfl rfl hn_X2 (by decide) q_2 rfl dX2_numberOf_74 ?_
      cases hr
      exact z_iret X hW rfl dX2_numberOf_77
    · refine z_if hr (fun h_2 hr => ?_) (fun h_2 hr => ?_)
      · refine lv_tableIn (off := 77) (tgt := 78) X.1 X.2.1 dX2_numberOf_1 (by rw [h_2]; decide) (by rw [h_2]; decide) (by rw [h_2]; rfl) (by decide) ?_
        refine lv_aload_n X.1 X.2.1 dX2_numberOf_78 rfl (lv_at hl 0 rfl) ?_
        refine z_get X hW 0 2 7 (C := RX2) (T := TX2) (N := 11) rfl rfl hn_X2 (by decide) q_3 rfl dX2_numberOf_79 ?_
        cases hr
        exact z_iret X hW rfl dX2_numberOf_82
      · refine z_if hr (fun h_3 hr => ?_) (fun h_3 hr => ?_)
        · refine lv_tableIn (off := 82) (tgt := 83) X.1 X.2.1 dX2_numberOf_1 (by rw [h_3]; decide) (by rw [h_3]; decide) (by rw [h_3]; rfl) (by decide) ?_
          refine lv_aload_n X.1 X.2.1 dX2_numberOf_83 rfl (lv_at hl 0 rfl) ?_
          refine z_get X hW 0 2 3 (C := RX2) (T := TX2) (N := 11) rfl rfl hn_X2 (by decide) q_4 rfl dX2_numberOf_84 ?_
          refine lv_iconst (v := 0) X.1 X.2.1 dX2_numberOf_87 (by decide) ?_
          have hp_88 := (sp_hs_25 E a v)
          refine z_callp X hW hr hp_88 (fun x h => z_runV (As := [.int 0]) (rest := []) X hW hp_88 (c_X5_at l E (zh a 25) 4 (v 13) 0 x h _) hy_X5_at 25 5 (C := RX5) (T := TX5) (N := 1) rfl rfl rfl gX2_numberOf_X5_at rfl rfl ⟨by decide, by decide⟩ rfl hl rfl rfl (Nat.le_of_ble_eq_true rfl) dX2_numberOf_88 ⟨Nat.zero_le _, Nat.zero_le _⟩) (fun t88 H locs hr hW => ?_)
          cases hr
          exact z_iret X hW rfl dX2_numberOf_91
        · refine z_if hr (fun h_4 hr => ?_) (fun h_4 hr => ?_)
          · refine lv_tableIn (off := 91) (tgt := 92) X.1 X.2.1 dX2_numberOf_1 (by rw [h_4]; decide) (by rw [h_4]; decide) (by rw [h_4]; rfl) (by decide) ?_
            refine lv_aload_n X.1 X.2.1 dX2_numberOf_92 rfl (lv_at hl 0 rfl) ?_
            refine z_get X hW 0 2 2 (C := RX2) (T := TX2) (N := 11) rfl rfl hn_X2 (by decide) q_5 rfl dX2_numberOf_93 ?_
            refine z_getN X hW 14 0 5 (C := RX0) (T := TX0) (N := 6) rfl rfl hn_X0 (by decide) (List.mem_of_getElem? (i := 7) rfl) rfl dX2_numberOf_96 ?_
            cases hr
            exact z_iret X hW rfl dX2_numberOf_99
          · refine z_if hr (fun h_5 hr => ?_) (fun h_5 hr => ?_)
            · refine lv_tableIn (off := 99) (tgt := 100) X.1 X.2.1 dX2_numberOf_1 (by rw [h_5]; decide) (by rw [h_5]; decide) (by rw [h_5]; rfl) (by decide) ?_
              refine lv_aload_n X.1 X.2.1 dX2_numberOf_100 rfl (lv_at hl 0 rfl) ?_
              refine z_get X hW 0 2 2 (C := RX2) (T := TX2) (N := 11) rfl rfl hn_X2 (by decide) q_5 rfl dX2_numberOf_101 ?_
              refine z_getN X hW 14 0 2 (C := RX0) (T := TX0) (N := 6) rfl rfl hn_X0 (by decide) (List.mem_of_getElem? (i := 8) rfl) rfl dX2_numberOf_104 ?_
              have hp_107 := (sp_hs_19 E a v)
              refine z_callp X hW hr hp_107 (fun x h => z_runV (As := []) (rest := []) X hW hp_107 (c_X5_sum l E (zh a 19) 6 (v 9) x h _) hy_X5_sum 19 5 (C := RX5) (T := TX5) (N := 1) rfl rfl rfl gX2_numberOf_X5_sum rfl rfl ⟨by decide, by decide⟩ rfl hl rfl rfl (Nat.le_of_ble_eq_true rfl) dX2_numberOf_107 ⟨Nat.zero_le _, Nat.zero_le _⟩) (fun t107 H locs hr hW => ?_)
              cases hr
              exact z_iret X hW rfl dX2_numberOf_110
            · refine z_if hr (fun h_6 hr => ?_) (fun h_6 hr => ?_)
              · refine lv_tableIn (off := 110) (tgt := 111) X.1 X.2.1 dX2_numberOf_1 (by rw [h_6]; decide) (by rw [h_6]; decide) (by rw [h_6]; rfl) (by decide) ?_
                refine lv_aload_n X.1 X.2.1 dX2_numberOf_111 rfl (lv_at hl 0 rfl) ?_
                refine z_get X hW 0 2 2 (C := RX2) (T := TX2) (N := 11) rfl rfl hn_X2 (by decide) q_5 rfl dX2_numberOf_112 ?_
                refine z_getN X hW 14 0 3 (C := RX0) (T := TX0) (N := 6) rfl rfl hn_X0 (by decide) (List.mem_of_getElem? (i := 9) rfl) rfl dX2_numberOf_115 ?_
                have hp_118 := (sp_hs_21 E a v)
                refine z_callp X hW hr hp_118 (fun x h => z_runV (As := []) (rest := []) X hW hp_118 (c_X5_sum l E (zh a 21) 6 (v 10) x h _) hy_X5_sum 21 5 (C := RX5) (T := TX5) (N := 1) rfl rfl rfl gX2_numberOf_X5_sum rfl rfl ⟨by decide, by decide⟩ rfl hl rfl rfl (Nat.le_of_ble_eq_true rfl) dX2_numberOf_118 ⟨Nat.zero_le _, Nat.zero_le _⟩) (fun t118 H locs hr hW => ?_)
                cases hr
                exact z_iret X hW rfl dX2_numberOf_121
              · refine z_if hr (fun h_7 hr => ?_) (fun h_7 hr => ?_)
                · refine lv_tableIn (off := 121) (tgt := 122) X.1 X.2.1 dX2_numberOf_1 (by rw [h_7]; decide) (by rw [h_7]; decide) (by rw [h_7]; rfl) (by decide) ?_
                  refine lv_aload_n X.1 X.2.1 dX2_numberOf_122 rfl (lv_at hl 0 rfl) ?_
                  refine z_get X hW 0 2 3 (C := RX2) (T := TX2) (N := 11) rfl rfl hn_X2 (by decide) q_4 rfl dX2_numberOf_123 ?_
                  refine lv_iconst (v := 3) X.1 X.2.1 dX2_numberOf_126 (by decide) ?_
                  have hp_127 := (sp_hs_25 E a v)
                  refine z_callp X hW hr hp_127 (fun x h => z_runV (As := [.int 3]) (rest := []) X hW hp_127 (c_X5_at l E (zh a 25) 4 (v 13) 3 x h _) hy_X5_at 25 5 (C := RX5) (T := TX5) (N := 1) rfl rfl rfl gX2_numberOf_X5_at rfl rfl ⟨by decide, by decide⟩ rfl hl rfl rfl (Nat.le_of_ble_eq_true rfl) dX2_numberOf_127 ⟨Nat.zero_le _, Nat.zero_le _⟩) (fun t127 H locs hr hW => ?_)
                  cases hr
                  exact z_iret X hW rfl dX2_numberOf_130
                · refine z_if hr (fun h_8 hr => ?_) (fun h_8 hr => ?_)
                  · refine lv_tableIn (off := 130) (tgt := 131) X.1 X.2.1 dX2_numberOf_1 (by rw [h_8]; decide) (by rw [h_8]; decide) (by rw [h_8]; rfl) (by decide) ?_
                    refine lv_aload_n X.1 X.2.1 dX2_numberOf_131 rfl (lv_at hl 0 rfl) ?_
                    refine z_get X hW 0 2 8 (C := RX2) (T := TX2) (N := 11) rfl rfl hn_X2 (by decide) q_7 rfl dX2_numberOf_132 ?_
                    refine lv_bipush (v := (-6)) X.1 X.2.1 dX2_numberOf_135 (by decide) ?_
                    refine z_cmpne X 145 hr dX2_numberOf_137 (by decide) (fun hr => ?_) (fun hr => ?_)
                    · refine lv_aload_n X.1 X.2.1 dX2_numberOf_145 rfl (lv_at hl 0 rfl) ?_
                      refine z_get X hW 0 2 6 (C := RX2) (T := TX2) (N := 11) rfl rfl hn_X2 (by decide) q_2 rfl dX2_numberOf_146 ?_
                      refine lv_aload_n X.1 X.2.1 dX2_numberOf_149 rfl (lv_at hl 0 rfl) ?_
                      refine z_get X hW 0 2 9 (C := RX2) (T := TX2) (N := 11) rfl rfl hn_X2 (by decide) q_8 rfl dX2_numberOf_150 ?_
                      refine z_isub X hr dX2_numberOf_153 (fun t153 hr => ?_)
                      cases hr
                      exact z_iret X hW rfl dX2_numberOf_154
                    · refine lv_bipush (v := (-6)) X.1 X.2.1 dX2_numberOf_140 (by decide) ?_
                      refine lv_goto (tgt := 154) X.1 X.2.1 dX2_numberOf_142 (by decide) ?_
                      cases hr
                      exact z_iret X hW rfl dX2_numberOf_154
                  · refine z_if hr (fun h_9 hr => ?_) (fun h_9 hr => ?_)
                    · refine lv_tableIn (off := 154) (tgt := 155) X.1 X.2.1 dX2_numberOf_1 (by rw [h_9]; decide) (by rw [h_9]; decide) (by rw [h_9]; rfl) (by decide) ?_
                      refine lv_aload_n X.1 X.2.1 dX2_numberOf_155 rfl (lv_at hl 0 rfl) ?_
                      refine z_get X hW 0 2 8 (C := RX2) (T := TX2) (N := 11) rfl rfl hn_X2 (by decide) q_7 rfl dX2_numberOf_156 ?_
                      cases hr
                      exact z_iret X hW rfl dX2_numberOf_159
                    · refine z_if hr (fun h_10 hr => ?_) (fun h_10 hr => ?_)
                      · refine lv_tableIn (off := 159) (tgt := 160) X.1 X.2.1 dX2_numberOf_1 (by rw [h_10]; decide) (by rw [h_10]; decide) (by rw [h_10]; rfl) (by decide) ?_
                        refine lv_aload_n X.1 X.2.1 dX2_numberOf_160 rfl (lv_at hl 0 rfl) ?_
                        refine z_get X hW 0 2 1 (C := RX2) (T := TX2) (N := 11) rfl rfl hn_X2 (by decide) q_9 rfl dX2_numberOf_161 ?_
                        refine z_getN X hW 3 6 6 (C := RX6) (T := TX6) (N := 8) rfl rfl hn_X6 (by decide) (List.mem_of_getElem? (i := 15) rfl) rfl dX2_numberOf_164 ?_
                        cases hr
                        exact z_iret X hW rfl dX2_numberOf_167
                      · refine z_if hr (fun h_11 hr => ?_) (fun h_11 hr => ?_)
                        · refine lv_tableIn (off := 167) (tgt := 168) X.1 X.2.1 dX2_numberOf_1 (by rw [h_11]; decide) (by rw [h_11]; decide) (by rw [h_11]; rfl) (by decide) ?_
                          refine lv_aload_n X.1 X.2.1 dX2_numberOf_168 rfl (lv_at hl 0 rfl) ?_
                          have hp_169 := (z_all (hsW E a v))
                          refine z_callp X hW hr hp_169 (fun x h => z_runV (As := []) (rest := []) X hW hp_169 (c_X2_suspectedNow l E a v x h _) hy_X2_suspectedNow 0 2 (C := RX2) (T := TX2) (N := 11) rfl rfl rfl gX2_numberOf_X2_suspectedNow rfl rfl ⟨by decide, by decide⟩ rfl hl rfl rfl (Nat.le_of_ble_eq_true rfl) dX2_numberOf_169 ⟨Nat.zero_le _, Nat.zero_le _⟩) (fun t169 H locs hr hW => ?_)
                          cases hr
                          exact z_iret X hW rfl dX2_numberOf_172
                        · refine z_if hr (fun h_12 hr => ?_) (fun h_12 hr => ?_)
                          · refine lv_tableIn (off := 172) (tgt := 173) X.1 X.2.1 dX2_numberOf_1 (by rw [h_12]; decide) (by rw [h_12]; decide) (by rw [h_12]; rfl) (by decide) ?_
                            refine lv_aload_n X.1 X.2.1 dX2_numberOf_173 rfl (lv_at hl 0 rfl) ?_
                            refine z_get X hW 0 2 1 (C := RX2) (T := TX2) (N := 11) rfl rfl hn_X2 (by decide) q_9 rfl dX2_numberOf_174 ?_
                            refine z_getN X hW 3 6 6 (C := RX6) (T := TX6) (N := 8) rfl rfl hn_X6 (by decide) (List.mem_of_getElem? (i := 15) rfl) rfl dX2_numberOf_177 ?_
                            refine lv_aload_n X.1 X.2.1 dX2_numberOf_180 rfl (lv_at hl 0 rfl) ?_
                            have hp_181 := (z_all (hsW E a v))
                            refine z_callp X hW hr hp_181 (fun x h => z_runV (As := []) (rest := [.int (v 6 1)]) X hW hp_181 (c_X2_suspectedNow l E a v x h _) hy_X2_suspectedNow 0 2 (C := RX2) (T := TX2) (N := 11) rfl rfl rfl gX2_numberOf_X2_suspectedNow rfl rfl ⟨by decide, by decide⟩ rfl hl rfl rfl (Nat.le_of_ble_eq_true rfl) dX2_numberOf_181 ⟨Nat.zero_le _, Nat.zero_le _⟩) (fun t181 H locs hr hW => ?_)
                            refine z_iand X hr dX2_numberOf_184 (fun t184 hr => ?_)
                            cases hr
                            exact z_iret X hW rfl dX2_numberOf_185
                          · have e_0 := lv_neT h_0 (a := 0) rfl
                            have e_1 := lv_neT h_1 (a := 1) rfl
                            have e_2 := lv_neT h_2 (a := 2) rfl
                            have e_3 := lv_neT h_3 (a := 3) rfl
                            have e_4 := lv_neT h_4 (a := 4) rfl
                            have e_5 := lv_neT h_5 (a := 5) rfl
                            have e_6 := lv_neT h_6 (a := 6) rfl
                            have e_7 := lv_neT h_7 (a := 7) rfl
                            have e_8 := lv_neT h_8 (a := 8) rfl
                            have e_9 := lv_neT h_9 (a := 9) rfl
                            have e_10 := lv_neT h_10 (a := 10) rfl
                            have e_11 := lv_neT h_11 (a := 11) rfl
                            have e_12 := lv_neT h_12 (a := 12) rfl
                            refine lv_tableOut (tgt := 186) X.1 X.2.1 dX2_numberOf_1 (by omega) (by decide) ?_
                            refine lv_iload_n X.1 X.2.1 dX2_numberOf_186 rfl (lv_at hl 1 rfl) ?_
                            refine lv_bipush (v := 13) X.1 X.2.1 dX2_numberOf_187 (by decide) ?_
                            refine z_cmplt X 212 hr dX2_numberOf_189 (by decide) (fun hr => ?_) (fun hr => ?_)
                            · refine lv_bipush (v := (-2)) X.1 X.2.1 dX2_numberOf_212 (by decide) ?_
                              cases hr
                              exact z_iret X hW rfl dX2_numberOf_214
                            · refine lv_iload_n X.1 X.2.1 dX2_numberOf_192 rfl (lv_at hl 1 rfl) ?_
                              refine lv_bipush (v := 19) X.1 X.2.1 dX2_numberOf_193 (by decide) ?_
                              refine z_cmpge X 212 hr dX2_numberOf_195 (by decide) (fun hr => ?_) (fun hr => ?_)
                              · refine lv_bipush (v := (-2)) X.1 X.2.1 dX2_numberOf_212 (by decide) ?_
                                cases hr
                                exact z_iret X hW rfl dX2_numberOf_214
                              · refine lv_aload_n X.1 X.2.1 dX2_numberOf_198 rfl (lv_at hl 0 rfl) ?_
                                refine z_get X hW 0 2 0 (C := RX2) (T := TX2) (N := 11) rfl rfl hn_X2 (by decide) q_11 rfl dX2_numberOf_199 ?_
                                refine lv_iload_n X.1 X.2.1 dX2_numberOf_202 rfl (lv_at hl 1 rfl) ?_
                                refine lv_bipush (v := 13) X.1 X.2.1 dX2_numberOf_203 (by decide) ?_
                                refine z_isub X hr dX2_numberOf_205 (fun t205 hr => ?_)
                                have hp_206 := (sp_hs_1 E a v)
                                refine z_callp X hW hr hp_206 (fun x h => z_runV (As := [.int t205]) (rest := []) X hW hp_206 (c_X5_at l E (zh a 1) 6 (v 0) t205 x h _) hy_X5_at 1 5 (C := RX5) (T := TX5) (N := 1) rfl rfl rfl gX2_numberOf_X5_at rfl rfl ⟨by decide, by decide⟩ rfl hl rfl rfl (Nat.le_of_ble_eq_true rfl) dX2_numberOf_206 ⟨Nat.zero_le _, Nat.zero_le _⟩) (fun t206 H locs hr hW => ?_)
                                refine lv_goto (tgt := 214) X.1 X.2.1 dX2_numberOf_209 (by decide) ?_
                                cases hr
                                exact z_iret X hW rfl dX2_numberOf_214
abbrev rm_X2_secondsUntil : Room := { frames := 2, cells := 0, slots := 0, locals := 42 }
theorem hy_X2_secondsUntil : zY yX2_secondsUntil wsX2_secondsUntil cX2_secondsUntil 4 (some .int) 1 := ⟨⟨_, rfl⟩, by decide, by decide, by decide +kernel⟩
def lpB_X2_secondsUntil_21 (v : zHV) (p1 : Int32)  (k_21 : Int32 → Int32 → Option (Int32)) (x2 : Int32) (x3 : Int32) : Option (Int32) :=
(if x2 ≤ p1 then
some x3
else
(if 9999 ≤ x3 then
some x3
else
zcl (d_X5_at 6 (v 0) 0) fun t39 =>
zcl (d_X7_afterSecond x2 t39) fun t42 =>
zlet (x3 + Int32.ofInt 1) fun x3_46 =>
k_21 t42 x3_46))
def lp_X2_secondsUntil_21 (v : zHV) (p1 : Int32)  : Nat → Int32 → Int32 → Option (Int32)
  | 0 => fun _ _ => none
  | n_ + 1 => lpB_X2_secondsUntil_21 v p1  (lp_X2_secondsUntil_21 v p1  n_)
def d_X2_secondsUntil (v : zHV) (p1 : Int32) : Option (Int32) :=
(if p1 < 0 then
some (-2)
else
(if p1 ≤ 9999 then
lp_X2_secondsUntil_21 v p1  zF (v 15 0) 0
else
some (-2)))
set_option maxHeartbeats 4000000 in
set_option maxRecDepth 100000 in
theorem c_X2_secondsUntil (l : Launch) (E : zE) (a : Nat → Nat) (v : zHV) (p1 : Int32) (r : Int32) (h : d_X2_secondsUntil v p1 = some r) : zMi l E yX2_secondsUntil wsX2_secondsUntil rm_X2_secondsUntil [.ref (a 0), .int p1] (hsW E a v) r (hsW E a v) := by
  intro sz
  refine z_entry (Qc := fun A => zQi E A r (hsW E a v)) (by decide) rfl (Nat.le_of_ble_eq_true rfl) ?_
  intro p e s m below meth c A X hW ls hl
  have X : zX E wsX2_secondsUntil RX2 cX2_secondsUntil 4 (some .int) yX2_secondsUntil p s m ([.ref (a 0), .int p1] : List Value).toArray meth c A := X
  have hl : lv_has ls 4 [(0, .ref (a 0)), (1, .int p1)] := hl
  have hr : d_X2_secondsUntil v p1 = some r := h
  clear h
  have q_0 : Cond.fieldLink RX2 62 "ApplauseTallies$House" "applause" "I" ∈ wsX2_secondsUntil := List.mem_of_getElem? (i := 1) rfl
  have hn_X2 : ∀ x ∈ wsX20, x ∈ wsX2_secondsUntil := zz_in [16, 17, 18, 19, 20, 21, 22, 23, 24, 25, 26] (by decide +kernel)
  have q_2 : Cond.fieldLink RX2 14 "ApplauseTallies$House" "settings" "LApplauseTallies$Row;" ∈ wsX2_secondsUntil := List.mem_of_getElem? (i := 2) rfl
  have q_3 : Cond.initialized RX7 ∈ wsX2_secondsUntil := List.mem_of_getElem? (i := 10) rfl
  have q_4 : Cond.static yX7_afterSecond ∈ wsX2_secondsUntil := List.mem_of_getElem? (i := 9) rfl
  unfold d_X2_secondsUntil at hr
  refine lv_iload_n X.1 X.2.1 dX2_secondsUntil_0 rfl (lv_at hl 1 rfl) ?_
  refine z_iflt X 11 hr dX2_secondsUntil_1 (by decide) (fun hr => ?_) (fun hr => ?_)
  · refine lv_bipush (v := (-2)) X.1 X.2.1 dX2_secondsUntil_11 (by decide) ?_
    cases hr
    exact z_iret X hW rfl dX2_secondsUntil_13
  · refine lv_iload_n X.1 X.2.1 dX2_secondsUntil_4 rfl (lv_at hl 1 rfl) ?_
    refine lv_sipush (v := 9999) X.1 X.2.1 dX2_secondsUntil_5 (by decide) ?_
    refine z_cmple X 14 hr dX2_secondsUntil_8 (by decide) (fun hr => ?_) (fun hr => ?_)
    · refine lv_aload_n X.1 X.2.1 dX2_secondsUntil_14 rfl (lv_at hl 0 rfl) ?_
      refine z_get X hW 0 2 5 (C := RX2) (T := TX2) (N := 11) rfl rfl hn_X2 (by decide) q_0 rfl dX2_secondsUntil_15 ?_
      refine lv_istore_n (lv' := [(2, .int (v 15 0)), (0, .ref (a 0)), (1, .int p1)]) X.1 X.2.1 dX2_secondsUntil_18 rfl hl (by decide) rfl (fun ls hl => ?_)
      refine lv_iconst (v := 0) X.1 X.2.1 dX2_secondsUntil_19 (by decide) ?_
      refine lv_istore_n (lv' := [(3, .int 0), (2, .int (v 15 0)), (0, .ref (a 0)), (1, .int p1)]) X.1 X.2.1 dX2_secondsUntil_20 rfl hl (by decide) rfl (fun ls hl => ?_)
      have L_21 : ∀ (n_21 : Nat), ∀ (x2 : Int32) (x3 : Int32) (H : Heap) (locs : List Loc) (ls : Array Slot), lp_X2_secondsUntil_21 v p1  n_21 x2 x3 = some r → zW E A s (hsW E a v) H locs → lv_has ls 4 [(0, .ref (a 0)), (1, .int p1), (2, .int x2), (3, .int x3)] → W p l e rm_X2_secondsUntil s m ([.ref (a 0), .int p1] : List Value).toArray below meth c H locs 0 0 (MQ below (zQi E A r (hsW E a v)) ([.ref (a 0), .int p1] : List Value).toArray s 0 0 A) (F0 m 21 ls []) := by
        intro n_21
        induction n_21 with
        | zero => exact fun x2 x3 H locs ls hr hW hl => absurd (show (none : Option (Int32)) = some r from hr) (fun h => by cases h)
        | succ n_21 ih_21 =>
          intro x2 x3 H locs ls hr hW hl
          have hr : lpB_X2_secondsUntil_21 v p1  (lp_X2_secondsUntil_21 v p1  n_21) x2 x3 = some r := hr
          unfold lpB_X2_secondsUntil_21 at hr
          refine lv_iload_n X.1 X.2.1 dX2_secondsUntil_21 rfl (lv_at hl 2 rfl) ?_
          refine lv_iload_n X.1 X.2.1 dX2_secondsUntil_22 rfl (lv_at hl 1 rfl) ?_
          refine z_cmple X 52 hr dX2_secondsUntil_23 (by decide) (fun hr => ?_) (fun hr => ?_)
          · refine lv_iload_n X.1 X.2.1 dX2_secondsUntil_52 rfl (lv_at hl 3 rfl) ?_
            cases hr
            exact z_iret X hW rfl dX2_secondsUntil_53
          · refine lv_iload_n X.1 X.2.1 dX2_secondsUntil_26 rfl (lv_at hl 3 rfl) ?_
            refine lv_sipush (v := 9999) X.1 X.2.1 dX2_secondsUntil_27 (by decide) ?_
            refine z_cmpge X 52 hr dX2_secondsUntil_30 (by decide) (fun hr => ?_) (fun hr => ?_)
            · refine lv_iload_n X.1 X.2.1 dX2_secondsUntil_52 rfl (lv_at hl 3 rfl) ?_
              cases hr
              exact z_iret X hW rfl dX2_secondsUntil_53
            · refine lv_iload_n X.1 X.2.1 dX2_secondsUntil_33 rfl (lv_at hl 2 rfl) ?_
              refine lv_aload_n X.1 X.2.1 dX2_secondsUntil_34 rfl (lv_at hl 0 rfl) ?_
              refine z_get X hW 0 2 0 (C := RX2) (T := TX2) (N := 11) rfl rfl hn_X2 (by decide) q_2 rfl dX2_secondsUntil_35 ?_
              refine lv_iconst (v := 0) X.1 X.2.1 dX2_secondsUntil_38 (by decide) ?_
              have hp_39 := (sp_hs_1 E a v)
              refine z_callp X hW hr hp_39 (fun x h => z_runV (As := [.int 0]) (rest := [.int x2]) X hW hp_39 (c_X5_at l E (zh a 1) 6 (v 0) 0 x h _) hy_X5_at 1 5 (C := RX5) (T := TX5) (N := 1) rfl rfl rfl gX2_secondsUntil_X5_at rfl rfl ⟨by decide, by decide⟩ rfl hl rfl rfl (Nat.le_of_ble_eq_true rfl) dX2_secondsUntil_39 ⟨Nat.zero_le _, Nat.zero_le _⟩) (fun t39 H locs hr hW => ?_)
              have hp_42 := (List.Perm.refl ((hsW E a v)))
              refine z_callp X hW hr hp_42 (fun x h => z_runSN (As := [.int x2, .int t39]) (rest := []) X hW hp_42 (c_X7_afterSecond l E x2 t39 x h _) hy_X7_afterSecond q_3 q_4 (List.mem_of_getElem? (i := 18) rfl) gX2_secondsUntil_X7_afterSecond_n131 rfl rfl ⟨by decide, by decide⟩ rfl hl rfl rfl (Nat.le_of_ble_eq_true rfl) dX2_secondsUntil_42 ⟨Nat.zero_le _, Nat.zero_le _⟩) (fun t42 H locs hr hW => ?_)
              refine lv_istore_n (lv' := [(2, .int t42), (0, .ref (a 0)), (1, .int p1), (3, .int x3)]) X.1 X.2.1 dX2_secondsUntil_45 rfl hl (by decide) rfl (fun ls hl => ?_)
              refine z_iinc X (fun x3_46 => [(3, .int x3_46), (2, .int t42), (0, .ref (a 0)), (1, .int p1)]) hr hl (k := 3) rfl (by decide) (fun _ => rfl) dX2_secondsUntil_46 (fun x3_46 ls hr hl => ?_)
              refine lv_goto (tgt := 21) X.1 X.2.1 dX2_secondsUntil_49 (by decide) ?_
              exact ih_21 t42 x3_46 _ _ _ hr hW (lv_sub hl [2, 3, 1, 0] rfl)
      exact L_21 _ (v 15 0) 0 _ _ _ hr hW (lv_sub hl [2, 3, 1, 0] rfl)
    · refine lv_bipush (v := (-2)) X.1 X.2.1 dX2_secondsUntil_11 (by decide) ?_
      cases hr
      exact z_iret X hW rfl dX2_secondsUntil_13
abbrev rm_X2_clapsUntilEncore : Room := { frames := 1, cells := 0, slots := 0, locals := 21 }
theorem hy_X2_clapsUntilEncore : zY yX2_clapsUntilEncore wsX2_clapsUntilEncore cX2_clapsUntilEncore 4 (some .int) 1 := ⟨⟨_, rfl⟩, by decide, by decide, by decide +kernel⟩
def d_X2_clapsUntilEncore (v : zHV) (p1 : Int32) : Option (Int32) :=
zcl (d_X7_isSeat p1) fun t1 =>
(if t1 = 0 then
some (-1)
else
(if (v 15 3) = (-6) then
some (-5)
else
(if (v 15 5) = 0 then
zcl (d_X5_at 30 (v 1) p1) fun t38 =>
zlet (10 * t38) fun t41 =>
zcl (d_X5_at 6 (v 0) 1) fun t48 =>
zlet (t48 - (v 15 0)) fun t55 =>
(if t41 ≤ 0 then
some 1
else
(if 0 < t55 then
zlet (t55 + t41) fun t71 =>
zlet (t71 - 1) fun t73 =>
zdv t73 t41 fun t75 =>
some t75
else
some 1))
else
some (-5))))
set_option maxHeartbeats 4000000 in
set_option maxRecDepth 100000 in
theorem c_X2_clapsUntilEncore (l : Launch) (E : zE) (a : Nat → Nat) (v : zHV) (p1 : Int32) (r : Int32) (h : d_X2_clapsUntilEncore v p1 = some r) : zMi l E yX2_clapsUntilEncore wsX2_clapsUntilEncore rm_X2_clapsUntilEncore [.ref (a 0), .int p1] (hsW E a v) r (hsW E a v) := by
  intro sz
  refine z_entry (Qc := fun A => zQi E A r (hsW E a v)) (by decide) rfl (Nat.le_of_ble_eq_true rfl) ?_
  intro p e s m below meth c A X hW ls hl
  have X : zX E wsX2_clapsUntilEncore RX2 cX2_clapsUntilEncore 4 (some .int) yX2_clapsUntilEncore p s m ([.ref (a 0), .int p1] : List Value).toArray meth c A := X
  have hl : lv_has ls 4 [(0, .ref (a 0)), (1, .int p1)] := hl
  have hr : d_X2_clapsUntilEncore v p1 = some r := h
  clear h
  have q_0 : Cond.initialized RX7 ∈ wsX2_clapsUntilEncore := List.mem_of_getElem? (i := 7) rfl
  have q_1 : Cond.static yX7_isSeat ∈ wsX2_clapsUntilEncore := List.mem_of_getElem? (i := 6) rfl
  have q_2 : Cond.fieldLink RX2 40 "ApplauseTallies$House" "pieceBy" "I" ∈ wsX2_clapsUntilEncore := List.mem_of_getElem? (i := 1) rfl
  have hn_X2 : ∀ x ∈ wsX20, x ∈ wsX2_clapsUntilEncore := zz_in [15, 16, 17, 18, 19, 20, 21, 22, 23, 24, 25] (by decide +kernel)
  have q_4 : Cond.fieldLink RX2 74 "ApplauseTallies$House" "encoreCame" "Z" ∈ wsX2_clapsUntilEncore := List.mem_of_getElem? (i := 2) rfl
  have q_5 : Cond.fieldLink RX2 23 "ApplauseTallies$House" "seats" "LApplauseTallies$Seats;" ∈ wsX2_clapsUntilEncore := List.mem_of_getElem? (i := 3) rfl
  have hn_X6 : ∀ x ∈ wsX60, x ∈ wsX2_clapsUntilEncore := zz_in [26, 27, 28, 29, 30, 31, 32, 33] (by decide +kernel)
  have q_7 : Cond.fieldLink RX2 14 "ApplauseTallies$House" "settings" "LApplauseTallies$Row;" ∈ wsX2_clapsUntilEncore := List.mem_of_getElem? (i := 4) rfl
  have q_8 : Cond.fieldLink RX2 62 "ApplauseTallies$House" "applause" "I" ∈ wsX2_clapsUntilEncore := List.mem_of_getElem? (i := 5) rfl
  unfold d_X2_clapsUntilEncore at hr
  refine lv_iload_n X.1 X.2.1 dX2_clapsUntilEncore_0 rfl (lv_at hl 1 rfl) ?_
  have hp_1 := (List.Perm.refl ((hsW E a v)))
  refine z_callp X hW hr hp_1 (fun x h => z_runSN (As := [.int p1]) (rest := []) X hW hp_1 (c_X7_isSeat l E p1 x h _) hy_X7_isSeat q_0 q_1 (List.mem_of_getElem? (i := 20) rfl) gX2_clapsUntilEncore_X7_isSeat_n88 rfl rfl ⟨by decide, by decide⟩ rfl hl rfl rfl (Nat.le_of_ble_eq_true rfl) dX2_clapsUntilEncore_1 ⟨Nat.zero_le _, Nat.zero_le _⟩) (fun t1 H locs hr hW => ?_)
  refine z_ifne X 9 hr dX2_clapsUntilEncore_4 (by decide) (fun hr => ?_) (fun hr => ?_)
  · refine lv_aload_n X.1 X.2.1 dX2_clapsUntilEncore_9 rfl (lv_at hl 0 rfl) ?_
    refine z_get X hW 0 2 8 (C := RX2) (T := TX2) (N := 11) rfl rfl hn_X2 (by decide) q_2 rfl dX2_clapsUntilEncore_10 ?_
    refine lv_bipush (v := (-6)) X.1 X.2.1 dX2_clapsUntilEncore_13 (by decide) ?_
    refine z_cmpeq X 25 hr dX2_clapsUntilEncore_15 (by decide) (fun hr => ?_) (fun hr => ?_)
    · refine lv_bipush (v := (-5)) X.1 X.2.1 dX2_clapsUntilEncore_25 (by decide) ?_
      cases hr
      exact z_iret X hW rfl dX2_clapsUntilEncore_27
    · refine lv_aload_n X.1 X.2.1 dX2_clapsUntilEncore_18 rfl (lv_at hl 0 rfl) ?_
      refine z_get X hW 0 2 10 (C := RX2) (T := TX2) (N := 11) rfl rfl hn_X2 (by decide) q_4 rfl dX2_clapsUntilEncore_19 ?_
      refine z_ifeq X 28 hr dX2_clapsUntilEncore_22 (by decide) (fun hr => ?_) (fun hr => ?_)
      · refine lv_bipush (v := 10) X.1 X.2.1 dX2_clapsUntilEncore_28 (by decide) ?_
        refine lv_aload_n X.1 X.2.1 dX2_clapsUntilEncore_30 rfl (lv_at hl 0 rfl) ?_
        refine z_get X hW 0 2 1 (C := RX2) (T := TX2) (N := 11) rfl rfl hn_X2 (by decide) q_5 rfl dX2_clapsUntilEncore_31 ?_
        refine z_getN X hW 3 6 0 (C := RX6) (T := TX6) (N := 8) rfl rfl hn_X6 (by decide) (List.mem_of_getElem? (i := 14) rfl) rfl dX2_clapsUntilEncore_34 ?_
        refine lv_iload_n X.1 X.2.1 dX2_clapsUntilEncore_37 rfl (lv_at hl 1 rfl) ?_
        have hp_38 := (sp_hs_4 E a v)
        refine z_callp X hW hr hp_38 (fun x h => z_runV (As := [.int p1]) (rest := [.int 10]) X hW hp_38 (c_X5_at l E (zh a 4) 30 (v 1) p1 x h _) hy_X5_at 4 5 (C := RX5) (T := TX5) (N := 1) rfl rfl rfl gX2_clapsUntilEncore_X5_at rfl rfl ⟨by decide, by decide⟩ rfl hl rfl rfl (Nat.le_of_ble_eq_true rfl) dX2_clapsUntilEncore_38 ⟨Nat.zero_le _, Nat.zero_le _⟩) (fun t38 H locs hr hW => ?_)
        refine z_imul X hr dX2_clapsUntilEncore_41 (fun t41 hr => ?_)
        refine lv_istore_n (lv' := [(2, .int t41), (0, .ref (a 0)), (1, .int p1)]) X.1 X.2.1 dX2_clapsUntilEncore_42 rfl hl (by decide) rfl (fun ls hl => ?_)
        refine lv_aload_n X.1 X.2.1 dX2_clapsUntilEncore_43 rfl (lv_at hl 1 rfl) ?_
        refine z_get X hW 0 2 0 (C := RX2) (T := TX2) (N := 11) rfl rfl hn_X2 (by decide) q_7 rfl dX2_clapsUntilEncore_44 ?_
        refine lv_iconst (v := 1) X.1 X.2.1 dX2_clapsUntilEncore_47 (by decide) ?_
        have hp_48 := (sp_hs_1 E a v)
        refine z_callp X hW hr hp_48 (fun x h => z_runV (As := [.int 1]) (rest := []) X hW hp_48 (c_X5_at l E (zh a 1) 6 (v 0) 1 x h _) hy_X5_at 1 5 (C := RX5) (T := TX5) (N := 1) rfl rfl rfl gX2_clapsUntilEncore_X5_at rfl rfl ⟨by decide, by decide⟩ rfl hl rfl rfl (Nat.le_of_ble_eq_true rfl) dX2_clapsUntilEncore_48 ⟨Nat.zero_le _, Nat.zero_le _⟩) (fun t48 H locs hr hW => ?_)
        refine lv_aload_n X.1 X.2.1 dX2_clapsUntilEncore_51 rfl (lv_at hl 1 rfl) ?_
        refine z_get X hW 0 2 5 (C := RX2) (T := TX2) (N := 11) rfl rfl hn_X2 (by decide) q_8 rfl dX2_clapsUntilEncore_52 ?_
        refine z_isub X hr dX2_clapsUntilEncore_55 (fun t55 hr => ?_)
        refine lv_istore_n (lv' := [(3, .int t55), (2, .int t41), (0, .ref (a 0)), (1, .int p1)]) X.1 X.2.1 dX2_clapsUntilEncore_56 rfl hl (by decide) rfl (fun ls hl => ?_)
        refine lv_iload_n X.1 X.2.1 dX2_clapsUntilEncore_57 rfl (lv_at hl 1 rfl) ?_
        refine z_ifle X 65 hr dX2_clapsUntilEncore_58 (by decide) (fun hr => ?_) (fun hr => ?_)
        · refine lv_iconst (v := 1) X.1 X.2.1 dX2_clapsUntilEncore_65 (by decide) ?_
          refine lv_goto (tgt := 76) X.1 X.2.1 dX2_clapsUntilEncore_66 (by decide) ?_
          cases hr
          exact z_iret X hW rfl dX2_clapsUntilEncore_76
        · refine lv_iload_n X.1 X.2.1 dX2_clapsUntilEncore_61 rfl (lv_at hl 0 rfl) ?_
          refine z_ifgt X 69 hr dX2_clapsUntilEncore_62 (by decide) (fun hr => ?_) (fun hr => ?_)
          · refine lv_iload_n X.1 X.2.1 dX2_clapsUntilEncore_69 rfl (lv_at hl 0 rfl) ?_
            refine lv_iload_n X.1 X.2.1 dX2_clapsUntilEncore_70 rfl (lv_at hl 1 rfl) ?_
            refine z_iadd X hr dX2_clapsUntilEncore_71 (fun t71 hr => ?_)
            refine lv_iconst (v := 1) X.1 X.2.1 dX2_clapsUntilEncore_72 (by decide) ?_
            refine z_isub X hr dX2_clapsUntilEncore_73 (fun t73 hr => ?_)
            refine lv_iload_n X.1 X.2.1 dX2_clapsUntilEncore_74 rfl (lv_at hl 1 rfl) ?_
            refine z_idiv X hr dX2_clapsUntilEncore_75 (fun t75 hr => ?_)
            cases hr
            exact z_iret X hW rfl dX2_clapsUntilEncore_76
          · refine lv_iconst (v := 1) X.1 X.2.1 dX2_clapsUntilEncore_65 (by decide) ?_
            refine lv_goto (tgt := 76) X.1 X.2.1 dX2_clapsUntilEncore_66 (by decide) ?_
            cases hr
            exact z_iret X hW rfl dX2_clapsUntilEncore_76
      · refine lv_bipush (v := (-5)) X.1 X.2.1 dX2_clapsUntilEncore_25 (by decide) ?_
        cases hr
        exact z_iret X hW rfl dX2_clapsUntilEncore_27
  · refine lv_iconst (v := (-1)) X.1 X.2.1 dX2_clapsUntilEncore_7 (by decide) ?_
    cases hr
    exact z_iret X hW rfl dX2_clapsUntilEncore_8
abbrev rm_X2_secondsUntilLapse : Room := { frames := 2, cells := 0, slots := 0, locals := 43 }
theorem hy_X2_secondsUntilLapse : zY yX2_secondsUntilLapse wsX2_secondsUntilLapse cX2_secondsUntilLapse 4 (some .int) 1 := ⟨⟨_, rfl⟩, by decide, by decide, by decide +kernel⟩
def d_X2_secondsUntilLapse (v : zHV) (p1 : Int32) : Option (Int32) :=
zcl (d_X7_isPerformer p1) fun t1 =>
(if t1 = 0 then
some (-1)
else
zcl (d_X0_earliestOf (zh v 7) p1) fun t14 =>
(if t14 = (-6) then
some (-6)
else
zcl (d_X5_at 8 (v 8) t14) fun t39 =>
zlet ((v 15 1) - t39) fun t42 =>
zcl (d_X5_at 6 (v 0) 2) fun t49 =>
zlet (t49 - t42) fun t53 =>
zlet (if t53 < 1 then 1 else t53) fun t55 =>
some t55))
set_option maxHeartbeats 4000000 in
set_option maxRecDepth 100000 in
theorem c_X2_secondsUntilLapse (l : Launch) (E : zE) (a : Nat → Nat) (v : zHV) (p1 : Int32) (r : Int32) (h : d_X2_secondsUntilLapse v p1 = some r) : zMi l E yX2_secondsUntilLapse wsX2_secondsUntilLapse rm_X2_secondsUntilLapse [.ref (a 0), .int p1] (hsW E a v) r (hsW E a v) := by
  intro sz
  refine z_entry (Qc := fun A => zQi E A r (hsW E a v)) (by decide) rfl (Nat.le_of_ble_eq_true rfl) ?_
  intro p e s m below meth c A X hW ls hl
  have X : zX E wsX2_secondsUntilLapse RX2 cX2_secondsUntilLapse 4 (some .int) yX2_secondsUntilLapse p s m ([.ref (a 0), .int p1] : List Value).toArray meth c A := X
  have hl : lv_has ls 4 [(0, .ref (a 0)), (1, .int p1)] := hl
  have hr : d_X2_secondsUntilLapse v p1 = some r := h
  clear h
  have q_0 : Cond.initialized RX7 ∈ wsX2_secondsUntilLapse := List.mem_of_getElem? (i := 9) rfl
  have q_1 : Cond.static yX7_isPerformer ∈ wsX2_secondsUntilLapse := List.mem_of_getElem? (i := 8) rfl
  have q_2 : Cond.fieldLink RX2 30 "ApplauseTallies$House" "encores" "LApplauseTallies$Encores;" ∈ wsX2_secondsUntilLapse := List.mem_of_getElem? (i := 1) rfl
  have hn_X2 : ∀ x ∈ wsX20, x ∈ wsX2_secondsUntilLapse := zz_in [25, 26, 27, 28, 29, 30, 31, 32, 33, 34, 35] (by decide +kernel)
  have q_4 : Cond.fieldLink RX2 65 "ApplauseTallies$House" "time" "I" ∈ wsX2_secondsUntilLapse := List.mem_of_getElem? (i := 2) rfl
  have hn_X0 : ∀ x ∈ wsX00, x ∈ wsX2_secondsUntilLapse := zz_in [36, 37, 38, 39, 40, 41] (by decide +kernel)
  have q_6 : Cond.fieldLink RX2 14 "ApplauseTallies$House" "settings" "LApplauseTallies$Row;" ∈ wsX2_secondsUntilLapse := List.mem_of_getElem? (i := 3) rfl
  have q_7 : Cond.methodLink RX2 195 Lib.Math.max.name ∈ wsX2_secondsUntilLapse := List.mem_of_getElem? (i := 4) rfl
  have q_8 : Cond.static Lib.Math.max.name ∈ wsX2_secondsUntilLapse := List.mem_of_getElem? (i := 5) rfl
  have q_9 : Cond.initialized "java/lang/Math" ∈ wsX2_secondsUntilLapse := List.mem_of_getElem? (i := 6) rfl
  have q_10 : Cond.code Lib.Math.max.name Lib.Math.max.code 2 (some .int) ∈ wsX2_secondsUntilLapse := List.mem_of_getElem? (i := 7) rfl
  unfold d_X2_secondsUntilLapse at hr
  refine lv_iload_n X.1 X.2.1 dX2_secondsUntilLapse_0 rfl (lv_at hl 1 rfl) ?_
  have hp_1 := (List.Perm.refl ((hsW E a v)))
  refine z_callp X hW hr hp_1 (fun x h => z_runSN (As := [.int p1]) (rest := []) X hW hp_1 (c_X7_isPerformer l E p1 x h _) hy_X7_isPerformer q_0 q_1 (List.mem_of_getElem? (i := 21) rfl) gX2_secondsUntilLapse_X7_isPerformer_n98 rfl rfl ⟨by decide, by decide⟩ rfl hl rfl rfl (Nat.le_of_ble_eq_true rfl) dX2_secondsUntilLapse_1 ⟨Nat.zero_le _, Nat.zero_le _⟩) (fun t1 H locs hr hW => ?_)
  refine z_ifne X 9 hr dX2_secondsUntilLapse_4 (by decide) (fun hr => ?_) (fun hr => ?_)
  · refine lv_aload_n X.1 X.2.1 dX2_secondsUntilLapse_9 rfl (lv_at hl 0 rfl) ?_
    refine z_get X hW 0 2 2 (C := RX2) (T := TX2) (N := 11) rfl rfl hn_X2 (by decide) q_2 rfl dX2_secondsUntilLapse_10 ?_
    refine lv_iload_n X.1 X.2.1 dX2_secondsUntilLapse_13 rfl (lv_at hl 1 rfl) ?_
    have hp_14 := (sp_hs_14 E a v)
    refine z_callp X hW hr hp_14 (fun x h => z_runV (As := [.int p1]) (rest := []) X hW hp_14 (c_X0_earliestOf l E (zh a 14) (zh v 7) p1 x h _) hy_X0_earliestOf 14 0 (C := RX0) (T := TX0) (N := 6) rfl rfl rfl gX2_secondsUntilLapse_X0_earliestOf rfl rfl ⟨by decide, by decide⟩ rfl hl rfl rfl (Nat.le_of_ble_eq_true rfl) dX2_secondsUntilLapse_14 ⟨Nat.zero_le _, Nat.zero_le _⟩) (fun t14 H locs hr hW => ?_)
    refine lv_istore_n (lv' := [(2, .int t14), (0, .ref (a 0)), (1, .int p1)]) X.1 X.2.1 dX2_secondsUntilLapse_17 rfl hl (by decide) rfl (fun ls hl => ?_)
    refine lv_iload_n X.1 X.2.1 dX2_secondsUntilLapse_18 rfl (lv_at hl 0 rfl) ?_
    refine lv_bipush (v := (-6)) X.1 X.2.1 dX2_secondsUntilLapse_19 (by decide) ?_
    refine z_cmpne X 27 hr dX2_secondsUntilLapse_21 (by decide) (fun hr => ?_) (fun hr => ?_)
    · refine lv_aload_n X.1 X.2.1 dX2_secondsUntilLapse_27 rfl (lv_at hl 1 rfl) ?_
      refine z_get X hW 0 2 6 (C := RX2) (T := TX2) (N := 11) rfl rfl hn_X2 (by decide) q_4 rfl dX2_secondsUntilLapse_28 ?_
      refine lv_aload_n X.1 X.2.1 dX2_secondsUntilLapse_31 rfl (lv_at hl 1 rfl) ?_
      refine z_get X hW 0 2 2 (C := RX2) (T := TX2) (N := 11) rfl rfl hn_X2 (by decide) q_2 rfl dX2_secondsUntilLapse_32 ?_
      refine z_getN X hW 14 0 1 (C := RX0) (T := TX0) (N := 6) rfl rfl hn_X0 (by decide) (List.mem_of_getElem? (i := 10) rfl) rfl dX2_secondsUntilLapse_35 ?_
      refine lv_iload_n X.1 X.2.1 dX2_secondsUntilLapse_38 rfl (lv_at hl 0 rfl) ?_
      have hp_39 := (sp_hs_17 E a v)
      refine z_callp X hW hr hp_39 (fun x h => z_runV (As := [.int t14]) (rest := [.int (v 15 1)]) X hW hp_39 (c_X5_at l E (zh a 17) 8 (v 8) t14 x h _) hy_X5_at 17 5 (C := RX5) (T := TX5) (N := 1) rfl rfl rfl gX2_secondsUntilLapse_X5_at rfl rfl ⟨by decide, by decide⟩ rfl hl rfl rfl (Nat.le_of_ble_eq_true rfl) dX2_secondsUntilLapse_39 ⟨Nat.zero_le _, Nat.zero_le _⟩) (fun t39 H locs hr hW => ?_)
      refine z_isub X hr dX2_secondsUntilLapse_42 (fun t42 hr => ?_)
      refine lv_istore_n (lv' := [(3, .int t42), (2, .int t14), (0, .ref (a 0)), (1, .int p1)]) X.1 X.2.1 dX2_secondsUntilLapse_43 rfl hl (by decide) rfl (fun ls hl => ?_)
      refine lv_aload_n X.1 X.2.1 dX2_secondsUntilLapse_44 rfl (lv_at hl 2 rfl) ?_
      refine z_get X hW 0 2 0 (C := RX2) (T := TX2) (N := 11) rfl rfl hn_X2 (by decide) q_6 rfl dX2_secondsUntilLapse_45 ?_
      refine lv_iconst (v := 2) X.1 X.2.1 dX2_secondsUntilLapse_48 (by decide) ?_
      have hp_49 := (sp_hs_1 E a v)
      refine z_callp X hW hr hp_49 (fun x h => z_runV (As := [.int 2]) (rest := []) X hW hp_49 (c_X5_at l E (zh a 1) 6 (v 0) 2 x h _) hy_X5_at 1 5 (C := RX5) (T := TX5) (N := 1) rfl rfl rfl gX2_secondsUntilLapse_X5_at rfl rfl ⟨by decide, by decide⟩ rfl hl rfl rfl (Nat.le_of_ble_eq_true rfl) dX2_secondsUntilLapse_49 ⟨Nat.zero_le _, Nat.zero_le _⟩) (fun t49 H locs hr hW => ?_)
      refine lv_iload_n X.1 X.2.1 dX2_secondsUntilLapse_52 rfl (lv_at hl 0 rfl) ?_
      refine z_isub X hr dX2_secondsUntilLapse_53 (fun t53 hr => ?_)
      refine lv_iconst (v := 1) X.1 X.2.1 dX2_secondsUntilLapse_54 (by decide) ?_
      refine z_max X hl rfl hr q_7 q_8 q_9 q_10 (by decide) (Nat.le_of_ble_eq_true rfl) (Nat.zero_le _) (Nat.zero_le _) dX2_secondsUntilLapse_55 (fun t55 hr => ?_)
      cases hr
      exact z_iret X hW rfl dX2_secondsUntilLapse_58
    · refine lv_bipush (v := (-6)) X.1 X.2.1 dX2_secondsUntilLapse_24 (by decide) ?_
      cases hr
      exact z_iret X hW rfl dX2_secondsUntilLapse_26
  · refine lv_iconst (v := (-1)) X.1 X.2.1 dX2_secondsUntilLapse_7 (by decide) ?_
    cases hr
    exact z_iret X hW rfl dX2_secondsUntilLapse_8
abbrev rm_X2_curtainsLeft : Room := { frames := 1, cells := 0, slots := 0, locals := 21 }
theorem hy_X2_curtainsLeft : zY yX2_curtainsLeft wsX2_curtainsLeft cX2_curtainsLeft 3 (some .int) 0 := ⟨⟨_, rfl⟩, by decide, by decide, by decide +kernel⟩
def lpB_X2_curtainsLeft_7 (v : zHV)  (k_7 : Int32 → Int32 → Option (Int32)) (x1 : Int32) (x2 : Int32) : Option (Int32) :=
(if x1 ≤ 0 then
some x2
else
zcl (d_X5_at 6 (v 0) 5) fun t17 =>
(if x1 < t17 then
some x2
else
zdv x1 2 fun t25 =>
zlet (x2 + Int32.ofInt 1) fun x2_27 =>
k_7 t25 x2_27))
def lp_X2_curtainsLeft_7 (v : zHV)  : Nat → Int32 → Int32 → Option (Int32)
  | 0 => fun _ _ => none
  | n_ + 1 => lpB_X2_curtainsLeft_7 v  (lp_X2_curtainsLeft_7 v  n_)
def d_X2_curtainsLeft (v : zHV) : Option (Int32) :=
lp_X2_curtainsLeft_7 v  zF (v 15 0) 0
set_option maxHeartbeats 4000000 in
set_option maxRecDepth 100000 in
theorem c_X2_curtainsLeft (l : Launch) (E : zE) (a : Nat → Nat) (v : zHV) (r : Int32) (h : d_X2_curtainsLeft v = some r) : zMi l E yX2_curtainsLeft wsX2_curtainsLeft rm_X2_curtainsLeft [.ref (a 0)] (hsW E a v) r (hsW E a v) := by
  intro sz
  refine z_entry (Qc := fun A => zQi E A r (hsW E a v)) (by decide) rfl (Nat.le_of_ble_eq_true rfl) ?_
  intro p e s m below meth c A X hW ls hl
  have X : zX E wsX2_curtainsLeft RX2 cX2_curtainsLeft 3 (some .int) yX2_curtainsLeft p s m ([.ref (a 0)] : List Value).toArray meth c A := X
  have hl : lv_has ls 3 [(0, .ref (a 0))] := hl
  have hr : d_X2_curtainsLeft v = some r := h
  clear h
  have q_0 : Cond.fieldLink RX2 62 "ApplauseTallies$House" "applause" "I" ∈ wsX2_curtainsLeft := List.mem_of_getElem? (i := 1) rfl
  have hn_X2 : ∀ x ∈ wsX20, x ∈ wsX2_curtainsLeft := zz_in [9, 10, 11, 12, 13, 14, 15, 16, 17, 18, 19] (by decide +kernel)
  have q_2 : Cond.fieldLink RX2 14 "ApplauseTallies$House" "settings" "LApplauseTallies$Row;" ∈ wsX2_curtainsLeft := List.mem_of_getElem? (i := 2) rfl
  unfold d_X2_curtainsLeft at hr
  refine lv_aload_n X.1 X.2.1 dX2_curtainsLeft_0 rfl (lv_at hl 0 rfl) ?_
  refine z_get X hW 0 2 5 (C := RX2) (T := TX2) (N := 11) rfl rfl hn_X2 (by decide) q_0 rfl dX2_curtainsLeft_1 ?_
  refine lv_istore_n (lv' := [(1, .int (v 15 0)), (0, .ref (a 0))]) X.1 X.2.1 dX2_curtainsLeft_4 rfl hl (by decide) rfl (fun ls hl => ?_)
  refine lv_iconst (v := 0) X.1 X.2.1 dX2_curtainsLeft_5 (by decide) ?_
  refine lv_istore_n (lv' := [(2, .int 0), (1, .int (v 15 0)), (0, .ref (a 0))]) X.1 X.2.1 dX2_curtainsLeft_6 rfl hl (by decide) rfl (fun ls hl => ?_)
  have L_7 : ∀ (n_7 : Nat), ∀ (x1 : Int32) (x2 : Int32) (H : Heap) (locs : List Loc) (ls : Array Slot), lp_X2_curtainsLeft_7 v  n_7 x1 x2 = some r → zW E A s (hsW E a v) H locs → lv_has ls 3 [(0, .ref (a 0)), (1, .int x1), (2, .int x2)] → W p l e rm_X2_curtainsLeft s m ([.ref (a 0)] : List Value).toArray below meth c H locs 0 0 (MQ below (zQi E A r (hsW E a v)) ([.ref (a 0)] : List Value).toArray s 0 0 A) (F0 m 7 ls []) := by
    intro n_7
    induction n_7 with
    | zero => exact fun x1 x2 H locs ls hr hW hl => absurd (show (none : Option (Int32)) = some r from hr) (fun h => by cases h)
    | succ n_7 ih_7 =>
      intro x1 x2 H locs ls hr hW hl
      have hr : lpB_X2_curtainsLeft_7 v  (lp_X2_curtainsLeft_7 v  n_7) x1 x2 = some r := hr
      unfold lpB_X2_curtainsLeft_7 at hr
      refine lv_iload_n X.1 X.2.1 dX2_curtainsLeft_7 rfl (lv_at hl 1 rfl) ?_
      refine z_ifle X 33 hr dX2_curtainsLeft_8 (by decide) (fun hr => ?_) (fun hr => ?_)
      · refine lv_iload_n X.1 X.2.1 dX2_curtainsLeft_33 rfl (lv_at hl 2 rfl) ?_
        cases hr
        exact z_iret X hW rfl dX2_curtainsLeft_34
      · refine lv_iload_n X.1 X.2.1 dX2_curtainsLeft_11 rfl (lv_at hl 1 rfl) ?_
        refine lv_aload_n X.1 X.2.1 dX2_curtainsLeft_12 rfl (lv_at hl 0 rfl) ?_
        refine z_get X hW 0 2 0 (C := RX2) (T := TX2) (N := 11) rfl rfl hn_X2 (by decide) q_2 rfl dX2_curtainsLeft_13 ?_
        refine lv_iconst (v := 5) X.1 X.2.1 dX2_curtainsLeft_16 (by decide) ?_
        have hp_17 := (sp_hs_1 E a v)
        refine z_callp X hW hr hp_17 (fun x h => z_runV (As := [.int 5]) (rest := [.int x1]) X hW hp_17 (c_X5_at l E (zh a 1) 6 (v 0) 5 x h _) hy_X5_at 1 5 (C := RX5) (T := TX5) (N := 1) rfl rfl rfl gX2_curtainsLeft_X5_at rfl rfl ⟨by decide, by decide⟩ rfl hl rfl rfl (Nat.le_of_ble_eq_true rfl) dX2_curtainsLeft_17 ⟨Nat.zero_le _, Nat.zero_le _⟩) (fun t17 H locs hr hW => ?_)
        refine z_cmplt X 33 hr dX2_curtainsLeft_20 (by decide) (fun hr => ?_) (fun hr => ?_)
        · refine lv_iload_n X.1 X.2.1 dX2_curtainsLeft_33 rfl (lv_at hl 2 rfl) ?_
          cases hr
          exact z_iret X hW rfl dX2_curtainsLeft_34
        · refine lv_iload_n X.1 X.2.1 dX2_curtainsLeft_23 rfl (lv_at hl 1 rfl) ?_
          refine lv_iconst (v := 2) X.1 X.2.1 dX2_curtainsLeft_24 (by decide) ?_
          refine z_idiv X hr dX2_curtainsLeft_25 (fun t25 hr => ?_)
          refine lv_istore_n (lv' := [(1, .int t25), (0, .ref (a 0)), (2, .int x2)]) X.1 X.2.1 dX2_curtainsLeft_26 rfl hl (by decide) rfl (fun ls hl => ?_)
          refine z_iinc X (fun x2_27 => [(2, .int x2_27), (1, .int t25), (0, .ref (a 0))]) hr hl (k := 2) rfl (by decide) (fun _ => rfl) dX2_curtainsLeft_27 (fun x2_27 ls hr hl => ?_)
          refine lv_goto (tgt := 7) X.1 X.2.1 dX2_curtainsLeft_30 (by decide) ?_
          exact ih_7 t25 x2_27 _ _ _ hr hW (lv_sub hl [2, 1, 0] rfl)
  exact L_7 _ (v 15 0) 0 _ _ _ hr hW (lv_sub hl [2, 1, 0] rfl)
