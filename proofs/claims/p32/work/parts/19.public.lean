/-! ===== the public object: the house at a 1.., the reader and the pad at a 30.., the history at a 33..; the slots at b ===== -/
def xoW (E : zE) (a b : Nat → Nat) : va_W := [(a 0, .inr (7, [.ref (zh a 1 0), .ref (zh a 33 0), .ref (b 0), .ref (zh a 30 1), .ref (zh a 30 0)]))]
def slH (E : zE) (b : Nat → Nat) (q : zHI) (k : Nat) : va_W := if q 2 0 k = 1 then hsW E (zh b (1 + 29 * k)) (q k) else []
def slW (E : zE) (b : Nat → Nat) (q : zHI) : va_W := (b 0, .inl (E.2.2.1, 2, .inr (.inr (.inr (.inr (fun j => if q 2 0 j = 1 then some (b (1 + 29 * j)) else none)))))) :: (slH E b q 0 ++ slH E b q 1)
abbrev rm_X7_set : Room := { frames := 5, cells := 0, slots := 0, locals := 123 }
theorem hy_X7_set : zY yX7_set wsX7_set cX7_set 3 (some .int) 2 := ⟨⟨_, rfl⟩, by decide, by decide, by decide +kernel⟩
def d_X7_set (v : zHV) (w : zHV) (u : zHI) (q : zHI) (p1 : Int32) (p2 : Int32) : Option (Int32 × zHV × zHI) :=
zup (d_X1_setAside v u) (fun z9 => z9) fun u8 =>
zup2 (d_X2_changeSetting v p1 p2) (fun z9 => z9) fun t21 v21 =>
zup2 (d_X1_keepUnlessError u8 t21) (fun z9 => z9) fun t24 u24 =>
some (t24, v21, u24)
set_option maxHeartbeats 4000000 in
set_option maxRecDepth 100000 in
theorem c_X7_set (l : Launch) (E : zE) (a b : Nat → Nat) (v : zHV) (w : zHV) (u : zHI) (q : zHI) (p1 : Int32) (p2 : Int32) (r : Int32 × zHV × zHI) (h : d_X7_set v w u q p1 p2 = some r) : zMi l E yX7_set wsX7_set rm_X7_set [.ref (a 0), .int p1, .int p2] ((xoW E a b) ++ ((hsW E (zh a 1) v) ++ ((rdW E (zh a 30) w) ++ ((hiW E (zh a 33) u) ++ (slW E b q))))) r.1 ((xoW E a b) ++ ((hsW E (zh a 1) r.2.1) ++ ((rdW E (zh a 30) w) ++ ((hiW E (zh a 33) r.2.2) ++ (slW E b q))))) := by
  intro sz
  refine z_entry (Qc := fun A => zQi E A r.1 ((xoW E a b) ++ ((hsW E (zh a 1) r.2.1) ++ ((rdW E (zh a 30) w) ++ ((hiW E (zh a 33) r.2.2) ++ (slW E b q)))))) (by decide) rfl (Nat.le_of_ble_eq_true rfl) ?_
  intro p e s m below meth c A X hW ls hl
  have X : zX E wsX7_set RX7 cX7_set 3 (some .int) yX7_set p s m ([.ref (a 0), .int p1, .int p2] : List Value).toArray meth c A := X
  have hl : lv_has ls 3 [(0, .ref (a 0)), (1, .int p1), (2, .int p2)] := hl
  have hr : d_X7_set v w u q p1 p2 = some r := h
  clear h
  have q_0 : Cond.fieldLink RX7 19 "ApplauseTallies" "history" "LApplauseTallies$History;" ∈ wsX7_set := List.mem_of_getElem? (i := 1) rfl
  have hn_X7 : ∀ x ∈ wsX70, x ∈ wsX7_set := zz_in [88, 89, 90, 91, 92] (by decide +kernel)
  have q_2 : Cond.fieldLink RX7 10 "ApplauseTallies" "house" "LApplauseTallies$House;" ∈ wsX7_set := List.mem_of_getElem? (i := 2) rfl
  unfold d_X7_set at hr
  refine lv_aload_n X.1 X.2.1 dX7_set_0 rfl (lv_at hl 0 rfl) ?_
  refine z_get X hW 0 7 1 (C := RX7) (T := TX7) (N := 5) rfl rfl hn_X7 (by decide) q_0 rfl dX7_set_1 ?_
  refine lv_aload_n X.1 X.2.1 dX7_set_4 rfl (lv_at hl 0 rfl) ?_
  refine z_get X hW 0 7 0 (C := RX7) (T := TX7) (N := 5) rfl rfl hn_X7 (by decide) q_2 rfl dX7_set_5 ?_
  have hp_8 := (z_spr (xoW E a b) (z_sp2 (z_all (hsW E (zh a 1) v)) (z_spr (rdW E (zh a 30) w) (z_spl (slW E b q) (z_all (hiW E (zh a 33) u))))))
  refine z_callv X hW (fun z9 => z9) hr hp_8 (fun z9 => ((hsW E (zh a 1) v) ++ (hiW E (zh a 33) z9))) (fun u8 => ((xoW E a b) ++ ((hsW E (zh a 1) v) ++ ((rdW E (zh a 30) w) ++ ((hiW E (zh a 33) u8) ++ (slW E b q)))))) (fun z9 => (z_jnr (xoW E a b) (z_jn2 (z_lla (hsW E (zh a 1) v)) (z_jnr (rdW E (zh a 30) w) (z_jnl (slW E b q) (z_lla (hiW E (zh a 33) z9))))))) (fun z9 h => z_runV (As := [.ref ((zh a 1) 0)]) (rest := []) X hW hp_8 (c_X1_setAside l E (zh a 1) (zh a 33) v u z9 h _) hy_X1_setAside 33 1 (C := RX1) (T := TX1) (N := 3) rfl rfl rfl gX7_set_X1_setAside rfl rfl ⟨by decide, by decide⟩ rfl hl rfl rfl (Nat.le_of_ble_eq_true rfl) dX7_set_8 ⟨Nat.zero_le _, Nat.zero_le _⟩) (fun u8 H locs hr hW => ?_)
  refine lv_aload_n X.1 X.2.1 dX7_set_11 rfl (lv_at hl 0 rfl) ?_
  refine z_get X hW 0 7 1 (C := RX7) (T := TX7) (N := 5) rfl rfl hn_X7 (by decide) q_0 rfl dX7_set_12 ?_
  refine lv_aload_n X.1 X.2.1 dX7_set_15 rfl (lv_at hl 0 rfl) ?_
  refine z_get X hW 0 7 0 (C := RX7) (T := TX7) (N := 5) rfl rfl hn_X7 (by decide) q_2 rfl dX7_set_16 ?_
  refine lv_iload_n X.1 X.2.1 dX7_set_19 rfl (lv_at hl 1 rfl) ?_
  refine lv_iload_n X.1 X.2.1 dX7_set_20 rfl (lv_at hl 2 rfl) ?_
  have hp_21 := (z_spr (xoW E a b) (z_spl ((rdW E (zh a 30) w) ++ ((hiW E (zh a 33) u8) ++ (slW E b q))) (z_all (hsW E (zh a 1) v))))
  refine z_calli X hW (fun z9 => z9) hr hp_21 (fun z9 => (hsW E (zh a 1) z9)) (fun v21 => ((xoW E a b) ++ ((hsW E (zh a 1) v21) ++ ((rdW E (zh a 30) w) ++ ((hiW E (zh a 33) u8) ++ (slW E b q)))))) (fun z9 => (z_jnr (xoW E a b) (z_jnl ((rdW E (zh a 30) w) ++ ((hiW E (zh a 33) u8) ++ (slW E b q))) (z_lla (hsW E (zh a 1) z9))))) (fun x z9 h => z_runV (As := [.int p1, .int p2]) (rest := [.ref ((zh a 33) 0)]) X hW hp_21 (c_X2_changeSetting l E (zh a 1) v p1 p2 (x, z9) h _) hy_X2_changeSetting 1 2 (C := RX2) (T := TX2) (N := 11) rfl rfl rfl gX7_set_X2_changeSetting rfl rfl ⟨by decide, by decide⟩ rfl hl rfl rfl (Nat.le_of_ble_eq_true rfl) dX7_set_21 ⟨Nat.zero_le _, Nat.zero_le _⟩) (fun t21 v21 H locs hr hW => ?_)
  have hp_24 := (z_spr (xoW E a b) (z_spr (hsW E (zh a 1) v21) (z_spr (rdW E (zh a 30) w) (z_spl (slW E b q) (z_all (hiW E (zh a 33) u8))))))
  refine z_calli X hW (fun z9 => z9) hr hp_24 (fun z9 => (hiW E (zh a 33) z9)) (fun u24 => ((xoW E a b) ++ ((hsW E (zh a 1) v21) ++ ((rdW E (zh a 30) w) ++ ((hiW E (zh a 33) u24) ++ (slW E b q)))))) (fun z9 => (z_jnr (xoW E a b) (z_jnr (hsW E (zh a 1) v21) (z_jnr (rdW E (zh a 30) w) (z_jnl (slW E b q) (z_lla (hiW E (zh a 33) z9))))))) (fun x z9 h => z_runV (As := [.int t21]) (rest := []) X hW hp_24 (c_X1_keepUnlessError l E (zh a 33) u8 t21 (x, z9) h _) hy_X1_keepUnlessError 33 1 (C := RX1) (T := TX1) (N := 3) rfl rfl rfl gX7_set_X1_keepUnlessError rfl rfl ⟨by decide, by decide⟩ rfl hl rfl rfl (Nat.le_of_ble_eq_true rfl) dX7_set_24 ⟨Nat.zero_le _, Nat.zero_le _⟩) (fun t24 u24 H locs hr hW => ?_)
  cases hr
  exact z_iret X hW rfl dX7_set_27
abbrev rm_X7_loud : Room := { frames := 5, cells := 0, slots := 0, locals := 123 }
theorem hy_X7_loud : zY yX7_loud wsX7_loud cX7_loud 3 (some .int) 2 := ⟨⟨_, rfl⟩, by decide, by decide, by decide +kernel⟩
def d_X7_loud (v : zHV) (w : zHV) (u : zHI) (q : zHI) (p1 : Int32) (p2 : Int32) : Option (Int32 × zHV × zHI) :=
zup (d_X1_setAside v u) (fun z9 => z9) fun u8 =>
zup2 (d_X2_changeLoudness v p1 p2) (fun z9 => z9) fun t21 v21 =>
zup2 (d_X1_keepUnlessError u8 t21) (fun z9 => z9) fun t24 u24 =>
some (t24, v21, u24)
set_option maxHeartbeats 4000000 in
set_option maxRecDepth 100000 in
theorem c_X7_loud (l : Launch) (E : zE) (a b : Nat → Nat) (v : zHV) (w : zHV) (u : zHI) (q : zHI) (p1 : Int32) (p2 : Int32) (r : Int32 × zHV × zHI) (h : d_X7_loud v w u q p1 p2 = some r) : zMi l E yX7_loud wsX7_loud rm_X7_loud [.ref (a 0), .int p1, .int p2] ((xoW E a b) ++ ((hsW E (zh a 1) v) ++ ((rdW E (zh a 30) w) ++ ((hiW E (zh a 33) u) ++ (slW E b q))))) r.1 ((xoW E a b) ++ ((hsW E (zh a 1) r.2.1) ++ ((rdW E (zh a 30) w) ++ ((hiW E (zh a 33) r.2.2) ++ (slW E b q))))) := by
  intro sz
  refine z_entry (Qc := fun A => zQi E A r.1 ((xoW E a b) ++ ((hsW E (zh a 1) r.2.1) ++ ((rdW E (zh a 30) w) ++ ((hiW E (zh a 33) r.2.2) ++ (slW E b q)))))) (by decide) rfl (Nat.le_of_ble_eq_true rfl) ?_
  intro p e s m below meth c A X hW ls hl
  have X : zX E wsX7_loud RX7 cX7_loud 3 (some .int) yX7_loud p s m ([.ref (a 0), .int p1, .int p2] : List Value).toArray meth c A := X
  have hl : lv_has ls 3 [(0, .ref (a 0)), (1, .int p1), (2, .int p2)] := hl
  have hr : d_X7_loud v w u q p1 p2 = some r := h
  clear h
  have q_0 : Cond.fieldLink RX7 19 "ApplauseTallies" "history" "LApplauseTallies$History;" ∈ wsX7_loud := List.mem_of_getElem? (i := 1) rfl
  have hn_X7 : ∀ x ∈ wsX70, x ∈ wsX7_loud := zz_in [91, 92, 93, 94, 95] (by decide +kernel)
  have q_2 : Cond.fieldLink RX7 10 "ApplauseTallies" "house" "LApplauseTallies$House;" ∈ wsX7_loud := List.mem_of_getElem? (i := 2) rfl
  unfold d_X7_loud at hr
  refine lv_aload_n X.1 X.2.1 dX7_loud_0 rfl (lv_at hl 0 rfl) ?_
  refine z_get X hW 0 7 1 (C := RX7) (T := TX7) (N := 5) rfl rfl hn_X7 (by decide) q_0 rfl dX7_loud_1 ?_
  refine lv_aload_n X.1 X.2.1 dX7_loud_4 rfl (lv_at hl 0 rfl) ?_
  refine z_get X hW 0 7 0 (C := RX7) (T := TX7) (N := 5) rfl rfl hn_X7 (by decide) q_2 rfl dX7_loud_5 ?_
  have hp_8 := (z_spr (xoW E a b) (z_sp2 (z_all (hsW E (zh a 1) v)) (z_spr (rdW E (zh a 30) w) (z_spl (slW E b q) (z_all (hiW E (zh a 33) u))))))
  refine z_callv X hW (fun z9 => z9) hr hp_8 (fun z9 => ((hsW E (zh a 1) v) ++ (hiW E (zh a 33) z9))) (fun u8 => ((xoW E a b) ++ ((hsW E (zh a 1) v) ++ ((rdW E (zh a 30) w) ++ ((hiW E (zh a 33) u8) ++ (slW E b q)))))) (fun z9 => (z_jnr (xoW E a b) (z_jn2 (z_lla (hsW E (zh a 1) v)) (z_jnr (rdW E (zh a 30) w) (z_jnl (slW E b q) (z_lla (hiW E (zh a 33) z9))))))) (fun z9 h => z_runV (As := [.ref ((zh a 1) 0)]) (rest := []) X hW hp_8 (c_X1_setAside l E (zh a 1) (zh a 33) v u z9 h _) hy_X1_setAside 33 1 (C := RX1) (T := TX1) (N := 3) rfl rfl rfl gX7_loud_X1_setAside rfl rfl ⟨by decide, by decide⟩ rfl hl rfl rfl (Nat.le_of_ble_eq_true rfl) dX7_loud_8 ⟨Nat.zero_le _, Nat.zero_le _⟩) (fun u8 H locs hr hW => ?_)
  refine lv_aload_n X.1 X.2.1 dX7_loud_11 rfl (lv_at hl 0 rfl) ?_
  refine z_get X hW 0 7 1 (C := RX7) (T := TX7) (N := 5) rfl rfl hn_X7 (by decide) q_0 rfl dX7_loud_12 ?_
  refine lv_aload_n X.1 X.2.1 dX7_loud_15 rfl (lv_at hl 0 rfl) ?_
  refine z_get X hW 0 7 0 (C := RX7) (T := TX7) (N := 5) rfl rfl hn_X7 (by decide) q_2 rfl dX7_loud_16 ?_
  refine lv_iload_n X.1 X.2.1 dX7_loud_19 rfl (lv_at hl 1 rfl) ?_
  refine lv_iload_n X.1 X.2.1 dX7_loud_20 rfl (lv_at hl 2 rfl) ?_
  have hp_21 := (z_spr (xoW E a b) (z_spl ((rdW E (zh a 30) w) ++ ((hiW E (zh a 33) u8) ++ (slW E b q))) (z_all (hsW E (zh a 1) v))))
  refine z_calli X hW (fun z9 => z9) hr hp_21 (fun z9 => (hsW E (zh a 1) z9)) (fun v21 => ((xoW E a b) ++ ((hsW E (zh a 1) v21) ++ ((rdW E (zh a 30) w) ++ ((hiW E (zh a 33) u8) ++ (slW E b q)))))) (fun z9 => (z_jnr (xoW E a b) (z_jnl ((rdW E (zh a 30) w) ++ ((hiW E (zh a 33) u8) ++ (slW E b q))) (z_lla (hsW E (zh a 1) z9))))) (fun x z9 h => z_runV (As := [.int p1, .int p2]) (rest := [.ref ((zh a 33) 0)]) X hW hp_21 (c_X2_changeLoudness l E (zh a 1) v p1 p2 (x, z9) h _) hy_X2_changeLoudness 1 2 (C := RX2) (T := TX2) (N := 11) rfl rfl rfl gX7_loud_X2_changeLoudness rfl rfl ⟨by decide, by decide⟩ rfl hl rfl rfl (Nat.le_of_ble_eq_true rfl) dX7_loud_21 ⟨Nat.zero_le _, Nat.zero_le _⟩) (fun t21 v21 H locs hr hW => ?_)
  have hp_24 := (z_spr (xoW E a b) (z_spr (hsW E (zh a 1) v21) (z_spr (rdW E (zh a 30) w) (z_spl (slW E b q) (z_all (hiW E (zh a 33) u8))))))
  refine z_calli X hW (fun z9 => z9) hr hp_24 (fun z9 => (hiW E (zh a 33) z9)) (fun u24 => ((xoW E a b) ++ ((hsW E (zh a 1) v21) ++ ((rdW E (zh a 30) w) ++ ((hiW E (zh a 33) u24) ++ (slW E b q)))))) (fun z9 => (z_jnr (xoW E a b) (z_jnr (hsW E (zh a 1) v21) (z_jnr (rdW E (zh a 30) w) (z_jnl (slW E b q) (z_lla (hiW E (zh a 33) z9))))))) (fun x z9 h => z_runV (As := [.int t21]) (rest := []) X hW hp_24 (c_X1_keepUnlessError l E (zh a 33) u8 t21 (x, z9) h _) hy_X1_keepUnlessError 33 1 (C := RX1) (T := TX1) (N := 3) rfl rfl rfl gX7_loud_X1_keepUnlessError rfl rfl ⟨by decide, by decide⟩ rfl hl rfl rfl (Nat.le_of_ble_eq_true rfl) dX7_loud_24 ⟨Nat.zero_le _, Nat.zero_le _⟩) (fun t24 u24 H locs hr hW => ?_)
  cases hr
  exact z_iret X hW rfl dX7_loud_27
abbrev rm_X7_pay : Room := { frames := 5, cells := 0, slots := 0, locals := 123 }
theorem hy_X7_pay : zY yX7_pay wsX7_pay cX7_pay 2 (some .int) 1 := ⟨⟨_, rfl⟩, by decide, by decide, by decide +kernel⟩
def d_X7_pay (v : zHV) (w : zHV) (u : zHI) (q : zHI) (p1 : Int32) : Option (Int32 × zHV × zHI) :=
zup (d_X1_setAside v u) (fun z9 => z9) fun u8 =>
zup2 (d_X2_switchPay v p1) (fun z9 => z9) fun t20 v20 =>
zup2 (d_X1_keepUnlessError u8 t20) (fun z9 => z9) fun t23 u23 =>
some (t23, v20, u23)
set_option maxHeartbeats 4000000 in
set_option maxRecDepth 100000 in
theorem c_X7_pay (l : Launch) (E : zE) (a b : Nat → Nat) (v : zHV) (w : zHV) (u : zHI) (q : zHI) (p1 : Int32) (r : Int32 × zHV × zHI) (h : d_X7_pay v w u q p1 = some r) : zMi l E yX7_pay wsX7_pay rm_X7_pay [.ref (a 0), .int p1] ((xoW E a b) ++ ((hsW E (zh a 1) v) ++ ((rdW E (zh a 30) w) ++ ((hiW E (zh a 33) u) ++ (slW E b q))))) r.1 ((xoW E a b) ++ ((hsW E (zh a 1) r.2.1) ++ ((rdW E (zh a 30) w) ++ ((hiW E (zh a 33) r.2.2) ++ (slW E b q))))) := by
  intro sz
  refine z_entry (Qc := fun A => zQi E A r.1 ((xoW E a b) ++ ((hsW E (zh a 1) r.2.1) ++ ((rdW E (zh a 30) w) ++ ((hiW E (zh a 33) r.2.2) ++ (slW E b q)))))) (by decide) rfl (Nat.le_of_ble_eq_true rfl) ?_
  intro p e s m below meth c A X hW ls hl
  have X : zX E wsX7_pay RX7 cX7_pay 2 (some .int) yX7_pay p s m ([.ref (a 0), .int p1] : List Value).toArray meth c A := X
  have hl : lv_has ls 2 [(0, .ref (a 0)), (1, .int p1)] := hl
  have hr : d_X7_pay v w u q p1 = some r := h
  clear h
  have q_0 : Cond.fieldLink RX7 19 "ApplauseTallies" "history" "LApplauseTallies$History;" ∈ wsX7_pay := List.mem_of_getElem? (i := 1) rfl
  have hn_X7 : ∀ x ∈ wsX70, x ∈ wsX7_pay := zz_in [83, 84, 85, 86, 87] (by decide +kernel)
  have q_2 : Cond.fieldLink RX7 10 "ApplauseTallies" "house" "LApplauseTallies$House;" ∈ wsX7_pay := List.mem_of_getElem? (i := 2) rfl
  unfold d_X7_pay at hr
  refine lv_aload_n X.1 X.2.1 dX7_pay_0 rfl (lv_at hl 0 rfl) ?_
  refine z_get X hW 0 7 1 (C := RX7) (T := TX7) (N := 5) rfl rfl hn_X7 (by decide) q_0 rfl dX7_pay_1 ?_
  refine lv_aload_n X.1 X.2.1 dX7_pay_4 rfl (lv_at hl 0 rfl) ?_
  refine z_get X hW 0 7 0 (C := RX7) (T := TX7) (N := 5) rfl rfl hn_X7 (by decide) q_2 rfl dX7_pay_5 ?_
  have hp_8 := (z_spr (xoW E a b) (z_sp2 (z_all (hsW E (zh a 1) v)) (z_spr (rdW E (zh a 30) w) (z_spl (slW E b q) (z_all (hiW E (zh a 33) u))))))
  refine z_callv X hW (fun z9 => z9) hr hp_8 (fun z9 => ((hsW E (zh a 1) v) ++ (hiW E (zh a 33) z9))) (fun u8 => ((xoW E a b) ++ ((hsW E (zh a 1) v) ++ ((rdW E (zh a 30) w) ++ ((hiW E (zh a 33) u8) ++ (slW E b q)))))) (fun z9 => (z_jnr (xoW E a b) (z_jn2 (z_lla (hsW E (zh a 1) v)) (z_jnr (rdW E (zh a 30) w) (z_jnl (slW E b q) (z_lla (hiW E (zh a 33) z9))))))) (fun z9 h => z_runV (As := [.ref ((zh a 1) 0)]) (rest := []) X hW hp_8 (c_X1_setAside l E (zh a 1) (zh a 33) v u z9 h _) hy_X1_setAside 33 1 (C := RX1) (T := TX1) (N := 3) rfl rfl rfl gX7_pay_X1_setAside rfl rfl ⟨by decide, by decide⟩ rfl hl rfl rfl (Nat.le_of_ble_eq_true rfl) dX7_pay_8 ⟨Nat.zero_le _, Nat.zero_le _⟩) (fun u8 H locs hr hW => ?_)
  refine lv_aload_n X.1 X.2.1 dX7_pay_11 rfl (lv_at hl 0 rfl) ?_
  refine z_get X hW 0 7 1 (C := RX7) (T := TX7) (N := 5) rfl rfl hn_X7 (by decide) q_0 rfl dX7_pay_12 ?_
  refine lv_aload_n X.1 X.2.1 dX7_pay_15 rfl (lv_at hl 0 rfl) ?_
  refine z_get X hW 0 7 0 (C := RX7) (T := TX7) (N := 5) rfl rfl hn_X7 (by decide) q_2 rfl dX7_pay_16 ?_
  refine lv_iload_n X.1 X.2.1 dX7_pay_19 rfl (lv_at hl 1 rfl) ?_
  have hp_20 := (z_spr (xoW E a b) (z_spl ((rdW E (zh a 30) w) ++ ((hiW E (zh a 33) u8) ++ (slW E b q))) (z_all (hsW E (zh a 1) v))))
  refine z_calli X hW (fun z9 => z9) hr hp_20 (fun z9 => (hsW E (zh a 1) z9)) (fun v20 => ((xoW E a b) ++ ((hsW E (zh a 1) v20) ++ ((rdW E (zh a 30) w) ++ ((hiW E (zh a 33) u8) ++ (slW E b q)))))) (fun z9 => (z_jnr (xoW E a b) (z_jnl ((rdW E (zh a 30) w) ++ ((hiW E (zh a 33) u8) ++ (slW E b q))) (z_lla (hsW E (zh a 1) z9))))) (fun x z9 h => z_runV (As := [.int p1]) (rest := [.ref ((zh a 33) 0)]) X hW hp_20 (c_X2_switchPay l E (zh a 1) v p1 (x, z9) h _) hy_X2_switchPay 1 2 (C := RX2) (T := TX2) (N := 11) rfl rfl rfl gX7_pay_X2_switchPay rfl rfl ⟨by decide, by decide⟩ rfl hl rfl rfl (Nat.le_of_ble_eq_true rfl) dX7_pay_20 ⟨Nat.zero_le _, Nat.zero_le _⟩) (fun t20 v20 H locs hr hW => ?_)
  have hp_23 := (z_spr (xoW E a b) (z_spr (hsW E (zh a 1) v20) (z_spr (rdW E (zh a 30) w) (z_spl (slW E b q) (z_all (hiW E (zh a 33) u8))))))
  refine z_calli X hW (fun z9 => z9) hr hp_23 (fun z9 => (hiW E (zh a 33) z9)) (fun u23 => ((xoW E a b) ++ ((hsW E (zh a 1) v20) ++ ((rdW E (zh a 30) w) ++ ((hiW E (zh a 33) u23) ++ (slW E b q)))))) (fun z9 => (z_jnr (xoW E a b) (z_jnr (hsW E (zh a 1) v20) (z_jnr (rdW E (zh a 30) w) (z_jnl (slW E b q) (z_lla (hiW E (zh a 33) z9))))))) (fun x z9 h => z_runV (As := [.int t20]) (rest := []) X hW hp_23 (c_X1_keepUnlessError l E (zh a 33) u8 t20 (x, z9) h _) hy_X1_keepUnlessError 33 1 (C := RX1) (T := TX1) (N := 3) rfl rfl rfl gX7_pay_X1_keepUnlessError rfl rfl ⟨by decide, by decide⟩ rfl hl rfl rfl (Nat.le_of_ble_eq_true rfl) dX7_pay_23 ⟨Nat.zero_le _, Nat.zero_le _⟩) (fun t23 u23 H locs hr hW => ?_)
  cases hr
  exact z_iret X hW rfl dX7_pay_26
abbrev rm_X7_ends : Room := { frames := 5, cells := 0, slots := 0, locals := 123 }
theorem hy_X7_ends : zY yX7_ends wsX7_ends cX7_ends 2 (some .int) 1 := ⟨⟨_, rfl⟩, by decide, by decide, by decide +kernel⟩
def d_X7_ends (v : zHV) (w : zHV) (u : zHI) (q : zHI) (p1 : Int32) : Option (Int32 × zHV × zHI) :=
zup (d_X1_setAside v u) (fun z9 => z9) fun u8 =>
zup2 (d_X2_endPiece v p1) (fun z9 => z9) fun t20 v20 =>
zup2 (d_X1_keepUnlessError u8 t20) (fun z9 => z9) fun t23 u23 =>
some (t23, v20, u23)
set_option maxHeartbeats 4000000 in
set_option maxRecDepth 100000 in
theorem c_X7_ends (l : Launch) (E : zE) (a b : Nat → Nat) (v : zHV) (w : zHV) (u : zHI) (q : zHI) (p1 : Int32) (r : Int32 × zHV × zHI) (h : d_X7_ends v w u q p1 = some r) : zMi l E yX7_ends wsX7_ends rm_X7_ends [.ref (a 0), .int p1] ((xoW E a b) ++ ((hsW E (zh a 1) v) ++ ((rdW E (zh a 30) w) ++ ((hiW E (zh a 33) u) ++ (slW E b q))))) r.1 ((xoW E a b) ++ ((hsW E (zh a 1) r.2.1) ++ ((rdW E (zh a 30) w) ++ ((hiW E (zh a 33) r.2.2) ++ (slW E b q))))) := by
  intro sz
  refine z_entry (Qc := fun A => zQi E A r.1 ((xoW E a b) ++ ((hsW E (zh a 1) r.2.1) ++ ((rdW E (zh a 30) w) ++ ((hiW E (zh a 33) r.2.2) ++ (slW E b q)))))) (by decide) rfl (Nat.le_of_ble_eq_true rfl) ?_
  intro p e s m below meth c A X hW ls hl
  have X : zX E wsX7_ends RX7 cX7_ends 2 (some .int) yX7_ends p s m ([.ref (a 0), .int p1] : List Value).toArray meth c A := X
  have hl : lv_has ls 2 [(0, .ref (a 0)), (1, .int p1)] := hl
  have hr : d_X7_ends v w u q p1 = some r := h
  clear h
  have q_0 : Cond.fieldLink RX7 19 "ApplauseTallies" "history" "LApplauseTallies$History;" ∈ wsX7_ends := List.mem_of_getElem? (i := 1) rfl
  have hn_X7 : ∀ x ∈ wsX70, x ∈ wsX7_ends := zz_in [95, 96, 97, 98, 99] (by decide +kernel)
  have q_2 : Cond.fieldLink RX7 10 "ApplauseTallies" "house" "LApplauseTallies$House;" ∈ wsX7_ends := List.mem_of_getElem? (i := 2) rfl
  unfold d_X7_ends at hr
  refine lv_aload_n X.1 X.2.1 dX7_ends_0 rfl (lv_at hl 0 rfl) ?_
  refine z_get X hW 0 7 1 (C := RX7) (T := TX7) (N := 5) rfl rfl hn_X7 (by decide) q_0 rfl dX7_ends_1 ?_
  refine lv_aload_n X.1 X.2.1 dX7_ends_4 rfl (lv_at hl 0 rfl) ?_
  refine z_get X hW 0 7 0 (C := RX7) (T := TX7) (N := 5) rfl rfl hn_X7 (by decide) q_2 rfl dX7_ends_5 ?_
  have hp_8 := (z_spr (xoW E a b) (z_sp2 (z_all (hsW E (zh a 1) v)) (z_spr (rdW E (zh a 30) w) (z_spl (slW E b q) (z_all (hiW E (zh a 33) u))))))
  refine z_callv X hW (fun z9 => z9) hr hp_8 (fun z9 => ((hsW E (zh a 1) v) ++ (hiW E (zh a 33) z9))) (fun u8 => ((xoW E a b) ++ ((hsW E (zh a 1) v) ++ ((rdW E (zh a 30) w) ++ ((hiW E (zh a 33) u8) ++ (slW E b q)))))) (fun z9 => (z_jnr (xoW E a b) (z_jn2 (z_lla (hsW E (zh a 1) v)) (z_jnr (rdW E (zh a 30) w) (z_jnl (slW E b q) (z_lla (hiW E (zh a 33) z9))))))) (fun z9 h => z_runV (As := [.ref ((zh a 1) 0)]) (rest := []) X hW hp_8 (c_X1_setAside l E (zh a 1) (zh a 33) v u z9 h _) hy_X1_setAside 33 1 (C := RX1) (T := TX1) (N := 3) rfl rfl rfl gX7_ends_X1_setAside rfl rfl ⟨by decide, by decide⟩ rfl hl rfl rfl (Nat.le_of_ble_eq_true rfl) dX7_ends_8 ⟨Nat.zero_le _, Nat.zero_le _⟩) (fun u8 H locs hr hW => ?_)
  refine lv_aload_n X.1 X.2.1 dX7_ends_11 rfl (lv_at hl 0 rfl) ?_
  refine z_get X hW 0 7 1 (C := RX7) (T := TX7) (N := 5) rfl rfl hn_X7 (by decide) q_0 rfl dX7_ends_12 ?_
  refine lv_aload_n X.1 X.2.1 dX7_ends_15 rfl (lv_at hl 0 rfl) ?_
  refine z_get X hW 0 7 0 (C := RX7) (T := TX7) (N := 5) rfl rfl hn_X7 (by decide) q_2 rfl dX7_ends_16 ?_
  refine lv_iload_n X.1 X.2.1 dX7_ends_19 rfl (lv_at hl 1 rfl) ?_
  have hp_20 := (z_spr (xoW E a b) (z_spl ((rdW E (zh a 30) w) ++ ((hiW E (zh a 33) u8) ++ (slW E b q))) (z_all (hsW E (zh a 1) v))))
  refine z_calli X hW (fun z9 => z9) hr hp_20 (fun z9 => (hsW E (zh a 1) z9)) (fun v20 => ((xoW E a b) ++ ((hsW E (zh a 1) v20) ++ ((rdW E (zh a 30) w) ++ ((hiW E (zh a 33) u8) ++ (slW E b q)))))) (fun z9 => (z_jnr (xoW E a b) (z_jnl ((rdW E (zh a 30) w) ++ ((hiW E (zh a 33) u8) ++ (slW E b q))) (z_lla (hsW E (zh a 1) z9))))) (fun x z9 h => z_runV (As := [.int p1]) (rest := [.ref ((zh a 33) 0)]) X hW hp_20 (c_X2_endPiece l E (zh a 1) v p1 (x, z9) h _) hy_X2_endPiece 1 2 (C := RX2) (T := TX2) (N := 11) rfl rfl rfl gX7_ends_X2_endPiece rfl rfl ⟨by decide, by decide⟩ rfl hl rfl rfl (Nat.le_of_ble_eq_true rfl) dX7_ends_20 ⟨Nat.zero_le _, Nat.zero_le _⟩) (fun t20 v20 H locs hr hW => ?_)
  have hp_23 := (z_spr (xoW E a b) (z_spr (hsW E (zh a 1) v20) (z_spr (rdW E (zh a 30) w) (z_spl (slW E b q) (z_all (hiW E (zh a 33) u8))))))
  refine z_calli X hW (fun z9 => z9) hr hp_23 (fun z9 => (hiW E (zh a 33) z9)) (fun u23 => ((xoW E a b) ++ ((hsW E (zh a 1) v20) ++ ((rdW E (zh a 30) w) ++ ((hiW E (zh a 33) u23) ++ (slW E b q)))))) (fun z9 => (z_jnr (xoW E a b) (z_jnr (hsW E (zh a 1) v20) (z_jnr (rdW E (zh a 30) w) (z_jnl (slW E b q) (z_lla (hiW E (zh a 33) z9))))))) (fun x z9 h => z_runV (As := [.int t20]) (rest := []) X hW hp_23 (c_X1_keepUnlessError l E (zh a 33) u8 t20 (x, z9) h _) hy_X1_keepUnlessError 33 1 (C := RX1) (T := TX1) (N := 3) rfl rfl rfl gX7_ends_X1_keepUnlessError rfl rfl ⟨by decide, by decide⟩ rfl hl rfl rfl (Nat.le_of_ble_eq_true rfl) dX7_ends_23 ⟨Nat.zero_le _, Nat.zero_le _⟩) (fun t23 u23 H locs hr hW => ?_)
  cases hr
  exact z_iret X hW rfl dX7_ends_26
abbrev rm_X7_clap : Room := { frames := 5, cells := 0, slots := 0, locals := 123 }
theorem hy_X7_clap : zY yX7_clap wsX7_clap cX7_clap 2 (some .int) 1 := ⟨⟨_, rfl⟩, by decide, by decide, by decide +kernel⟩
def d_X7_clap (v : zHV) (w : zHV) (u : zHI) (q : zHI) (p1 : Int32) : Option (Int32 × zHV × zHI) :=
zup (d_X1_setAside v u) (fun z9 => z9) fun u8 =>
zup2 (d_X2_takeClap v p1) (fun z9 => z9) fun t20 v20 =>
zup2 (d_X1_keepUnlessError u8 t20) (fun z9 => z9) fun t23 u23 =>
some (t23, v20, u23)
set_option maxHeartbeats 4000000 in
set_option maxRecDepth 100000 in
theorem c_X7_clap (l : Launch) (E : zE) (a b : Nat → Nat) (v : zHV) (w : zHV) (u : zHI) (q : zHI) (p1 : Int32) (r : Int32 × zHV × zHI) (h : d_X7_clap v w u q p1 = some r) : zMi l E yX7_clap wsX7_clap rm_X7_clap [.ref (a 0), .int p1] ((xoW E a b) ++ ((hsW E (zh a 1) v) ++ ((rdW E (zh a 30) w) ++ ((hiW E (zh a 33) u) ++ (slW E b q))))) r.1 ((xoW E a b) ++ ((hsW E (zh a 1) r.2.1) ++ ((rdW E (zh a 30) w) ++ ((hiW E (zh a 33) r.2.2) ++ (slW E b q))))) := by
  intro sz
  refine z_entry (Qc := fun A => zQi E A r.1 ((xoW E a b) ++ ((hsW E (zh a 1) r.2.1) ++ ((rdW E (zh a 30) w) ++ ((hiW E (zh a 33) r.2.2) ++ (slW E b q)))))) (by decide) rfl (Nat.le_of_ble_eq_true rfl) ?_
  intro p e s m below meth c A X hW ls hl
  have X : zX E wsX7_clap RX7 cX7_clap 2 (some .int) yX7_clap p s m ([.ref (a 0), .int p1] : List Value).toArray meth c A := X
  have hl : lv_has ls 2 [(0, .ref (a 0)), (1, .int p1)] := hl
  have hr : d_X7_clap v w u q p1 = some r := h
  clear h
  have q_0 : Cond.fieldLink RX7 19 "ApplauseTallies" "history" "LApplauseTallies$History;" ∈ wsX7_clap := List.mem_of_getElem? (i := 1) rfl
  have hn_X7 : ∀ x ∈ wsX70, x ∈ wsX7_clap := zz_in [116, 117, 118, 119, 120] (by decide +kernel)
  have q_2 : Cond.fieldLink RX7 10 "ApplauseTallies" "house" "LApplauseTallies$House;" ∈ wsX7_clap := List.mem_of_getElem? (i := 2) rfl
  unfold d_X7_clap at hr
  refine lv_aload_n X.1 X.2.1 dX7_clap_0 rfl (lv_at hl 0 rfl) ?_
  refine z_get X hW 0 7 1 (C := RX7) (T := TX7) (N := 5) rfl rfl hn_X7 (by decide) q_0 rfl dX7_clap_1 ?_
  refine lv_aload_n X.1 X.2.1 dX7_clap_4 rfl (lv_at hl 0 rfl) ?_
  refine z_get X hW 0 7 0 (C := RX7) (T := TX7) (N := 5) rfl rfl hn_X7 (by decide) q_2 rfl dX7_clap_5 ?_
  have hp_8 := (z_spr (xoW E a b) (z_sp2 (z_all (hsW E (zh a 1) v)) (z_spr (rdW E (zh a 30) w) (z_spl (slW E b q) (z_all (hiW E (zh a 33) u))))))
  refine z_callv X hW (fun z9 => z9) hr hp_8 (fun z9 => ((hsW E (zh a 1) v) ++ (hiW E (zh a 33) z9))) (fun u8 => ((xoW E a b) ++ ((hsW E (zh a 1) v) ++ ((rdW E (zh a 30) w) ++ ((hiW E (zh a 33) u8) ++ (slW E b q)))))) (fun z9 => (z_jnr (xoW E a b) (z_jn2 (z_lla (hsW E (zh a 1) v)) (z_jnr (rdW E (zh a 30) w) (z_jnl (slW E b q) (z_lla (hiW E (zh a 33) z9))))))) (fun z9 h => z_runV (As := [.ref ((zh a 1) 0)]) (rest := []) X hW hp_8 (c_X1_setAside l E (zh a 1) (zh a 33) v u z9 h _) hy_X1_setAside 33 1 (C := RX1) (T := TX1) (N := 3) rfl rfl rfl gX7_clap_X1_setAside rfl rfl ⟨by decide, by decide⟩ rfl hl rfl rfl (Nat.le_of_ble_eq_true rfl) dX7_clap_8 ⟨Nat.zero_le _, Nat.zero_le _⟩) (fun u8 H locs hr hW => ?_)
  refine lv_aload_n X.1 X.2.1 dX7_clap_11 rfl (lv_at hl 0 rfl) ?_
  refine z_get X hW 0 7 1 (C := RX7) (T := TX7) (N := 5) rfl rfl hn_X7 (by decide) q_0 rfl dX7_clap_12 ?_
  refine lv_aload_n X.1 X.2.1 dX7_clap_15 rfl (lv_at hl 0 rfl) ?_
  refine z_get X hW 0 7 0 (C := RX7) (T := TX7) (N := 5) rfl rfl hn_X7 (by decide) q_2 rfl dX7_clap_16 ?_
  refine lv_iload_n X.1 X.2.1 dX7_clap_19 rfl (lv_at hl 1 rfl) ?_
  have hp_20 := (z_spr (xoW E a b) (z_spl ((rdW E (zh a 30) w) ++ ((hiW E (zh a 33) u8) ++ (slW E b q))) (z_all (hsW E (zh a 1) v))))
  refine z_calli X hW (fun z9 => z9) hr hp_20 (fun z9 => (hsW E (zh a 1) z9)) (fun v20 => ((xoW E a b) ++ ((hsW E (zh a 1) v20) ++ ((rdW E (zh a 30) w) ++ ((hiW E (zh a 33) u8) ++ (slW E b q)))))) (fun z9 => (z_jnr (xoW E a b) (z_jnl ((rdW E (zh a 30) w) ++ ((hiW E (zh a 33) u8) ++ (slW E b q))) (z_lla (hsW E (zh a 1) z9))))) (fun x z9 h => z_runV (As := [.int p1]) (rest := [.ref ((zh a 33) 0)]) X hW hp_20 (c_X2_takeClap l E (zh a 1) v p1 (x, z9) h _) hy_X2_takeClap 1 2 (C := RX2) (T := TX2) (N := 11) rfl rfl rfl gX7_clap_X2_takeClap rfl rfl ⟨by decide, by decide⟩ rfl hl rfl rfl (Nat.le_of_ble_eq_true rfl) dX7_clap_20 ⟨Nat.zero_le _, Nat.zero_le _⟩) (fun t20 v20 H locs hr hW => ?_)
  have hp_23 := (z_spr (xoW E a b) (z_spr (hsW E (zh a 1) v20) (z_spr (rdW E (zh a 30) w) (z_spl (slW E b q) (z_all (hiW E (zh a 33) u8))))))
  refine z_calli X hW (fun z9 => z9) hr hp_23 (fun z9 => (hiW E (zh a 33) z9)) (fun u23 => ((xoW E a b) ++ ((hsW E (zh a 1) v20) ++ ((rdW E (zh a 30) w) ++ ((hiW E (zh a 33) u23) ++ (slW E b q)))))) (fun z9 => (z_jnr (xoW E a b) (z_jnr (hsW E (zh a 1) v20) (z_jnr (rdW E (zh a 30) w) (z_jnl (slW E b q) (z_lla (hiW E (zh a 33) z9))))))) (fun x z9 h => z_runV (As := [.int t20]) (rest := []) X hW hp_23 (c_X1_keepUnlessError l E (zh a 33) u8 t20 (x, z9) h _) hy_X1_keepUnlessError 33 1 (C := RX1) (T := TX1) (N := 3) rfl rfl rfl gX7_clap_X1_keepUnlessError rfl rfl ⟨by decide, by decide⟩ rfl hl rfl rfl (Nat.le_of_ble_eq_true rfl) dX7_clap_23 ⟨Nat.zero_le _, Nat.zero_le _⟩) (fun t23 u23 H locs hr hW => ?_)
  cases hr
  exact z_iret X hW rfl dX7_clap_26
abbrev rm_X7_pass : Room := { frames := 5, cells := 0, slots := 0, locals := 123 }
theorem hy_X7_pass : zY yX7_pass wsX7_pass cX7_pass 2 (some .int) 1 := ⟨⟨_, rfl⟩, by decide, by decide, by decide +kernel⟩
def d_X7_pass (v : zHV) (w : zHV) (u : zHI) (q : zHI) (p1 : Int32) : Option (Int32 × zHV × zHI) :=
zup (d_X1_setAside v u) (fun z9 => z9) fun u8 =>
zup2 (d_X2_letPass v p1) (fun z9 => z9) fun t20 v20 =>
zup2 (d_X1_keepUnlessError u8 t20) (fun z9 => z9) fun t23 u23 =>
some (t23, v20, u23)
set_option maxHeartbeats 4000000 in
set_option maxRecDepth 100000 in
theorem c_X7_pass (l : Launch) (E : zE) (a b : Nat → Nat) (v : zHV) (w : zHV) (u : zHI) (q : zHI) (p1 : Int32) (r : Int32 × zHV × zHI) (h : d_X7_pass v w u q p1 = some r) : zMi l E yX7_pass wsX7_pass rm_X7_pass [.ref (a 0), .int p1] ((xoW E a b) ++ ((hsW E (zh a 1) v) ++ ((rdW E (zh a 30) w) ++ ((hiW E (zh a 33) u) ++ (slW E b q))))) r.1 ((xoW E a b) ++ ((hsW E (zh a 1) r.2.1) ++ ((rdW E (zh a 30) w) ++ ((hiW E (zh a 33) r.2.2) ++ (slW E b q))))) := by
  intro sz
  refine z_entry (Qc := fun A => zQi E A r.1 ((xoW E a b) ++ ((hsW E (zh a 1) r.2.1) ++ ((rdW E (zh a 30) w) ++ ((hiW E (zh a 33) r.2.2) ++ (slW E b q)))))) (by decide) rfl (Nat.le_of_ble_eq_true rfl) ?_
  intro p e s m below meth c A X hW ls hl
  have X : zX E wsX7_pass RX7 cX7_pass 2 (some .int) yX7_pass p s m ([.ref (a 0), .int p1] : List Value).toArray meth c A := X
  have hl : lv_has ls 2 [(0, .ref (a 0)), (1, .int p1)] := hl
  have hr : d_X7_pass v w u q p1 = some r := h
  clear h
  have q_0 : Cond.fieldLink RX7 19 "ApplauseTallies" "history" "LApplauseTallies$History;" ∈ wsX7_pass := List.mem_of_getElem? (i := 1) rfl
  have hn_X7 : ∀ x ∈ wsX70, x ∈ wsX7_pass := zz_in [105, 106, 107, 108, 109] (by decide +kernel)
  have q_2 : Cond.fieldLink RX7 10 "ApplauseTallies" "house" "LApplauseTallies$House;" ∈ wsX7_pass := List.mem_of_getElem? (i := 2) rfl
  unfold d_X7_pass at hr
  refine lv_aload_n X.1 X.2.1 dX7_pass_0 rfl (lv_at hl 0 rfl) ?_
  refine z_get X hW 0 7 1 (C := RX7) (T := TX7) (N := 5) rfl rfl hn_X7 (by decide) q_0 rfl dX7_pass_1 ?_
  refine lv_aload_n X.1 X.2.1 dX7_pass_4 rfl (lv_at hl 0 rfl) ?_
  refine z_get X hW 0 7 0 (C := RX7) (T := TX7) (N := 5) rfl rfl hn_X7 (by decide) q_2 rfl dX7_pass_5 ?_
  have hp_8 := (z_spr (xoW E a b) (z_sp2 (z_all (hsW E (zh a 1) v)) (z_spr (rdW E (zh a 30) w) (z_spl (slW E b q) (z_all (hiW E (zh a 33) u))))))
  refine z_callv X hW (fun z9 => z9) hr hp_8 (fun z9 => ((hsW E (zh a 1) v) ++ (hiW E (zh a 33) z9))) (fun u8 => ((xoW E a b) ++ ((hsW E (zh a 1) v) ++ ((rdW E (zh a 30) w) ++ ((hiW E (zh a 33) u8) ++ (slW E b q)))))) (fun z9 => (z_jnr (xoW E a b) (z_jn2 (z_lla (hsW E (zh a 1) v)) (z_jnr (rdW E (zh a 30) w) (z_jnl (slW E b q) (z_lla (hiW E (zh a 33) z9))))))) (fun z9 h => z_runV (As := [.ref ((zh a 1) 0)]) (rest := []) X hW hp_8 (c_X1_setAside l E (zh a 1) (zh a 33) v u z9 h _) hy_X1_setAside 33 1 (C := RX1) (T := TX1) (N := 3) rfl rfl rfl gX7_pass_X1_setAside rfl rfl ⟨by decide, by decide⟩ rfl hl rfl rfl (Nat.le_of_ble_eq_true rfl) dX7_pass_8 ⟨Nat.zero_le _, Nat.zero_le _⟩) (fun u8 H locs hr hW => ?_)
  refine lv_aload_n X.1 X.2.1 dX7_pass_11 rfl (lv_at hl 0 rfl) ?_
  refine z_get X hW 0 7 1 (C := RX7) (T := TX7) (N := 5) rfl rfl hn_X7 (by decide) q_0 rfl dX7_pass_12 ?_
  refine lv_aload_n X.1 X.2.1 dX7_pass_15 rfl (lv_at hl 0 rfl) ?_
  refine z_get X hW 0 7 0 (C := RX7) (T := TX7) (N := 5) rfl rfl hn_X7 (by decide) q_2 rfl dX7_pass_16 ?_
  refine lv_iload_n X.1 X.2.1 dX7_pass_19 rfl (lv_at hl 1 rfl) ?_
  have hp_20 := (z_spr (xoW E a b) (z_spl ((rdW E (zh a 30) w) ++ ((hiW E (zh a 33) u8) ++ (slW E b q))) (z_all (hsW E (zh a 1) v))))
  refine z_calli X hW (fun z9 => z9) hr hp_20 (fun z9 => (hsW E (zh a 1) z9)) (fun v20 => ((xoW E a b) ++ ((hsW E (zh a 1) v20) ++ ((rdW E (zh a 30) w) ++ ((hiW E (zh a 33) u8) ++ (slW E b q)))))) (fun z9 => (z_jnr (xoW E a b) (z_jnl ((rdW E (zh a 30) w) ++ ((hiW E (zh a 33) u8) ++ (slW E b q))) (z_lla (hsW E (zh a 1) z9))))) (fun x z9 h => z_runV (As := [.int p1]) (rest := [.ref ((zh a 33) 0)]) X hW hp_20 (c_X2_letPass l E (zh a 1) v p1 (x, z9) h _) hy_X2_letPass 1 2 (C := RX2) (T := TX2) (N := 11) rfl rfl rfl gX7_pass_X2_letPass rfl rfl ⟨by decide, by decide⟩ rfl hl rfl rfl (Nat.le_of_ble_eq_true rfl) dX7_pass_20 ⟨Nat.zero_le _, Nat.zero_le _⟩) (fun t20 v20 H locs hr hW => ?_)
  have hp_23 := (z_spr (xoW E a b) (z_spr (hsW E (zh a 1) v20) (z_spr (rdW E (zh a 30) w) (z_spl (slW E b q) (z_all (hiW E (zh a 33) u8))))))
  refine z_calli X hW (fun z9 => z9) hr hp_23 (fun z9 => (hiW E (zh a 33) z9)) (fun u23 => ((xoW E a b) ++ ((hsW E (zh a 1) v20) ++ ((rdW E (zh a 30) w) ++ ((hiW E (zh a 33) u23) ++ (slW E b q)))))) (fun z9 => (z_jnr (xoW E a b) (z_jnr (hsW E (zh a 1) v20) (z_jnr (rdW E (zh a 30) w) (z_jnl (slW E b q) (z_lla (hiW E (zh a 33) z9))))))) (fun x z9 h => z_runV (As := [.int t20]) (rest := []) X hW hp_23 (c_X1_keepUnlessError l E (zh a 33) u8 t20 (x, z9) h _) hy_X1_keepUnlessError 33 1 (C := RX1) (T := TX1) (N := 3) rfl rfl rfl gX7_pass_X1_keepUnlessError rfl rfl ⟨by decide, by decide⟩ rfl hl rfl rfl (Nat.le_of_ble_eq_true rfl) dX7_pass_23 ⟨Nat.zero_le _, Nat.zero_le _⟩) (fun t23 u23 H locs hr hW => ?_)
  cases hr
  exact z_iret X hW rfl dX7_pass_26
abbrev rm_X7_play : Room := { frames := 5, cells := 0, slots := 0, locals := 123 }
theorem hy_X7_play : zY yX7_play wsX7_play cX7_play 2 (some .int) 1 := ⟨⟨_, rfl⟩, by decide, by decide, by decide +kernel⟩
def d_X7_play (v : zHV) (w : zHV) (u : zHI) (q : zHI) (p1 : Int32) : Option (Int32 × zHV × zHI) :=
zup (d_X1_setAside v u) (fun z9 => z9) fun u8 =>
zup2 (d_X2_playEncore v p1) (fun z9 => z9) fun t20 v20 =>
zup2 (d_X1_keepUnlessError u8 t20) (fun z9 => z9) fun t23 u23 =>
some (t23, v20, u23)
set_option maxHeartbeats 4000000 in
set_option maxRecDepth 100000 in
theorem c_X7_play (l : Launch) (E : zE) (a b : Nat → Nat) (v : zHV) (w : zHV) (u : zHI) (q : zHI) (p1 : Int32) (r : Int32 × zHV × zHI) (h : d_X7_play v w u q p1 = some r) : zMi l E yX7_play wsX7_play rm_X7_play [.ref (a 0), .int p1] ((xoW E a b) ++ ((hsW E (zh a 1) v) ++ ((rdW E (zh a 30) w) ++ ((hiW E (zh a 33) u) ++ (slW E b q))))) r.1 ((xoW E a b) ++ ((hsW E (zh a 1) r.2.1) ++ ((rdW E (zh a 30) w) ++ ((hiW E (zh a 33) r.2.2) ++ (slW E b q))))) := by
  intro sz
  refine z_entry (Qc := fun A => zQi E A r.1 ((xoW E a b) ++ ((hsW E (zh a 1) r.2.1) ++ ((rdW E (zh a 30) w) ++ ((hiW E (zh a 33) r.2.2) ++ (slW E b q)))))) (by decide) rfl (Nat.le_of_ble_eq_true rfl) ?_
  intro p e s m below meth c A X hW ls hl
  have X : zX E wsX7_play RX7 cX7_play 2 (some .int) yX7_play p s m ([.ref (a 0), .int p1] : List Value).toArray meth c A := X
  have hl : lv_has ls 2 [(0, .ref (a 0)), (1, .int p1)] := hl
  have hr : d_X7_play v w u q p1 = some r := h
  clear h
  have q_0 : Cond.fieldLink RX7 19 "ApplauseTallies" "history" "LApplauseTallies$History;" ∈ wsX7_play := List.mem_of_getElem? (i := 1) rfl
  have hn_X7 : ∀ x ∈ wsX70, x ∈ wsX7_play := zz_in [116, 117, 118, 119, 120] (by decide +kernel)
  have q_2 : Cond.fieldLink RX7 10 "ApplauseTallies" "house" "LApplauseTallies$House;" ∈ wsX7_play := List.mem_of_getElem? (i := 2) rfl
  unfold d_X7_play at hr
  refine lv_aload_n X.1 X.2.1 dX7_play_0 rfl (lv_at hl 0 rfl) ?_
  refine z_get X hW 0 7 1 (C := RX7) (T := TX7) (N := 5) rfl rfl hn_X7 (by decide) q_0 rfl dX7_play_1 ?_
  refine lv_aload_n X.1 X.2.1 dX7_play_4 rfl (lv_at hl 0 rfl) ?_
  refine z_get X hW 0 7 0 (C := RX7) (T := TX7) (N := 5) rfl rfl hn_X7 (by decide) q_2 rfl dX7_play_5 ?_
  have hp_8 := (z_spr (xoW E a b) (z_sp2 (z_all (hsW E (zh a 1) v)) (z_spr (rdW E (zh a 30) w) (z_spl (slW E b q) (z_all (hiW E (zh a 33) u))))))
  refine z_callv X hW (fun z9 => z9) hr hp_8 (fun z9 => ((hsW E (zh a 1) v) ++ (hiW E (zh a 33) z9))) (fun u8 => ((xoW E a b) ++ ((hsW E (zh a 1) v) ++ ((rdW E (zh a 30) w) ++ ((hiW E (zh a 33) u8) ++ (slW E b q)))))) (fun z9 => (z_jnr (xoW E a b) (z_jn2 (z_lla (hsW E (zh a 1) v)) (z_jnr (rdW E (zh a 30) w) (z_jnl (slW E b q) (z_lla (hiW E (zh a 33) z9))))))) (fun z9 h => z_runV (As := [.ref ((zh a 1) 0)]) (rest := []) X hW hp_8 (c_X1_setAside l E (zh a 1) (zh a 33) v u z9 h _) hy_X1_setAside 33 1 (C := RX1) (T := TX1) (N := 3) rfl rfl rfl gX7_play_X1_setAside rfl rfl ⟨by decide, by decide⟩ rfl hl rfl rfl (Nat.le_of_ble_eq_true rfl) dX7_play_8 ⟨Nat.zero_le _, Nat.zero_le _⟩) (fun u8 H locs hr hW => ?_)
  refine lv_aload_n X.1 X.2.1 dX7_play_11 rfl (lv_at hl 0 rfl) ?_
  refine z_get X hW 0 7 1 (C := RX7) (T := TX7) (N := 5) rfl rfl hn_X7 (by decide) q_0 rfl dX7_play_12 ?_
  refine lv_aload_n X.1 X.2.1 dX7_play_15 rfl (lv_at hl 0 rfl) ?_
  refine z_get X hW 0 7 0 (C := RX7) (T := TX7) (N := 5) rfl rfl hn_X7 (by decide) q_2 rfl dX7_play_16 ?_
  refine lv_iload_n X.1 X.2.1 dX7_play_19 rfl (lv_at hl 1 rfl) ?_
  have hp_20 := (z_spr (xoW E a b) (z_spl ((rdW E (zh a 30) w) ++ ((hiW E (zh a 33) u8) ++ (slW E b q))) (z_all (hsW E (zh a 1) v))))
  refine z_calli X hW (fun z9 => z9) hr hp_20 (fun z9 => (hsW E (zh a 1) z9)) (fun v20 => ((xoW E a b) ++ ((hsW E (zh a 1) v20) ++ ((rdW E (zh a 30) w) ++ ((hiW E (zh a 33) u8) ++ (slW E b q)))))) (fun z9 => (z_jnr (xoW E a b) (z_jnl ((rdW E (zh a 30) w) ++ ((hiW E (zh a 33) u8) ++ (slW E b q))) (z_lla (hsW E (zh a 1) z9))))) (fun x z9 h => z_runV (As := [.int p1]) (rest := [.ref ((zh a 33) 0)]) X hW hp_20 (c_X2_playEncore l E (zh a 1) v p1 (x, z9) h _) hy_X2_playEncore 1 2 (C := RX2) (T := TX2) (N := 11) rfl rfl rfl gX7_play_X2_playEncore rfl rfl ⟨by decide, by decide⟩ rfl hl rfl rfl (Nat.le_of_ble_eq_true rfl) dX7_play_20 ⟨Nat.zero_le _, Nat.zero_le _⟩) (fun t20 v20 H locs hr hW => ?_)
  have hp_23 := (z_spr (xoW E a b) (z_spr (hsW E (zh a 1) v20) (z_spr (rdW E (zh a 30) w) (z_spl (slW E b q) (z_all (hiW E (zh a 33) u8))))))
  refine z_calli X hW (fun z9 => z9) hr hp_23 (fun z9 => (hiW E (zh a 33) z9)) (fun u23 => ((xoW E a b) ++ ((hsW E (zh a 1) v20) ++ ((rdW E (zh a 30) w) ++ ((hiW E (zh a 33) u23) ++ (slW E b q)))))) (fun z9 => (z_jnr (xoW E a b) (z_jnr (hsW E (zh a 1) v20) (z_jnr (rdW E (zh a 30) w) (z_jnl (slW E b q) (z_lla (hiW E (zh a 33) z9))))))) (fun x z9 h => z_runV (As := [.int t20]) (rest := []) X hW hp_23 (c_X1_keepUnlessError l E (zh a 33) u8 t20 (x, z9) h _) hy_X1_keepUnlessError 33 1 (C := RX1) (T := TX1) (N := 3) rfl rfl rfl gX7_play_X1_keepUnlessError rfl rfl ⟨by decide, by decide⟩ rfl hl rfl rfl (Nat.le_of_ble_eq_true rfl) dX7_play_23 ⟨Nat.zero_le _, Nat.zero_le _⟩) (fun t23 u23 H locs hr hW => ?_)
  cases hr
  exact z_iret X hW rfl dX7_play_26
abbrev rm_X7_call : Room := { frames := 5, cells := 0, slots := 0, locals := 123 }
theorem hy_X7_call : zY yX7_call wsX7_call cX7_call 1 (some .int) 0 := ⟨⟨_, rfl⟩, by decide, by decide, by decide +kernel⟩
def d_X7_call (v : zHV) (w : zHV) (u : zHI) (q : zHI) : Option (Int32 × zHV × zHI) :=
zup (d_X1_setAside v u) (fun z9 => z9) fun u8 =>
zup2 (d_X2_takeCurtain v) (fun z9 => z9) fun t19 v19 =>
zup2 (d_X1_keepUnlessError u8 t19) (fun z9 => z9) fun t22 u22 =>
some (t22, v19, u22)
set_option maxHeartbeats 4000000 in
set_option maxRecDepth 100000 in
theorem c_X7_call (l : Launch) (E : zE) (a b : Nat → Nat) (v : zHV) (w : zHV) (u : zHI) (q : zHI) (r : Int32 × zHV × zHI) (h : d_X7_call v w u q = some r) : zMi l E yX7_call wsX7_call rm_X7_call [.ref (a 0)] ((xoW E a b) ++ ((hsW E (zh a 1) v) ++ ((rdW E (zh a 30) w) ++ ((hiW E (zh a 33) u) ++ (slW E b q))))) r.1 ((xoW E a b) ++ ((hsW E (zh a 1) r.2.1) ++ ((rdW E (zh a 30) w) ++ ((hiW E (zh a 33) r.2.2) ++ (slW E b q))))) := by
  intro sz
  refine z_entry (Qc := fun A => zQi E A r.1 ((xoW E a b) ++ ((hsW E (zh a 1) r.2.1) ++ ((rdW E (zh a 30) w) ++ ((hiW E (zh a 33) r.2.2) ++ (slW E b q)))))) (by decide) rfl (Nat.le_of_ble_eq_true rfl) ?_
  intro p e s m below meth c A X hW ls hl
  have X : zX E wsX7_call RX7 cX7_call 1 (some .int) yX7_call p s m ([.ref (a 0)] : List Value).toArray meth c A := X
  have hl : lv_has ls 1 [(0, .ref (a 0))] := hl
  have hr : d_X7_call v w u q = some r := h
  clear h
  have q_0 : Cond.fieldLink RX7 19 "ApplauseTallies" "history" "LApplauseTallies$History;" ∈ wsX7_call := List.mem_of_getElem? (i := 1) rfl
  have hn_X7 : ∀ x ∈ wsX70, x ∈ wsX7_call := zz_in [88, 89, 90, 91, 92] (by decide +kernel)
  have q_2 : Cond.fieldLink RX7 10 "ApplauseTallies" "house" "LApplauseTallies$House;" ∈ wsX7_call := List.mem_of_getElem? (i := 2) rfl
  unfold d_X7_call at hr
  refine lv_aload_n X.1 X.2.1 dX7_call_0 rfl (lv_at hl 0 rfl) ?_
  refine z_get X hW 0 7 1 (C := RX7) (T := TX7) (N := 5) rfl rfl hn_X7 (by decide) q_0 rfl dX7_call_1 ?_
  refine lv_aload_n X.1 X.2.1 dX7_call_4 rfl (lv_at hl 0 rfl) ?_
  refine z_get X hW 0 7 0 (C := RX7) (T := TX7) (N := 5) rfl rfl hn_X7 (by decide) q_2 rfl dX7_call_5 ?_
  have hp_8 := (z_spr (xoW E a b) (z_sp2 (z_all (hsW E (zh a 1) v)) (z_spr (rdW E (zh a 30) w) (z_spl (slW E b q) (z_all (hiW E (zh a 33) u))))))
  refine z_callv X hW (fun z9 => z9) hr hp_8 (fun z9 => ((hsW E (zh a 1) v) ++ (hiW E (zh a 33) z9))) (fun u8 => ((xoW E a b) ++ ((hsW E (zh a 1) v) ++ ((rdW E (zh a 30) w) ++ ((hiW E (zh a 33) u8) ++ (slW E b q)))))) (fun z9 => (z_jnr (xoW E a b) (z_jn2 (z_lla (hsW E (zh a 1) v)) (z_jnr (rdW E (zh a 30) w) (z_jnl (slW E b q) (z_lla (hiW E (zh a 33) z9))))))) (fun z9 h => z_runV (As := [.ref ((zh a 1) 0)]) (rest := []) X hW hp_8 (c_X1_setAside l E (zh a 1) (zh a 33) v u z9 h _) hy_X1_setAside 33 1 (C := RX1) (T := TX1) (N := 3) rfl rfl rfl gX7_call_X1_setAside rfl rfl ⟨by decide, by decide⟩ rfl hl rfl rfl (Nat.le_of_ble_eq_true rfl) dX7_call_8 ⟨Nat.zero_le _, Nat.zero_le _⟩) (fun u8 H locs hr hW => ?_)
  refine lv_aload_n X.1 X.2.1 dX7_call_11 rfl (lv_at hl 0 rfl) ?_
  refine z_get X hW 0 7 1 (C := RX7) (T := TX7) (N := 5) rfl rfl hn_X7 (by decide) q_0 rfl dX7_call_12 ?_
  refine lv_aload_n X.1 X.2.1 dX7_call_15 rfl (lv_at hl 0 rfl) ?_
  refine z_get X hW 0 7 0 (C := RX7) (T := TX7) (N := 5) rfl rfl hn_X7 (by decide) q_2 rfl dX7_call_16 ?_
  have hp_19 := (z_spr (xoW E a b) (z_spl ((rdW E (zh a 30) w) ++ ((hiW E (zh a 33) u8) ++ (slW E b q))) (z_all (hsW E (zh a 1) v))))
  refine z_calli X hW (fun z9 => z9) hr hp_19 (fun z9 => (hsW E (zh a 1) z9)) (fun v19 => ((xoW E a b) ++ ((hsW E (zh a 1) v19) ++ ((rdW E (zh a 30) w) ++ ((hiW E (zh a 33) u8) ++ (slW E b q)))))) (fun z9 => (z_jnr (xoW E a b) (z_jnl ((rdW E (zh a 30) w) ++ ((hiW E (zh a 33) u8) ++ (slW E b q))) (z_lla (hsW E (zh a 1) z9))))) (fun x z9 h => z_runV (As := []) (rest := [.ref ((zh a 33) 0)]) X hW hp_19 (c_X2_takeCurtain l E (zh a 1) v (x, z9) h _) hy_X2_takeCurtain 1 2 (C := RX2) (T := TX2) (N := 11) rfl rfl rfl gX7_call_X2_takeCurtain rfl rfl ⟨by decide, by decide⟩ rfl hl rfl rfl (Nat.le_of_ble_eq_true rfl) dX7_call_19 ⟨Nat.zero_le _, Nat.zero_le _⟩) (fun t19 v19 H locs hr hW => ?_)
  have hp_22 := (z_spr (xoW E a b) (z_spr (hsW E (zh a 1) v19) (z_spr (rdW E (zh a 30) w) (z_spl (slW E b q) (z_all (hiW E (zh a 33) u8))))))
  refine z_calli X hW (fun z9 => z9) hr hp_22 (fun z9 => (hiW E (zh a 33) z9)) (fun u22 => ((xoW E a b) ++ ((hsW E (zh a 1) v19) ++ ((rdW E (zh a 30) w) ++ ((hiW E (zh a 33) u22) ++ (slW E b q)))))) (fun z9 => (z_jnr (xoW E a b) (z_jnr (hsW E (zh a 1) v19) (z_jnr (rdW E (zh a 30) w) (z_jnl (slW E b q) (z_lla (hiW E (zh a 33) z9))))))) (fun x z9 h => z_runV (As := [.int t19]) (rest := []) X hW hp_22 (c_X1_keepUnlessError l E (zh a 33) u8 t19 (x, z9) h _) hy_X1_keepUnlessError 33 1 (C := RX1) (T := TX1) (N := 3) rfl rfl rfl gX7_call_X1_keepUnlessError rfl rfl ⟨by decide, by decide⟩ rfl hl rfl rfl (Nat.le_of_ble_eq_true rfl) dX7_call_22 ⟨Nat.zero_le _, Nat.zero_le _⟩) (fun t22 u22 H locs hr hW => ?_)
  cases hr
  exact z_iret X hW rfl dX7_call_25
abbrev rm_X7_night : Room := { frames := 5, cells := 0, slots := 0, locals := 123 }
theorem hy_X7_night : zY yX7_night wsX7_night cX7_night 1 (some .int) 0 := ⟨⟨_, rfl⟩, by decide, by decide, by decide +kernel⟩
def d_X7_night (v : zHV) (w : zHV) (u : zHI) (q : zHI) : Option (Int32 × zHV × zHI) :=
zup (d_X1_setAside v u) (fun z9 => z9) fun u8 =>
zup2 (d_X2_endNight v) (fun z9 => z9) fun t19 v19 =>
zup2 (d_X1_keepUnlessError u8 t19) (fun z9 => z9) fun t22 u22 =>
some (t22, v19, u22)
set_option maxHeartbeats 4000000 in
set_option maxRecDepth 100000 in
theorem c_X7_night (l : Launch) (E : zE) (a b : Nat → Nat) (v : zHV) (w : zHV) (u : zHI) (q : zHI) (r : Int32 × zHV × zHI) (h : d_X7_night v w u q = some r) : zMi l E yX7_night wsX7_night rm_X7_night [.ref (a 0)] ((xoW E a b) ++ ((hsW E (zh a 1) v) ++ ((rdW E (zh a 30) w) ++ ((hiW E (zh a 33) u) ++ (slW E b q))))) r.1 ((xoW E a b) ++ ((hsW E (zh a 1) r.2.1) ++ ((rdW E (zh a 30) w) ++ ((hiW E (zh a 33) r.2.2) ++ (slW E b q))))) := by
  intro sz
  refine z_entry (Qc := fun A => zQi E A r.1 ((xoW E a b) ++ ((hsW E (zh a 1) r.2.1) ++ ((rdW E (zh a 30) w) ++ ((hiW E (zh a 33) r.2.2) ++ (slW E b q)))))) (by decide) rfl (Nat.le_of_ble_eq_true rfl) ?_
  intro p e s m below meth c A X hW ls hl
  have X : zX E wsX7_night RX7 cX7_night 1 (some .int) yX7_night p s m ([.ref (a 0)] : List Value).toArray meth c A := X
  have hl : lv_has ls 1 [(0, .ref (a 0))] := hl
  have hr : d_X7_night v w u q = some r := h
  clear h
  have q_0 : Cond.fieldLink RX7 19 "ApplauseTallies" "history" "LApplauseTallies$History;" ∈ wsX7_night := List.mem_of_getElem? (i := 1) rfl
  have hn_X7 : ∀ x ∈ wsX70, x ∈ wsX7_night := zz_in [111, 112, 113, 114, 115] (by decide +kernel)
  have q_2 : Cond.fieldLink RX7 10 "ApplauseTallies" "house" "LApplauseTallies$House;" ∈ wsX7_night := List.mem_of_getElem? (i := 2) rfl
  unfold d_X7_night at hr
  refine lv_aload_n X.1 X.2.1 dX7_night_0 rfl (lv_at hl 0 rfl) ?_
  refine z_get X hW 0 7 1 (C := RX7) (T := TX7) (N := 5) rfl rfl hn_X7 (by decide) q_0 rfl dX7_night_1 ?_
  refine lv_aload_n X.1 X.2.1 dX7_night_4 rfl (lv_at hl 0 rfl) ?_
  refine z_get X hW 0 7 0 (C := RX7) (T := TX7) (N := 5) rfl rfl hn_X7 (by decide) q_2 rfl dX7_night_5 ?_
  have hp_8 := (z_spr (xoW E a b) (z_sp2 (z_all (hsW E (zh a 1) v)) (z_spr (rdW E (zh a 30) w) (z_spl (slW E b q) (z_all (hiW E (zh a 33) u))))))
  refine z_callv X hW (fun z9 => z9) hr hp_8 (fun z9 => ((hsW E (zh a 1) v) ++ (hiW E (zh a 33) z9))) (fun u8 => ((xoW E a b) ++ ((hsW E (zh a 1) v) ++ ((rdW E (zh a 30) w) ++ ((hiW E (zh a 33) u8) ++ (slW E b q)))))) (fun z9 => (z_jnr (xoW E a b) (z_jn2 (z_lla (hsW E (zh a 1) v)) (z_jnr (rdW E (zh a 30) w) (z_jnl (slW E b q) (z_lla (hiW E (zh a 33) z9))))))) (fun z9 h => z_runV (As := [.ref ((zh a 1) 0)]) (rest := []) X hW hp_8 (c_X1_setAside l E (zh a 1) (zh a 33) v u z9 h _) hy_X1_setAside 33 1 (C := RX1) (T := TX1) (N := 3) rfl rfl rfl gX7_night_X1_setAside rfl rfl ⟨by decide, by decide⟩ rfl hl rfl rfl (Nat.le_of_ble_eq_true rfl) dX7_night_8 ⟨Nat.zero_le _, Nat.zero_le _⟩) (fun u8 H locs hr hW => ?_)
  refine lv_aload_n X.1 X.2.1 dX7_night_11 rfl (lv_at hl 0 rfl) ?_
  refine z_get X hW 0 7 1 (C := RX7) (T := TX7) (N := 5) rfl rfl hn_X7 (by decide) q_0 rfl dX7_night_12 ?_
  refine lv_aload_n X.1 X.2.1 dX7_night_15 rfl (lv_at hl 0 rfl) ?_
  refine z_get X hW 0 7 0 (C := RX7) (T := TX7) (N := 5) rfl rfl hn_X7 (by decide) q_2 rfl dX7_night_16 ?_
  have hp_19 := (z_spr (xoW E a b) (z_spl ((rdW E (zh a 30) w) ++ ((hiW E (zh a 33) u8) ++ (slW E b q))) (z_all (hsW E (zh a 1) v))))
  refine z_calli X hW (fun z9 => z9) hr hp_19 (fun z9 => (hsW E (zh a 1) z9)) (fun v19 => ((xoW E a b) ++ ((hsW E (zh a 1) v19) ++ ((rdW E (zh a 30) w) ++ ((hiW E (zh a 33) u8) ++ (slW E b q)))))) (fun z9 => (z_jnr (xoW E a b) (z_jnl ((rdW E (zh a 30) w) ++ ((hiW E (zh a 33) u8) ++ (slW E b q))) (z_lla (hsW E (zh a 1) z9))))) (fun x z9 h => z_runV (As := []) (rest := [.ref ((zh a 33) 0)]) X hW hp_19 (c_X2_endNight l E (zh a 1) v (x, z9) h _) hy_X2_endNight 1 2 (C := RX2) (T := TX2) (N := 11) rfl rfl rfl gX7_night_X2_endNight rfl rfl ⟨by decide, by decide⟩ rfl hl rfl rfl (Nat.le_of_ble_eq_true rfl) dX7_night_19 ⟨Nat.zero_le _, Nat.zero_le _⟩) (fun t19 v19 H locs hr hW => ?_)
  have hp_22 := (z_spr (xoW E a b) (z_spr (hsW E (zh a 1) v19) (z_spr (rdW E (zh a 30) w) (z_spl (slW E b q) (z_all (hiW E (zh a 33) u8))))))
  refine z_calli X hW (fun z9 => z9) hr hp_22 (fun z9 => (hiW E (zh a 33) z9)) (fun u22 => ((xoW E a b) ++ ((hsW E (zh a 1) v19) ++ ((rdW E (zh a 30) w) ++ ((hiW E (zh a 33) u22) ++ (slW E b q)))))) (fun z9 => (z_jnr (xoW E a b) (z_jnr (hsW E (zh a 1) v19) (z_jnr (rdW E (zh a 30) w) (z_jnl (slW E b q) (z_lla (hiW E (zh a 33) z9))))))) (fun x z9 h => z_runV (As := [.int t19]) (rest := []) X hW hp_22 (c_X1_keepUnlessError l E (zh a 33) u8 t19 (x, z9) h _) hy_X1_keepUnlessError 33 1 (C := RX1) (T := TX1) (N := 3) rfl rfl rfl gX7_night_X1_keepUnlessError rfl rfl ⟨by decide, by decide⟩ rfl hl rfl rfl (Nat.le_of_ble_eq_true rfl) dX7_night_22 ⟨Nat.zero_le _, Nat.zero_le _⟩) (fun t22 u22 H locs hr hW => ?_)
  cases hr
  exact z_iret X hW rfl dX7_night_25
abbrev rm_X7_of : Room := { frames := 2, cells := 0, slots := 0, locals := 43 }
theorem hy_X7_of : zY yX7_of wsX7_of cX7_of 3 (some .int) 2 := ⟨⟨_, rfl⟩, by decide, by decide, by decide +kernel⟩
def d_X7_of (v : zHV) (w : zHV) (u : zHI) (q : zHI) (p1 : Int32) (p2 : Int32) : Option (Int32) :=
zcl (d_X2_aboutSeat v p1 p2) fun t6 =>
some t6
set_option maxHeartbeats 4000000 in
set_option maxRecDepth 100000 in
theorem c_X7_of (l : Launch) (E : zE) (a b : Nat → Nat) (v : zHV) (w : zHV) (u : zHI) (q : zHI) (p1 : Int32) (p2 : Int32) (r : Int32) (h : d_X7_of v w u q p1 p2 = some r) : zMi l E yX7_of wsX7_of rm_X7_of [.ref (a 0), .int p1, .int p2] ((xoW E a b) ++ ((hsW E (zh a 1) v) ++ ((rdW E (zh a 30) w) ++ ((hiW E (zh a 33) u) ++ (slW E b q))))) r ((xoW E a b) ++ ((hsW E (zh a 1) v) ++ ((rdW E (zh a 30) w) ++ ((hiW E (zh a 33) u) ++ (slW E b q))))) := by
  intro sz
  refine z_entry (Qc := fun A => zQi E A r ((xoW E a b) ++ ((hsW E (zh a 1) v) ++ ((rdW E (zh a 30) w) ++ ((hiW E (zh a 33) u) ++ (slW E b q)))))) (by decide) rfl (Nat.le_of_ble_eq_true rfl) ?_
  intro p e s m below meth c A X hW ls hl
  have X : zX E wsX7_of RX7 cX7_of 3 (some .int) yX7_of p s m ([.ref (a 0), .int p1, .int p2] : List Value).toArray meth c A := X
  have hl : lv_has ls 3 [(0, .ref (a 0)), (1, .int p1), (2, .int p2)] := hl
  have hr : d_X7_of v w u q p1 p2 = some r := h
  clear h
  have q_0 : Cond.fieldLink RX7 10 "ApplauseTallies" "house" "LApplauseTallies$House;" ∈ wsX7_of := List.mem_of_getElem? (i := 1) rfl
  have hn_X7 : ∀ x ∈ wsX70, x ∈ wsX7_of := zz_in [24, 25, 26, 27, 28] (by decide +kernel)
  unfold d_X7_of at hr
  refine lv_aload_n X.1 X.2.1 dX7_of_0 rfl (lv_at hl 0 rfl) ?_
  refine z_get X hW 0 7 0 (C := RX7) (T := TX7) (N := 5) rfl rfl hn_X7 (by decide) q_0 rfl dX7_of_1 ?_
  refine lv_iload_n X.1 X.2.1 dX7_of_4 rfl (lv_at hl 1 rfl) ?_
  refine lv_iload_n X.1 X.2.1 dX7_of_5 rfl (lv_at hl 2 rfl) ?_
  have hp_6 := (z_spr (xoW E a b) (z_spl ((rdW E (zh a 30) w) ++ ((hiW E (zh a 33) u) ++ (slW E b q))) (z_all (hsW E (zh a 1) v))))
  refine z_callp X hW hr hp_6 (fun x h => z_runV (As := [.int p1, .int p2]) (rest := []) X hW hp_6 (c_X2_aboutSeat l E (zh a 1) v p1 p2 x h _) hy_X2_aboutSeat 1 2 (C := RX2) (T := TX2) (N := 11) rfl rfl rfl gX7_of_X2_aboutSeat rfl rfl ⟨by decide, by decide⟩ rfl hl rfl rfl (Nat.le_of_ble_eq_true rfl) dX7_of_6 ⟨Nat.zero_le _, Nat.zero_le _⟩) (fun t6 H locs hr hW => ?_)
  cases hr
  exact z_iret X hW rfl dX7_of_9
abbrev rm_X7_performer : Room := { frames := 3, cells := 0, slots := 0, locals := 66 }
theorem hy_X7_performer : zY yX7_performer wsX7_performer cX7_performer 3 (some .int) 2 := ⟨⟨_, rfl⟩, by decide, by decide, by decide +kernel⟩
def d_X7_performer (v : zHV) (w : zHV) (u : zHI) (q : zHI) (p1 : Int32) (p2 : Int32) : Option (Int32) :=
zcl (d_X0_aboutPerformer (zh v 7) p1 p2) fun t9 =>
some t9
set_option maxHeartbeats 4000000 in
set_option maxRecDepth 100000 in
theorem c_X7_performer (l : Launch) (E : zE) (a b : Nat → Nat) (v : zHV) (w : zHV) (u : zHI) (q : zHI) (p1 : Int32) (p2 : Int32) (r : Int32) (h : d_X7_performer v w u q p1 p2 = some r) : zMi l E yX7_performer wsX7_performer rm_X7_performer [.ref (a 0), .int p1, .int p2] ((xoW E a b) ++ ((hsW E (zh a 1) v) ++ ((rdW E (zh a 30) w) ++ ((hiW E (zh a 33) u) ++ (slW E b q))))) r ((xoW E a b) ++ ((hsW E (zh a 1) v) ++ ((rdW E (zh a 30) w) ++ ((hiW E (zh a 33) u) ++ (slW E b q))))) := by
  intro sz
  refine z_entry (Qc := fun A => zQi E A r ((xoW E a b) ++ ((hsW E (zh a 1) v) ++ ((rdW E (zh a 30) w) ++ ((hiW E (zh a 33) u) ++ (slW E b q)))))) (by decide) rfl (Nat.le_of_ble_eq_true rfl) ?_
  intro p e s m below meth c A X hW ls hl
  have X : zX E wsX7_performer RX7 cX7_performer 3 (some .int) yX7_performer p s m ([.ref (a 0), .int p1, .int p2] : List Value).toArray meth c A := X
  have hl : lv_has ls 3 [(0, .ref (a 0)), (1, .int p1), (2, .int p2)] := hl
  have hr : d_X7_performer v w u q p1 p2 = some r := h
  clear h
  have q_0 : Cond.fieldLink RX7 10 "ApplauseTallies" "house" "LApplauseTallies$House;" ∈ wsX7_performer := List.mem_of_getElem? (i := 1) rfl
  have hn_X7 : ∀ x ∈ wsX70, x ∈ wsX7_performer := zz_in [25, 26, 27, 28, 29] (by decide +kernel)
  have hn_X2 : ∀ x ∈ wsX20, x ∈ wsX7_performer := zz_in [30, 31, 32, 33, 34, 35, 36, 37, 38, 39, 40] (by decide +kernel)
  unfold d_X7_performer at hr
  refine lv_aload_n X.1 X.2.1 dX7_performer_0 rfl (lv_at hl 0 rfl) ?_
  refine z_get X hW 0 7 0 (C := RX7) (T := TX7) (N := 5) rfl rfl hn_X7 (by decide) q_0 rfl dX7_performer_1 ?_
  refine z_getN X hW 1 2 2 (C := RX2) (T := TX2) (N := 11) rfl rfl hn_X2 (by decide) (List.mem_of_getElem? (i := 2) rfl) rfl dX7_performer_4 ?_
  refine lv_iload_n X.1 X.2.1 dX7_performer_7 rfl (lv_at hl 1 rfl) ?_
  refine lv_iload_n X.1 X.2.1 dX7_performer_8 rfl (lv_at hl 2 rfl) ?_
  have hp_9 := (z_spr (xoW E a b) (z_spl ((rdW E (zh a 30) w) ++ ((hiW E (zh a 33) u) ++ (slW E b q))) (sp_hs_14 E (zh a 1) v)))
  refine z_callp X hW hr hp_9 (fun x h => z_runV (As := [.int p1, .int p2]) (rest := []) X hW hp_9 (c_X0_aboutPerformer l E (zh (zh a 1) 14) (zh v 7) p1 p2 x h _) hy_X0_aboutPerformer 15 0 (C := RX0) (T := TX0) (N := 6) rfl rfl rfl gX7_performer_X0_aboutPerformer rfl rfl ⟨by decide, by decide⟩ rfl hl rfl rfl (Nat.le_of_ble_eq_true rfl) dX7_performer_9 ⟨Nat.zero_le _, Nat.zero_le _⟩) (fun t9 H locs hr hW => ?_)
  cases hr
  exact z_iret X hW rfl dX7_performer_12
abbrev rm_X7_owed : Room := { frames := 2, cells := 0, slots := 0, locals := 44 }
theorem hy_X7_owed : zY yX7_owed wsX7_owed cX7_owed 3 (some .int) 2 := ⟨⟨_, rfl⟩, by decide, by decide, by decide +kernel⟩
def d_X7_owed (v : zHV) (w : zHV) (u : zHI) (q : zHI) (p1 : Int32) (p2 : Int32) : Option (Int32) :=
zcl (d_X0_aboutOwed (zh v 7) p1 p2 (v 15 1)) fun t16 =>
some t16
set_option maxHeartbeats 4000000 in
set_option maxRecDepth 100000 in
theorem c_X7_owed (l : Launch) (E : zE) (a b : Nat → Nat) (v : zHV) (w : zHV) (u : zHI) (q : zHI) (p1 : Int32) (p2 : Int32) (r : Int32) (h : d_X7_owed v w u q p1 p2 = some r) : zMi l E yX7_owed wsX7_owed rm_X7_owed [.ref (a 0), .int p1, .int p2] ((xoW E a b) ++ ((hsW E (zh a 1) v) ++ ((rdW E (zh a 30) w) ++ ((hiW E (zh a 33) u) ++ (slW E b q))))) r ((xoW E a b) ++ ((hsW E (zh a 1) v) ++ ((rdW E (zh a 30) w) ++ ((hiW E (zh a 33) u) ++ (slW E b q))))) := by
  intro sz
  refine z_entry (Qc := fun A => zQi E A r ((xoW E a b) ++ ((hsW E (zh a 1) v) ++ ((rdW E (zh a 30) w) ++ ((hiW E (zh a 33) u) ++ (slW E b q)))))) (by decide) rfl (Nat.le_of_ble_eq_true rfl) ?_
  intro p e s m below meth c A X hW ls hl
  have X : zX E wsX7_owed RX7 cX7_owed 3 (some .int) yX7_owed p s m ([.ref (a 0), .int p1, .int p2] : List Value).toArray meth c A := X
  have hl : lv_has ls 3 [(0, .ref (a 0)), (1, .int p1), (2, .int p2)] := hl
  have hr : d_X7_owed v w u q p1 p2 = some r := h
  clear h
  have q_0 : Cond.fieldLink RX7 10 "ApplauseTallies" "house" "LApplauseTallies$House;" ∈ wsX7_owed := List.mem_of_getElem? (i := 1) rfl
  have hn_X7 : ∀ x ∈ wsX70, x ∈ wsX7_owed := zz_in [16, 17, 18, 19, 20] (by decide +kernel)
  have hn_X2 : ∀ x ∈ wsX20, x ∈ wsX7_owed := zz_in [21, 22, 23, 24, 25, 26, 27, 28, 29, 30, 31] (by decide +kernel)
  unfold d_X7_owed at hr
  refine lv_aload_n X.1 X.2.1 dX7_owed_0 rfl (lv_at hl 0 rfl) ?_
  refine z_get X hW 0 7 0 (C := RX7) (T := TX7) (N := 5) rfl rfl hn_X7 (by decide) q_0 rfl dX7_owed_1 ?_
  refine z_getN X hW 1 2 2 (C := RX2) (T := TX2) (N := 11) rfl rfl hn_X2 (by decide) (List.mem_of_getElem? (i := 2) rfl) rfl dX7_owed_4 ?_
  refine lv_iload_n X.1 X.2.1 dX7_owed_7 rfl (lv_at hl 1 rfl) ?_
  refine lv_iload_n X.1 X.2.1 dX7_owed_8 rfl (lv_at hl 2 rfl) ?_
  refine lv_aload_n X.1 X.2.1 dX7_owed_9 rfl (lv_at hl 0 rfl) ?_
  refine z_get X hW 0 7 0 (C := RX7) (T := TX7) (N := 5) rfl rfl hn_X7 (by decide) q_0 rfl dX7_owed_10 ?_
  refine z_getN X hW 1 2 6 (C := RX2) (T := TX2) (N := 11) rfl rfl hn_X2 (by decide) (List.mem_of_getElem? (i := 0) rfl) rfl dX7_owed_13 ?_
  have hp_16 := (z_spr (xoW E a b) (z_spl ((rdW E (zh a 30) w) ++ ((hiW E (zh a 33) u) ++ (slW E b q))) (sp_hs_14 E (zh a 1) v)))
  refine z_callp X hW hr hp_16 (fun x h => z_runV (As := [.int p1, .int p2, .int (v 15 1)]) (rest := []) X hW hp_16 (c_X0_aboutOwed l E (zh (zh a 1) 14) (zh v 7) p1 p2 (v 15 1) x h _) hy_X0_aboutOwed 15 0 (C := RX0) (T := TX0) (N := 6) rfl rfl rfl gX7_owed_X0_aboutOwed rfl rfl ⟨by decide, by decide⟩ rfl hl rfl rfl (Nat.le_of_ble_eq_true rfl) dX7_owed_16 ⟨Nat.zero_le _, Nat.zero_le _⟩) (fun t16 H locs hr hW => ?_)
  cases hr
  exact z_iret X hW rfl dX7_owed_19
abbrev rm_X7_clapper : Room := { frames := 2, cells := 0, slots := 0, locals := 42 }
theorem hy_X7_clapper : zY yX7_clapper wsX7_clapper cX7_clapper 2 (some .int) 1 := ⟨⟨_, rfl⟩, by decide, by decide, by decide +kernel⟩
def d_X7_clapper (v : zHV) (w : zHV) (u : zHI) (q : zHI) (p1 : Int32) : Option (Int32) :=
zcl (d_X6_clapperAt (zh v 1) p1) fun t8 =>
some t8
set_option maxHeartbeats 4000000 in
set_option maxRecDepth 100000 in
theorem c_X7_clapper (l : Launch) (E : zE) (a b : Nat → Nat) (v : zHV) (w : zHV) (u : zHI) (q : zHI) (p1 : Int32) (r : Int32) (h : d_X7_clapper v w u q p1 = some r) : zMi l E yX7_clapper wsX7_clapper rm_X7_clapper [.ref (a 0), .int p1] ((xoW E a b) ++ ((hsW E (zh a 1) v) ++ ((rdW E (zh a 30) w) ++ ((hiW E (zh a 33) u) ++ (slW E b q))))) r ((xoW E a b) ++ ((hsW E (zh a 1) v) ++ ((rdW E (zh a 30) w) ++ ((hiW E (zh a 33) u) ++ (slW E b q))))) := by
  intro sz
  refine z_entry (Qc := fun A => zQi E A r ((xoW E a b) ++ ((hsW E (zh a 1) v) ++ ((rdW E (zh a 30) w) ++ ((hiW E (zh a 33) u) ++ (slW E b q)))))) (by decide) rfl (Nat.le_of_ble_eq_true rfl) ?_
  intro p e s m below meth c A X hW ls hl
  have X : zX E wsX7_clapper RX7 cX7_clapper 2 (some .int) yX7_clapper p s m ([.ref (a 0), .int p1] : List Value).toArray meth c A := X
  have hl : lv_has ls 2 [(0, .ref (a 0)), (1, .int p1)] := hl
  have hr : d_X7_clapper v w u q p1 = some r := h
  clear h
  have q_0 : Cond.fieldLink RX7 10 "ApplauseTallies" "house" "LApplauseTallies$House;" ∈ wsX7_clapper := List.mem_of_getElem? (i := 1) rfl
  have hn_X7 : ∀ x ∈ wsX70, x ∈ wsX7_clapper := zz_in [15, 16, 17, 18, 19] (by decide +kernel)
  have hn_X2 : ∀ x ∈ wsX20, x ∈ wsX7_clapper := zz_in [20, 21, 22, 23, 24, 25, 26, 27, 28, 29, 30] (by decide +kernel)
  unfold d_X7_clapper at hr
  refine lv_aload_n X.1 X.2.1 dX7_clapper_0 rfl (lv_at hl 0 rfl) ?_
  refine z_get X hW 0 7 0 (C := RX7) (T := TX7) (N := 5) rfl rfl hn_X7 (by decide) q_0 rfl dX7_clapper_1 ?_
  refine z_getN X hW 1 2 1 (C := RX2) (T := TX2) (N := 11) rfl rfl hn_X2 (by decide) (List.mem_of_getElem? (i := 1) rfl) rfl dX7_clapper_4 ?_
  refine lv_iload_n X.1 X.2.1 dX7_clapper_7 rfl (lv_at hl 1 rfl) ?_
  have hp_8 := (z_spr (xoW E a b) (z_spl ((rdW E (zh a 30) w) ++ ((hiW E (zh a 33) u) ++ (slW E b q))) (sp_hs_3 E (zh a 1) v)))
  refine z_callp X hW hr hp_8 (fun x h => z_runV (As := [.int p1]) (rest := []) X hW hp_8 (c_X6_clapperAt l E (zh (zh a 1) 3) (zh v 1) p1 x h _) hy_X6_clapperAt 4 6 (C := RX6) (T := TX6) (N := 8) rfl rfl rfl gX7_clapper_X6_clapperAt rfl rfl ⟨by decide, by decide⟩ rfl hl rfl rfl (Nat.le_of_ble_eq_true rfl) dX7_clapper_8 ⟨Nat.zero_le _, Nat.zero_le _⟩) (fun t8 H locs hr hW => ?_)
  cases hr
  exact z_iret X hW rfl dX7_clapper_11
abbrev rm_X7_record : Room := { frames := 2, cells := 0, slots := 0, locals := 43 }
theorem hy_X7_record : zY yX7_record wsX7_record cX7_record 3 (some .int) 2 := ⟨⟨_, rfl⟩, by decide, by decide, by decide +kernel⟩
def d_X7_record (v : zHV) (w : zHV) (u : zHI) (q : zHI) (p1 : Int32) (p2 : Int32) : Option (Int32) :=
zcl (d_X2_recordOf v p1 p2) fun t6 =>
some t6
set_option maxHeartbeats 4000000 in
set_option maxRecDepth 100000 in
theorem c_X7_record (l : Launch) (E : zE) (a b : Nat → Nat) (v : zHV) (w : zHV) (u : zHI) (q : zHI) (p1 : Int32) (p2 : Int32) (r : Int32) (h : d_X7_record v w u q p1 p2 = some r) : zMi l E yX7_record wsX7_record rm_X7_record [.ref (a 0), .int p1, .int p2] ((xoW E a b) ++ ((hsW E (zh a 1) v) ++ ((rdW E (zh a 30) w) ++ ((hiW E (zh a 33) u) ++ (slW E b q))))) r ((xoW E a b) ++ ((hsW E (zh a 1) v) ++ ((rdW E (zh a 30) w) ++ ((hiW E (zh a 33) u) ++ (slW E b q))))) := by
  intro sz
  refine z_entry (Qc := fun A => zQi E A r ((xoW E a b) ++ ((hsW E (zh a 1) v) ++ ((rdW E (zh a 30) w) ++ ((hiW E (zh a 33) u) ++ (slW E b q)))))) (by decide) rfl (Nat.le_of_ble_eq_true rfl) ?_
  intro p e s m below meth c A X hW ls hl
  have X : zX E wsX7_record RX7 cX7_record 3 (some .int) yX7_record p s m ([.ref (a 0), .int p1, .int p2] : List Value).toArray meth c A := X
  have hl : lv_has ls 3 [(0, .ref (a 0)), (1, .int p1), (2, .int p2)] := hl
  have hr : d_X7_record v w u q p1 p2 = some r := h
  clear h
  have q_0 : Cond.fieldLink RX7 10 "ApplauseTallies" "house" "LApplauseTallies$House;" ∈ wsX7_record := List.mem_of_getElem? (i := 1) rfl
  have hn_X7 : ∀ x ∈ wsX70, x ∈ wsX7_record := zz_in [22, 23, 24, 25, 26] (by decide +kernel)
  unfold d_X7_record at hr
  refine lv_aload_n X.1 X.2.1 dX7_record_0 rfl (lv_at hl 0 rfl) ?_
  refine z_get X hW 0 7 0 (C := RX7) (T := TX7) (N := 5) rfl rfl hn_X7 (by decide) q_0 rfl dX7_record_1 ?_
  refine lv_iload_n X.1 X.2.1 dX7_record_4 rfl (lv_at hl 1 rfl) ?_
  refine lv_iload_n X.1 X.2.1 dX7_record_5 rfl (lv_at hl 2 rfl) ?_
  have hp_6 := (z_spr (xoW E a b) (z_spl ((rdW E (zh a 30) w) ++ ((hiW E (zh a 33) u) ++ (slW E b q))) (z_all (hsW E (zh a 1) v))))
  refine z_callp X hW hr hp_6 (fun x h => z_runV (As := [.int p1, .int p2]) (rest := []) X hW hp_6 (c_X2_recordOf l E (zh a 1) v p1 p2 x h _) hy_X2_recordOf 1 2 (C := RX2) (T := TX2) (N := 11) rfl rfl rfl gX7_record_X2_recordOf rfl rfl ⟨by decide, by decide⟩ rfl hl rfl rfl (Nat.le_of_ble_eq_true rfl) dX7_record_6 ⟨Nat.zero_le _, Nat.zero_le _⟩) (fun t6 H locs hr hW => ?_)
  cases hr
  exact z_iret X hW rfl dX7_record_9
abbrev rm_X7_count : Room := { frames := 4, cells := 0, slots := 0, locals := 85 }
theorem hy_X7_count : zY yX7_count wsX7_count cX7_count 2 (some .int) 1 := ⟨⟨_, rfl⟩, by decide, by decide, by decide +kernel⟩
def d_X7_count (v : zHV) (w : zHV) (u : zHI) (q : zHI) (p1 : Int32) : Option (Int32) :=
(if p1 = 19 then
zcl (d_X4_length w) fun t32 =>
some t32
else
(if p1 = 20 then
zcl (d_X1_kept u) fun t40 =>
some t40
else
zcl (d_X2_numberOf v p1) fun t49 =>
some t49))
set_option maxHeartbeats 4000000 in
set_option maxRecDepth 100000 in
theorem c_X7_count (l : Launch) (E : zE) (a b : Nat → Nat) (v : zHV) (w : zHV) (u : zHI) (q : zHI) (p1 : Int32) (r : Int32) (h : d_X7_count v w u q p1 = some r) : zMi l E yX7_count wsX7_count rm_X7_count [.ref (a 0), .int p1] ((xoW E a b) ++ ((hsW E (zh a 1) v) ++ ((rdW E (zh a 30) w) ++ ((hiW E (zh a 33) u) ++ (slW E b q))))) r ((xoW E a b) ++ ((hsW E (zh a 1) v) ++ ((rdW E (zh a 30) w) ++ ((hiW E (zh a 33) u) ++ (slW E b q))))) := by
  intro sz
  refine z_entry (Qc := fun A => zQi E A r ((xoW E a b) ++ ((hsW E (zh a 1) v) ++ ((rdW E (zh a 30) w) ++ ((hiW E (zh a 33) u) ++ (slW E b q)))))) (by decide) rfl (Nat.le_of_ble_eq_true rfl) ?_
  intro p e s m below meth c A X hW ls hl
  have X : zX E wsX7_count RX7 cX7_count 2 (some .int) yX7_count p s m ([.ref (a 0), .int p1] : List Value).toArray meth c A := X
  have hl : lv_has ls 2 [(0, .ref (a 0)), (1, .int p1)] := hl
  have hr : d_X7_count v w u q p1 = some r := h
  clear h
  have q_0 : Cond.fieldLink RX7 30 "ApplauseTallies" "pad" "LApplauseTallies$Pad;" ∈ wsX7_count := List.mem_of_getElem? (i := 1) rfl
  have hn_X7 : ∀ x ∈ wsX70, x ∈ wsX7_count := zz_in [51, 52, 53, 54, 55] (by decide +kernel)
  have q_2 : Cond.fieldLink RX7 19 "ApplauseTallies" "history" "LApplauseTallies$History;" ∈ wsX7_count := List.mem_of_getElem? (i := 2) rfl
  have q_3 : Cond.fieldLink RX7 10 "ApplauseTallies" "house" "LApplauseTallies$House;" ∈ wsX7_count := List.mem_of_getElem? (i := 3) rfl
  unfold d_X7_count at hr
  refine lv_iload_n X.1 X.2.1 dX7_count_0 rfl (lv_at hl 1 rfl) ?_
  refine z_if hr (fun h_0 hr => ?_) (fun h_0 hr => ?_)
  · refine lv_lookup (off := 27) (tgt := 28) X.1 X.2.1 dX7_count_1 (by decide) (by rw [h_0]; rfl) (by decide) ?_
    refine lv_aload_n X.1 X.2.1 dX7_count_28 rfl (lv_at hl 0 rfl) ?_
    refine z_get X hW 0 7 3 (C := RX7) (T := TX7) (N := 5) rfl rfl hn_X7 (by decide) q_0 rfl dX7_count_29 ?_
    have hp_32 := (z_spr (xoW E a b) (z_spr (hsW E (zh a 1) v) (z_spl ((hiW E (zh a 33) u) ++ (slW E b q)) (sp_rd_1 E (zh a 30) w))))
    refine z_callp X hW hr hp_32 (fun x h => z_runV (As := []) (rest := []) X hW hp_32 (c_X4_length l E (zh (zh a 30) 1) w x h _) hy_X4_length 31 4 (C := RX4) (T := TX4) (N := 2) rfl rfl rfl gX7_count_X4_length rfl rfl ⟨by decide, by decide⟩ rfl hl rfl rfl (Nat.le_of_ble_eq_true rfl) dX7_count_32 ⟨Nat.zero_le _, Nat.zero_le _⟩) (fun t32 H locs hr hW => ?_)
    cases hr
    exact z_iret X hW rfl dX7_count_35
  · refine z_if hr (fun h_1 hr => ?_) (fun h_1 hr => ?_)
    · refine lv_lookup (off := 35) (tgt := 36) X.1 X.2.1 dX7_count_1 (by decide) (by rw [h_1]; rfl) (by decide) ?_
      refine lv_aload_n X.1 X.2.1 dX7_count_36 rfl (lv_at hl 0 rfl) ?_
      refine z_get X hW 0 7 1 (C := RX7) (T := TX7) (N := 5) rfl rfl hn_X7 (by decide) q_2 rfl dX7_count_37 ?_
      have hp_40 := (z_spr (xoW E a b) (z_spr (hsW E (zh a 1) v) (z_spr (rdW E (zh a 30) w) (z_spl (slW E b q) (z_all (hiW E (zh a 33) u))))))
      refine z_callp X hW hr hp_40 (fun x h => z_runV (As := []) (rest := []) X hW hp_40 (c_X1_kept l E (zh a 33) u x h _) hy_X1_kept 33 1 (C := RX1) (T := TX1) (N := 3) rfl rfl rfl gX7_count_X1_kept rfl rfl ⟨by decide, by decide⟩ rfl hl rfl rfl (Nat.le_of_ble_eq_true rfl) dX7_count_40 ⟨Nat.zero_le _, Nat.zero_le _⟩) (fun t40 H locs hr hW => ?_)
      cases hr
      exact z_iret X hW rfl dX7_count_43
    · refine lv_lookup (off := 43) (tgt := 44) X.1 X.2.1 dX7_count_1 (by decide) ((lv_osw h_0 (by decide)).trans ((lv_osw h_1 (by decide)).trans (rfl))) (by decide) ?_
      refine lv_aload_n X.1 X.2.1 dX7_count_44 rfl (lv_at hl 0 rfl) ?_
      refine z_get X hW 0 7 0 (C := RX7) (T := TX7) (N := 5) rfl rfl hn_X7 (by decide) q_3 rfl dX7_count_45 ?_
      refine lv_iload_n X.1 X.2.1 dX7_count_48 rfl (lv_at hl 1 rfl) ?_
      have hp_49 := (z_spr (xoW E a b) (z_spl ((rdW E (zh a 30) w) ++ ((hiW E (zh a 33) u) ++ (slW E b q))) (z_all (hsW E (zh a 1) v))))
      refine z_callp X hW hr hp_49 (fun x h => z_runV (As := [.int p1]) (rest := []) X hW hp_49 (c_X2_numberOf l E (zh a 1) v p1 x h _) hy_X2_numberOf 1 2 (C := RX2) (T := TX2) (N := 11) rfl rfl rfl gX7_count_X2_numberOf rfl rfl ⟨by decide, by decide⟩ rfl hl rfl rfl (Nat.le_of_ble_eq_true rfl) dX7_count_49 ⟨Nat.zero_le _, Nat.zero_le _⟩) (fun t49 H locs hr hW => ?_)
      cases hr
      exact z_iret X hW rfl dX7_count_52
abbrev rm_X7_quietIn : Room := { frames := 3, cells := 0, slots := 0, locals := 65 }
theorem hy_X7_quietIn : zY yX7_quietIn wsX7_quietIn cX7_quietIn 2 (some .int) 1 := ⟨⟨_, rfl⟩, by decide, by decide, by decide +kernel⟩
def d_X7_quietIn (v : zHV) (w : zHV) (u : zHI) (q : zHI) (p1 : Int32) : Option (Int32) :=
zcl (d_X2_secondsUntil v p1) fun t5 =>
some t5
set_option maxHeartbeats 4000000 in
set_option maxRecDepth 100000 in
theorem c_X7_quietIn (l : Launch) (E : zE) (a b : Nat → Nat) (v : zHV) (w : zHV) (u : zHI) (q : zHI) (p1 : Int32) (r : Int32) (h : d_X7_quietIn v w u q p1 = some r) : zMi l E yX7_quietIn wsX7_quietIn rm_X7_quietIn [.ref (a 0), .int p1] ((xoW E a b) ++ ((hsW E (zh a 1) v) ++ ((rdW E (zh a 30) w) ++ ((hiW E (zh a 33) u) ++ (slW E b q))))) r ((xoW E a b) ++ ((hsW E (zh a 1) v) ++ ((rdW E (zh a 30) w) ++ ((hiW E (zh a 33) u) ++ (slW E b q))))) := by
  intro sz
  refine z_entry (Qc := fun A => zQi E A r ((xoW E a b) ++ ((hsW E (zh a 1) v) ++ ((rdW E (zh a 30) w) ++ ((hiW E (zh a 33) u) ++ (slW E b q)))))) (by decide) rfl (Nat.le_of_ble_eq_true rfl) ?_
  intro p e s m below meth c A X hW ls hl
  have X : zX E wsX7_quietIn RX7 cX7_quietIn 2 (some .int) yX7_quietIn p s m ([.ref (a 0), .int p1] : List Value).toArray meth c A := X
  have hl : lv_has ls 2 [(0, .ref (a 0)), (1, .int p1)] := hl
  have hr : d_X7_quietIn v w u q p1 = some r := h
  clear h
  have q_0 : Cond.fieldLink RX7 10 "ApplauseTallies" "house" "LApplauseTallies$House;" ∈ wsX7_quietIn := List.mem_of_getElem? (i := 1) rfl
  have hn_X7 : ∀ x ∈ wsX70, x ∈ wsX7_quietIn := zz_in [22, 23, 24, 25, 26] (by decide +kernel)
  unfold d_X7_quietIn at hr
  refine lv_aload_n X.1 X.2.1 dX7_quietIn_0 rfl (lv_at hl 0 rfl) ?_
  refine z_get X hW 0 7 0 (C := RX7) (T := TX7) (N := 5) rfl rfl hn_X7 (by decide) q_0 rfl dX7_quietIn_1 ?_
  refine lv_iload_n X.1 X.2.1 dX7_quietIn_4 rfl (lv_at hl 1 rfl) ?_
  have hp_5 := (z_spr (xoW E a b) (z_spl ((rdW E (zh a 30) w) ++ ((hiW E (zh a 33) u) ++ (slW E b q))) (z_all (hsW E (zh a 1) v))))
  refine z_callp X hW hr hp_5 (fun x h => z_runV (As := [.int p1]) (rest := []) X hW hp_5 (c_X2_secondsUntil l E (zh a 1) v p1 x h _) hy_X2_secondsUntil 1 2 (C := RX2) (T := TX2) (N := 11) rfl rfl rfl gX7_quietIn_X2_secondsUntil rfl rfl ⟨by decide, by decide⟩ rfl hl rfl rfl (Nat.le_of_ble_eq_true rfl) dX7_quietIn_5 ⟨Nat.zero_le _, Nat.zero_le _⟩) (fun t5 H locs hr hW => ?_)
  cases hr
  exact z_iret X hW rfl dX7_quietIn_8
abbrev rm_X7_clapsFor : Room := { frames := 2, cells := 0, slots := 0, locals := 44 }
theorem hy_X7_clapsFor : zY yX7_clapsFor wsX7_clapsFor cX7_clapsFor 2 (some .int) 1 := ⟨⟨_, rfl⟩, by decide, by decide, by decide +kernel⟩
def d_X7_clapsFor (v : zHV) (w : zHV) (u : zHI) (q : zHI) (p1 : Int32) : Option (Int32) :=
zcl (d_X2_clapsUntilEncore v p1) fun t5 =>
some t5
set_option maxHeartbeats 4000000 in
set_option maxRecDepth 100000 in
theorem c_X7_clapsFor (l : Launch) (E : zE) (a b : Nat → Nat) (v : zHV) (w : zHV) (u : zHI) (q : zHI) (p1 : Int32) (r : Int32) (h : d_X7_clapsFor v w u q p1 = some r) : zMi l E yX7_clapsFor wsX7_clapsFor rm_X7_clapsFor [.ref (a 0), .int p1] ((xoW E a b) ++ ((hsW E (zh a 1) v) ++ ((rdW E (zh a 30) w) ++ ((hiW E (zh a 33) u) ++ (slW E b q))))) r ((xoW E a b) ++ ((hsW E (zh a 1) v) ++ ((rdW E (zh a 30) w) ++ ((hiW E (zh a 33) u) ++ (slW E b q))))) := by
  intro sz
  refine z_entry (Qc := fun A => zQi E A r ((xoW E a b) ++ ((hsW E (zh a 1) v) ++ ((rdW E (zh a 30) w) ++ ((hiW E (zh a 33) u) ++ (slW E b q)))))) (by decide) rfl (Nat.le_of_ble_eq_true rfl) ?_
  intro p e s m below meth c A X hW ls hl
  have X : zX E wsX7_clapsFor RX7 cX7_clapsFor 2 (some .int) yX7_clapsFor p s m ([.ref (a 0), .int p1] : List Value).toArray meth c A := X
  have hl : lv_has ls 2 [(0, .ref (a 0)), (1, .int p1)] := hl
  have hr : d_X7_clapsFor v w u q p1 = some r := h
  clear h
  have q_0 : Cond.fieldLink RX7 10 "ApplauseTallies" "house" "LApplauseTallies$House;" ∈ wsX7_clapsFor := List.mem_of_getElem? (i := 1) rfl
  have hn_X7 : ∀ x ∈ wsX70, x ∈ wsX7_clapsFor := zz_in [21, 22, 23, 24, 25] (by decide +kernel)
  unfold d_X7_clapsFor at hr
  refine lv_aload_n X.1 X.2.1 dX7_clapsFor_0 rfl (lv_at hl 0 rfl) ?_
  refine z_get X hW 0 7 0 (C := RX7) (T := TX7) (N := 5) rfl rfl hn_X7 (by decide) q_0 rfl dX7_clapsFor_1 ?_
  refine lv_iload_n X.1 X.2.1 dX7_clapsFor_4 rfl (lv_at hl 1 rfl) ?_
  have hp_5 := (z_spr (xoW E a b) (z_spl ((rdW E (zh a 30) w) ++ ((hiW E (zh a 33) u) ++ (slW E b q))) (z_all (hsW E (zh a 1) v))))
  refine z_callp X hW hr hp_5 (fun x h => z_runV (As := [.int p1]) (rest := []) X hW hp_5 (c_X2_clapsUntilEncore l E (zh a 1) v p1 x h _) hy_X2_clapsUntilEncore 1 2 (C := RX2) (T := TX2) (N := 11) rfl rfl rfl gX7_clapsFor_X2_clapsUntilEncore rfl rfl ⟨by decide, by decide⟩ rfl hl rfl rfl (Nat.le_of_ble_eq_true rfl) dX7_clapsFor_5 ⟨Nat.zero_le _, Nat.zero_le _⟩) (fun t5 H locs hr hW => ?_)
  cases hr
  exact z_iret X hW rfl dX7_clapsFor_8
abbrev rm_X7_lapsesIn : Room := { frames := 3, cells := 0, slots := 0, locals := 66 }
theorem hy_X7_lapsesIn : zY yX7_lapsesIn wsX7_lapsesIn cX7_lapsesIn 2 (some .int) 1 := ⟨⟨_, rfl⟩, by decide, by decide, by decide +kernel⟩
def d_X7_lapsesIn (v : zHV) (w : zHV) (u : zHI) (q : zHI) (p1 : Int32) : Option (Int32) :=
zcl (d_X2_secondsUntilLapse v p1) fun t5 =>
some t5
set_option maxHeartbeats 4000000 in
set_option maxRecDepth 100000 in
theorem c_X7_lapsesIn (l : Launch) (E : zE) (a b : Nat → Nat) (v : zHV) (w : zHV) (u : zHI) (q : zHI) (p1 : Int32) (r : Int32) (h : d_X7_lapsesIn v w u q p1 = some r) : zMi l E yX7_lapsesIn wsX7_lapsesIn rm_X7_lapsesIn [.ref (a 0), .int p1] ((xoW E a b) ++ ((hsW E (zh a 1) v) ++ ((rdW E (zh a 30) w) ++ ((hiW E (zh a 33) u) ++ (slW E b q))))) r ((xoW E a b) ++ ((hsW E (zh a 1) v) ++ ((rdW E (zh a 30) w) ++ ((hiW E (zh a 33) u) ++ (slW E b q))))) := by
  intro sz
  refine z_entry (Qc := fun A => zQi E A r ((xoW E a b) ++ ((hsW E (zh a 1) v) ++ ((rdW E (zh a 30) w) ++ ((hiW E (zh a 33) u) ++ (slW E b q)))))) (by decide) rfl (Nat.le_of_ble_eq_true rfl) ?_
  intro p e s m below meth c A X hW ls hl
  have X : zX E wsX7_lapsesIn RX7 cX7_lapsesIn 2 (some .int) yX7_lapsesIn p s m ([.ref (a 0), .int p1] : List Value).toArray meth c A := X
  have hl : lv_has ls 2 [(0, .ref (a 0)), (1, .int p1)] := hl
  have hr : d_X7_lapsesIn v w u q p1 = some r := h
  clear h
  have q_0 : Cond.fieldLink RX7 10 "ApplauseTallies" "house" "LApplauseTallies$House;" ∈ wsX7_lapsesIn := List.mem_of_getElem? (i := 1) rfl
  have hn_X7 : ∀ x ∈ wsX70, x ∈ wsX7_lapsesIn := zz_in [31, 32, 33, 34, 35] (by decide +kernel)
  unfold d_X7_lapsesIn at hr
  refine lv_aload_n X.1 X.2.1 dX7_lapsesIn_0 rfl (lv_at hl 0 rfl) ?_
  refine z_get X hW 0 7 0 (C := RX7) (T := TX7) (N := 5) rfl rfl hn_X7 (by decide) q_0 rfl dX7_lapsesIn_1 ?_
  refine lv_iload_n X.1 X.2.1 dX7_lapsesIn_4 rfl (lv_at hl 1 rfl) ?_
  have hp_5 := (z_spr (xoW E a b) (z_spl ((rdW E (zh a 30) w) ++ ((hiW E (zh a 33) u) ++ (slW E b q))) (z_all (hsW E (zh a 1) v))))
  refine z_callp X hW hr hp_5 (fun x h => z_runV (As := [.int p1]) (rest := []) X hW hp_5 (c_X2_secondsUntilLapse l E (zh a 1) v p1 x h _) hy_X2_secondsUntilLapse 1 2 (C := RX2) (T := TX2) (N := 11) rfl rfl rfl gX7_lapsesIn_X2_secondsUntilLapse rfl rfl ⟨by decide, by decide⟩ rfl hl rfl rfl (Nat.le_of_ble_eq_true rfl) dX7_lapsesIn_5 ⟨Nat.zero_le _, Nat.zero_le _⟩) (fun t5 H locs hr hW => ?_)
  cases hr
  exact z_iret X hW rfl dX7_lapsesIn_8
abbrev rm_X7_calls : Room := { frames := 2, cells := 0, slots := 0, locals := 43 }
theorem hy_X7_calls : zY yX7_calls wsX7_calls cX7_calls 1 (some .int) 0 := ⟨⟨_, rfl⟩, by decide, by decide, by decide +kernel⟩
def d_X7_calls (v : zHV) (w : zHV) (u : zHI) (q : zHI) : Option (Int32) :=
zcl (d_X2_curtainsLeft v) fun t4 =>
some t4
set_option maxHeartbeats 4000000 in
set_option maxRecDepth 100000 in
theorem c_X7_calls (l : Launch) (E : zE) (a b : Nat → Nat) (v : zHV) (w : zHV) (u : zHI) (q : zHI) (r : Int32) (h : d_X7_calls v w u q = some r) : zMi l E yX7_calls wsX7_calls rm_X7_calls [.ref (a 0)] ((xoW E a b) ++ ((hsW E (zh a 1) v) ++ ((rdW E (zh a 30) w) ++ ((hiW E (zh a 33) u) ++ (slW E b q))))) r ((xoW E a b) ++ ((hsW E (zh a 1) v) ++ ((rdW E (zh a 30) w) ++ ((hiW E (zh a 33) u) ++ (slW E b q))))) := by
  intro sz
  refine z_entry (Qc := fun A => zQi E A r ((xoW E a b) ++ ((hsW E (zh a 1) v) ++ ((rdW E (zh a 30) w) ++ ((hiW E (zh a 33) u) ++ (slW E b q)))))) (by decide) rfl (Nat.le_of_ble_eq_true rfl) ?_
  intro p e s m below meth c A X hW ls hl
  have X : zX E wsX7_calls RX7 cX7_calls 1 (some .int) yX7_calls p s m ([.ref (a 0)] : List Value).toArray meth c A := X
  have hl : lv_has ls 1 [(0, .ref (a 0))] := hl
  have hr : d_X7_calls v w u q = some r := h
  clear h
  have q_0 : Cond.fieldLink RX7 10 "ApplauseTallies" "house" "LApplauseTallies$House;" ∈ wsX7_calls := List.mem_of_getElem? (i := 1) rfl
  have hn_X7 : ∀ x ∈ wsX70, x ∈ wsX7_calls := zz_in [15, 16, 17, 18, 19] (by decide +kernel)
  unfold d_X7_calls at hr
  refine lv_aload_n X.1 X.2.1 dX7_calls_0 rfl (lv_at hl 0 rfl) ?_
  refine z_get X hW 0 7 0 (C := RX7) (T := TX7) (N := 5) rfl rfl hn_X7 (by decide) q_0 rfl dX7_calls_1 ?_
  have hp_4 := (z_spr (xoW E a b) (z_spl ((rdW E (zh a 30) w) ++ ((hiW E (zh a 33) u) ++ (slW E b q))) (z_all (hsW E (zh a 1) v))))
  refine z_callp X hW hr hp_4 (fun x h => z_runV (As := []) (rest := []) X hW hp_4 (c_X2_curtainsLeft l E (zh a 1) v x h _) hy_X2_curtainsLeft 1 2 (C := RX2) (T := TX2) (N := 11) rfl rfl rfl gX7_calls_X2_curtainsLeft rfl rfl ⟨by decide, by decide⟩ rfl hl rfl rfl (Nat.le_of_ble_eq_true rfl) dX7_calls_4 ⟨Nat.zero_le _, Nat.zero_le _⟩) (fun t4 H locs hr hW => ?_)
  cases hr
  exact z_iret X hW rfl dX7_calls_7
abbrev rm_X7_ifFound : Room := { frames := 2, cells := 0, slots := 0, locals := 44 }
theorem hy_X7_ifFound : zY yX7_ifFound wsX7_ifFound cX7_ifFound 2 (some .int) 1 := ⟨⟨_, rfl⟩, by decide, by decide, by decide +kernel⟩
def d_X7_ifFound (v : zHV) (w : zHV) (u : zHI) (q : zHI) (p1 : Int32) : Option (Int32) :=
zld 6 zLEAST 4 fun t5 =>
(if p1 < t5 then
some (-2)
else
zld 6 zMOST 4 fun t14 =>
(if p1 ≤ t14 then
zcl (d_X6_suspected (zh v 1) p1) fun t29 =>
some t29
else
some (-2)))
set_option maxHeartbeats 4000000 in
set_option maxRecDepth 100000 in
theorem c_X7_ifFound (l : Launch) (E : zE) (a b : Nat → Nat) (v : zHV) (w : zHV) (u : zHI) (q : zHI) (p1 : Int32) (r : Int32) (h : d_X7_ifFound v w u q p1 = some r) : zMi l E yX7_ifFound wsX7_ifFound rm_X7_ifFound [.ref (a 0), .int p1] ((xoW E a b) ++ ((hsW E (zh a 1) v) ++ ((rdW E (zh a 30) w) ++ ((hiW E (zh a 33) u) ++ (slW E b q))))) r ((xoW E a b) ++ ((hsW E (zh a 1) v) ++ ((rdW E (zh a 30) w) ++ ((hiW E (zh a 33) u) ++ (slW E b q))))) := by
  intro sz
  refine z_entry (Qc := fun A => zQi E A r ((xoW E a b) ++ ((hsW E (zh a 1) v) ++ ((rdW E (zh a 30) w) ++ ((hiW E (zh a 33) u) ++ (slW E b q)))))) (by decide) rfl (Nat.le_of_ble_eq_true rfl) ?_
  intro p e s m below meth c A X hW ls hl
  have X : zX E wsX7_ifFound RX7 cX7_ifFound 2 (some .int) yX7_ifFound p s m ([.ref (a 0), .int p1] : List Value).toArray meth c A := X
  have hl : lv_has ls 2 [(0, .ref (a 0)), (1, .int p1)] := hl
  have hr : d_X7_ifFound v w u q p1 = some r := h
  clear h
  have q_0 : Cond.fieldLink RX7 146 "ApplauseTallies" "LEAST" "[I" ∈ wsX7_ifFound := List.mem_of_getElem? (i := 1) rfl
  have q_1 : Cond.fieldLink RX7 150 "ApplauseTallies" "MOST" "[I" ∈ wsX7_ifFound := List.mem_of_getElem? (i := 2) rfl
  have q_2 : Cond.fieldLink RX7 10 "ApplauseTallies" "house" "LApplauseTallies$House;" ∈ wsX7_ifFound := List.mem_of_getElem? (i := 3) rfl
  have hn_X7 : ∀ x ∈ wsX70, x ∈ wsX7_ifFound := zz_in [16, 17, 18, 19, 20] (by decide +kernel)
  have hn_X2 : ∀ x ∈ wsX20, x ∈ wsX7_ifFound := zz_in [21, 22, 23, 24, 25, 26, 27, 28, 29, 30, 31] (by decide +kernel)
  unfold d_X7_ifFound at hr
  refine lv_iload_n X.1 X.2.1 dX7_ifFound_0 rfl (lv_at hl 1 rfl) ?_
  refine z_gets X hW (X.2.2.2.2.2.1.2.2.2.1.1) q_0 dX7_ifFound_1 ?_
  refine lv_iconst (v := 4) X.1 X.2.1 dX7_ifFound_4 (by decide) ?_
  refine z_sld X hW (X.2.2.2.2.2.1.2.2.2.1.2) hr dX7_ifFound_5 (fun t5 hr => ?_)
  refine z_cmplt X 18 hr dX7_ifFound_6 (by decide) (fun hr => ?_) (fun hr => ?_)
  · refine lv_bipush (v := (-2)) X.1 X.2.1 dX7_ifFound_18 (by decide) ?_
    cases hr
    exact z_iret X hW rfl dX7_ifFound_20
  · refine lv_iload_n X.1 X.2.1 dX7_ifFound_9 rfl (lv_at hl 1 rfl) ?_
    refine z_gets X hW (X.2.2.2.2.2.1.2.2.2.2.1.1) q_1 dX7_ifFound_10 ?_
    refine lv_iconst (v := 4) X.1 X.2.1 dX7_ifFound_13 (by decide) ?_
    refine z_sld X hW (X.2.2.2.2.2.1.2.2.2.2.1.2) hr dX7_ifFound_14 (fun t14 hr => ?_)
    refine z_cmple X 21 hr dX7_ifFound_15 (by decide) (fun hr => ?_) (fun hr => ?_)
    · refine lv_aload_n X.1 X.2.1 dX7_ifFound_21 rfl (lv_at hl 0 rfl) ?_
      refine z_get X hW 0 7 0 (C := RX7) (T := TX7) (N := 5) rfl rfl hn_X7 (by decide) q_2 rfl dX7_ifFound_22 ?_
      refine z_getN X hW 1 2 1 (C := RX2) (T := TX2) (N := 11) rfl rfl hn_X2 (by decide) (List.mem_of_getElem? (i := 1) rfl) rfl dX7_ifFound_25 ?_
      refine lv_iload_n X.1 X.2.1 dX7_ifFound_28 rfl (lv_at hl 1 rfl) ?_
      have hp_29 := (z_spr (xoW E a b) (z_spl ((rdW E (zh a 30) w) ++ ((hiW E (zh a 33) u) ++ (slW E b q))) (sp_hs_3 E (zh a 1) v)))
      refine z_callp X hW hr hp_29 (fun x h => z_runV (As := [.int p1]) (rest := []) X hW hp_29 (c_X6_suspected l E (zh (zh a 1) 3) (zh v 1) p1 x h _) hy_X6_suspected 4 6 (C := RX6) (T := TX6) (N := 8) rfl rfl rfl gX7_ifFound_X6_suspected rfl rfl ⟨by decide, by decide⟩ rfl hl rfl rfl (Nat.le_of_ble_eq_true rfl) dX7_ifFound_29 ⟨Nat.zero_le _, Nat.zero_le _⟩) (fun t29 H locs hr hW => ?_)
      cases hr
      exact z_iret X hW rfl dX7_ifFound_32
    · refine lv_bipush (v := (-2)) X.1 X.2.1 dX7_ifFound_18 (by decide) ?_
      cases hr
      exact z_iret X hW rfl dX7_ifFound_20
abbrev rm_X7_undo : Room := { frames := 5, cells := 0, slots := 0, locals := 124 }
theorem hy_X7_undo : zY yX7_undo wsX7_undo cX7_undo 1 (some .int) 0 := ⟨⟨_, rfl⟩, by decide, by decide, by decide +kernel⟩
def d_X7_undo (v : zHV) (w : zHV) (u : zHI) (q : zHI) : Option (Int32 × zHV × zHI) :=
zup2 (d_X1_takeBack v u) (fun z9 => (z9.1, z9.2)) fun t8 u8 =>
some (t8, u8.1, u8.2)
set_option maxHeartbeats 4000000 in
set_option maxRecDepth 100000 in
theorem c_X7_undo (l : Launch) (E : zE) (a b : Nat → Nat) (v : zHV) (w : zHV) (u : zHI) (q : zHI) (r : Int32 × zHV × zHI) (h : d_X7_undo v w u q = some r) : zMi l E yX7_undo wsX7_undo rm_X7_undo [.ref (a 0)] ((xoW E a b) ++ ((hsW E (zh a 1) v) ++ ((rdW E (zh a 30) w) ++ ((hiW E (zh a 33) u) ++ (slW E b q))))) r.1 ((xoW E a b) ++ ((hsW E (zh a 1) r.2.1) ++ ((rdW E (zh a 30) w) ++ ((hiW E (zh a 33) r.2.2) ++ (slW E b q))))) := by
  intro sz
  refine z_entry (Qc := fun A => zQi E A r.1 ((xoW E a b) ++ ((hsW E (zh a 1) r.2.1) ++ ((rdW E (zh a 30) w) ++ ((hiW E (zh a 33) r.2.2) ++ (slW E b q)))))) (by decide) rfl (Nat.le_of_ble_eq_true rfl) ?_
  intro p e s m below meth c A X hW ls hl
  have X : zX E wsX7_undo RX7 cX7_undo 1 (some .int) yX7_undo p s m ([.ref (a 0)] : List Value).toArray meth c A := X
  have hl : lv_has ls 1 [(0, .ref (a 0))] := hl
  have hr : d_X7_undo v w u q = some r := h
  clear h
  have q_0 : Cond.fieldLink RX7 19 "ApplauseTallies" "history" "LApplauseTallies$History;" ∈ wsX7_undo := List.mem_of_getElem? (i := 1) rfl
  have hn_X7 : ∀ x ∈ wsX70, x ∈ wsX7_undo := zz_in [71, 72, 73, 74, 75] (by decide +kernel)
  have q_2 : Cond.fieldLink RX7 10 "ApplauseTallies" "house" "LApplauseTallies$House;" ∈ wsX7_undo := List.mem_of_getElem? (i := 2) rfl
  unfold d_X7_undo at hr
  refine lv_aload_n X.1 X.2.1 dX7_undo_0 rfl (lv_at hl 0 rfl) ?_
  refine z_get X hW 0 7 1 (C := RX7) (T := TX7) (N := 5) rfl rfl hn_X7 (by decide) q_0 rfl dX7_undo_1 ?_
  refine lv_aload_n X.1 X.2.1 dX7_undo_4 rfl (lv_at hl 0 rfl) ?_
  refine z_get X hW 0 7 0 (C := RX7) (T := TX7) (N := 5) rfl rfl hn_X7 (by decide) q_2 rfl dX7_undo_5 ?_
  have hp_8 := (z_spr (xoW E a b) (z_sp2 (z_all (hsW E (zh a 1) v)) (z_spr (rdW E (zh a 30) w) (z_spl (slW E b q) (z_all (hiW E (zh a 33) u))))))
  refine z_calli X hW (fun z9 => (z9.1, z9.2)) hr hp_8 (fun z9 => ((hsW E (zh a 1) z9.1) ++ (hiW E (zh a 33) z9.2))) (fun u8 => ((xoW E a b) ++ ((hsW E (zh a 1) u8.1) ++ ((rdW E (zh a 30) w) ++ ((hiW E (zh a 33) u8.2) ++ (slW E b q)))))) (fun z9 => (z_jnr (xoW E a b) (z_jn2 (z_lla (hsW E (zh a 1) z9.1)) (z_jnr (rdW E (zh a 30) w) (z_jnl (slW E b q) (z_lla (hiW E (zh a 33) z9.2))))))) (fun x z9 h => z_runV (As := [.ref ((zh a 1) 0)]) (rest := []) X hW hp_8 (c_X1_takeBack l E (zh a 1) (zh a 33) v u (x, z9) h _) hy_X1_takeBack 33 1 (C := RX1) (T := TX1) (N := 3) rfl rfl rfl gX7_undo_X1_takeBack rfl rfl ⟨by decide, by decide⟩ rfl hl rfl rfl (Nat.le_of_ble_eq_true rfl) dX7_undo_8 ⟨Nat.zero_le _, Nat.zero_le _⟩) (fun t8 u8 H locs hr hW => ?_)
  cases hr
  exact z_iret X hW rfl dX7_undo_11
