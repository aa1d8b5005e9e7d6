/-! ===== worlds by their addresses ===== -/
theorem hsW_congr (E : zE) {a b : Nat → Nat} (v : zHV) (h : ∀ i, i < 29 → a i = b i) : hsW E a v = hsW E b v := by
  unfold hsW
  rw [h 0 (by omega), h 1 (by omega), h 2 (by omega), h 3 (by omega), h 4 (by omega), h 5 (by omega), h 6 (by omega), h 7 (by omega), h 8 (by omega), h 9 (by omega), h 10 (by omega), h 11 (by omega), h 12 (by omega), h 13 (by omega), h 14 (by omega), h 15 (by omega), h 16 (by omega), h 17 (by omega), h 18 (by omega), h 19 (by omega), h 20 (by omega), h 21 (by omega), h 22 (by omega), h 23 (by omega), h 24 (by omega), h 25 (by omega), h 26 (by omega), h 27 (by omega), h 28 (by omega)]
theorem sl_hd (E : zE) (b : Nat → Nat) (q : zHI) (k : Nat) (v : zHV) (hk : k < 2) : (fun j => if (zui q k v) 2 0 j = 1 then some (b (1 + 29 * j)) else none) = (fun j => if q 2 0 j = 1 then some (b (1 + 29 * j)) else none) := by
  funext j
  have e : zui q k v 2 = q 2 := by unfold zui; rw [if_neg (show ¬ (2 = k) by omega)]
  rw [e]
theorem sl_pick (E : zE) (b : Nat → Nat) (q : zHI) {k : Nat} (hk : k < 2) (hq : q 2 0 k = 1) : ∃ rr : va_W, (slW E b q).Perm (hsW E (zh b (1 + 29 * k)) (q k) ++ rr) ∧ ∀ v : zHV, (hsW E (zh b (1 + 29 * k)) v ++ rr).Perm (slW E b (zui q k v)) := by
  obtain rfl | rfl : k = 0 ∨ k = 1 := by omega
  · refine ⟨(b 0, .inl (E.2.2.1, 2, .inr (.inr (.inr (.inr (fun j => if q 2 0 j = 1 then some (b (1 + 29 * j)) else none)))))) :: slH E b q 1, ?_, fun v => ?_⟩
    · have e0 : slH E b q 0 = hsW E (zh b (1 + 29 * 0)) (q 0) := by unfold slH; rw [if_pos hq]
      unfold slW
      rw [e0]
      exact List.perm_middle.symm
    · have e0 : slH E b (zui q 0 v) 0 = hsW E (zh b (1 + 29 * 0)) v := by
        unfold slH zui
        rw [if_neg (show ¬ (2 = 0) by omega), if_pos hq, if_pos rfl]
      have e1 : slH E b (zui q 0 v) 1 = slH E b q 1 := by
        unfold slH zui
        rw [if_neg (show ¬ (2 = 0) by omega), if_neg (show ¬ (1 = 0) by omega)]
      unfold slW
      rw [e0, e1, sl_hd E b q 0 v hk]
      exact List.perm_middle
  · refine ⟨(b 0, .inl (E.2.2.1, 2, .inr (.inr (.inr (.inr (fun j => if q 2 0 j = 1 then some (b (1 + 29 * j)) else none)))))) :: slH E b q 0, ?_, fun v => ?_⟩
    · have e0 : slH E b q 1 = hsW E (zh b (1 + 29 * 1)) (q 1) := by unfold slH; rw [if_pos hq]
      unfold slW
      rw [e0]
      exact (List.Perm.cons _ List.perm_append_comm).trans List.perm_middle.symm
    · have e0 : slH E b (zui q 1 v) 1 = hsW E (zh b (1 + 29 * 1)) v := by
        unfold slH zui
        rw [if_neg (show ¬ (2 = 1) by omega), if_pos hq, if_pos rfl]
      have e1 : slH E b (zui q 1 v) 0 = slH E b q 0 := by
        unfold slH zui
        rw [if_neg (show ¬ (2 = 1) by omega), if_neg (show ¬ (0 = 1) by omega)]
      unfold slW
      rw [e0, e1, sl_hd E b q 1 v hk]
      exact List.perm_middle.trans (List.Perm.cons _ List.perm_append_comm)
/-- a slot that is filled for the first time -/
def zsq (q : zHI) (k : Nat) (z : zHV) : zHI := fun j => if j = k then z else if j = 2 then zs (q 2) 0 k 1 else q j
def zbq (b a : Nat → Nat) (k : Nat) : Nat → Nat := fun i => if 1 + 29 * k ≤ i ∧ i < 30 + 29 * k then a (i - (1 + 29 * k)) else b i
theorem zbq_in (b a : Nat → Nat) (k i : Nat) (hi : i < 29) : zbq b a k (1 + 29 * k + i) = a i := by
  unfold zbq
  rw [if_pos (by omega)]
  congr 1
  omega
theorem zbq_out (b a : Nat → Nat) (k j i : Nat) (hj : j ≠ k) (hi : i < 29) : zbq b a k (1 + 29 * j + i) = b (1 + 29 * j + i) := by
  unfold zbq
  rw [if_neg (by omega)]
theorem sl_new (E : zE) (b a : Nat → Nat) (q : zHI) {k : Nat} (hk : k < 2) (hq : ¬ q 2 0 k = 1) (z : zHV) : ((b 0, .inl (E.2.2.1, 2, .inr (.inr (.inr (.inr (va_up (fun j => if q 2 0 j = 1 then some (b (1 + 29 * j)) else none) k (some (a 0)))))))) :: (slH E b q 0 ++ slH E b q 1) ++ hsW E a z).Perm (slW E (zbq b a k) (zsq q k z)) := by
  have hf : va_up (fun j => if q 2 0 j = 1 then some (b (1 + 29 * j)) else none) k (some (a 0)) = (fun j => if zsq q k z 2 0 j = 1 then some (zbq b a k (1 + 29 * j)) else none) := by
    funext j
    unfold va_up
    have e2 : zsq q k z 2 = zs (q 2) 0 k 1 := by unfold zsq; rw [if_neg (by omega), if_pos rfl]
    rw [e2]
    by_cases hj : j = k
    · subst hj
      have := zbq_in b a j 0 (by omega)
      rw [Nat.add_zero] at this
      rw [if_pos rfl, this]
      simp [zs]
    · have := zbq_out b a k j 0 hj (by omega)
      rw [Nat.add_zero] at this
      rw [if_neg hj, this]
      simp [zs, hj]
  have hb0 : zbq b a k 0 = b 0 := by unfold zbq; rw [if_neg (by omega)]
  have hin : hsW E (zh (zbq b a k) (1 + 29 * k)) z = hsW E a z := hsW_congr E z (fun i hi => zbq_in b a k i hi)
  have hzk : zsq q k z k = z := by unfold zsq; rw [if_pos rfl]
  have h2k : zsq q k z 2 0 k = 1 := by unfold zsq zs; rw [if_neg (by omega), if_pos rfl, if_pos rfl, if_pos rfl]
  have hother : ∀ j, j < 2 → j ≠ k → slH E (zbq b a k) (zsq q k z) j = slH E b q j := by
    intro j hj hjk
    have e1 : zsq q k z j = q j := by unfold zsq; rw [if_neg hjk, if_neg (by omega)]
    have e2 : zsq q k z 2 0 j = q 2 0 j := by unfold zsq zs; rw [if_neg (by omega), if_pos rfl, if_pos rfl, if_neg hjk]
    unfold slH
    rw [e1, e2]
    by_cases c : q 2 0 j = 1
    · rw [if_pos c, if_pos c]
      exact hsW_congr E (q j) (fun i hi => zbq_out b a k j i hjk hi)
    · rw [if_neg c, if_neg c]
  have hself : slH E (zbq b a k) (zsq q k z) k = hsW E a z := by
    unfold slH
    rw [if_pos h2k, hzk, hin]
  have hnil : slH E b q k = [] := by unfold slH; rw [if_neg hq]
  unfold slW
  rw [hb0, hf]
  obtain rfl | rfl : k = 0 ∨ k = 1 := by omega
  · rw [hself, hother 1 (by omega) (by omega), hnil]
    exact List.Perm.cons _ List.perm_append_comm
  · rw [hself, hother 0 (by omega) (by omega), hnil, List.append_nil]
    exact List.Perm.refl _
abbrev zXW (E : zE) (a b : Nat → Nat) (v w : zHV) (u q : zHI) : va_W := ((xoW E a b) ++ ((hsW E (zh a 1) v) ++ ((rdW E (zh a 30) w) ++ ((hiW E (zh a 33) u) ++ (slW E b q)))))
def d_X7_restore (v w : zHV) (u q : zHI) (p1 : Int32) : Option (Int32 × zHV × zHI) :=
(if p1 < 0 then some (-2, v, u) else
(if p1 < nI 2 then
(if q 2 0 p1.toNatClampNeg = 1 then
zup (d_X1_setAside v u) (fun z => z) fun u1 =>
zup (d_X2_copyFrom v (q p1.toNatClampNeg)) (fun z => z) fun v1 =>
zup2 (d_X1_keepUnlessError u1 (v1 15 2)) (fun z => z) fun t u2 =>
some (t, v1, u2)
else some (-5, v, u))
else some (-2, v, u)))
def d_X7_save (v w : zHV) (u q : zHI) (p1 : Int32) : Option (Int32 × zHI) :=
(if p1 < 0 then some (-2, q) else
(if p1 < nI 2 then
(if q 2 0 p1.toNatClampNeg = 1 then
zup (d_X2_copyFrom (q p1.toNatClampNeg) v) (fun z => zui q p1.toNatClampNeg z) fun q1 =>
some (v 15 2, q1)
else
zup (d_X2_copyFrom zH0 v) (fun z => zsq q p1.toNatClampNeg z) fun q1 =>
some (v 15 2, q1))
else some (-2, q)))

abbrev rm_X7_restore : Room := { frames := 5, cells := 0, slots := 0, locals := 123 }
theorem hy_X7_restore : zY yX7_restore wsX7_restore cX7_restore 3 (some .int) 1 := ⟨⟨_, rfl⟩, by decide, by decide, by decide +kernel⟩
set_option maxHeartbeats 4000000 in
set_option maxRecDepth 100000 in
theorem c_X7_restore (l : Launch) (E : zE) (a b : Nat → Nat) (v w : zHV) (u q : zHI) (p1 : Int32) (r : Int32 × zHV × zHI) (h : d_X7_restore v w u q p1 = some r) : zMi l E yX7_restore wsX7_restore rm_X7_restore [.ref (a 0), .int p1] (zXW E a b v w u q) r.1 (zXW E a b r.2.1 w r.2.2 q) := by
  intro sz
  refine z_entry (Qc := fun A => zQi E A r.1 (zXW E a b r.2.1 w r.2.2 q)) (by decide) rfl (Nat.le_of_ble_eq_true rfl) ?_
  intro p e s m below meth c A X hW ls hl
  have X : zX E wsX7_restore RX7 cX7_restore 3 (some .int) yX7_restore p s m ([.ref (a 0), .int p1] : List Value).toArray meth c A := X
  have hl : lv_has ls 3 [(0, .ref (a 0)), (1, .int p1)] := hl
  have hr := h
  clear h
  unfold d_X7_restore at hr
  have q_0 : Cond.fieldLink RX7 23 "ApplauseTallies" "slots" "[LApplauseTallies$House;" ∈ wsX7_restore := List.mem_of_getElem? (i := 1) rfl
  have q_1 : Cond.fieldLink RX7 19 "ApplauseTallies" "history" "LApplauseTallies$History;" ∈ wsX7_restore := List.mem_of_getElem? (i := 2) rfl
  have q_2 : Cond.fieldLink RX7 10 "ApplauseTallies" "house" "LApplauseTallies$House;" ∈ wsX7_restore := List.mem_of_getElem? (i := 3) rfl
  have hn_X7 : ∀ x ∈ wsX70, x ∈ wsX7_restore := zz_in [78, 79, 80, 81, 82] (by decide +kernel)
  have hn_X2 : ∀ x ∈ wsX20, x ∈ wsX7_restore := zz_in [83, 84, 85, 86, 87, 88, 89, 90, 91, 92, 93] (by decide +kernel)
  have hsp : (zXW E a b v w u q).Perm (slW E b q ++ ((xoW E a b) ++ ((hsW E (zh a 1) v) ++ ((rdW E (zh a 30) w) ++ ((hiW E (zh a 33) u) ++ []))))) := z_spr _ (z_spr _ (z_spr _ (z_spr _ (z_all (slW E b q)))))
  obtain ⟨qs, hqs⟩ := z_mem (q := (b 0, .inl (E.2.2.1, 2, .inr (.inr (.inr (.inr (fun j => if q 2 0 j = 1 then some (b (1 + 29 * j)) else none))))))) hsp List.mem_cons_self
  refine lv_iload_n X.1 X.2.1 dX7_restore_0 rfl (lv_at hl 1 rfl) ?_
  refine z_if hr (fun hc hr => ?_) (fun hc hr => ?_)
  · refine lv_if_lt (tgt := 13) X.1 X.2.1 dX7_restore_1 (by decide) (fun _ => ?_) (fun h2 => absurd hc h2)
    refine lv_bipush (v := (-2)) X.1 X.2.1 dX7_restore_13 (by decide) ?_
    cases hr
    exact z_iret X hW rfl dX7_restore_15
  refine lv_if_lt (tgt := 13) X.1 X.2.1 dX7_restore_1 (by decide) (fun h2 => absurd h2 hc) (fun _ => ?_)
  refine lv_iload_n X.1 X.2.1 dX7_restore_4 rfl (lv_at hl 1 rfl) ?_
  refine lv_aload_n X.1 X.2.1 dX7_restore_5 rfl (lv_at hl 0 rfl) ?_
  refine z_get X hW 0 7 2 (C := RX7) (T := TX7) (N := 5) (v := .ref (b 0)) rfl rfl hn_X7 (by decide) q_0 rfl dX7_restore_6 ?_
  refine va_alen (v := nI 2) X.1 X.2.1 X.2.2.2.2.2.1.1 hW.1 qs 1 hqs rfl rfl dX7_restore_9 ?_
  refine z_if hr (fun hlt hr => ?_) (fun hlt hr => ?_)
  case refine_2 =>
    refine lv_icmp_lt (tgt := 16) X.1 X.2.1 dX7_restore_10 (by decide) (fun h2 => absurd h2 hlt) (fun _ => ?_)
    refine lv_bipush (v := (-2)) X.1 X.2.1 dX7_restore_13 (by decide) ?_
    cases hr
    exact z_iret X hW rfl dX7_restore_15
  refine lv_icmp_lt (tgt := 16) X.1 X.2.1 dX7_restore_10 (by decide) (fun _ => ?_) (fun h2 => absurd hlt h2)
  obtain ⟨k, hk2, rfl⟩ : ∃ k, k < 2 ∧ p1 = nI k := by
    by_cases hc2 : p1 < nI 2
    · exact vp_in_of (by
        rw [vp_in_iff]
        have h1 := Int32.not_lt.mp hc
        rw [Int32.le_iff_toInt_le] at h1
        rw [Int32.lt_iff_toInt_lt, nI_toInt (by omega)] at hc2
        exact ⟨by simpa using h1, hc2⟩) (by omega)
    · exact absurd hlt hc2
  rw [nI_clamp (by omega)] at hr
  refine lv_aload_n X.1 X.2.1 dX7_restore_16 rfl (lv_at hl 0 rfl) ?_
  refine z_get X hW 0 7 2 (C := RX7) (T := TX7) (N := 5) (v := .ref (b 0)) rfl rfl hn_X7 (by decide) q_0 rfl dX7_restore_17 ?_
  refine lv_iload_n X.1 X.2.1 dX7_restore_20 rfl (lv_at hl 1 rfl) ?_
  refine va_aldq (C := RX2) X.1 X.2.1 X.2.2.2.2.2.1.1 hW.1 qs 1 hqs rfl (vp_in_nI hk2 (by omega)) dX7_restore_21 ?_
  rw [nI_clamp (by omega)]
  refine z_if hr (fun hq hr => ?_) (fun hq hr => ?_)
  case refine_2 =>
    rw [if_neg hq]
    refine lv_astore_nN (lv' := [(2, .null), (0, .ref (a 0)), (1, .int (nI k))]) X.1 X.2.1 dX7_restore_22 rfl hl (by decide) rfl (fun ls hl => ?_)
    refine lv_aload_nN X.1 X.2.1 dX7_restore_23 rfl (lv_at hl 0 rfl) ?_
    refine lv_ifnonnullN X.1 X.2.1 dX7_restore_24 ?_
    refine lv_bipush (v := (-5)) X.1 X.2.1 dX7_restore_27 (by decide) ?_
    cases hr
    exact z_iret X hW rfl dX7_restore_29
  rw [if_pos hq]
  obtain ⟨rr, hr1, hr2⟩ := sl_pick E b q hk2 hq
  refine lv_astore_n (x := b (1 + 29 * k)) (lv' := [(2, .ref (b (1 + 29 * k))), (0, .ref (a 0)), (1, .int (nI k))]) X.1 X.2.1 dX7_restore_22 rfl hl (by decide) rfl (fun ls hl => ?_)
  refine lv_aload_n X.1 X.2.1 dX7_restore_23 rfl (lv_at hl 0 rfl) ?_
  refine lv_ifnonnull (tgt := 30) X.1 X.2.1 dX7_restore_24 (by decide) ?_
  refine lv_aload_n X.1 X.2.1 dX7_restore_30 rfl (lv_at hl 1 rfl) ?_
  refine z_get X hW 0 7 1 (C := RX7) (T := TX7) (N := 5) (v := .ref (zh a 33 0)) rfl rfl hn_X7 (by decide) q_1 rfl dX7_restore_31 ?_
  refine lv_aload_n X.1 X.2.1 dX7_restore_34 rfl (lv_at hl 1 rfl) ?_
  refine z_get X hW 0 7 0 (C := RX7) (T := TX7) (N := 5) (v := .ref (zh a 1 0)) rfl rfl hn_X7 (by decide) q_2 rfl dX7_restore_35 ?_
  have hp_38 : (zXW E a b v w u q).Perm (((hsW E (zh a 1) v) ++ (hiW E (zh a 33) u)) ++ ((xoW E a b) ++ ([] ++ ((rdW E (zh a 30) w) ++ ([] ++ (slW E b q)))))) := z_spr _ (z_sp2 (z_all _) (z_spr _ (z_spl _ (z_all _))))
  have hj_38 : ∀ z : zHI, (((hsW E (zh a 1) v) ++ (hiW E (zh a 33) z)) ++ ((xoW E a b) ++ ([] ++ ((rdW E (zh a 30) w) ++ ([] ++ (slW E b q)))))).Perm (zXW E a b v w z q) := fun z => z_jnr _ (z_jn2 (z_lla _) (z_jnr _ (z_jnl _ (z_lla _))))
  refine z_callv X hW (fun z => z) hr hp_38 (fun z => (hsW E (zh a 1) v) ++ (hiW E (zh a 33) z)) (fun z => zXW E a b v w z q) hj_38 (fun z hz => z_runV (b := zh a 33 0) (As := [.ref (zh a 1 0)]) (rest := []) X hW hp_38 (c_X1_setAside l E (zh a 1) (zh a 33) v u z hz _) hy_X1_setAside 33 1 (C := RX1) (T := TX1) (N := 3) rfl rfl rfl gX7_restore_X1_setAside rfl rfl ⟨by decide, by decide⟩ rfl hl rfl rfl (Nat.le_of_ble_eq_true rfl) dX7_restore_38 ⟨Nat.zero_le _, Nat.zero_le _⟩) (fun u1 H locs hr hW => ?_)
  refine lv_aload_n X.1 X.2.1 dX7_restore_41 rfl (lv_at hl 1 rfl) ?_
  refine z_get X hW 0 7 0 (C := RX7) (T := TX7) (N := 5) (v := .ref (zh a 1 0)) rfl rfl hn_X7 (by decide) q_2 rfl dX7_restore_42 ?_
  refine lv_aload_n X.1 X.2.1 dX7_restore_45 rfl (lv_at hl 0 rfl) ?_
  have hp_46 : (zXW E a b v w u1 q).Perm (((hsW E (zh a 1) v) ++ (hsW E (zh b (1 + 29 * k)) (q k))) ++ ((xoW E a b) ++ ([] ++ ((rdW E (zh a 30) w) ++ ((hiW E (zh a 33) u1) ++ rr))))) := z_spr _ (z_sp2 (z_all _) (z_spr _ (z_spr _ hr1)))
  have hj_46 : ∀ z : zHV, (((hsW E (zh a 1) z) ++ (hsW E (zh b (1 + 29 * k)) (q k))) ++ ((xoW E a b) ++ ([] ++ ((rdW E (zh a 30) w) ++ ((hiW E (zh a 33) u1) ++ rr))))).Perm (zXW E a b z w u1 q) := fun z => z_jnr _ (z_jn2 (z_lla _) (z_jnr _ (z_jnr _ hr1.symm)))
  refine z_callv X hW (fun z => z) hr hp_46 (fun z => (hsW E (zh a 1) z) ++ (hsW E (zh b (1 + 29 * k)) (q k))) (fun z => zXW E a b z w u1 q) hj_46 (fun z hz => z_runV (b := zh a 1 0) (As := [.ref (b (1 + 29 * k))]) (rest := []) X hW hp_46 (c_X2_copyFrom l E (zh a 1) (zh b (1 + 29 * k)) v (q k) z hz _) hy_X2_copyFrom 1 2 (C := RX2) (T := TX2) (N := 11) rfl rfl rfl gX7_restore_X2_copyFrom rfl rfl ⟨by decide, by decide⟩ rfl hl rfl rfl (Nat.le_of_ble_eq_true rfl) dX7_restore_46 ⟨Nat.zero_le _, Nat.zero_le _⟩) (fun v1 H locs hr hW => ?_)
  refine lv_aload_n X.1 X.2.1 dX7_restore_49 rfl (lv_at hl 1 rfl) ?_
  refine z_get X hW 0 7 1 (C := RX7) (T := TX7) (N := 5) (v := .ref (zh a 33 0)) rfl rfl hn_X7 (by decide) q_1 rfl dX7_restore_50 ?_
  refine lv_aload_n X.1 X.2.1 dX7_restore_53 rfl (lv_at hl 1 rfl) ?_
  refine z_get X hW 0 7 0 (C := RX7) (T := TX7) (N := 5) (v := .ref (zh a 1 0)) rfl rfl hn_X7 (by decide) q_2 rfl dX7_restore_54 ?_
  refine z_getN X hW 1 2 7 (C := RX2) (T := TX2) (N := 11) (v := .int (v1 15 2)) rfl rfl hn_X2 (by decide) (List.mem_of_getElem? (i := 2) rfl) rfl dX7_restore_57 ?_
  have hp_60 : (zXW E a b v1 w u1 q).Perm (hiW E (zh a 33) u1 ++ ((xoW E a b) ++ ((hsW E (zh a 1) v1) ++ ((rdW E (zh a 30) w) ++ ([] ++ (slW E b q)))))) := z_spr _ (z_spr _ (z_spr _ (z_spl _ (z_all _))))
  have hj_60 : ∀ z : zHI, (hiW E (zh a 33) z ++ ((xoW E a b) ++ ((hsW E (zh a 1) v1) ++ ((rdW E (zh a 30) w) ++ ([] ++ (slW E b q)))))).Perm (zXW E a b v1 w z q) := fun z => z_jnr _ (z_jnr _ (z_jnr _ (z_jnl _ (z_lla _))))
  refine z_calli X hW (fun z => z) hr hp_60 (fun z => hiW E (zh a 33) z) (fun z => zXW E a b v1 w z q) hj_60 (fun x z hz => z_runV (b := zh a 33 0) (As := [.int (v1 15 2)]) (rest := []) X hW hp_60 (c_X1_keepUnlessError l E (zh a 33) u1 (v1 15 2) (x, z) hz _) hy_X1_keepUnlessError 33 1 (C := RX1) (T := TX1) (N := 3) rfl rfl rfl gX7_restore_X1_keepUnlessError rfl rfl ⟨by decide, by decide⟩ rfl hl rfl rfl (Nat.le_of_ble_eq_true rfl) dX7_restore_60 ⟨Nat.zero_le _, Nat.zero_le _⟩) (fun t u2 H locs hr hW => ?_)
  cases hr
  exact z_iret X hW rfl dX7_restore_63
theorem hy_X7_save : zY yX7_save wsX7_save cX7_save 3 (some .int) 1 := ⟨⟨_, rfl⟩, by decide, by decide, by decide +kernel⟩
abbrev rm_X7_save : Room := { frames := 4, cells := 29, slots := 256, locals := 101 }
set_option maxHeartbeats 4000000 in
set_option maxRecDepth 100000 in
theorem c_X7_save (l : Launch) (E : zE) (a b : Nat → Nat) (v w : zHV) (u q : zHI) (p1 : Int32) (r : Int32 × zHI) (h : d_X7_save v w u q p1 = some r) : zMn l E yX7_save wsX7_save rm_X7_save [.ref (a 0), .int p1] (zXW E a b v w u q) 29 256 r.1 (fun w1 => ∃ b1 : Nat → Nat, w1 = zXW E a b1 v w u r.2) := by
  intro sz
  refine z_entry (Qc := fun A => zQn E A r.1 (fun w1 => ∃ b1 : Nat → Nat, w1 = zXW E a b1 v w u r.2)) (by decide) rfl (Nat.le_of_ble_eq_true rfl) ?_
  intro p e s m below meth c A X hW ls hl
  have X : zX E wsX7_save RX7 cX7_save 3 (some .int) yX7_save p s m ([.ref (a 0), .int p1] : List Value).toArray meth c A := X
  have hl : lv_has ls 3 [(0, .ref (a 0)), (1, .int p1)] := hl
  have hr := h
  clear h
  unfold d_X7_save at hr
  have q_0 : Cond.fieldLink RX7 23 "ApplauseTallies" "slots" "[LApplauseTallies$House;" ∈ wsX7_save := List.mem_of_getElem? (i := 1) rfl
  have q_2 : Cond.fieldLink RX7 10 "ApplauseTallies" "house" "LApplauseTallies$House;" ∈ wsX7_save := List.mem_of_getElem? (i := 5) rfl
  have q_3 : Cond.classLink RX7 7 RX2 ∈ wsX7_save := List.mem_of_getElem? (i := 2) rfl
  have q_4 : Cond.instantiable RX2 11 ∈ wsX7_save := List.mem_of_getElem? (i := 3) rfl
  have q_5 : Cond.initialized RX2 ∈ wsX7_save := List.mem_of_getElem? (i := 4) rfl
  have q_6 : Cond.methodLink RX7 9 yX2_init ∈ wsX7_save := List.mem_of_getElem? (i := 6) rfl
  have q_7 : Cond.instanceMethod yX2_init ∈ wsX7_save := List.mem_of_getElem? (i := 7) rfl
  have hn_X7 : ∀ x ∈ wsX70, x ∈ wsX7_save := zz_in [100, 101, 102, 103, 104] (by decide +kernel)
  have hn_X2 : ∀ x ∈ wsX20, x ∈ wsX7_save := zz_in [105, 106, 107, 108, 109, 110, 111, 112, 113, 114, 115] (by decide +kernel)
  have hsp : (zXW E a b v w u q).Perm (slW E b q ++ ((xoW E a b) ++ ((hsW E (zh a 1) v) ++ ((rdW E (zh a 30) w) ++ ((hiW E (zh a 33) u) ++ []))))) := z_spr _ (z_spr _ (z_spr _ (z_spr _ (z_all (slW E b q)))))
  obtain ⟨qs, hqs⟩ := z_mem (q := (b 0, .inl (E.2.2.1, 2, .inr (.inr (.inr (.inr (fun j => if q 2 0 j = 1 then some (b (1 + 29 * j)) else none))))))) hsp List.mem_cons_self
  refine lv_iload_n X.1 X.2.1 dX7_save_0 rfl (lv_at hl 1 rfl) ?_
  refine z_if hr (fun hc hr => ?_) (fun hc hr => ?_)
  · refine lv_if_lt (tgt := 13) X.1 X.2.1 dX7_save_1 (by decide) (fun _ => ?_) (fun h2 => absurd hc h2)
    refine lv_bipush (v := (-2)) X.1 X.2.1 dX7_save_13 (by decide) ?_
    cases hr
    refine W.widen (k := 29) (n := 256) (by omega) (by omega) ?_
    exact z_inret X hW rfl ⟨b, rfl⟩ dX7_save_15
  refine lv_if_lt (tgt := 13) X.1 X.2.1 dX7_save_1 (by decide) (fun h2 => absurd h2 hc) (fun _ => ?_)
  refine lv_iload_n X.1 X.2.1 dX7_save_4 rfl (lv_at hl 1 rfl) ?_
  refine lv_aload_n X.1 X.2.1 dX7_save_5 rfl (lv_at hl 0 rfl) ?_
  refine z_get X hW 0 7 2 (C := RX7) (T := TX7) (N := 5) (v := .ref (b 0)) rfl rfl hn_X7 (by decide) q_0 rfl dX7_save_6 ?_
  refine va_alen (v := nI 2) X.1 X.2.1 X.2.2.2.2.2.1.1 hW.1 qs 1 hqs rfl rfl dX7_save_9 ?_
  refine z_if hr (fun hlt hr => ?_) (fun hlt hr => ?_)
  case refine_2 =>
    refine lv_icmp_lt (tgt := 16) X.1 X.2.1 dX7_save_10 (by decide) (fun h2 => absurd h2 hlt) (fun _ => ?_)
    refine lv_bipush (v := (-2)) X.1 X.2.1 dX7_save_13 (by decide) ?_
    cases hr
    refine W.widen (k := 29) (n := 256) (by omega) (by omega) ?_
    exact z_inret X hW rfl ⟨b, rfl⟩ dX7_save_15
  refine lv_icmp_lt (tgt := 16) X.1 X.2.1 dX7_save_10 (by decide) (fun _ => ?_) (fun h2 => absurd hlt h2)
  obtain ⟨k, hk2, rfl⟩ : ∃ k, k < 2 ∧ p1 = nI k := vp_in_of (by
    rw [vp_in_iff]
    have h1 := Int32.not_lt.mp hc
    rw [Int32.le_iff_toInt_le] at h1
    rw [Int32.lt_iff_toInt_lt, nI_toInt (by omega)] at hlt
    exact ⟨by simpa using h1, hlt⟩) (by omega)
  rw [nI_clamp (by omega)] at hr
  refine lv_aload_n X.1 X.2.1 dX7_save_16 rfl (lv_at hl 0 rfl) ?_
  refine z_get X hW 0 7 2 (C := RX7) (T := TX7) (N := 5) (v := .ref (b 0)) rfl rfl hn_X7 (by decide) q_0 rfl dX7_save_17 ?_
  refine lv_iload_n X.1 X.2.1 dX7_save_20 rfl (lv_at hl 1 rfl) ?_
  refine va_aldq (C := RX2) X.1 X.2.1 X.2.2.2.2.2.1.1 hW.1 qs 1 hqs rfl (vp_in_nI hk2 (by omega)) dX7_save_21 ?_
  rw [nI_clamp (by omega)]
  refine z_if hr (fun hq hr => ?_) (fun hq hr => ?_)
  · rw [if_pos hq]
    obtain ⟨rr, hr1, hr2⟩ := sl_pick E b q hk2 hq
    refine lv_astore_n (x := b (1 + 29 * k)) (lv' := [(2, .ref (b (1 + 29 * k))), (0, .ref (a 0)), (1, .int (nI k))]) X.1 X.2.1 dX7_save_22 rfl hl (by decide) rfl (fun ls hl => ?_)
    refine lv_aload_n X.1 X.2.1 dX7_save_23 rfl (lv_at hl 0 rfl) ?_
    refine lv_ifnonnull (tgt := 42) X.1 X.2.1 dX7_save_24 (by decide) ?_
    refine lv_aload_n X.1 X.2.1 dX7_save_42 rfl (lv_at hl 0 rfl) ?_
    refine lv_aload_n X.1 X.2.1 dX7_save_43 rfl (lv_at hl 1 rfl) ?_
    refine z_get X hW 0 7 0 (C := RX7) (T := TX7) (N := 5) (v := .ref (zh a 1 0)) rfl rfl hn_X7 (by decide) q_2 rfl dX7_save_44 ?_
    have hp_47 : (zXW E a b v w u q).Perm (((hsW E (zh b (1 + 29 * k)) (q k)) ++ (hsW E (zh a 1) v)) ++ ((xoW E a b) ++ ([] ++ ((rdW E (zh a 30) w) ++ ((hiW E (zh a 33) u) ++ rr))))) := (z_spr _ (z_sp2 (z_all _) (z_spr _ (z_spr _ hr1)))).trans (List.Perm.append_right _ List.perm_append_comm)
    have hj_47 : ∀ z : zHV, (((hsW E (zh b (1 + 29 * k)) z) ++ (hsW E (zh a 1) v)) ++ ((xoW E a b) ++ ([] ++ ((rdW E (zh a 30) w) ++ ((hiW E (zh a 33) u) ++ rr))))).Perm (zXW E a b v w u (zui q k z)) := fun z => (List.Perm.append_right _ List.perm_append_comm).trans (z_jnr _ (z_jn2 (z_lla _) (z_jnr _ (z_jnr _ (hr2 z)))))
    obtain ⟨q0, hq0⟩ := z_mem (q := (b (1 + 29 * k), .inr (2, _))) hp_47 (List.mem_append_left _ List.mem_cons_self)
    refine z_callv X hW (fun z => zui q k z) hr hp_47 (fun z => (hsW E (zh b (1 + 29 * k)) z) ++ (hsW E (zh a 1) v)) (fun z => zXW E a b v w u z) hj_47 (fun z hz => z_runV (b := b (1 + 29 * k)) (As := [.ref (zh a 1 0)]) (rest := []) X hW hp_47 (c_X2_copyFrom l E (zh b (1 + 29 * k)) (zh a 1) (q k) v z hz _) hy_X2_copyFrom q0 2 (C := RX2) (T := TX2) (N := 11) rfl hq0 rfl gX7_save_X2_copyFrom rfl rfl ⟨by decide, by decide⟩ rfl hl rfl rfl (Nat.le_of_ble_eq_true rfl) dX7_save_47 ⟨Nat.zero_le _, Nat.zero_le _⟩) (fun q1 H locs hr hW => ?_)
    refine lv_aload_n X.1 X.2.1 dX7_save_50 rfl (lv_at hl 1 rfl) ?_
    refine z_get X hW 0 7 0 (C := RX7) (T := TX7) (N := 5) (v := .ref (zh a 1 0)) rfl rfl hn_X7 (by decide) q_2 rfl dX7_save_51 ?_
    refine z_getN X hW 1 2 7 (C := RX2) (T := TX2) (N := 11) (v := .int (v 15 2)) rfl rfl hn_X2 (by decide) (List.mem_of_getElem? (i := 2) rfl) rfl dX7_save_54 ?_
    cases hr
    refine W.widen (k := 29) (n := 256) (by omega) (by omega) ?_
    exact z_inret X hW rfl ⟨b, rfl⟩ dX7_save_57
  · rw [if_neg hq]
    refine lv_astore_nN (lv' := [(2, .null), (0, .ref (a 0)), (1, .int (nI k))]) X.1 X.2.1 dX7_save_22 rfl hl (by decide) rfl (fun ls hl => ?_)
    refine lv_aload_nN X.1 X.2.1 dX7_save_23 rfl (lv_at hl 0 rfl) ?_
    refine lv_ifnonnullN X.1 X.2.1 dX7_save_24 ?_
    refine z_new X hW tyX2 tyX2_ok (C := RX2) (T := TX2) (N := 11) 2 rfl hn_X2 q_3 q_4 q_5 [.null, .null, .null, .null, .null, .int 0, .int 0, .int 0, .int 0, .int 0, .int 0] (fun j hj => by rcases (show j = 0 ∨ j = 1 ∨ j = 2 ∨ j = 3 ∨ j = 4 ∨ j = 5 ∨ j = 6 ∨ j = 7 ∨ j = 8 ∨ j = 9 ∨ j = 10 by omega) with rfl | rfl | rfl | rfl | rfl | rfl | rfl | rfl | rfl | rfl | rfl <;> rfl) (by decide) (by decide) dX7_save_27 (fun qn H hW => ?_)
    refine W.cs (cells' := 1) (slots' := 11) rfl rfl ?_
    refine lv_dup X.1 X.2.1 dX7_save_30 rfl ?_
    have hp_31 : ((zXW E a b v w u q) ++ ([(qn, .inr (2, [.null, .null, .null, .null, .null, .int 0, .int 0, .int 0, .int 0, .int 0, .int 0]))] : va_W)).Perm (([(qn, .inr (2, [.null, .null, .null, .null, .null, .int 0, .int 0, .int 0, .int 0, .int 0, .int 0]))] : va_W) ++ (zXW E a b v w u q)) := List.perm_append_comm
    refine z_calla X hW hp_31 (z_runI (b := qn) (As := []) (rest := [.ref qn]) X hW hp_31 (c_X2_init l E qn _) hy_X2_init q_5 q_6 q_7 rfl gX7_save_X2_init rfl rfl ⟨by decide, by decide⟩ rfl hl rfl rfl (Nat.le_of_ble_eq_true rfl) dX7_save_31 ⟨by decide, by decide⟩) (fun w1 H locs hw hW1 => ?_)
    clear hp_31 hW
    obtain ⟨a5, e5, rfl⟩ := hw
    subst e5
    refine W.cs (cells' := 29) (slots' := 256) rfl rfl ?_
    refine lv_astore_n (lv' := [(2, .ref (a5 0)), (0, .ref (a 0)), (1, .int (nI k))]) X.1 X.2.1 dX7_save_34 rfl hl (by decide) rfl (fun ls hl => ?_)
    have hs2 : (hsW E a5 zH0 ++ zXW E a b v w u q).Perm (((b 0, .inl (E.2.2.1, 2, .inr (.inr (.inr (.inr (fun j => if q 2 0 j = 1 then some (b (1 + 29 * j)) else none)))))) :: (slH E b q 0 ++ slH E b q 1) ++ hsW E a5 zH0) ++ ((xoW E a b) ++ ((hsW E (zh a 1) v) ++ ((rdW E (zh a 30) w) ++ ((hiW E (zh a 33) u) ++ []))))) :=
      (List.perm_append_comm).trans ((hsp.append_right _).trans (by
        rw [List.append_assoc]
        refine (List.Perm.append_left _ List.perm_append_comm).trans ?_
        rw [← List.append_assoc]
        exact List.Perm.refl _))
    have hW := zW_perm hW1 hs2
    clear hW1
    have hgx : ((((b 0, .inl (E.2.2.1, 2, .inr (.inr (.inr (.inr (fun j => if q 2 0 j = 1 then some (b (1 + 29 * j)) else none)))))) :: (slH E b q 0 ++ slH E b q 1) ++ hsW E a5 zH0) ++ ((xoW E a b) ++ ((hsW E (zh a 1) v) ++ ((rdW E (zh a 30) w) ++ ((hiW E (zh a 33) u) ++ []))))) : va_W)[0]? = some (b 0, .inl (E.2.2.1, 2, .inr (.inr (.inr (.inr (fun j => if q 2 0 j = 1 then some (b (1 + 29 * j)) else none)))))) := rfl
    obtain ⟨qx, hqx⟩ := List.getElem?_of_mem (List.mem_append_right ((b 0, .inl (E.2.2.1, 2, .inr (.inr (.inr (.inr (fun j => if q 2 0 j = 1 then some (b (1 + 29 * j)) else none)))))) :: (slH E b q 0 ++ slH E b q 1) ++ hsW E a5 zH0) (List.mem_append_left ((hsW E (zh a 1) v) ++ ((rdW E (zh a 30) w) ++ ((hiW E (zh a 33) u) ++ []))) (show (a 0, _) ∈ xoW E a b from List.mem_cons_self)))
    obtain ⟨qh, hqh⟩ := List.getElem?_of_mem (List.mem_append_left ((xoW E a b) ++ ((hsW E (zh a 1) v) ++ ((rdW E (zh a 30) w) ++ ((hiW E (zh a 33) u) ++ [])))) (List.mem_append_right ((b 0, .inl (E.2.2.1, 2, .inr (.inr (.inr (.inr (fun j => if q 2 0 j = 1 then some (b (1 + 29 * j)) else none)))))) :: (slH E b q 0 ++ slH E b q 1)) (show (a5 0, _) ∈ hsW E a5 zH0 from List.mem_cons_self)))
    refine lv_aload_n X.1 X.2.1 dX7_save_35 rfl (lv_at hl 1 rfl) ?_
    refine z_get X hW qx 7 2 (C := RX7) (T := TX7) (N := 5) (v := .ref (b 0)) hqx rfl hn_X7 (by decide) q_0 rfl dX7_save_36 ?_
    refine lv_iload_n X.1 X.2.1 dX7_save_39 rfl (lv_at hl 2 rfl) ?_
    refine lv_aload_n X.1 X.2.1 dX7_save_40 rfl (lv_at hl 0 rfl) ?_
    refine z_astq X hW 0 qh (((b 0, .inl (E.2.2.1, 2, .inr (.inr (.inr (.inr (va_up (fun j => if q 2 0 j = 1 then some (b (1 + 29 * j)) else none) k (some (a5 0)))))))) :: (slH E b q 0 ++ slH E b q 1) ++ hsW E a5 zH0) ++ ((xoW E a b) ++ ((hsW E (zh a 1) v) ++ ((rdW E (zh a 30) w) ++ ((hiW E (zh a 33) u) ++ []))))) hgx hqh (vp_in_nI hk2 (by omega)) (by rw [nI_clamp (by omega)]; rfl) dX7_save_41 (fun H locs hW => ?_)
    have hb0 : zbq b a5 k 0 = b 0 := by unfold zbq; rw [if_neg (by omega)]
    have hxo : xoW E a (zbq b a5 k) = xoW E a b := by unfold xoW; rw [hb0]
    have hs3 : ∀ z : zHV, ((((b 0, .inl (E.2.2.1, 2, .inr (.inr (.inr (.inr (va_up (fun j => if q 2 0 j = 1 then some (b (1 + 29 * j)) else none) k (some (a5 0)))))))) :: (slH E b q 0 ++ slH E b q 1) ++ hsW E a5 z) ++ ((xoW E a b) ++ ((hsW E (zh a 1) v) ++ ((rdW E (zh a 30) w) ++ ((hiW E (zh a 33) u) ++ [])))) : va_W)).Perm (zXW E a (zbq b a5 k) v w u (zsq q k z)) := by
      intro z
      have hs4 : (slW E (zbq b a5 k) (zsq q k z) ++ ((xoW E a b) ++ ((hsW E (zh a 1) v) ++ ((rdW E (zh a 30) w) ++ ((hiW E (zh a 33) u) ++ []))))).Perm (zXW E a (zbq b a5 k) v w u (zsq q k z)) := by
        rw [← hxo]
        exact z_jnr _ (z_jnr _ (z_jnr _ (z_jnr _ (z_lla _))))
      exact (List.Perm.append_right _ (sl_new E b a5 q hk2 hq z)).trans hs4
    have hW := zW_perm hW (hs3 zH0)
    have hq9 : zsq q k zH0 2 0 k = 1 := by unfold zsq zs; rw [if_neg (by omega), if_pos rfl, if_pos rfl, if_pos rfl]
    obtain ⟨rr, hr1, hr2⟩ := sl_pick E (zbq b a5 k) (zsq q k zH0) hk2 hq9
    have hzk : zsq q k zH0 k = zH0 := by unfold zsq; rw [if_pos rfl]
    have hzz : ∀ z, zui (zsq q k zH0) k z = zsq q k z := fun z => by
      funext j
      unfold zui zsq
      by_cases hj : j = k
      · rw [if_pos hj, if_pos hj]
      · rw [if_neg hj, if_neg hj, if_neg hj]
    have hak : zbq b a5 k (1 + 29 * k) = a5 0 := zbq_in b a5 k 0 (by omega)
    rw [hzk] at hr1
    refine lv_aload_n X.1 X.2.1 dX7_save_42 rfl (lv_at hl 0 rfl) ?_
    refine lv_aload_n X.1 X.2.1 dX7_save_43 rfl (lv_at hl 1 rfl) ?_
    refine z_get X hW 0 7 0 (C := RX7) (T := TX7) (N := 5) (v := .ref (zh a 1 0)) rfl rfl hn_X7 (by decide) q_2 rfl dX7_save_44 ?_
    have hp_47 : (zXW E a (zbq b a5 k) v w u (zsq q k zH0)).Perm (((hsW E (zh (zbq b a5 k) (1 + 29 * k)) zH0) ++ (hsW E (zh a 1) v)) ++ ((xoW E a (zbq b a5 k)) ++ ([] ++ ((rdW E (zh a 30) w) ++ ((hiW E (zh a 33) u) ++ rr))))) := (z_spr _ (z_sp2 (z_all _) (z_spr _ (z_spr _ hr1)))).trans (List.Perm.append_right _ List.perm_append_comm)
    have hj_47 : ∀ z : zHV, (((hsW E (zh (zbq b a5 k) (1 + 29 * k)) z) ++ (hsW E (zh a 1) v)) ++ ((xoW E a (zbq b a5 k)) ++ ([] ++ ((rdW E (zh a 30) w) ++ ((hiW E (zh a 33) u) ++ rr))))).Perm (zXW E a (zbq b a5 k) v w u (zsq q k z)) := fun z => (List.Perm.append_right _ List.perm_append_comm).trans (z_jnr _ (z_jn2 (z_lla _) (z_jnr _ (z_jnr _ (by rw [← hzz z]; exact hr2 z)))))
    obtain ⟨q0, hq0⟩ := z_mem (q := (zbq b a5 k (1 + 29 * k), .inr (2, _))) hp_47 (List.mem_append_left _ List.mem_cons_self)
    rw [← hak]
    refine z_callv X hW (fun z => zsq q k z) hr hp_47 (fun z => (hsW E (zh (zbq b a5 k) (1 + 29 * k)) z) ++ (hsW E (zh a 1) v)) (fun z => zXW E a (zbq b a5 k) v w u z) hj_47 (fun z hz => z_runV (b := zbq b a5 k (1 + 29 * k)) (As := [.ref (zh a 1 0)]) (rest := []) X hW hp_47 (c_X2_copyFrom l E (zh (zbq b a5 k) (1 + 29 * k)) (zh a 1) zH0 v z hz _) hy_X2_copyFrom q0 2 (C := RX2) (T := TX2) (N := 11) rfl hq0 rfl gX7_save_X2_copyFrom rfl rfl ⟨by decide, by decide⟩ rfl hl rfl rfl (Nat.le_of_ble_eq_true rfl) dX7_save_47 ⟨Nat.le_refl _, Nat.le_refl _⟩) (fun q1 H locs hr hW => ?_)
    refine lv_aload_n X.1 X.2.1 dX7_save_50 rfl (lv_at hl 1 rfl) ?_
    refine z_get X hW 0 7 0 (C := RX7) (T := TX7) (N := 5) (v := .ref (zh a 1 0)) rfl rfl hn_X7 (by decide) q_2 rfl dX7_save_51 ?_
    refine z_getN X hW 1 2 7 (C := RX2) (T := TX2) (N := 11) (v := .int (v 15 2)) rfl rfl hn_X2 (by decide) (List.mem_of_getElem? (i := 2) rfl) rfl dX7_save_54 ?_
    cases hr
    exact z_inret X hW rfl ⟨zbq b a5 k, rfl⟩ dX7_save_57
