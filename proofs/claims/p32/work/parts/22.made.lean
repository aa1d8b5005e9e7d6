/-! ===== the history, the public object and the reference as they are made ===== -/
theorem hsW_congr (E : zE) {a b : Nat → Nat} (v : zHV) (h : ∀ i, i < 29 → a i = b i) : hsW E a v = hsW E b v := by
  unfold hsW
  rw [h 0 (by omega), h 1 (by omega), h 2 (by omega), h 3 (by omega), h 4 (by omega), h 5 (by omega), h 6 (by omega), h 7 (by omega), h 8 (by omega), h 9 (by omega), h 10 (by omega), h 11 (by omega), h 12 (by omega), h 13 (by omega), h 14 (by omega), h 15 (by omega), h 16 (by omega), h 17 (by omega), h 18 (by omega), h 19 (by omega), h 20 (by omega), h 21 (by omega), h 22 (by omega), h 23 (by omega), h 24 (by omega), h 25 (by omega), h 26 (by omega), h 27 (by omega), h 28 (by omega)]
abbrev zXW (E : zE) (a b : Nat → Nat) (v w : zHV) (u q : zHI) : va_W := ((xoW E a b) ++ ((hsW E (zh a 1) v) ++ ((rdW E (zh a 30) w) ++ ((hiW E (zh a 33) u) ++ (slW E b q)))))
def zU0 : zHI := fun i => if i = 7 then (fun _ _ => 0) else zH0
theorem arq_congr {E : zE} {c : ClassId} {q n : Nat} {f g : Nat → Option Nat} {H : Heap} (h : ∀ k, k < n → f k = g k) (hP : va_P E.1 vwCl [(q, .inl (c, n, .inr (.inr (.inr (.inr f)))))] H) : va_P E.1 vwCl [(q, .inl (c, n, .inr (.inr (.inr (.inr g)))))] H := by
  intro k x hk
  match k, hk with
  | 0, hk =>
    cases hk
    have h1 := hP 0 _ rfl
    show H[q]? = some (vp_cell c (n, .inr (.inr (.inr (.inr g)))))
    have h2 : H[q]? = some (vp_cell c (n, .inr (.inr (.inr (.inr f))))) := h1
    rw [h2, vp_cell_q, vp_cell_q, arrV_congr c n (fun k hk => by rw [h k hk])]
  | k + 1, hk => simp at hk
theorem zW_arq {E : zE} {A : Nat → Prop} {s : State} {H : Heap} {locs : List Loc} {c : ClassId} {q n : Nat} {f : Nat → Option Nat} (g : Nat → Option Nat) {w wr : va_W} (hp : w.Perm ([(q, .inl (c, n, .inr (.inr (.inr (.inr f)))))] ++ wr)) (h : ∀ k, k < n → f k = g k) (hW : zW E A s w H locs) {w' : va_W} (hj : (([(q, .inl (c, n, .inr (.inr (.inr (.inr g)))))] : va_W) ++ wr).Perm w') : zW E A s w' H locs := by
  have h1 := zW_perm hW hp
  refine zW_perm ?_ hj
  refine ⟨va_P.app (arq_congr h (zP_left h1.1)) (zP_right h1.1), ?_, h1.2.2⟩
  have h2 := h1.2.1
  rw [zD_iff] at h2 ⊢
  refine ⟨h2.1, fun x hx => ?_⟩
  rcases List.mem_append.mp hx with hx | hx
  · rw [List.mem_singleton] at hx
    subst hx
    exact h2.2 (q, .inl (c, n, .inr (.inr (.inr (.inr f))))) (by simp)
  · exact h2.2 x (List.mem_append_right _ hx)
theorem hiW_congr (E : zE) {a b : Nat → Nat} (u : zHI) (h : ∀ k, a k = b k) : hiW E a u = hiW E b u := by
  rw [show a = b from funext h]
/-- the houses made so far -/
def hsM (E : zE) (B : Nat → Nat → Nat) (n : Nat) : va_W := (List.range n).flatMap (fun j => hsW E (B j) zH0)
theorem hsM_succ (E : zE) (B : Nat → Nat → Nat) (n : Nat) (a : Nat → Nat) : hsM E (fun j => if j = n then a else B j) (n + 1) = hsM E B n ++ hsW E a zH0 := by
  unfold hsM
  rw [List.range_succ, List.flatMap_append]
  congr 1
  · exact z_fmc _ _ _ (fun j hj => by
      show hsW E (if j = n then a else B j) zH0 = _
      rw [if_neg (by have := List.mem_range.mp hj; omega)])
  · simp
theorem slW_0 (E : zE) (b : Nat → Nat) : slW E b (fun _ _ _ => 0) = [(b 0, .inl (E.2.2.1, 2, .inr (.inr (.inr (.inr (fun _ => none))))))] := by
  have e : (fun j : Nat => if (0 : Int32) = 1 then some (b (1 + 29 * j)) else none) = (fun _ => none) := by
    funext j
    exact if_neg (by decide)
  unfold slW slH
  rw [if_neg (by decide), if_neg (by decide), e]
  rfl

abbrev rm_X1_init : Room := { frames := 4, cells := 204, slots := 1799, locals := 83 }
theorem hy_X1_init : zY yX1_init wsX1_init cX1_init 2 none 0 := ⟨⟨_, rfl⟩, by decide, by decide, by decide +kernel⟩
set_option maxHeartbeats 4000000 in
set_option maxRecDepth 100000 in
theorem c_X1_init (l : Launch) (E : zE) (h0 : Nat) : zMa l E yX1_init wsX1_init rm_X1_init [.ref h0] ([(h0, .inr (1, [.null, .int 0, .int 0]))] : va_W) 204 1799 (fun w1 => ∃ a : Nat → Nat, a 0 = h0 ∧ w1 = hiW E a zU0) := by
  intro sz
  refine z_entry (Qc := fun A => zQa E A (fun w1 => ∃ a : Nat → Nat, a 0 = h0 ∧ w1 = hiW E a zU0)) (by decide) rfl (Nat.le_of_ble_eq_true rfl) ?_
  intro p e s m below meth c A X hW ls hl
  have X : zX E wsX1_init RX1 cX1_init 2 none yX1_init p s m ([.ref h0] : List Value).toArray meth c A := X
  have hl : lv_has ls 2 [(0, .ref h0)] := hl
  have q_0 : Cond.methodLink RX1 3 objectInit ∈ wsX1_init := List.mem_of_getElem? (i := 1) rfl
  have q_1 : Cond.instanceMethod objectInit ∈ wsX1_init := List.mem_of_getElem? (i := 2) rfl
  have q_2 : Cond.code objectInit ⟨#[0xb1]⟩ 1 none ∈ wsX1_init := List.mem_of_getElem? (i := 3) rfl
  have q_3 : Cond.classLink RX1 11 RX2 ∈ wsX1_init := List.mem_of_getElem? (i := 4) rfl
  have q_4 : Cond.fieldLink RX1 13 "ApplauseTallies$History" "states" "[LApplauseTallies$House;" ∈ wsX1_init := List.mem_of_getElem? (i := 5) rfl
  have hn_X1 : ∀ x ∈ wsX10, x ∈ wsX1_init := zz_in [66, 67, 68] (by decide +kernel)
  have q_6 : Cond.instantiable RX2 11 ∈ wsX1_init := List.mem_of_getElem? (i := 6) rfl
  have q_7 : Cond.initialized RX2 ∈ wsX1_init := List.mem_of_getElem? (i := 7) rfl
  have q_8 : Cond.methodLink RX1 17 yX2_init ∈ wsX1_init := List.mem_of_getElem? (i := 8) rfl
  have q_9 : Cond.instanceMethod yX2_init ∈ wsX1_init := List.mem_of_getElem? (i := 9) rfl
  have hn_X2 : ∀ x ∈ wsX20, x ∈ wsX1_init := zz_in [69, 70, 71, 72, 73, 74, 75, 76, 77, 78, 79] (by decide +kernel)
  refine lv_aload_n X.1 X.2.1 dX1_init_0 rfl (lv_at hl 0 rfl) ?_
  refine z_objInit X hl rfl q_0 q_1 q_2 dX1_init_1 (by decide) (Nat.le_of_ble_eq_true rfl) ?_
  refine lv_aload_n X.1 X.2.1 dX1_init_4 rfl (lv_at hl 0 rfl) ?_
  refine lv_bipush (v := 7) X.1 X.2.1 dX1_init_5 (by decide) ?_
  refine z_newq X hW q_3 7 (by decide) (by decide) (by decide) (by decide) (by decide) dX1_init_7 (fun q7 H hW => ?_)
  refine W.cs (cells' := 1) (slots' := 7) rfl rfl ?_
  refine z_putF X hW ((([(h0, .inr (1, [.ref q7, .int 0, .int 0]))] : va_W) ++ ([(q7, .inl (E.2.2.1, 7, .inr (.inr (.inr (.inr (fun _ => none))))))] : va_W))) tyX1 tyX1_ok nmX1 0 1 0 (C := RX1) (T := TX1) (N := 3) rfl rfl hn_X1 (by decide) q_4 rfl rfl rfl rfl rfl (Nat.le_of_ble_eq_true rfl) rfl dX1_init_10 (fun H locs hW => ?_)
  refine lv_iconst (v := 0) X.1 X.2.1 dX1_init_13 (by decide) ?_
  refine lv_istore_n (lv' := [(1, .int 0), (0, .ref h0)]) X.1 X.2.1 dX1_init_14 rfl hl (by decide) rfl (fun ls hl => ?_)
  have L_15 : ∀ (d k : Nat) (f : Nat → Option Nat) (B : Nat → Nat → Nat) (H : Heap) (locs : List Loc) (ls : Array Slot), 7 - k = d → k ≤ 7 → (∀ j, j < k → f j = some (B j 0)) → zW E A s ((([(h0, .inr (1, [.ref q7, .int 0, .int 0]))] : va_W) ++ ([(q7, .inl (E.2.2.1, 7, .inr (.inr (.inr (.inr f)))))] : va_W)) ++ hsM E B k) H locs → lv_has ls 2 [(0, .ref h0), (1, .int (nI k))] → W p l e rm_X1_init s m ([.ref h0] : List Value).toArray below meth c H locs (1 + 29 * k) (7 + 256 * k) (MQ below (zQa E A (fun w1 => ∃ a : Nat → Nat, a 0 = h0 ∧ w1 = hiW E a zU0)) ([.ref h0] : List Value).toArray s 204 1799 A) (F0 m 15 ls []) := by
    intro d
    induction d with
    | zero =>
      intro k f B H locs ls hd hk hf hW hl
      have hk7 : k = 7 := by omega
      subst hk7
      refine lv_iload_n X.1 X.2.1 dX1_init_15 rfl (lv_at hl 1 rfl) ?_
      refine lv_aload_n X.1 X.2.1 dX1_init_16 rfl (lv_at hl 0 rfl) ?_
      refine z_get X hW 0 1 0 (C := RX1) (T := TX1) (N := 3) (v := .ref q7) rfl rfl hn_X1 (by decide) q_4 rfl dX1_init_17 ?_
      refine va_alen (v := nI 7) X.1 X.2.1 X.2.2.2.2.2.1.1 hW.1 1 1 rfl rfl rfl dX1_init_20 ?_
      refine lv_icmp_ge (tgt := 43) X.1 X.2.1 dX1_init_21 (by decide) (fun _ => ?_) (fun hc => absurd (by decide) hc)
      have ha2 : ∀ j i, i < 29 → (fun k => if k = 0 then h0 else if k = 1 then q7 else B ((k - 2) / 29) ((k - 2) % 29)) (2 + 29 * j + i) = B j i := by
        intro j i hi
        show (if 2 + 29 * j + i = 0 then h0 else if 2 + 29 * j + i = 1 then q7 else B ((2 + 29 * j + i - 2) / 29) ((2 + 29 * j + i - 2) % 29)) = B j i
        rw [if_neg (by omega), if_neg (by omega), show (2 + 29 * j + i - 2) / 29 = j by omega, show (2 + 29 * j + i - 2) % 29 = i by omega]
      have hW := zW_arq (fun j => some ((fun k => if k = 0 then h0 else if k = 1 then q7 else B ((k - 2) / 29) ((k - 2) % 29)) (2 + 29 * j))) (z_split (wc := ([(q7, .inl (E.2.2.1, 7, .inr (.inr (.inr (.inr f)))))] : va_W)) 1 1 rfl) (fun j hj => by rw [hf j hj]; exact congrArg some (ha2 j 0 (by omega)).symm) hW (w' := ((([(h0, .inr (1, [.ref q7, .int 0, .int 0]))] : va_W) ++ ([(q7, .inl (E.2.2.1, 7, .inr (.inr (.inr (.inr (fun j => some ((fun k => if k = 0 then h0 else if k = 1 then q7 else B ((k - 2) / 29) ((k - 2) % 29)) (2 + 29 * j))))))))] : va_W)) ++ hsM E B 7)) (z_unsplit 1 1 rfl rfl rfl)
      refine z_varet X hW ⟨fun k => if k = 0 then h0 else if k = 1 then q7 else B ((k - 2) / 29) ((k - 2) % 29), rfl, ?_⟩ dX1_init_43
      show _ = (_ :: _ :: hiH E _ zU0)
      have e7 : hiH E (fun k => if k = 0 then h0 else if k = 1 then q7 else B ((k - 2) / 29) ((k - 2) % 29)) zU0 = hsM E B 7 := z_fmc _ _ _ (fun j hj => by
        have hj7 := List.mem_range.mp hj
        have e8 : zU0 j = zH0 := by unfold zU0; rw [if_neg (by omega)]
        rw [e8]
        exact hsW_congr E zH0 (fun i hi => ha2 j i hi))
      rw [e7]
      rfl
    | succ d ih =>
      intro k f B H locs ls hd hk hf hW hl
      refine lv_iload_n X.1 X.2.1 dX1_init_15 rfl (lv_at hl 1 rfl) ?_
      refine lv_aload_n X.1 X.2.1 dX1_init_16 rfl (lv_at hl 0 rfl) ?_
      refine z_get X hW 0 1 0 (C := RX1) (T := TX1) (N := 3) (v := .ref q7) rfl rfl hn_X1 (by decide) q_4 rfl dX1_init_17 ?_
      refine va_alen (v := nI 7) X.1 X.2.1 X.2.2.2.2.2.1.1 hW.1 1 1 rfl rfl rfl dX1_init_20 ?_
      refine lv_icmp_ge (tgt := 43) X.1 X.2.1 dX1_init_21 (by decide) (fun hc => absurd hc (nI_ge (by omega) (by omega))) (fun _ => ?_)
      refine lv_aload_n X.1 X.2.1 dX1_init_24 rfl (lv_at hl 0 rfl) ?_
      refine z_get X hW 0 1 0 (C := RX1) (T := TX1) (N := 3) (v := .ref q7) rfl rfl hn_X1 (by decide) q_4 rfl dX1_init_25 ?_
      refine lv_iload_n X.1 X.2.1 dX1_init_28 rfl (lv_at hl 1 rfl) ?_
      refine z_new X hW tyX2 tyX2_ok (C := RX2) (T := TX2) (N := 11) 2 rfl hn_X2 q_3 q_6 q_7 [.null, .null, .null, .null, .null, .int 0, .int 0, .int 0, .int 0, .int 0, .int 0] (fun j hj => by rcases (show j = 0 ∨ j = 1 ∨ j = 2 ∨ j = 3 ∨ j = 4 ∨ j = 5 ∨ j = 6 ∨ j = 7 ∨ j = 8 ∨ j = 9 ∨ j = 10 by omega) with rfl | rfl | rfl | rfl | rfl | rfl | rfl | rfl | rfl | rfl | rfl <;> rfl) (by show _ ≤ 204; omega) (by show _ ≤ 1799; omega) dX1_init_29 (fun qn H hW => ?_)
      refine lv_dup X.1 X.2.1 dX1_init_32 rfl ?_
      have hp_33 : (((([(h0, .inr (1, [.ref q7, .int 0, .int 0]))] : va_W) ++ ([(q7, .inl (E.2.2.1, 7, .inr (.inr (.inr (.inr f)))))] : va_W)) ++ hsM E B k) ++ ([(qn, .inr (2, [.null, .null, .null, .null, .null, .int 0, .int 0, .int 0, .int 0, .int 0, .int 0]))] : va_W)).Perm (([(qn, .inr (2, [.null, .null, .null, .null, .null, .int 0, .int 0, .int 0, .int 0, .int 0, .int 0]))] : va_W) ++ ((([(h0, .inr (1, [.ref q7, .int 0, .int 0]))] : va_W) ++ ([(q7, .inl (E.2.2.1, 7, .inr (.inr (.inr (.inr f)))))] : va_W)) ++ hsM E B k)) := List.perm_append_comm
      refine z_calla X hW hp_33 (z_runI (b := qn) (As := []) (rest := [.ref qn, .int (nI k), .ref q7]) X hW hp_33 (c_X2_init l E qn _) hy_X2_init q_7 q_8 q_9 rfl gX1_init_X2_init rfl rfl ⟨by decide, by decide⟩ rfl hl rfl rfl (Nat.le_of_ble_eq_true rfl) dX1_init_33 ⟨by show _ ≤ 204; omega, by show _ ≤ 1799; omega⟩) (fun w1 H locs hw hW1 => ?_)
      clear hp_33 hW
      obtain ⟨a5, e5, rfl⟩ := hw
      subst e5
      have hW := zW_perm hW1 List.perm_append_comm
      clear hW1
      have hW := zW_eq hW (show ((([(h0, .inr (1, [.ref q7, .int 0, .int 0]))] : va_W) ++ ([(q7, .inl (E.2.2.1, 7, .inr (.inr (.inr (.inr f)))))] : va_W)) ++ hsM E B k) ++ hsW E a5 zH0 = ((([(h0, .inr (1, [.ref q7, .int 0, .int 0]))] : va_W) ++ ([(q7, .inl (E.2.2.1, 7, .inr (.inr (.inr (.inr f)))))] : va_W)) ++ hsM E (fun j => if j = k then a5 else B j) (k + 1)) by rw [hsM_succ, List.append_assoc (([(h0, .inr (1, [.ref q7, .int 0, .int 0]))] : va_W) ++ ([(q7, .inl (E.2.2.1, 7, .inr (.inr (.inr (.inr f)))))] : va_W))])
      obtain ⟨qh, hqh⟩ := List.getElem?_of_mem (List.mem_append_right (([(h0, .inr (1, [.ref q7, .int 0, .int 0]))] : va_W) ++ ([(q7, .inl (E.2.2.1, 7, .inr (.inr (.inr (.inr f)))))] : va_W)) (show (a5 0, _) ∈ hsM E (fun j => if j = k then a5 else B j) (k + 1) from by rw [hsM_succ]; exact List.mem_append_right _ List.mem_cons_self))
      refine z_astq X hW 1 qh ((([(h0, .inr (1, [.ref q7, .int 0, .int 0]))] : va_W) ++ ([(q7, .inl (E.2.2.1, 7, .inr (.inr (.inr (.inr (va_up f k (some (a5 0))))))))] : va_W)) ++ hsM E (fun j => if j = k then a5 else B j) (k + 1)) rfl hqh (vp_in_nI (by omega) (by omega)) (by rw [nI_clamp (by omega)]; rfl) dX1_init_36 (fun H locs hW => ?_)
      refine lv_iinc (v := nI (k + 1)) (lv' := [(1, .int (nI (k + 1))), (0, .ref h0)]) X.1 X.2.1 dX1_init_37 hl (k := 1) rfl (nI_p1 k) (by decide) rfl (fun ls hl => ?_)
      refine lv_goto (tgt := 15) X.1 X.2.1 dX1_init_40 (by decide) ?_
      refine W.cs (cells' := 1 + 29 * (k + 1)) (slots' := 7 + 256 * (k + 1)) (by omega) (by omega) ?_
      refine ih (k + 1) (va_up f k (some (a5 0))) (fun j => if j = k then a5 else B j) _ _ _ (by omega) (by omega) (fun j hj => ?_) hW (lv_sub hl [1, 0] rfl)
      unfold va_up
      by_cases hjk : j = k
      · rw [if_pos hjk]; show _ = some ((if j = k then a5 else B j) 0); rw [if_pos hjk]
      · rw [if_neg hjk]; show _ = some ((if j = k then a5 else B j) 0); rw [if_neg hjk]; exact hf j (by omega)
  have hW := zW_eq hW (show _ = ((([(h0, .inr (1, [.ref q7, .int 0, .int 0]))] : va_W) ++ ([(q7, .inl (E.2.2.1, 7, .inr (.inr (.inr (.inr (fun _ => none))))))] : va_W)) ++ hsM E (fun _ _ => 0) 0) from rfl)
  exact L_15 7 0 (fun _ => none) (fun _ _ => 0) _ _ _ rfl (Nat.zero_le _) (fun j hj => absurd hj (Nat.not_lt_zero _)) hW (lv_sub hl [1, 0] rfl)
abbrev rm_X7_init : Room := { frames := 5, cells := 238, slots := 2147, locals := 104 }
theorem hy_X7_init : zY yX7_init wsX7_init cX7_init 1 none 0 := ⟨⟨_, rfl⟩, by decide, by decide, by decide +kernel⟩
set_option maxHeartbeats 4000000 in
set_option maxRecDepth 100000 in
theorem c_X7_init (l : Launch) (E : zE) (h0 : Nat) : zMa l E yX7_init wsX7_init rm_X7_init [.ref h0] ([(h0, .inr (7, [.null, .null, .null, .null, .null]))] : va_W) 238 2147 (fun w1 => ∃ a b : Nat → Nat, a 0 = h0 ∧ w1 = zXW E a b zH0 (fun _ _ => 0) zU0 (fun _ _ _ => 0)) := by
  intro sz
  refine z_entry (Qc := fun A => zQa E A (fun w1 => ∃ a b : Nat → Nat, a 0 = h0 ∧ w1 = zXW E a b zH0 (fun _ _ => 0) zU0 (fun _ _ _ => 0))) (by decide) rfl (Nat.le_of_ble_eq_true rfl) ?_
  intro p e s m below meth c A X hW ls hl
  have X : zX E wsX7_init RX7 cX7_init 1 none yX7_init p s m ([.ref h0] : List Value).toArray meth c A := X
  have hl : lv_has ls 1 [(0, .ref h0)] := hl
  have q_0 : Cond.methodLink RX7 1 objectInit ∈ wsX7_init := List.mem_of_getElem? (i := 1) rfl
  have q_1 : Cond.instanceMethod objectInit ∈ wsX7_init := List.mem_of_getElem? (i := 2) rfl
  have q_2 : Cond.code objectInit ⟨#[0xb1]⟩ 1 none ∈ wsX7_init := List.mem_of_getElem? (i := 3) rfl
  have q_3 : Cond.classLink RX7 7 RX2 ∈ wsX7_init := List.mem_of_getElem? (i := 4) rfl
  have q_4 : Cond.instantiable RX2 11 ∈ wsX7_init := List.mem_of_getElem? (i := 5) rfl
  have q_5 : Cond.initialized RX2 ∈ wsX7_init := List.mem_of_getElem? (i := 6) rfl
  have hn_X2 : ∀ x ∈ wsX20, x ∈ wsX7_init := zz_in [95, 96, 97, 98, 99, 100, 101, 102, 103, 104, 105] (by decide +kernel)
  have q_7 : Cond.instanceMethod yX2_init ∈ wsX7_init := List.mem_of_getElem? (i := 22) rfl
  have q_8 : Cond.methodLink RX7 9 yX2_init ∈ wsX7_init := List.mem_of_getElem? (i := 21) rfl
  have q_9 : Cond.fieldLink RX7 10 "ApplauseTallies" "house" "LApplauseTallies$House;" ∈ wsX7_init := List.mem_of_getElem? (i := 7) rfl
  have hn_X7 : ∀ x ∈ wsX70, x ∈ wsX7_init := zz_in [106, 107, 108, 109, 110] (by decide +kernel)
  have q_11 : Cond.classLink RX7 16 RX1 ∈ wsX7_init := List.mem_of_getElem? (i := 8) rfl
  have q_12 : Cond.instantiable RX1 3 ∈ wsX7_init := List.mem_of_getElem? (i := 9) rfl
  have q_13 : Cond.initialized RX1 ∈ wsX7_init := List.mem_of_getElem? (i := 10) rfl
  have hn_X1 : ∀ x ∈ wsX10, x ∈ wsX7_init := zz_in [111, 112, 113] (by decide +kernel)
  have q_15 : Cond.instanceMethod yX1_init ∈ wsX7_init := List.mem_of_getElem? (i := 80) rfl
  have q_16 : Cond.methodLink RX7 18 yX1_init ∈ wsX7_init := List.mem_of_getElem? (i := 79) rfl
  have q_17 : Cond.fieldLink RX7 19 "ApplauseTallies" "history" "LApplauseTallies$History;" ∈ wsX7_init := List.mem_of_getElem? (i := 11) rfl
  have q_18 : Cond.fieldLink RX7 23 "ApplauseTallies" "slots" "[LApplauseTallies$House;" ∈ wsX7_init := List.mem_of_getElem? (i := 12) rfl
  have q_19 : Cond.classLink RX7 27 RX4 ∈ wsX7_init := List.mem_of_getElem? (i := 13) rfl
  have q_20 : Cond.instantiable RX4 2 ∈ wsX7_init := List.mem_of_getElem? (i := 14) rfl
  have q_21 : Cond.initialized RX4 ∈ wsX7_init := List.mem_of_getElem? (i := 15) rfl
  have hn_X4 : ∀ x ∈ wsX40, x ∈ wsX7_init := zz_in [114, 115] (by decide +kernel)
  have q_23 : Cond.instanceMethod yX4_init ∈ wsX7_init := List.mem_of_getElem? (i := 86) rfl
  have q_24 : Cond.fieldLink RX7 30 "ApplauseTallies" "pad" "LApplauseTallies$Pad;" ∈ wsX7_init := List.mem_of_getElem? (i := 16) rfl
  have q_25 : Cond.classLink RX7 34 RX3 ∈ wsX7_init := List.mem_of_getElem? (i := 17) rfl
  have q_26 : Cond.instantiable RX3 5 ∈ wsX7_init := List.mem_of_getElem? (i := 18) rfl
  have q_27 : Cond.initialized RX3 ∈ wsX7_init := List.mem_of_getElem? (i := 19) rfl
  have hn_X3 : ∀ x ∈ wsX30, x ∈ wsX7_init := zz_in [116, 117, 118, 119, 120] (by decide +kernel)
  have q_29 : Cond.methodLink RX7 36 yX3_init ∈ wsX7_init := List.mem_of_getElem? (i := 90) rfl
  have q_30 : Cond.instanceMethod yX3_init ∈ wsX7_init := List.mem_of_getElem? (i := 91) rfl
  have q_31 : Cond.fieldLink RX7 39 "ApplauseTallies" "reader" "LApplauseTallies$OrderReader;" ∈ wsX7_init := List.mem_of_getElem? (i := 20) rfl
  refine lv_aload_n X.1 X.2.1 dX7_init_0 rfl (lv_at hl 0 rfl) ?_
  refine z_objInit X hl rfl q_0 q_1 q_2 dX7_init_1 (by decide) (Nat.le_of_ble_eq_true rfl) ?_
  refine lv_aload_n X.1 X.2.1 dX7_init_4 rfl (lv_at hl 0 rfl) ?_
  refine z_new X hW tyX2 tyX2_ok (C := RX2) (T := TX2) (N := 11) 2 rfl hn_X2 q_3 q_4 q_5 [.null, .null, .null, .null, .null, .int 0, .int 0, .int 0, .int 0, .int 0, .int 0] (fun j hj => by rcases (show j = 0 ∨ j = 1 ∨ j = 2 ∨ j = 3 ∨ j = 4 ∨ j = 5 ∨ j = 6 ∨ j = 7 ∨ j = 8 ∨ j = 9 ∨ j = 10 by omega) with rfl | rfl | rfl | rfl | rfl | rfl | rfl | rfl | rfl | rfl | rfl <;> rfl) (by decide) (by decide) dX7_init_5 (fun q5 H hW => ?_)
  refine W.cs (cells' := 1) (slots' := 11) rfl rfl ?_
  refine lv_dup X.1 X.2.1 dX7_init_8 rfl ?_
  have hp_9 : ((([(h0, .inr (7, [.null, .null, .null, .null, .null]))] : va_W) ++ ([(q5, .inr (2, [.null, .null, .null, .null, .null, .int 0, .int 0, .int 0, .int 0, .int 0, .int 0]))] : va_W))).Perm (([(q5, .inr (2, [.null, .null, .null, .null, .null, .int 0, .int 0, .int 0, .int 0, .int 0, .int 0]))] : va_W) ++ ([(h0, .inr (7, [.null, .null, .null, .null, .null]))] : va_W)) := List.perm_append_comm
  refine z_calla X hW hp_9 (z_runI (b := q5) (As := []) (rest := [.ref q5, .ref h0]) X hW hp_9 (c_X2_init l E q5  _) hy_X2_init q_5 q_8 q_7 rfl gX7_init_X2_init rfl rfl ⟨by decide, by decide⟩ rfl hl rfl rfl (Nat.le_of_ble_eq_true rfl) dX7_init_9 ⟨by decide, by decide⟩) (fun w1 H locs hw hW1 => ?_)
  clear hp_9 hW
  obtain ⟨a9, e9, rfl⟩ := hw
  have hW := zW_perm hW1 List.perm_append_comm
  clear hW1
  refine W.cs (cells' := 29) (slots' := 256) rfl rfl ?_
  subst e9
  refine z_putF X hW ((([(h0, .inr (7, [.ref (a9 0), .null, .null, .null, .null]))] : va_W) ++ (hsW E a9 zH0))) tyX7 tyX7_ok nmX7 0 7 0 (C := RX7) (T := TX7) (N := 5) rfl rfl hn_X7 (by decide) q_9 rfl rfl rfl rfl rfl (Nat.le_of_ble_eq_true rfl) rfl dX7_init_12 (fun H locs hW => ?_)
  refine lv_aload_n X.1 X.2.1 dX7_init_15 rfl (lv_at hl 0 rfl) ?_
  refine z_new X hW tyX1 tyX1_ok (C := RX1) (T := TX1) (N := 3) 1 rfl hn_X1 q_11 q_12 q_13 [.null, .int 0, .int 0] (fun j hj => by rcases (show j = 0 ∨ j = 1 ∨ j = 2 by omega) with rfl | rfl | rfl <;> rfl) (by decide) (by decide) dX7_init_16 (fun q16 H hW => ?_)
  refine W.cs (cells' := 30) (slots' := 259) rfl rfl ?_
  refine lv_dup X.1 X.2.1 dX7_init_19 rfl ?_
  have hp_20 : (((([(h0, .inr (7, [.ref (a9 0), .null, .null, .null, .null]))] : va_W) ++ (hsW E a9 zH0)) ++ ([(q16, .inr (1, [.null, .int 0, .int 0]))] : va_W))).Perm (([(q16, .inr (1, [.null, .int 0, .int 0]))] : va_W) ++ (([(h0, .inr (7, [.ref (a9 0), .null, .null, .null, .null]))] : va_W) ++ (hsW E a9 zH0))) := List.perm_append_comm
  refine z_calla X hW hp_20 (z_runI (b := q16) (As := []) (rest := [.ref q16, .ref h0]) X hW hp_20 (c_X1_init l E q16  _) hy_X1_init q_13 q_16 q_15 rfl gX7_init_X1_init rfl rfl ⟨by decide, by decide⟩ rfl hl rfl rfl (Nat.le_of_ble_eq_true rfl) dX7_init_20 ⟨by decide, by decide⟩) (fun w1 H locs hw hW1 => ?_)
  clear hp_20 hW
  obtain ⟨a20, e20, rfl⟩ := hw
  have hW := zW_perm hW1 List.perm_append_comm
  clear hW1
  refine W.cs (cells' := 234) (slots' := 2058) rfl rfl ?_
  subst e20
  refine z_putF X hW (((([(h0, .inr (7, [.ref (a9 0), .ref (a20 0), .null, .null, .null]))] : va_W) ++ (hsW E a9 zH0)) ++ (hiW E a20 zU0))) tyX7 tyX7_ok nmX7 0 7 1 (C := RX7) (T := TX7) (N := 5) rfl rfl hn_X7 (by decide) q_17 rfl rfl rfl rfl rfl (Nat.le_of_ble_eq_true rfl) rfl dX7_init_23 (fun H locs hW => ?_)
  refine lv_aload_n X.1 X.2.1 dX7_init_26 rfl (lv_at hl 0 rfl) ?_
  refine lv_iconst (v := 2) X.1 X.2.1 dX7_init_27 (by decide) ?_
  refine z_newq X hW q_3 2 (by decide) (by decide) (by decide) (by decide) (by decide) dX7_init_28 (fun q28 H hW => ?_)
  refine W.cs (cells' := 235) (slots' := 2060) rfl rfl ?_
  refine z_putF X hW ((((([(h0, .inr (7, [.ref (a9 0), .ref (a20 0), .ref q28, .null, .null]))] : va_W) ++ (hsW E a9 zH0)) ++ (hiW E a20 zU0)) ++ ([(q28, .inl (E.2.2.1, 2, .inr (.inr (.inr (.inr (fun _ => none))))))] : va_W))) tyX7 tyX7_ok nmX7 0 7 2 (C := RX7) (T := TX7) (N := 5) rfl rfl hn_X7 (by decide) q_18 rfl rfl rfl rfl rfl (Nat.le_of_ble_eq_true rfl) rfl dX7_init_31 (fun H locs hW => ?_)
  refine lv_aload_n X.1 X.2.1 dX7_init_34 rfl (lv_at hl 0 rfl) ?_
  refine z_new X hW tyX4 tyX4_ok (C := RX4) (T := TX4) (N := 2) 4 rfl hn_X4 q_19 q_20 q_21 [.null, .int 0] (fun j hj => by rcases (show j = 0 ∨ j = 1 by omega) with rfl | rfl <;> rfl) (by decide) (by decide) dX7_init_35 (fun q35 H hW => ?_)
  refine W.cs (cells' := 236) (slots' := 2062) rfl rfl ?_
  refine lv_dup X.1 X.2.1 dX7_init_38 rfl ?_
  have hp_39 : (((((([(h0, .inr (7, [.ref (a9 0), .ref (a20 0), .ref q28, .null, .null]))] : va_W) ++ (hsW E a9 zH0)) ++ (hiW E a20 zU0)) ++ ([(q28, .inl (E.2.2.1, 2, .inr (.inr (.inr (.inr (fun _ => none))))))] : va_W)) ++ ([(q35, .inr (4, [.null, .int 0]))] : va_W))).Perm (([(q35, .inr (4, [.null, .int 0]))] : va_W) ++ (((([(h0, .inr (7, [.ref (a9 0), .ref (a20 0), .ref q28, .null, .null]))] : va_W) ++ (hsW E a9 zH0)) ++ (hiW E a20 zU0)) ++ ([(q28, .inl (E.2.2.1, 2, .inr (.inr (.inr (.inr (fun _ => none))))))] : va_W))) := List.perm_append_comm
  refine z_calla X hW hp_39 (z_runIN (b := q35) (As := []) (rest := [.ref q35, .ref h0]) X hW hp_39 (c_X4_init l E q35  _) hy_X4_init q_21 (List.mem_of_getElem? (i := 16) rfl) q_23 rfl gX7_init_X4_init_n29 rfl rfl ⟨by decide, by decide⟩ rfl hl rfl rfl (Nat.le_of_ble_eq_true rfl) dX7_init_39 ⟨by decide, by decide⟩) (fun w1 H locs hw hW1 => ?_)
  clear hp_39 hW
  obtain ⟨a39, e39, rfl⟩ := hw
  have hW := zW_perm hW1 List.perm_append_comm
  clear hW1
  refine W.cs (cells' := 237) (slots' := 2142) rfl rfl ?_
  subst e39
  refine z_putF X hW (((((([(h0, .inr (7, [.ref (a9 0), .ref (a20 0), .ref q28, .ref (a39 0), .null]))] : va_W) ++ (hsW E a9 zH0)) ++ (hiW E a20 zU0)) ++ ([(q28, .inl (E.2.2.1, 2, .inr (.inr (.inr (.inr (fun _ => none))))))] : va_W)) ++ (pdW E a39 zP0))) tyX7 tyX7_ok nmX7 0 7 3 (C := RX7) (T := TX7) (N := 5) rfl rfl hn_X7 (by decide) q_24 rfl rfl rfl rfl rfl (Nat.le_of_ble_eq_true rfl) rfl dX7_init_42 (fun H locs hW => ?_)
  refine lv_aload_n X.1 X.2.1 dX7_init_45 rfl (lv_at hl 0 rfl) ?_
  refine z_new X hW tyX3 tyX3_ok (C := RX3) (T := TX3) (N := 5) 3 rfl hn_X3 q_25 q_26 q_27 [.null, .int 0, .int 0, .int 0, .int 0] (fun j hj => by rcases (show j = 0 ∨ j = 1 ∨ j = 2 ∨ j = 3 ∨ j = 4 by omega) with rfl | rfl | rfl | rfl | rfl <;> rfl) (by decide) (by decide) dX7_init_46 (fun q46 H hW => ?_)
  refine W.cs (cells' := 238) (slots' := 2147) rfl rfl ?_
  refine lv_dup X.1 X.2.1 dX7_init_49 rfl ?_
  refine lv_aload_n X.1 X.2.1 dX7_init_50 rfl (lv_at hl 0 rfl) ?_
  refine z_get X hW 0 7 3 (C := RX7) (T := TX7) (N := 5) rfl rfl hn_X7 (by decide) q_24 rfl dX7_init_51 ?_
  have hp_54 : ((((((([(h0, .inr (7, [.ref (a9 0), .ref (a20 0), .ref q28, .ref (a39 0), .null]))] : va_W) ++ (hsW E a9 zH0)) ++ (hiW E a20 zU0)) ++ ([(q28, .inl (E.2.2.1, 2, .inr (.inr (.inr (.inr (fun _ => none))))))] : va_W)) ++ (pdW E a39 zP0)) ++ ([(q46, .inr (3, [.null, .int 0, .int 0, .int 0, .int 0]))] : va_W))).Perm (([(q46, .inr (3, [.null, .int 0, .int 0, .int 0, .int 0]))] : va_W) ++ ((((([(h0, .inr (7, [.ref (a9 0), .ref (a20 0), .ref q28, .ref (a39 0), .null]))] : va_W) ++ (hsW E a9 zH0)) ++ (hiW E a20 zU0)) ++ ([(q28, .inl (E.2.2.1, 2, .inr (.inr (.inr (.inr (fun _ => none))))))] : va_W)) ++ (pdW E a39 zP0))) := List.perm_append_comm
  refine z_calla X hW hp_54 (z_runI (b := q46) (As := [.ref (a39 0)]) (rest := [.ref q46, .ref h0]) X hW hp_54 (c_X3_init l E q46 (a39 0) _) hy_X3_init q_27 q_29 q_30 rfl gX7_init_X3_init rfl rfl ⟨by decide, by decide⟩ rfl hl rfl rfl (Nat.le_of_ble_eq_true rfl) dX7_init_54 ⟨by decide, by decide⟩) (fun w1 H locs hw hW1 => ?_)
  clear hp_54 hW
  cases hw
  have hW := zW_perm hW1 List.perm_append_comm
  clear hW1
  refine z_putF X hW ((((((([(h0, .inr (7, [.ref (a9 0), .ref (a20 0), .ref q28, .ref (a39 0), .ref q46]))] : va_W) ++ (hsW E a9 zH0)) ++ (hiW E a20 zU0)) ++ ([(q28, .inl (E.2.2.1, 2, .inr (.inr (.inr (.inr (fun _ => none))))))] : va_W)) ++ (pdW E a39 zP0)) ++ ([(q46, .inr (3, [.ref (a39 0), .int 0, .int 0, .int 0, .int 0]))] : va_W))) tyX7 tyX7_ok nmX7 0 7 4 (C := RX7) (T := TX7) (N := 5) rfl rfl hn_X7 (by decide) q_31 rfl rfl rfl rfl rfl (Nat.le_of_ble_eq_true rfl) rfl dX7_init_57 (fun H locs hW => ?_)
  have e_hi : zh (fun k => if k = 0 then h0 else if k < 30 then a9 (k - 1) else if k = 30 then q46 else if k < 33 then a39 (k - 31) else a20 (k - 33)) 33 = a20 := by
    funext k
    show (if 33 + k = 0 then h0 else if 33 + k < 30 then a9 (33 + k - 1) else if 33 + k = 30 then q46 else if 33 + k < 33 then a39 (33 + k - 31) else a20 (33 + k - 33)) = a20 k
    rw [if_neg (by omega), if_neg (by omega), if_neg (by omega), if_neg (by omega)]
    congr 1
    omega
  have e_sl : slW E (fun _ => q28) (fun _ _ _ => 0) = ([(q28, .inl (E.2.2.1, 2, .inr (.inr (.inr (.inr (fun _ => none))))))] : va_W) := slW_0 E _
  have e_w : zXW E (fun k => if k = 0 then h0 else if k < 30 then a9 (k - 1) else if k = 30 then q46 else if k < 33 then a39 (k - 31) else a20 (k - 33)) (fun _ => q28) zH0 (fun _ _ => 0) zU0 (fun _ _ _ => 0) = (([(h0, .inr (7, [.ref (a9 0), .ref (a20 0), .ref q28, .ref (a39 0), .ref q46]))] : va_W) ++ ((hsW E a9 zH0) ++ ((([(q46, .inr (3, [.ref (a39 0), .int 0, .int 0, .int 0, .int 0]))] : va_W) ++ (pdW E a39 zP0)) ++ ((hiW E a20 zU0) ++ ([(q28, .inl (E.2.2.1, 2, .inr (.inr (.inr (.inr (fun _ => none))))))] : va_W))))) := by
    unfold zXW
    rw [e_hi, e_sl]
    rfl
  have hW := zW_perm hW (show (((((([(h0, .inr (7, [.ref (a9 0), .ref (a20 0), .ref q28, .ref (a39 0), .ref q46]))] : va_W) ++ (hsW E a9 zH0)) ++ (hiW E a20 zU0)) ++ ([(q28, .inl (E.2.2.1, 2, .inr (.inr (.inr (.inr (fun _ => none))))))] : va_W)) ++ (pdW E a39 zP0)) ++ ([(q46, .inr (3, [.ref (a39 0), .int 0, .int 0, .int 0, .int 0]))] : va_W)).Perm (([(h0, .inr (7, [.ref (a9 0), .ref (a20 0), .ref q28, .ref (a39 0), .ref q46]))] : va_W) ++ ((hsW E a9 zH0) ++ ((([(q46, .inr (3, [.ref (a39 0), .int 0, .int 0, .int 0, .int 0]))] : va_W) ++ (pdW E a39 zP0)) ++ ((hiW E a20 zU0) ++ ([(q28, .inl (E.2.2.1, 2, .inr (.inr (.inr (.inr (fun _ => none))))))] : va_W))))) from by
    rw [List.append_assoc, List.append_assoc, List.append_assoc, List.append_assoc]
    refine List.Perm.append_left _ (List.Perm.append_left _ ?_)
    rw [← List.append_assoc]
    exact List.perm_append_comm.trans (List.Perm.append_right _ List.perm_append_comm))
  exact z_varet X (zW_eq hW e_w.symm) ⟨(fun k => if k = 0 then h0 else if k < 30 then a9 (k - 1) else if k = 30 then q46 else if k < 33 then a39 (k - 31) else a20 (k - 33)), fun _ => q28, rfl, rfl⟩ dX7_init_60
