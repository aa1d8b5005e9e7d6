abbrev rm_X5_at : Room := { frames := 0, cells := 0, slots := 0, locals := 0 }
theorem hy_X5_at : zY yX5_at wsX5_at cX5_at 2 (some .int) 1 := ⟨⟨_, rfl⟩, by decide, by decide, by decide +kernel⟩
def d_X5_at (n : Nat) (f : Nat → Int32) (p1 : Int32) : Option (Int32) :=
(if p1 < 0 then
some 0
else
(if (nI n) ≤ p1 then
some 0
else
zld n f p1 fun t18 =>
some t18))
set_option maxHeartbeats 4000000 in
set_option maxRecDepth 100000 in
theorem c_X5_at (l : Launch) (E : zE) (a : Nat → Nat) (n : Nat) (f : Nat → Int32) (p1 : Int32) (r : Int32) (h : d_X5_at n f p1 = some r) : zMi l E yX5_at wsX5_at rm_X5_at [.ref (a 0), .int p1] (rwW E a n f) r (rwW E a n f) := by
  intro sz
  refine z_entry (Qc := fun A => zQi E A r (rwW E a n f)) (by decide) rfl (Nat.le_of_ble_eq_true rfl) ?_
  intro p e s m below meth c A X hW ls hl
  have X : zX E wsX5_at RX5 cX5_at 2 (some .int) yX5_at p s m ([.ref (a 0), .int p1] : List Value).toArray meth c A := X
  have hl : lv_has ls 2 [(0, .ref (a 0)), (1, .int p1)] := hl
  have hr : d_X5_at n f p1 = some r := h
  clear h
  have q_0 : Cond.fieldLink RX5 13 "ApplauseTallies$Row" "cells" "[I" ∈ wsX5_at := List.mem_of_getElem? (i := 1) rfl
  have hn_X5 : ∀ x ∈ wsX50, x ∈ wsX5_at := zz_in [2] (by decide +kernel)
  unfold d_X5_at at hr
  refine lv_iload_n X.1 X.2.1 dX5_at_0 rfl (lv_at hl 1 rfl) ?_
  refine z_iflt X 22 hr dX5_at_1 (by decide) (fun hr => ?_) (fun hr => ?_)
  · refine lv_iconst (v := 0) X.1 X.2.1 dX5_at_22 (by decide) ?_
    cases hr
    exact z_iret X hW rfl dX5_at_23
  · refine lv_iload_n X.1 X.2.1 dX5_at_4 rfl (lv_at hl 1 rfl) ?_
    refine lv_aload_n X.1 X.2.1 dX5_at_5 rfl (lv_at hl 0 rfl) ?_
    refine z_get X hW 0 5 0 (C := RX5) (T := TX5) (N := 1) rfl rfl hn_X5 (by decide) q_0 rfl dX5_at_6 ?_
    refine z_len X hW 1 rfl dX5_at_9 ?_
    refine z_cmpge X 22 hr dX5_at_10 (by decide) (fun hr => ?_) (fun hr => ?_)
    · refine lv_iconst (v := 0) X.1 X.2.1 dX5_at_22 (by decide) ?_
      cases hr
      exact z_iret X hW rfl dX5_at_23
    · refine lv_aload_n X.1 X.2.1 dX5_at_13 rfl (lv_at hl 0 rfl) ?_
      refine z_get X hW 0 5 0 (C := RX5) (T := TX5) (N := 1) rfl rfl hn_X5 (by decide) q_0 rfl dX5_at_14 ?_
      refine lv_iload_n X.1 X.2.1 dX5_at_17 rfl (lv_at hl 1 rfl) ?_
      refine z_ald X hW 1 hr rfl dX5_at_18 (fun t18 hr => ?_)
      refine lv_goto (tgt := 23) X.1 X.2.1 dX5_at_19 (by decide) ?_
      cases hr
      exact z_iret X hW rfl dX5_at_23
abbrev rm_X5_store : Room := { frames := 0, cells := 0, slots := 0, locals := 0 }
theorem hy_X5_store : zY yX5_store wsX5_store cX5_store 3 none 2 := ⟨⟨_, rfl⟩, by decide, by decide, by decide +kernel⟩
def d_X5_store (n : Nat) (f : Nat → Int32) (p1 : Int32) (p2 : Int32) : Option ((Nat → Int32)) :=
(if p1 < 0 then
some f
else
(if (nI n) ≤ p1 then
some f
else
zst n f p1 p2 fun f19 =>
some f19))
set_option maxHeartbeats 4000000 in
set_option maxRecDepth 100000 in
theorem c_X5_store (l : Launch) (E : zE) (a : Nat → Nat) (n : Nat) (f : Nat → Int32) (p1 : Int32) (p2 : Int32) (r : (Nat → Int32)) (h : d_X5_store n f p1 p2 = some r) : zMv l E yX5_store wsX5_store rm_X5_store [.ref (a 0), .int p1, .int p2] (rwW E a n f) (rwW E a n r) := by
  intro sz
  refine z_entry (Qc := fun A => zQv E A (rwW E a n r)) (by decide) rfl (Nat.le_of_ble_eq_true rfl) ?_
  intro p e s m below meth c A X hW ls hl
  have X : zX E wsX5_store RX5 cX5_store 3 none yX5_store p s m ([.ref (a 0), .int p1, .int p2] : List Value).toArray meth c A := X
  have hl : lv_has ls 3 [(0, .ref (a 0)), (1, .int p1), (2, .int p2)] := hl
  have hr : d_X5_store n f p1 p2 = some r := h
  clear h
  have q_0 : Cond.fieldLink RX5 13 "ApplauseTallies$Row" "cells" "[I" ∈ wsX5_store := List.mem_of_getElem? (i := 1) rfl
  have hn_X5 : ∀ x ∈ wsX50, x ∈ wsX5_store := zz_in [2] (by decide +kernel)
  unfold d_X5_store at hr
  refine lv_iload_n X.1 X.2.1 dX5_store_0 rfl (lv_at hl 1 rfl) ?_
  refine z_iflt X 20 hr dX5_store_1 (by decide) (fun hr => ?_) (fun hr => ?_)
  · cases hr
    exact z_vret X hW dX5_store_20
  · refine lv_iload_n X.1 X.2.1 dX5_store_4 rfl (lv_at hl 1 rfl) ?_
    refine lv_aload_n X.1 X.2.1 dX5_store_5 rfl (lv_at hl 0 rfl) ?_
    refine z_get X hW 0 5 0 (C := RX5) (T := TX5) (N := 1) rfl rfl hn_X5 (by decide) q_0 rfl dX5_store_6 ?_
    refine z_len X hW 1 rfl dX5_store_9 ?_
    refine z_cmpge X 20 hr dX5_store_10 (by decide) (fun hr => ?_) (fun hr => ?_)
    · cases hr
      exact z_vret X hW dX5_store_20
    · refine lv_aload_n X.1 X.2.1 dX5_store_13 rfl (lv_at hl 0 rfl) ?_
      refine z_get X hW 0 5 0 (C := RX5) (T := TX5) (N := 1) rfl rfl hn_X5 (by decide) q_0 rfl dX5_store_14 ?_
      refine lv_iload_n X.1 X.2.1 dX5_store_17 rfl (lv_at hl 1 rfl) ?_
      refine lv_iload_n X.1 X.2.1 dX5_store_18 rfl (lv_at hl 2 rfl) ?_
      refine z_ast X hW 1 hr (fun f19 => (rwW E a n f19)) rfl (fun _ => rfl) dX5_store_19 (fun f19 H locs hr hW => ?_)
      cases hr
      exact z_vret X hW dX5_store_20
abbrev rm_X5_add : Room := { frames := 0, cells := 0, slots := 0, locals := 0 }
theorem hy_X5_add : zY yX5_add wsX5_add cX5_add 3 none 2 := ⟨⟨_, rfl⟩, by decide, by decide, by decide +kernel⟩
def d_X5_add (n : Nat) (f : Nat → Int32) (p1 : Int32) (p2 : Int32) : Option ((Nat → Int32)) :=
(if p1 < 0 then
some f
else
(if (nI n) ≤ p1 then
some f
else
zld n f p1 fun t19 =>
zlet (t19 + p2) fun t21 =>
zst n f p1 t21 fun f22 =>
some f22))
set_option maxHeartbeats 4000000 in
set_option maxRecDepth 100000 in
theorem c_X5_add (l : Launch) (E : zE) (a : Nat → Nat) (n : Nat) (f : Nat → Int32) (p1 : Int32) (p2 : Int32) (r : (Nat → Int32)) (h : d_X5_add n f p1 p2 = some r) : zMv l E yX5_add wsX5_add rm_X5_add [.ref (a 0), .int p1, .int p2] (rwW E a n f) (rwW E a n r) := by
  intro sz
  refine z_entry (Qc := fun A => zQv E A (rwW E a n r)) (by decide) rfl (Nat.le_of_ble_eq_true rfl) ?_
  intro p e s m below meth c A X hW ls hl
  have X : zX E wsX5_add RX5 cX5_add 3 none yX5_add p s m ([.ref (a 0), .int p1, .int p2] : List Value).toArray meth c A := X
  have hl : lv_has ls 3 [(0, .ref (a 0)), (1, .int p1), (2, .int p2)] := hl
  have hr : d_X5_add n f p1 p2 = some r := h
  clear h
  have q_0 : Cond.fieldLink RX5 13 "ApplauseTallies$Row" "cells" "[I" ∈ wsX5_add := List.mem_of_getElem? (i := 1) rfl
  have hn_X5 : ∀ x ∈ wsX50, x ∈ wsX5_add := zz_in [2] (by decide +kernel)
  unfold d_X5_add at hr
  refine lv_iload_n X.1 X.2.1 dX5_add_0 rfl (lv_at hl 1 rfl) ?_
  refine z_iflt X 23 hr dX5_add_1 (by decide) (fun hr => ?_) (fun hr => ?_)
  · cases hr
    exact z_vret X hW dX5_add_23
  · refine lv_iload_n X.1 X.2.1 dX5_add_4 rfl (lv_at hl 1 rfl) ?_
    refine lv_aload_n X.1 X.2.1 dX5_add_5 rfl (lv_at hl 0 rfl) ?_
    refine z_get X hW 0 5 0 (C := RX5) (T := TX5) (N := 1) rfl rfl hn_X5 (by decide) q_0 rfl dX5_add_6 ?_
    refine z_len X hW 1 rfl dX5_add_9 ?_
    refine z_cmpge X 23 hr dX5_add_10 (by decide) (fun hr => ?_) (fun hr => ?_)
    · cases hr
      exact z_vret X hW dX5_add_23
    · refine lv_aload_n X.1 X.2.1 dX5_add_13 rfl (lv_at hl 0 rfl) ?_
      refine z_get X hW 0 5 0 (C := RX5) (T := TX5) (N := 1) rfl rfl hn_X5 (by decide) q_0 rfl dX5_add_14 ?_
      refine lv_iload_n X.1 X.2.1 dX5_add_17 rfl (lv_at hl 1 rfl) ?_
      refine lv_dup2_11 X.1 X.2.1 dX5_add_18 rfl rfl ?_
      refine z_ald X hW 1 hr rfl dX5_add_19 (fun t19 hr => ?_)
      refine lv_iload_n X.1 X.2.1 dX5_add_20 rfl (lv_at hl 2 rfl) ?_
      refine z_iadd X hr dX5_add_21 (fun t21 hr => ?_)
      refine z_ast X hW 1 hr (fun f22 => (rwW E a n f22)) rfl (fun _ => rfl) dX5_add_22 (fun f22 H locs hr hW => ?_)
      cases hr
      exact z_vret X hW dX5_add_23
abbrev rm_X5_fill : Room := { frames := 0, cells := 0, slots := 0, locals := 0 }
theorem hy_X5_fill : zY yX5_fill wsX5_fill cX5_fill 3 none 1 := ⟨⟨_, rfl⟩, by decide, by decide, by decide +kernel⟩
def lpB_X5_fill_2 (n : Nat) (p1 : Int32)  (k_2 : Int32 → (Nat → Int32) → Option ((Nat → Int32))) (x2 : Int32) (f : Nat → Int32) : Option ((Nat → Int32)) :=
(if (nI n) ≤ x2 then
some f
else
zst n f x2 p1 fun f17 =>
zlet (x2 + Int32.ofInt 1) fun x2_18 =>
k_2 x2_18 f17)
def lp_X5_fill_2 (n : Nat) (p1 : Int32)  : Nat → Int32 → (Nat → Int32) → Option ((Nat → Int32))
  | 0 => fun _ _ => none
  | n_ + 1 => lpB_X5_fill_2 n p1  (lp_X5_fill_2 n p1  n_)
def d_X5_fill (n : Nat) (f : Nat → Int32) (p1 : Int32) : Option ((Nat → Int32)) :=
lp_X5_fill_2 n p1  zF 0 f
set_option maxHeartbeats 4000000 in
set_option maxRecDepth 100000 in
theorem c_X5_fill (l : Launch) (E : zE) (a : Nat → Nat) (n : Nat) (f : Nat → Int32) (p1 : Int32) (r : (Nat → Int32)) (h : d_X5_fill n f p1 = some r) : zMv l E yX5_fill wsX5_fill rm_X5_fill [.ref (a 0), .int p1] (rwW E a n f) (rwW E a n r) := by
  intro sz
  refine z_entry (Qc := fun A => zQv E A (rwW E a n r)) (by decide) rfl (Nat.le_of_ble_eq_true rfl) ?_
  intro p e s m below meth c A X hW ls hl
  have X : zX E wsX5_fill RX5 cX5_fill 3 none yX5_fill p s m ([.ref (a 0), .int p1] : List Value).toArray meth c A := X
  have hl : lv_has ls 3 [(0, .ref (a 0)), (1, .int p1)] := hl
  have hr : d_X5_fill n f p1 = some r := h
  clear h
  have q_0 : Cond.fieldLink RX5 13 "ApplauseTallies$Row" "cells" "[I" ∈ wsX5_fill := List.mem_of_getElem? (i := 1) rfl
  have hn_X5 : ∀ x ∈ wsX50, x ∈ wsX5_fill := zz_in [2] (by decide +kernel)
  unfold d_X5_fill at hr
  refine lv_iconst (v := 0) X.1 X.2.1 dX5_fill_0 (by decide) ?_
  refine lv_istore_n (lv' := [(2, .int 0), (0, .ref (a 0)), (1, .int p1)]) X.1 X.2.1 dX5_fill_1 rfl hl (by decide) rfl (fun ls hl => ?_)
  have L_2 : ∀ (n_2 : Nat), ∀ (x2 : Int32) (f : Nat → Int32) (H : Heap) (locs : List Loc) (ls : Array Slot), lp_X5_fill_2 n p1  n_2 x2 f = some r → zW E A s (rwW E a n f) H locs → lv_has ls 3 [(0, .ref (a 0)), (1, .int p1), (2, .int x2)] → W p l e rm_X5_fill s m ([.ref (a 0), .int p1] : List Value).toArray below meth c H locs 0 0 (MQ below (zQv E A (rwW E a n r)) ([.ref (a 0), .int p1] : List Value).toArray s 0 0 A) (F0 m 2 ls []) := by
    intro n_2
    induction n_2 with
    | zero => exact fun x2 f H locs ls hr hW hl => absurd (show (none : Option ((Nat → Int32))) = some r from hr) (fun h => by cases h)
    | succ n_2 ih_2 =>
      intro x2 f H locs ls hr hW hl
      have hr : lpB_X5_fill_2 n p1  (lp_X5_fill_2 n p1  n_2) x2 f = some r := hr
      unfold lpB_X5_fill_2 at hr
      refine lv_iload_n X.1 X.2.1 dX5_fill_2 rfl (lv_at hl 2 rfl) ?_
      refine lv_aload_n X.1 X.2.1 dX5_fill_3 rfl (lv_at hl 0 rfl) ?_
      refine z_get X hW 0 5 0 (C := RX5) (T := TX5) (N := 1) rfl rfl hn_X5 (by decide) q_0 rfl dX5_fill_4 ?_
      refine z_len X hW 1 rfl dX5_fill_7 ?_
      refine z_cmpge X 24 hr dX5_fill_8 (by decide) (fun hr => ?_) (fun hr => ?_)
      · cases hr
        exact z_vret X hW dX5_fill_24
      · refine lv_aload_n X.1 X.2.1 dX5_fill_11 rfl (lv_at hl 0 rfl) ?_
        refine z_get X hW 0 5 0 (C := RX5) (T := TX5) (N := 1) rfl rfl hn_X5 (by decide) q_0 rfl dX5_fill_12 ?_
        refine lv_iload_n X.1 X.2.1 dX5_fill_15 rfl (lv_at hl 2 rfl) ?_
        refine lv_iload_n X.1 X.2.1 dX5_fill_16 rfl (lv_at hl 1 rfl) ?_
        refine z_ast X hW 1 hr (fun f17 => (rwW E a n f17)) rfl (fun _ => rfl) dX5_fill_17 (fun f17 H locs hr hW => ?_)
        refine z_iinc X (fun x2_18 => [(2, .int x2_18), (0, .ref (a 0)), (1, .int p1)]) hr hl (k := 2) rfl (by decide) (fun _ => rfl) dX5_fill_18 (fun x2_18 ls hr hl => ?_)
        refine lv_goto (tgt := 2) X.1 X.2.1 dX5_fill_21 (by decide) ?_
        exact ih_2 x2_18 f17 _ _ _ hr hW (lv_sub hl [1, 2, 0] rfl)
  exact L_2 _ 0 f _ _ _ hr hW (lv_sub hl [1, 2, 0] rfl)
abbrev rm_X5_sum : Room := { frames := 0, cells := 0, slots := 0, locals := 0 }
theorem hy_X5_sum : zY yX5_sum wsX5_sum cX5_sum 3 (some .int) 0 := ⟨⟨_, rfl⟩, by decide, by decide, by decide +kernel⟩
def lpB_X5_sum_4 (n : Nat) (f : Nat → Int32)  (k_4 : Int32 → Int32 → Option (Int32)) (x1 : Int32) (x2 : Int32) : Option (Int32) :=
(if (nI n) ≤ x2 then
some x1
else
zld n f x2 fun t19 =>
zlet (x1 + t19) fun t20 =>
zlet (x2 + Int32.ofInt 1) fun x2_22 =>
k_4 t20 x2_22)
def lp_X5_sum_4 (n : Nat) (f : Nat → Int32)  : Nat → Int32 → Int32 → Option (Int32)
  | 0 => fun _ _ => none
  | n_ + 1 => lpB_X5_sum_4 n f  (lp_X5_sum_4 n f  n_)
def d_X5_sum (n : Nat) (f : Nat → Int32) : Option (Int32) :=
lp_X5_sum_4 n f  zF 0 0
set_option maxHeartbeats 4000000 in
set_option maxRecDepth 100000 in
theorem c_X5_sum (l : Launch) (E : zE) (a : Nat → Nat) (n : Nat) (f : Nat → Int32) (r : Int32) (h : d_X5_sum n f = some r) : zMi l E yX5_sum wsX5_sum rm_X5_sum [.ref (a 0)] (rwW E a n f) r (rwW E a n f) := by
  intro sz
  refine z_entry (Qc := fun A => zQi E A r (rwW E a n f)) (by decide) rfl (Nat.le_of_ble_eq_true rfl) ?_
  intro p e s m below meth c A X hW ls hl
  have X : zX E wsX5_sum RX5 cX5_sum 3 (some .int) yX5_sum p s m ([.ref (a 0)] : List Value).toArray meth c A := X
  have hl : lv_has ls 3 [(0, .ref (a 0))] := hl
  have hr : d_X5_sum n f = some r := h
  clear h
  have q_0 : Cond.fieldLink RX5 13 "ApplauseTallies$Row" "cells" "[I" ∈ wsX5_sum := List.mem_of_getElem? (i := 1) rfl
  have hn_X5 : ∀ x ∈ wsX50, x ∈ wsX5_sum := zz_in [2] (by decide +kernel)
  unfold d_X5_sum at hr
  refine lv_iconst (v := 0) X.1 X.2.1 dX5_sum_0 (by decide) ?_
  refine lv_istore_n (lv' := [(1, .int 0), (0, .ref (a 0))]) X.1 X.2.1 dX5_sum_1 rfl hl (by decide) rfl (fun ls hl => ?_)
  refine lv_iconst (v := 0) X.1 X.2.1 dX5_sum_2 (by decide) ?_
  refine lv_istore_n (lv' := [(2, .int 0), (1, .int 0), (0, .ref (a 0))]) X.1 X.2.1 dX5_sum_3 rfl hl (by decide) rfl (fun ls hl => ?_)
  have L_4 : ∀ (n_4 : Nat), ∀ (x1 : Int32) (x2 : Int32) (H : Heap) (locs : List Loc) (ls : Array Slot), lp_X5_sum_4 n f  n_4 x1 x2 = some r → zW E A s (rwW E a n f) H locs → lv_has ls 3 [(0, .ref (a 0)), (1, .int x1), (2, .int x2)] → W p l e rm_X5_sum s m ([.ref (a 0)] : List Value).toArray below meth c H locs 0 0 (MQ below (zQi E A r (rwW E a n f)) ([.ref (a 0)] : List Value).toArray s 0 0 A) (F0 m 4 ls []) := by
    intro n_4
    induction n_4 with
    | zero => exact fun x1 x2 H locs ls hr hW hl => absurd (show (none : Option (Int32)) = some r from hr) (fun h => by cases h)
    | succ n_4 ih_4 =>
      intro x1 x2 H locs ls hr hW hl
      have hr : lpB_X5_sum_4 n f  (lp_X5_sum_4 n f  n_4) x1 x2 = some r := hr
      unfold lpB_X5_sum_4 at hr
      refine lv_iload_n X.1 X.2.1 dX5_sum_4 rfl (lv_at hl 2 rfl) ?_
      refine lv_aload_n X.1 X.2.1 dX5_sum_5 rfl (lv_at hl 0 rfl) ?_
      refine z_get X hW 0 5 0 (C := RX5) (T := TX5) (N := 1) rfl rfl hn_X5 (by decide) q_0 rfl dX5_sum_6 ?_
      refine z_len X hW 1 rfl dX5_sum_9 ?_
      refine z_cmpge X 28 hr dX5_sum_10 (by decide) (fun hr => ?_) (fun hr => ?_)
      · refine lv_iload_n X.1 X.2.1 dX5_sum_28 rfl (lv_at hl 1 rfl) ?_
        cases hr
        exact z_iret X hW rfl dX5_sum_29
      · refine lv_iload_n X.1 X.2.1 dX5_sum_13 rfl (lv_at hl 1 rfl) ?_
        refine lv_aload_n X.1 X.2.1 dX5_sum_14 rfl (lv_at hl 0 rfl) ?_
        refine z_get X hW 0 5 0 (C := RX5) (T := TX5) (N := 1) rfl rfl hn_X5 (by decide) q_0 rfl dX5_sum_15 ?_
        refine lv_iload_n X.1 X.2.1 dX5_sum_18 rfl (lv_at hl 2 rfl) ?_
        refine z_ald X hW 1 hr rfl dX5_sum_19 (fun t19 hr => ?_)
        refine z_iadd X hr dX5_sum_20 (fun t20 hr => ?_)
        refine lv_istore_n (lv' := [(1, .int t20), (0, .ref (a 0)), (2, .int x2)]) X.1 X.2.1 dX5_sum_21 rfl hl (by decide) rfl (fun ls hl => ?_)
        refine z_iinc X (fun x2_22 => [(2, .int x2_22), (1, .int t20), (0, .ref (a 0))]) hr hl (k := 2) rfl (by decide) (fun _ => rfl) dX5_sum_22 (fun x2_22 ls hr hl => ?_)
        refine lv_goto (tgt := 4) X.1 X.2.1 dX5_sum_25 (by decide) ?_
        exact ih_4 t20 x2_22 _ _ _ hr hW (lv_sub hl [2, 1, 0] rfl)
  exact L_4 _ 0 0 _ _ _ hr hW (lv_sub hl [2, 1, 0] rfl)
abbrev rm_X5_copyFrom : Room := { frames := 1, cells := 0, slots := 0, locals := 38 }
theorem hy_X5_copyFrom : zY yX5_copyFrom wsX5_copyFrom cX5_copyFrom 2 none 1 := ⟨⟨_, rfl⟩, by decide, by decide, by decide +kernel⟩
def d_X5_copyFrom (n : Nat) (f : Nat → Int32) (n2 : Nat) (g : Nat → Int32) : Option ((Nat → Int32)) :=
zlet (if (nI n2) < (nI n) then (nI n2) else (nI n)) fun t20 =>
zcp n2 g n f 0 0 t20 fun f23 =>
some f23
set_option maxHeartbeats 4000000 in
set_option maxRecDepth 100000 in
theorem c_X5_copyFrom (l : Launch) (E : zE) (a b : Nat → Nat) (n : Nat) (f : Nat → Int32) (n2 : Nat) (g : Nat → Int32) (r : (Nat → Int32)) (h : d_X5_copyFrom n f n2 g = some r) : zMv l E yX5_copyFrom wsX5_copyFrom rm_X5_copyFrom [.ref (a 0), .ref (b 0)] ((rwW E a n f) ++ (rwW E b n2 g)) ((rwW E a n r) ++ (rwW E b n2 g)) := by
  intro sz
  refine z_entry (Qc := fun A => zQv E A ((rwW E a n r) ++ (rwW E b n2 g))) (by decide) rfl (Nat.le_of_ble_eq_true rfl) ?_
  intro p e s m below meth c A X hW ls hl
  have X : zX E wsX5_copyFrom RX5 cX5_copyFrom 2 none yX5_copyFrom p s m ([.ref (a 0), .ref (b 0)] : List Value).toArray meth c A := X
  have hl : lv_has ls 2 [(0, .ref (a 0)), (1, .ref (b 0))] := hl
  have hr : d_X5_copyFrom n f n2 g = some r := h
  clear h
  have q_0 : Cond.fieldLink RX5 13 "ApplauseTallies$Row" "cells" "[I" ∈ wsX5_copyFrom := List.mem_of_getElem? (i := 1) rfl
  have hn_X5 : ∀ x ∈ wsX50, x ∈ wsX5_copyFrom := zz_in [10] (by decide +kernel)
  have q_2 : Cond.methodLink RX5 19 Lib.Math.min.name ∈ wsX5_copyFrom := List.mem_of_getElem? (i := 2) rfl
  have q_3 : Cond.static Lib.Math.min.name ∈ wsX5_copyFrom := List.mem_of_getElem? (i := 3) rfl
  have q_4 : Cond.initialized "java/lang/Math" ∈ wsX5_copyFrom := List.mem_of_getElem? (i := 4) rfl
  have q_5 : Cond.code Lib.Math.min.name Lib.Math.min.code 2 (some .int) ∈ wsX5_copyFrom := List.mem_of_getElem? (i := 5) rfl
  have q_6 : Cond.methodLink RX5 22 arraycopyName ∈ wsX5_copyFrom := List.mem_of_getElem? (i := 6) rfl
  have q_7 : Cond.native arraycopyName ∈ wsX5_copyFrom := List.mem_of_getElem? (i := 7) rfl
  have q_8 : Cond.static arraycopyName ∈ wsX5_copyFrom := List.mem_of_getElem? (i := 8) rfl
  have q_9 : Cond.initialized "java/lang/System" ∈ wsX5_copyFrom := List.mem_of_getElem? (i := 9) rfl
  unfold d_X5_copyFrom at hr
  refine lv_aload_n X.1 X.2.1 dX5_copyFrom_0 rfl (lv_at hl 1 rfl) ?_
  refine z_get X hW 2 5 0 (C := RX5) (T := TX5) (N := 1) rfl rfl hn_X5 (by decide) q_0 rfl dX5_copyFrom_1 ?_
  refine lv_iconst (v := 0) X.1 X.2.1 dX5_copyFrom_4 (by decide) ?_
  refine lv_aload_n X.1 X.2.1 dX5_copyFrom_5 rfl (lv_at hl 0 rfl) ?_
  refine z_get X hW 0 5 0 (C := RX5) (T := TX5) (N := 1) rfl rfl hn_X5 (by decide) q_0 rfl dX5_copyFrom_6 ?_
  refine lv_iconst (v := 0) X.1 X.2.1 dX5_copyFrom_9 (by decide) ?_
  refine lv_aload_n X.1 X.2.1 dX5_copyFrom_10 rfl (lv_at hl 0 rfl) ?_
  refine z_get X hW 0 5 0 (C := RX5) (T := TX5) (N := 1) rfl rfl hn_X5 (by decide) q_0 rfl dX5_copyFrom_11 ?_
  refine z_len X hW 1 rfl dX5_copyFrom_14 ?_
  refine lv_aload_n X.1 X.2.1 dX5_copyFrom_15 rfl (lv_at hl 1 rfl) ?_
  refine z_get X hW 2 5 0 (C := RX5) (T := TX5) (N := 1) rfl rfl hn_X5 (by decide) q_0 rfl dX5_copyFrom_16 ?_
  refine z_len X hW 3 rfl dX5_copyFrom_19 ?_
  refine z_min X hl rfl hr q_2 q_3 q_4 q_5 (by decide) (Nat.le_of_ble_eq_true rfl) (Nat.zero_le _) (Nat.zero_le _) dX5_copyFrom_20 (fun t20 hr => ?_)
  refine z_copy X hW hl rfl 3 1 hr (fun f23 => ((rwW E a n f23) ++ (rwW E b n2 g))) rfl rfl (fun _ => rfl) q_6 q_7 q_8 q_9 (by decide) (Nat.le_of_ble_eq_true rfl) dX5_copyFrom_23 (fun f23 H locs hr hW => ?_)
  cases hr
  exact z_vret X hW dX5_copyFrom_26
