abbrev rm_X4_length : Room := { frames := 0, cells := 0, slots := 0, locals := 0 }
theorem hy_X4_length : zY yX4_length wsX4_length cX4_length 1 (some .int) 0 := ⟨⟨_, rfl⟩, by decide, by decide, by decide +kernel⟩
def d_X4_length (v : zHV) : Option (Int32) :=
some (v 1 0)
set_option maxHeartbeats 4000000 in
set_option maxRecDepth 100000 in
theorem c_X4_length (l : Launch) (E : zE) (a : Nat → Nat) (v : zHV) (r : Int32) (h : d_X4_length v = some r) : zMi l E yX4_length wsX4_length rm_X4_length [.ref (a 0)] (pdW E a v) r (pdW E a v) := by
  intro sz
  refine z_entry (Qc := fun A => zQi E A r (pdW E a v)) (by decide) rfl (Nat.le_of_ble_eq_true rfl) ?_
  intro p e s m below meth c A X hW ls hl
  have X : zX E wsX4_length RX4 cX4_length 1 (some .int) yX4_length p s m ([.ref (a 0)] : List Value).toArray meth c A := X
  have hl : lv_has ls 1 [(0, .ref (a 0))] := hl
  have hr : d_X4_length v = some r := h
  clear h
  have q_0 : Cond.fieldLink RX4 15 "ApplauseTallies$Pad" "length" "I" ∈ wsX4_length := List.mem_of_getElem? (i := 1) rfl
  have hn_X4 : ∀ x ∈ wsX40, x ∈ wsX4_length := zz_in [2, 3] (by decide +kernel)
  unfold d_X4_length at hr
  refine lv_aload_n X.1 X.2.1 dX4_length_0 rfl (lv_at hl 0 rfl) ?_
  refine z_get X hW 0 4 1 (C := RX4) (T := TX4) (N := 2) rfl rfl hn_X4 (by decide) q_0 rfl dX4_length_1 ?_
  cases hr
  exact z_iret X hW rfl dX4_length_4
