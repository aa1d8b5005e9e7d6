abbrev rm_L_cell : Room := { frames := 0, cells := 0, slots := 0, locals := 0 }
theorem hy_L_cell : zY yL_cell wsL_cell cL_cell 2 (some .int) 2 := ⟨⟨_, rfl⟩, by decide, by decide, by decide +kernel⟩
def d_L_cell (E : zE) (p1 : Int32) : Option (Int32) :=
(if (nI E.2.2.2.2.1) ≤ p1 then
zlet (p1 + 9) fun t17 =>
zlet (42307 * t17) fun t18 =>
zlet (t18 + 2742257) fun t21 =>
some t21
else
zld E.2.2.2.2.1 E.2.2.2.2.2 p1 fun t8 =>
some t8)
set_option maxHeartbeats 4000000 in
set_option maxRecDepth 100000 in
theorem c_L_cell (l : Launch) (E : zE) (p1 : Int32) (r : Int32) (h : d_L_cell E p1 = some r) : zMi l E yL_cell wsL_cell rm_L_cell [.ref (E.2.2.2.1 3), .int p1] ([] : va_W) r ([] : va_W) := by
  intro sz
  refine z_entry (Qc := fun A => zQi E A r ([] : va_W)) (by decide) rfl (Nat.le_of_ble_eq_true rfl) ?_
  intro p e s m below meth c A X hW ls hl
  have X : zX E wsL_cell RL cL_cell 2 (some .int) yL_cell p s m ([.ref (E.2.2.2.1 3), .int p1] : List Value).toArray meth c A := X
  have hl : lv_has ls 2 [(0, .ref (E.2.2.2.1 3)), (1, .int p1)] := hl
  have hr : d_L_cell E p1 = some r := h
  clear h
  have q_0 : Cond.constant RL 7 42307 ∈ wsL_cell := List.mem_of_getElem? (i := 1) rfl
  have q_1 : Cond.constant RL 8 2742257 ∈ wsL_cell := List.mem_of_getElem? (i := 2) rfl
  unfold d_L_cell at hr
  refine lv_iload_n X.1 X.2.1 dL_cell_0 rfl (lv_at hl 1 rfl) ?_
  refine lv_aload_n X.1 X.2.1 dL_cell_1 rfl (lv_at hl 0 rfl) ?_
  refine z_slen X hW (X.2.2.2.2.2.1.2.2.2.2.2.2) dL_cell_2 ?_
  refine z_cmpge X 12 hr dL_cell_3 (by decide) (fun hr => ?_) (fun hr => ?_)
  · refine lv_ldc (v := 42307) X.1 X.2.1 X.2.2.2.1 (X.2.2.2.2.1 _ q_0) dL_cell_12 ?_
    refine lv_iload_n X.1 X.2.1 dL_cell_14 rfl (lv_at hl 1 rfl) ?_
    refine lv_bipush (v := 9) X.1 X.2.1 dL_cell_15 (by decide) ?_
    refine z_iadd X hr dL_cell_17 (fun t17 hr => ?_)
    refine z_imul X hr dL_cell_18 (fun t18 hr => ?_)
    refine lv_ldc (v := 2742257) X.1 X.2.1 X.2.2.2.1 (X.2.2.2.2.1 _ q_1) dL_cell_19 ?_
    refine z_iadd X hr dL_cell_21 (fun t21 hr => ?_)
    cases hr
    exact z_iret X hW rfl dL_cell_22
  · refine lv_aload_n X.1 X.2.1 dL_cell_6 rfl (lv_at hl 0 rfl) ?_
    refine lv_iload_n X.1 X.2.1 dL_cell_7 rfl (lv_at hl 1 rfl) ?_
    refine z_sld X hW (X.2.2.2.2.2.1.2.2.2.2.2.2) hr dL_cell_8 (fun t8 hr => ?_)
    refine lv_goto (tgt := 22) X.1 X.2.1 dL_cell_9 (by decide) ?_
    cases hr
    exact z_iret X hW rfl dL_cell_22
abbrev rm_L_low : Room := { frames := 0, cells := 0, slots := 0, locals := 0 }
theorem hy_L_low : zY yL_low wsL_low cL_low 2 (some .int) 2 := ⟨⟨_, rfl⟩, by decide, by decide, by decide +kernel⟩
def d_L_low (p0 : Int32) (p1 : Int32) : Option (Int32) :=
zlet (p0 &&& 2147483647) fun t3 =>
zrm t3 p1 fun t5 =>
some t5
set_option maxHeartbeats 4000000 in
set_option maxRecDepth 100000 in
theorem c_L_low (l : Launch) (E : zE) (p0 : Int32) (p1 : Int32) (r : Int32) (h : d_L_low p0 p1 = some r) : zMi l E yL_low wsL_low rm_L_low [.int p0, .int p1] ([] : va_W) r ([] : va_W) := by
  intro sz
  refine z_entry (Qc := fun A => zQi E A r ([] : va_W)) (by decide) rfl (Nat.le_of_ble_eq_true rfl) ?_
  intro p e s m below meth c A X hW ls hl
  have X : zX E wsL_low RL cL_low 2 (some .int) yL_low p s m ([.int p0, .int p1] : List Value).toArray meth c A := X
  have hl : lv_has ls 2 [(0, .int p0), (1, .int p1)] := hl
  have hr : d_L_low p0 p1 = some r := h
  clear h
  have q_0 : Cond.constant RL 9 2147483647 ∈ wsL_low := List.mem_of_getElem? (i := 1) rfl
  unfold d_L_low at hr
  refine lv_iload_n X.1 X.2.1 dL_low_0 rfl (lv_at hl 0 rfl) ?_
  refine lv_ldc (v := 2147483647) X.1 X.2.1 X.2.2.2.1 (X.2.2.2.2.1 _ q_0) dL_low_1 ?_
  refine z_iand X hr dL_low_3 (fun t3 hr => ?_)
  refine lv_iload_n X.1 X.2.1 dL_low_4 rfl (lv_at hl 1 rfl) ?_
  refine z_irem X hr dL_low_5 (fun t5 hr => ?_)
  cases hr
  exact z_iret X hW rfl dL_low_6
abbrev rm_L_ends : Room := { frames := 0, cells := 0, slots := 0, locals := 0 }
theorem hy_L_ends : zY yL_ends wsL_ends cL_ends 6 (some .int) 4 := ⟨⟨_, rfl⟩, by decide, by decide, by decide +kernel⟩
def lpB_L_ends_43 (p0 : Int32)  (k_43 : Int32 → Int32 → (Nat → Int32) → (Nat → Int32) → (Nat → Int32) → Option (Int32 × (Nat → Int32) × (Nat → Int32) × (Nat → Int32))) (x4 : Int32) (x5 : Int32) (fq : Nat → Int32) (fa : Nat → Int32) (fp : Nat → Int32) : Option (Int32 × (Nat → Int32) × (Nat → Int32) × (Nat → Int32)) :=
(if 30 ≤ x5 then
some (x4, fq, fa, fp)
else
zld 30 fa x5 fun t54 =>
zlet (t54 &&& 31) fun t57 =>
zst 30 fa x5 t57 fun fa58 =>
zlet (x5 + Int32.ofInt 1) fun x5_59 =>
k_43 x4 x5_59 fq fa58 fp)
def lp_L_ends_43 (p0 : Int32)  : Nat → Int32 → Int32 → (Nat → Int32) → (Nat → Int32) → (Nat → Int32) → Option (Int32 × (Nat → Int32) × (Nat → Int32) × (Nat → Int32))
  | 0 => fun _ _ _ _ _ => none
  | n_ + 1 => lpB_L_ends_43 p0  (lp_L_ends_43 p0  n_)
def d_L_ends (fq : Nat → Int32) (fa : Nat → Int32) (fp : Nat → Int32) (p0 : Int32) : Option (Int32 × (Nat → Int32) × (Nat → Int32) × (Nat → Int32)) :=
zld 19 fq 6 fun t3 =>
zst 19 fq 6 0 fun fq10 =>
zld 19 fq10 7 fun t17 =>
zst 19 fq10 13 t17 fun fq18 =>
zst 19 fq18 14 p0 fun fq23 =>
zst 19 fq23 15 0 fun fq28 =>
zlet (3 * p0) fun t32 =>
zlet (t32 + 2) fun t34 =>
zld 18 fp t34 fun t36 =>
zlet (t36 + 1) fun t38 =>
zst 18 fp t34 t38 fun fp39 =>
lp_L_ends_43 p0  zF t3 0 fq28 fa fp39
set_option maxHeartbeats 4000000 in
set_option maxRecDepth 100000 in
theorem c_L_ends (l : Launch) (E : zE) (Aq Aa Ap : Nat → Nat) (fq : Nat → Int32) (fa : Nat → Int32) (fp : Nat → Int32) (p0 : Int32) (r : Int32 × (Nat → Int32) × (Nat → Int32) × (Nat → Int32)) (h : d_L_ends fq fa fp p0 = some r) : zMi l E yL_ends wsL_ends rm_L_ends [.int p0, .ref (Aq 0), .ref (Aa 0), .ref (Ap 0)] ((arW E Aq 19 fq) ++ ((arW E Aa 30 fa) ++ (arW E Ap 18 fp))) r.1 ((arW E Aq 19 r.2.1) ++ ((arW E Aa 30 r.2.2.1) ++ (arW E Ap 18 r.2.2.2))) := by
  intro sz
  refine z_entry (Qc := fun A => zQi E A r.1 ((arW E Aq 19 r.2.1) ++ ((arW E Aa 30 r.2.2.1) ++ (arW E Ap 18 r.2.2.2)))) (by decide) rfl (Nat.le_of_ble_eq_true rfl) ?_
  intro p e s m below meth c A X hW ls hl
  have X : zX E wsL_ends RL cL_ends 6 (some .int) yL_ends p s m ([.int p0, .ref (Aq 0), .ref (Aa 0), .ref (Ap 0)] : List Value).toArray meth c A := X
  have hl : lv_has ls 6 [(0, .int p0), (1, .ref (Aq 0)), (2, .ref (Aa 0)), (3, .ref (Ap 0))] := hl
  have hr : d_L_ends fq fa fp p0 = some r := h
  clear h
  unfold d_L_ends at hr
  refine lv_aload_n X.1 X.2.1 dL_ends_0 rfl (lv_at hl 1 rfl) ?_
  refine lv_bipush (v := 6) X.1 X.2.1 dL_ends_1 (by decide) ?_
  refine z_ald X hW 0 hr rfl dL_ends_3 (fun t3 hr => ?_)
  refine lv_istore (lv' := [(4, .int t3), (0, .int p0), (1, .ref (Aq 0)), (2, .ref (Aa 0)), (3, .ref (Ap 0))]) X.1 X.2.1 dL_ends_4 hl (by decide) rfl (fun ls hl => ?_)
  refine lv_aload_n X.1 X.2.1 dL_ends_6 rfl (lv_at hl 2 rfl) ?_
  refine lv_bipush (v := 6) X.1 X.2.1 dL_ends_7 (by decide) ?_
  refine lv_iconst (v := 0) X.1 X.2.1 dL_ends_9 (by decide) ?_
  refine z_ast X hW 0 hr (fun fq10 => ((arW E Aq 19 fq10) ++ ((arW E Aa 30 fa) ++ (arW E Ap 18 fp)))) rfl (fun _ => rfl) dL_ends_10 (fun fq10 H locs hr hW => ?_)
  refine lv_aload_n X.1 X.2.1 dL_ends_11 rfl (lv_at hl 2 rfl) ?_
  refine lv_bipush (v := 13) X.1 X.2.1 dL_ends_12 (by decide) ?_
  refine lv_aload_n X.1 X.2.1 dL_ends_14 rfl (lv_at hl 2 rfl) ?_
  refine lv_bipush (v := 7) X.1 X.2.1 dL_ends_15 (by decide) ?_
  refine z_ald X hW 0 hr rfl dL_ends_17 (fun t17 hr => ?_)
  refine z_ast X hW 0 hr (fun fq18 => ((arW E Aq 19 fq18) ++ ((arW E Aa 30 fa) ++ (arW E Ap 18 fp)))) rfl (fun _ => rfl) dL_ends_18 (fun fq18 H locs hr hW => ?_)
  refine lv_aload_n X.1 X.2.1 dL_ends_19 rfl (lv_at hl 2 rfl) ?_
  refine lv_bipush (v := 14) X.1 X.2.1 dL_ends_20 (by decide) ?_
  refine lv_iload_n X.1 X.2.1 dL_ends_22 rfl (lv_at hl 1 rfl) ?_
  refine z_ast X hW 0 hr (fun fq23 => ((arW E Aq 19 fq23) ++ ((arW E Aa 30 fa) ++ (arW E Ap 18 fp)))) rfl (fun _ => rfl) dL_ends_23 (fun fq23 H locs hr hW => ?_)
  refine lv_aload_n X.1 X.2.1 dL_ends_24 rfl (lv_at hl 2 rfl) ?_
  refine lv_bipush (v := 15) X.1 X.2.1 dL_ends_25 (by decide) ?_
  refine lv_iconst (v := 0) X.1 X.2.1 dL_ends_27 (by decide) ?_
  refine z_ast X hW 0 hr (fun fq28 => ((arW E Aq 19 fq28) ++ ((arW E Aa 30 fa) ++ (arW E Ap 18 fp)))) rfl (fun _ => rfl) dL_ends_28 (fun fq28 H locs hr hW => ?_)
  refine lv_aload_n X.1 X.2.1 dL_ends_29 rfl (lv_at hl 4 rfl) ?_
  refine lv_iconst (v := 3) X.1 X.2.1 dL_ends_30 (by decide) ?_
  refine lv_iload_n X.1 X.2.1 dL_ends_31 rfl (lv_at hl 1 rfl) ?_
  refine z_imul X hr dL_ends_32 (fun t32 hr => ?_)
  refine lv_iconst (v := 2) X.1 X.2.1 dL_ends_33 (by decide) ?_
  refine z_iadd X hr dL_ends_34 (fun t34 hr => ?_)
  refine lv_dup2_11 X.1 X.2.1 dL_ends_35 rfl rfl ?_
  refine z_ald X hW 2 hr rfl dL_ends_36 (fun t36 hr => ?_)
  refine lv_iconst (v := 1) X.1 X.2.1 dL_ends_37 (by decide) ?_
  refine z_iadd X hr dL_ends_38 (fun t38 hr => ?_)
  refine z_ast X hW 2 hr (fun fp39 => ((arW E Aq 19 fq28) ++ ((arW E Aa 30 fa) ++ (arW E Ap 18 fp39)))) rfl (fun _ => rfl) dL_ends_39 (fun fp39 H locs hr hW => ?_)
  refine lv_iconst (v := 0) X.1 X.2.1 dL_ends_40 (by decide) ?_
  refine lv_istore (lv' := [(5, .int 0), (4, .int t3), (0, .int p0), (1, .ref (Aq 0)), (2, .ref (Aa 0)), (3, .ref (Ap 0))]) X.1 X.2.1 dL_ends_41 hl (by decide) rfl (fun ls hl => ?_)
  have L_43 : ∀ (n_43 : Nat), ∀ (x4 : Int32) (x5 : Int32) (fq : Nat → Int32) (fa : Nat → Int32) (fp : Nat → Int32) (H : Heap) (locs : List Loc) (ls : Array Slot), lp_L_ends_43 p0  n_43 x4 x5 fq fa fp = some r → zW E A s ((arW E Aq 19 fq) ++ ((arW E Aa 30 fa) ++ (arW E Ap 18 fp))) H locs → lv_has ls 6 [(0, .int p0), (1, .ref (Aq 0)), (2, .ref (Aa 0)), (3, .ref (Ap 0)), (4, .int x4), (5, .int x5)] → W p l e rm_L_ends s m ([.int p0, .ref (Aq 0), .ref (Aa 0), .ref (Ap 0)] : List Value).toArray below meth c H locs 0 0 (MQ below (zQi E A r.1 ((arW E Aq 19 r.2.1) ++ ((arW E Aa 30 r.2.2.1) ++ (arW E Ap 18 r.2.2.2)))) ([.int p0, .ref (Aq 0), .ref (Aa 0), .ref (Ap 0)] : List Value).toArray s 0 0 A) (F0 m 43 ls []) := by
    intro n_43
    induction n_43 with
    | zero => exact fun x4 x5 fq fa fp H locs ls hr hW hl => absurd (show (none : Option (Int32 × (Nat → Int32) × (Nat → Int32) × (Nat → Int32))) = some r from hr) (fun h => by cases h)
    | succ n_43 ih_43 =>
      intro x4 x5 fq fa fp H locs ls hr hW hl
      have hr : lpB_L_ends_43 p0  (lp_L_ends_43 p0  n_43) x4 x5 fq fa fp = some r := hr
      unfold lpB_L_ends_43 at hr
      refine lv_iload X.1 X.2.1 dL_ends_43 (lv_at hl 5 rfl) ?_
      refine lv_bipush (v := 30) X.1 X.2.1 dL_ends_45 (by decide) ?_
      refine z_cmpge X 65 hr dL_ends_47 (by decide) (fun hr => ?_) (fun hr => ?_)
      · refine lv_iload X.1 X.2.1 dL_ends_65 (lv_at hl 4 rfl) ?_
        cases hr
        exact z_iret X hW rfl dL_ends_67
      · refine lv_aload_n X.1 X.2.1 dL_ends_50 rfl (lv_at hl 2 rfl) ?_
        refine lv_iload X.1 X.2.1 dL_ends_51 (lv_at hl 5 rfl) ?_
        refine lv_dup2_11 X.1 X.2.1 dL_ends_53 rfl rfl ?_
        refine z_ald X hW 1 hr rfl dL_ends_54 (fun t54 hr => ?_)
        refine lv_bipush (v := 31) X.1 X.2.1 dL_ends_55 (by decide) ?_
        refine z_iand X hr dL_ends_57 (fun t57 hr => ?_)
        refine z_ast X hW 1 hr (fun fa58 => ((arW E Aq 19 fq) ++ ((arW E Aa 30 fa58) ++ (arW E Ap 18 fp)))) rfl (fun _ => rfl) dL_ends_58 (fun fa58 H locs hr hW => ?_)
        refine z_iinc X (fun x5_59 => [(5, .int x5_59), (0, .int p0), (1, .ref (Aq 0)), (2, .ref (Aa 0)), (3, .ref (Ap 0)), (4, .int x4)]) hr hl (k := 5) rfl (by decide) (fun _ => rfl) dL_ends_59 (fun x5_59 ls hr hl => ?_)
        refine lv_goto (tgt := 43) X.1 X.2.1 dL_ends_62 (by decide) ?_
        exact ih_43 x4 x5_59 fq fa58 fp _ _ _ hr hW (lv_sub hl [1, 2, 3, 4, 5, 0] rfl)
  exact L_43 _ t3 0 fq28 fa fp39 _ _ _ hr hW (lv_sub hl [2, 3, 4, 5, 1, 0] rfl)
abbrev rm_L_lapses : Room := { frames := 0, cells := 0, slots := 0, locals := 0 }
theorem hy_L_lapses : zY yL_lapses wsL_lapses cL_lapses 3 none 3 := ⟨⟨_, rfl⟩, by decide, by decide, by decide +kernel⟩
def d_L_lapses (fq : Nat → Int32) (fp : Nat → Int32) (p0 : Int32) : Option ((Nat → Int32) × (Nat → Int32)) :=
zlet (3 * p0) fun t3 =>
zlet (t3 + 1) fun t5 =>
zld 18 fp t5 fun t7 =>
zlet (t7 + 1) fun t9 =>
zst 18 fp t5 t9 fun fp10 =>
zld 19 fq 11 fun t15 =>
zlet (t15 + 1) fun t17 =>
zst 19 fq 11 t17 fun fq18 =>
some (fq18, fp10)
set_option maxHeartbeats 4000000 in
set_option maxRecDepth 100000 in
theorem c_L_lapses (l : Launch) (E : zE) (Aq Ap : Nat → Nat) (fq : Nat → Int32) (fp : Nat → Int32) (p0 : Int32) (r : (Nat → Int32) × (Nat → Int32)) (h : d_L_lapses fq fp p0 = some r) : zMv l E yL_lapses wsL_lapses rm_L_lapses [.int p0, .ref (Aq 0), .ref (Ap 0)] ((arW E Aq 19 fq) ++ (arW E Ap 18 fp)) ((arW E Aq 19 r.1) ++ (arW E Ap 18 r.2)) := by
  intro sz
  refine z_entry (Qc := fun A => zQv E A ((arW E Aq 19 r.1) ++ (arW E Ap 18 r.2))) (by decide) rfl (Nat.le_of_ble_eq_true rfl) ?_
  intro p e s m below meth c A X hW ls hl
  have X : zX E wsL_lapses RL cL_lapses 3 none yL_lapses p s m ([.int p0, .ref (Aq 0), .ref (Ap 0)] : List Value).toArray meth c A := X
  have hl : lv_has ls 3 [(0, .int p0), (1, .ref (Aq 0)), (2, .ref (Ap 0))] := hl
  have hr : d_L_lapses fq fp p0 = some r := h
  clear h
  unfold d_L_lapses at hr
  refine lv_aload_n X.1 X.2.1 dL_lapses_0 rfl (lv_at hl 2 rfl) ?_
  refine lv_iconst (v := 3) X.1 X.2.1 dL_lapses_1 (by decide) ?_
  refine lv_iload_n X.1 X.2.1 dL_lapses_2 rfl (lv_at hl 0 rfl) ?_
  refine z_imul X hr dL_lapses_3 (fun t3 hr => ?_)
  refine lv_iconst (v := 1) X.1 X.2.1 dL_lapses_4 (by decide) ?_
  refine z_iadd X hr dL_lapses_5 (fun t5 hr => ?_)
  refine lv_dup2_11 X.1 X.2.1 dL_lapses_6 rfl rfl ?_
  refine z_ald X hW 1 hr rfl dL_lapses_7 (fun t7 hr => ?_)
  refine lv_iconst (v := 1) X.1 X.2.1 dL_lapses_8 (by decide) ?_
  refine z_iadd X hr dL_lapses_9 (fun t9 hr => ?_)
  refine z_ast X hW 1 hr (fun fp10 => ((arW E Aq 19 fq) ++ (arW E Ap 18 fp10))) rfl (fun _ => rfl) dL_lapses_10 (fun fp10 H locs hr hW => ?_)
  refine lv_aload_n X.1 X.2.1 dL_lapses_11 rfl (lv_at hl 1 rfl) ?_
  refine lv_bipush (v := 11) X.1 X.2.1 dL_lapses_12 (by decide) ?_
  refine lv_dup2_11 X.1 X.2.1 dL_lapses_14 rfl rfl ?_
  refine z_ald X hW 0 hr rfl dL_lapses_15 (fun t15 hr => ?_)
  refine lv_iconst (v := 1) X.1 X.2.1 dL_lapses_16 (by decide) ?_
  refine z_iadd X hr dL_lapses_17 (fun t17 hr => ?_)
  refine z_ast X hW 0 hr (fun fq18 => ((arW E Aq 19 fq18) ++ (arW E Ap 18 fp10))) rfl (fun _ => rfl) dL_lapses_18 (fun fq18 H locs hr hW => ?_)
  cases hr
  exact z_vret X hW dL_lapses_19
abbrev rm_L_drops : Room := { frames := 0, cells := 0, slots := 0, locals := 0 }
theorem hy_L_drops : zY yL_drops wsL_drops cL_drops 4 none 3 := ⟨⟨_, rfl⟩, by decide, by decide, by decide +kernel⟩
def lpB_L_drops_12 (p0 : Int32)  (k_12 : Int32 → (Nat → Int32) → (Nat → Int32) → Option ((Nat → Int32) × (Nat → Int32))) (x3 : Int32) (fq : Nat → Int32) (fw : Nat → Int32) : Option ((Nat → Int32) × (Nat → Int32)) :=
zld 19 fq 16 fun t17 =>
zlet (2 * t17) fun t18 =>
(if t18 ≤ x3 then
some (fq, fw)
else
zlet (x3 + 2) fun t27 =>
zld 16 fw t27 fun t28 =>
zst 16 fw x3 t28 fun fw29 =>
zlet (x3 + Int32.ofInt 1) fun x3_30 =>
k_12 x3_30 fq fw29)
def lp_L_drops_12 (p0 : Int32)  : Nat → Int32 → (Nat → Int32) → (Nat → Int32) → Option ((Nat → Int32) × (Nat → Int32))
  | 0 => fun _ _ _ => none
  | n_ + 1 => lpB_L_drops_12 p0  (lp_L_drops_12 p0  n_)
def d_L_drops (fq : Nat → Int32) (fw : Nat → Int32) (p0 : Int32) : Option ((Nat → Int32) × (Nat → Int32)) :=
zld 19 fq 16 fun t4 =>
zlet (t4 - 1) fun t6 =>
zst 19 fq 16 t6 fun fq7 =>
zlet (2 * p0) fun t10 =>
lp_L_drops_12 p0  zF t10 fq7 fw
set_option maxHeartbeats 4000000 in
set_option maxRecDepth 100000 in
theorem c_L_drops (l : Launch) (E : zE) (Aq Aw : Nat → Nat) (fq : Nat → Int32) (fw : Nat → Int32) (p0 : Int32) (r : (Nat → Int32) × (Nat → Int32)) (h : d_L_drops fq fw p0 = some r) : zMv l E yL_drops wsL_drops rm_L_drops [.int p0, .ref (Aq 0), .ref (Aw 0)] ((arW E Aq 19 fq) ++ (arW E Aw 16 fw)) ((arW E Aq 19 r.1) ++ (arW E Aw 16 r.2)) := by
  intro sz
  refine z_entry (Qc := fun A => zQv E A ((arW E Aq 19 r.1) ++ (arW E Aw 16 r.2))) (by decide) rfl (Nat.le_of_ble_eq_true rfl) ?_
  intro p e s m below meth c A X hW ls hl
  have X : zX E wsL_drops RL cL_drops 4 none yL_drops p s m ([.int p0, .ref (Aq 0), .ref (Aw 0)] : List Value).toArray meth c A := X
  have hl : lv_has ls 4 [(0, .int p0), (1, .ref (Aq 0)), (2, .ref (Aw 0))] := hl
  have hr : d_L_drops fq fw p0 = some r := h
  clear h
  unfold d_L_drops at hr
  refine lv_aload_n X.1 X.2.1 dL_drops_0 rfl (lv_at hl 1 rfl) ?_
  refine lv_bipush (v := 16) X.1 X.2.1 dL_drops_1 (by decide) ?_
  refine lv_dup2_11 X.1 X.2.1 dL_drops_3 rfl rfl ?_
  refine z_ald X hW 0 hr rfl dL_drops_4 (fun t4 hr => ?_)
  refine lv_iconst (v := 1) X.1 X.2.1 dL_drops_5 (by decide) ?_
  refine z_isub X hr dL_drops_6 (fun t6 hr => ?_)
  refine z_ast X hW 0 hr (fun fq7 => ((arW E Aq 19 fq7) ++ (arW E Aw 16 fw))) rfl (fun _ => rfl) dL_drops_7 (fun fq7 H locs hr hW => ?_)
  refine lv_iconst (v := 2) X.1 X.2.1 dL_drops_8 (by decide) ?_
  refine lv_iload_n X.1 X.2.1 dL_drops_9 rfl (lv_at hl 0 rfl) ?_
  refine z_imul X hr dL_drops_10 (fun t10 hr => ?_)
  refine lv_istore_n (lv' := [(3, .int t10), (0, .int p0), (1, .ref (Aq 0)), (2, .ref (Aw 0))]) X.1 X.2.1 dL_drops_11 rfl hl (by decide) rfl (fun ls hl => ?_)
  have L_12 : ∀ (n_12 : Nat), ∀ (x3 : Int32) (fq : Nat → Int32) (fw : Nat → Int32) (H : Heap) (locs : List Loc) (ls : Array Slot), lp_L_drops_12 p0  n_12 x3 fq fw = some r → zW E A s ((arW E Aq 19 fq) ++ (arW E Aw 16 fw)) H locs → lv_has ls 4 [(0, .int p0), (1, .ref (Aq 0)), (2, .ref (Aw 0)), (3, .int x3)] → W p l e rm_L_drops s m ([.int p0, .ref (Aq 0), .ref (Aw 0)] : List Value).toArray below meth c H locs 0 0 (MQ below (zQv E A ((arW E Aq 19 r.1) ++ (arW E Aw 16 r.2))) ([.int p0, .ref (Aq 0), .ref (Aw 0)] : List Value).toArray s 0 0 A) (F0 m 12 ls []) := by
    intro n_12
    induction n_12 with
    | zero => exact fun x3 fq fw H locs ls hr hW hl => absurd (show (none : Option ((Nat → Int32) × (Nat → Int32))) = some r from hr) (fun h => by cases h)
    | succ n_12 ih_12 =>
      intro x3 fq fw H locs ls hr hW hl
      have hr : lpB_L_drops_12 p0  (lp_L_drops_12 p0  n_12) x3 fq fw = some r := hr
      unfold lpB_L_drops_12 at hr
      refine lv_iload_n X.1 X.2.1 dL_drops_12 rfl (lv_at hl 3 rfl) ?_
      refine lv_iconst (v := 2) X.1 X.2.1 dL_drops_13 (by decide) ?_
      refine lv_aload_n X.1 X.2.1 dL_drops_14 rfl (lv_at hl 1 rfl) ?_
      refine lv_bipush (v := 16) X.1 X.2.1 dL_drops_15 (by decide) ?_
      refine z_ald X hW 0 hr rfl dL_drops_17 (fun t17 hr => ?_)
      refine z_imul X hr dL_drops_18 (fun t18 hr => ?_)
      refine z_cmpge X 36 hr dL_drops_19 (by decide) (fun hr => ?_) (fun hr => ?_)
      · cases hr
        exact z_vret X hW dL_drops_36
      · refine lv_aload_n X.1 X.2.1 dL_drops_22 rfl (lv_at hl 2 rfl) ?_
        refine lv_iload_n X.1 X.2.1 dL_drops_23 rfl (lv_at hl 3 rfl) ?_
        refine lv_aload_n X.1 X.2.1 dL_drops_24 rfl (lv_at hl 2 rfl) ?_
        refine lv_iload_n X.1 X.2.1 dL_drops_25 rfl (lv_at hl 3 rfl) ?_
        refine lv_iconst (v := 2) X.1 X.2.1 dL_drops_26 (by decide) ?_
        refine z_iadd X hr dL_drops_27 (fun t27 hr => ?_)
        refine z_ald X hW 1 hr rfl dL_drops_28 (fun t28 hr => ?_)
        refine z_ast X hW 1 hr (fun fw29 => ((arW E Aq 19 fq) ++ (arW E Aw 16 fw29))) rfl (fun _ => rfl) dL_drops_29 (fun fw29 H locs hr hW => ?_)
        refine z_iinc X (fun x3_30 => [(3, .int x3_30), (0, .int p0), (1, .ref (Aq 0)), (2, .ref (Aw 0))]) hr hl (k := 3) rfl (by decide) (fun _ => rfl) dL_drops_30 (fun x3_30 ls hr hl => ?_)
        refine lv_goto (tgt := 12) X.1 X.2.1 dL_drops_33 (by decide) ?_
        exact ih_12 x3_30 fq fw29 _ _ _ hr hW (lv_sub hl [1, 2, 3, 0] rfl)
  exact L_12 _ t10 fq7 fw _ _ _ hr hW (lv_sub hl [1, 2, 3, 0] rfl)
abbrev rm_L_claps : Room := { frames := 1, cells := 0, slots := 0, locals := 22 }
theorem hy_L_claps : zY yL_claps wsL_claps cL_claps 10 (some .int) 9 := ⟨⟨_, rfl⟩, by decide, by decide, by decide +kernel⟩
def d_L_claps (fq : Nat → Int32) (fa : Nat → Int32) (fe : Nat → Int32) (fn : Nat → Int32) (ft : Nat → Int32) (fp : Nat → Int32) (fw : Nat → Int32) (fr : Nat → Int32) (p0 : Int32) : Option (Int32 × (Nat → Int32) × (Nat → Int32) × (Nat → Int32) × (Nat → Int32) × (Nat → Int32) × (Nat → Int32) × (Nat → Int32) × (Nat → Int32)) :=
zld 19 fq 13 fun t3 =>
(if 0 ≤ t3 then
zld 19 fq 6 fun t13 =>
zld 30 fa p0 fun t18 =>
zlet (t18 &&& 15) fun t21 =>
zlet (10 * t21) fun t22 =>
zlet (t13 + t22) fun t23 =>
zjn (fun (x9 : Int32) (s0 : Int32) (s1 : Int32) (fq : Nat → Int32) (fa : Nat → Int32) (fe : Nat → Int32) (fn : Nat → Int32) (ft : Nat → Int32) (fp : Nat → Int32) (fw : Nat → Int32) (fr : Nat → Int32) =>
zst 19 fq s1 s0 fun fq45 =>
zld 30 fe p0 fun t49 =>
zld 30 fa p0 fun t52 =>
zjn (fun (x9 : Int32) (s0 : Int32) (s1 : Int32) (s2 : Int32) (fq : Nat → Int32) (fa : Nat → Int32) (fe : Nat → Int32) (fn : Nat → Int32) (ft : Nat → Int32) (fp : Nat → Int32) (fw : Nat → Int32) (fr : Nat → Int32) =>
zlet (s1 + s0) fun t78 =>
zst 30 fe s2 t78 fun fe79 =>
zld 30 fa p0 fun t83 =>
zlet (t83 ||| 32) fun t86 =>
zst 30 fa p0 t86 fun fa87 =>
zld 30 fn p0 fun t91 =>
zjn (fun (x9 : Int32) (fq : Nat → Int32) (fa : Nat → Int32) (fe : Nat → Int32) (fn : Nat → Int32) (ft : Nat → Int32) (fp : Nat → Int32) (fw : Nat → Int32) (fr : Nat → Int32) =>
zld 30 fn p0 fun t115 =>
zlet (t115 + 1) fun t117 =>
zst 30 fn p0 t117 fun fn118 =>
zld 30 ft p0 fun t123 =>
zlet (t123 + 1) fun t125 =>
zst 30 ft p0 t125 fun ft126 =>
zld 19 fq 9 fun t131 =>
zlet (t131 + 1) fun t133 =>
zst 19 fq 9 t133 fun fq134 =>
zld 19 fq134 6 fun t138 =>
zld 19 fq134 1 fun t141 =>
(if t138 < t141 then
zld 19 fq134 6 fun t218 =>
some (t218, fq134, fa, fe, fn118, ft126, fp, fw, fr)
else
zld 19 fq134 15 fun t148 =>
(if t148 = 0 then
zst 19 fq134 15 1 fun fq156 =>
zld 19 fq156 16 fun t160 =>
(if t160 = 8 then
zld 19 fq156 14 fun t169 =>
zup (d_L_lapses fq156 fp t169) (fun z9 => (z9.1, z9.2)) fun u173 =>
zld 19 u173.1 6 fun t218 =>
some (t218, u173.1, fa, fe, fn118, ft126, u173.2, fw, fr)
else
zld 19 fq156 16 fun t185 =>
zlet (2 * t185) fun t186 =>
zld 19 fq156 14 fun t190 =>
zst 16 fw t186 t190 fun fw191 =>
zld 19 fq156 16 fun t198 =>
zlet (2 * t198) fun t199 =>
zlet (t199 + 1) fun t201 =>
zld 19 fq156 7 fun t205 =>
zst 16 fw191 t201 t205 fun fw206 =>
zld 19 fq156 16 fun t211 =>
zlet (t211 + 1) fun t213 =>
zst 19 fq156 16 t213 fun fq214 =>
zld 19 fq214 6 fun t218 =>
some (t218, fq214, fa, fe, fn118, ft126, fp, fw206, fr))
else
zld 19 fq134 6 fun t218 =>
some (t218, fq134, fa, fe, fn118, ft126, fp, fw, fr)))) fun j_111 =>
(if t91 = 0 then
zld 19 fq 17 fun t100 =>
zst 30 fr t100 p0 fun fr102 =>
zld 19 fq 17 fun t107 =>
zlet (t107 + 1) fun t109 =>
zst 19 fq 17 t109 fun fq110 =>
j_111 x9 fq110 fa87 fe79 fn ft fp fw fr102
else
j_111 x9 fq fa87 fe79 fn ft fp fw fr)) fun j_78 =>
zjn (fun (x9 : Int32) (s0 : Int32) (s1 : Int32) (fq : Nat → Int32) (fa : Nat → Int32) (fe : Nat → Int32) (fn : Nat → Int32) (ft : Nat → Int32) (fp : Nat → Int32) (fw : Nat → Int32) (fr : Nat → Int32) =>
(j_78 x9 0 s0 s1 fq fa fe fn ft fp fw fr : Option (Int32 × (Nat → Int32) × (Nat → Int32) × (Nat → Int32) × (Nat → Int32) × (Nat → Int32) × (Nat → Int32) × (Nat → Int32) × (Nat → Int32)))) fun j_77 =>
(if 32 ≤ t52 then
j_77 x9 t49 p0 fq45 fa fe fn ft fp fw fr
else
zld 19 fq45 7 fun t61 =>
zld 19 fq45 13 fun t65 =>
zlet (t61 - t65) fun t66 =>
zld 19 fq45 3 fun t69 =>
(if t69 < t66 then
j_77 x9 t49 p0 fq45 fa fe fn ft fp fw fr
else
j_78 x9 1 t49 p0 fq45 fa fe fn ft fp fw fr))) fun j_45 =>
(if t23 ≤ 9999 then
j_45 t23 t23 6 fq fa fe fn ft fp fw fr
else
j_45 t23 9999 6 fq fa fe fn ft fp fw fr)
else
some ((-5), fq, fa, fe, fn, ft, fp, fw, fr))
set_option maxHeartbeats 4000000 in
set_option maxRecDepth 100000 in
theorem c_L_claps (l : Launch) (E : zE) (Aq Aa Ae An At Ap Aw Ar : Nat → Nat) (fq : Nat → Int32) (fa : Nat → Int32) (fe : Nat → Int32) (fn : Nat → Int32) (ft : Nat → Int32) (fp : Nat → Int32) (fw : Nat → Int32) (fr : Nat → Int32) (p0 : Int32) (r : Int32 × (Nat → Int32) × (Nat → Int32) × (Nat → Int32) × (Nat → Int32) × (Nat → Int32) × (Nat → Int32) × (Nat → Int32) × (Nat → Int32)) (h : d_L_claps fq fa fe fn ft fp fw fr p0 = some r) : zMi l E yL_claps wsL_claps rm_L_claps [.int p0, .ref (Aq 0), .ref (Aa 0), .ref (Ae 0), .ref (An 0), .ref (At 0), .ref (Ap 0), .ref (Aw 0), .ref (Ar 0)] ((arW E Aq 19 fq) ++ ((arW E Aa 30 fa) ++ ((arW E Ae 30 fe) ++ ((arW E An 30 fn) ++ ((arW E At 30 ft) ++ ((arW E Ap 18 fp) ++ ((arW E Aw 16 fw) ++ (arW E Ar 30 fr)))))))) r.1 ((arW E Aq 19 r.2.1) ++ ((arW E Aa 30 r.2.2.1) ++ ((arW E Ae 30 r.2.2.2.1) ++ ((arW E An 30 r.2.2.2.2.1) ++ ((arW E At 30 r.2.2.2.2.2.1) ++ ((arW E Ap 18 r.2.2.2.2.2.2.1) ++ ((arW E Aw 16 r.2.2.2.2.2.2.2.1) ++ (arW E Ar 30 r.2.2.2.2.2.2.2.2)))))))) := by
  intro sz
  refine z_entry (Qc := fun A => zQi E A r.1 ((arW E Aq 19 r.2.1) ++ ((arW E Aa 30 r.2.2.1) ++ ((arW E Ae 30 r.2.2.2.1) ++ ((arW E An 30 r.2.2.2.2.1) ++ ((arW E At 30 r.2.2.2.2.2.1) ++ ((arW E Ap 18 r.2.2.2.2.2.2.1) ++ ((arW E Aw 16 r.2.2.2.2.2.2.2.1) ++ (arW E Ar 30 r.2.2.2.2.2.2.2.2))))))))) (by decide) rfl (Nat.le_of_ble_eq_true rfl) ?_
  intro p e s m below meth c A X hW ls hl
  have X : zX E wsL_claps RL cL_claps 10 (some .int) yL_claps p s m ([.int p0, .ref (Aq 0), .ref (Aa 0), .ref (Ae 0), .ref (An 0), .ref (At 0), .ref (Ap 0), .ref (Aw 0), .ref (Ar 0)] : List Value).toArray meth c A := X
  have hl : lv_has ls 10 [(0, .int p0), (1, .ref (Aq 0)), (2, .ref (Aa 0)), (3, .ref (Ae 0)), (4, .ref (An 0)), (5, .ref (At 0)), (6, .ref (Ap 0)), (7, .ref (Aw 0)), (8, .ref (Ar 0))] := hl
  have hr : d_L_claps fq fa fe fn ft fp fw fr p0 = some r := h
  clear h
  unfold d_L_claps at hr
  refine lv_aload_n X.1 X.2.1 dL_claps_0 rfl (lv_at hl 1 rfl) ?_
  refine lv_bipush (v := 13) X.1 X.2.1 dL_claps_1 (by decide) ?_
  refine z_ald X hW 0 hr rfl dL_claps_3 (fun t3 hr => ?_)
  refine z_ifge X 10 hr dL_claps_4 (by decide) (fun hr => ?_) (fun hr => ?_)
  · refine lv_aload_n X.1 X.2.1 dL_claps_10 rfl (lv_at hl 1 rfl) ?_
    refine lv_bipush (v := 6) X.1 X.2.1 dL_claps_11 (by decide) ?_
    refine z_ald X hW 0 hr rfl dL_claps_13 (fun t13 hr => ?_)
    refine lv_bipush (v := 10) X.1 X.2.1 dL_claps_14 (by decide) ?_
    refine lv_aload_n X.1 X.2.1 dL_claps_16 rfl (lv_at hl 2 rfl) ?_
    refine lv_iload_n X.1 X.2.1 dL_claps_17 rfl (lv_at hl 0 rfl) ?_
    refine z_ald X hW 1 hr rfl dL_claps_18 (fun t18 hr => ?_)
    refine lv_bipush (v := 15) X.1 X.2.1 dL_claps_19 (by decide) ?_
    refine z_iand X hr dL_claps_21 (fun t21 hr => ?_)
    refine z_imul X hr dL_claps_22 (fun t22 hr => ?_)
    refine z_iadd X hr dL_claps_23 (fun t23 hr => ?_)
    refine lv_istore (lv' := [(9, .int t23), (0, .int p0), (1, .ref (Aq 0)), (2, .ref (Aa 0)), (3, .ref (Ae 0)), (4, .ref (An 0)), (5, .ref (At 0)), (6, .ref (Ap 0)), (7, .ref (Aw 0)), (8, .ref (Ar 0))]) X.1 X.2.1 dL_claps_24 hl (by decide) rfl (fun ls hl => ?_)
    refine lv_aload_n X.1 X.2.1 dL_claps_26 rfl (lv_at hl 2 rfl) ?_
    refine lv_bipush (v := 6) X.1 X.2.1 dL_claps_27 (by decide) ?_
    refine lv_iload X.1 X.2.1 dL_claps_29 (lv_at hl 0 rfl) ?_
    refine lv_sipush (v := 9999) X.1 X.2.1 dL_claps_31 (by decide) ?_
    obtain ⟨j_45, e_45, hr⟩ := zjn_some hr
    have J_45 : ∀ (x9 : Int32) (s0 : Int32) (s1 : Int32) (fq : Nat → Int32) (fa : Nat → Int32) (fe : Nat → Int32) (fn : Nat → Int32) (ft : Nat → Int32) (fp : Nat → Int32) (fw : Nat → Int32) (fr : Nat → Int32) (H : Heap) (locs : List Loc) (ls : Array Slot), j_45 x9 s0 s1 fq fa fe fn ft fp fw fr = some r → zW E A s ((arW E Aq 19 fq) ++ ((arW E Aa 30 fa) ++ ((arW E Ae 30 fe) ++ ((arW E An 30 fn) ++ ((arW E At 30 ft) ++ ((arW E Ap 18 fp) ++ ((arW E Aw 16 fw) ++ (arW E Ar 30 fr)))))))) H locs → lv_has ls 10 [(0, .int p0), (1, .ref (Aq 0)), (2, .ref (Aa 0)), (3, .ref (Ae 0)), (4, .ref (An 0)), (5, .ref (At 0)), (6, .ref (Ap 0)), (7, .ref (Aw 0)), (8, .ref (Ar 0)), (9, .int x9)] → W p l e rm_L_claps s m ([.int p0, .ref (Aq 0), .ref (Aa 0), .ref (Ae 0), .ref (An 0), .ref (At 0), .ref (Ap 0), .ref (Aw 0), .ref (Ar 0)] : List Value).toArray below meth c H locs 0 0 (MQ below (zQi E A r.1 ((arW E Aq 19 r.2.1) ++ ((arW E Aa 30 r.2.2.1) ++ ((arW E Ae 30 r.2.2.2.1) ++ ((arW E An 30 r.2.2.2.2.1) ++ ((arW E At 30 r.2.2.2.2.2.1) ++ ((arW E Ap 18 r.2.2.2.2.2.2.1) ++ ((arW E Aw 16 r.2.2.2.2.2.2.2.1) ++ (arW E Ar 30 r.2.2.2.2.2.2.2.2))))))))) ([.int p0, .ref (Aq 0), .ref (Aa 0), .ref (Ae 0), .ref (An 0), .ref (At 0), .ref (Ap 0), .ref (Aw 0), .ref (Ar 0)] : List Value).toArray s 0 0 A) (F0 m 45 ls [.int s0, .int s1, .ref (Aq 0)]) := by
      intro x9 s0 s1 fq fa fe fn ft fp fw fr H locs ls hr hW hl
      rw [e_45] at hr
      refine z_ast X hW 0 hr (fun fq45 => ((arW E Aq 19 fq45) ++ ((arW E Aa 30 fa) ++ ((arW E Ae 30 fe) ++ ((arW E An 30 fn) ++ ((arW E At 30 ft) ++ ((arW E Ap 18 fp) ++ ((arW E Aw 16 fw) ++ (arW E Ar 30 fr))))))))) rfl (fun _ => rfl) dL_claps_45 (fun fq45 H locs hr hW => ?_)
      refine lv_aload_n X.1 X.2.1 dL_claps_46 rfl (lv_at hl 3 rfl) ?_
      refine lv_iload_n X.1 X.2.1 dL_claps_47 rfl (lv_at hl 0 rfl) ?_
      refine lv_dup2_11 X.1 X.2.1 dL_claps_48 rfl rfl ?_
      refine z_ald X hW 2 hr rfl dL_claps_49 (fun t49 hr => ?_)
      refine lv_aload_n X.1 X.2.1 dL_claps_50 rfl (lv_at hl 2 rfl) ?_
      refine lv_iload_n X.1 X.2.1 dL_claps_51 rfl (lv_at hl 0 rfl) ?_
      refine z_ald X hW 1 hr rfl dL_claps_52 (fun t52 hr => ?_)
      refine lv_bipush (v := 32) X.1 X.2.1 dL_claps_53 (by decide) ?_
      obtain ⟨j_78, e_78, hr⟩ := zjn_some hr
      have J_78 : ∀ (x9 : Int32) (s0 : Int32) (s1 : Int32) (s2 : Int32) (fq : Nat → Int32) (fa : Nat → Int32) (fe : Nat → Int32) (fn : Nat → Int32) (ft : Nat → Int32) (fp : Nat → Int32) (fw : Nat → Int32) (fr : Nat → Int32) (H : Heap) (locs : List Loc) (ls : Array Slot), j_78 x9 s0 s1 s2 fq fa fe fn ft fp fw fr = some r → zW E A s ((arW E Aq 19 fq) ++ ((arW E Aa 30 fa) ++ ((arW E Ae 30 fe) ++ ((arW E An 30 fn) ++ ((arW E At 30 ft) ++ ((arW E Ap 18 fp) ++ ((arW E Aw 16 fw) ++ (arW E Ar 30 fr)))))))) H locs → lv_has ls 10 [(0, .int p0), (1, .ref (Aq 0)), (2, .ref (Aa 0)), (3, .ref (Ae 0)), (4, .ref (An 0)), (5, .ref (At 0)), (6, .ref (Ap 0)), (7, .ref (Aw 0)), (8, .ref (Ar 0)), (9, .int x9)] → W p l e rm_L_claps s m ([.int p0, .ref (Aq 0), .ref (Aa 0), .ref (Ae 0), .ref (An 0), .ref (At 0), .ref (Ap 0), .ref (Aw 0), .ref (Ar 0)] : List Value).toArray below meth c H locs 0 0 (MQ below (zQi E A r.1 ((arW E Aq 19 r.2.1) ++ ((arW E Aa 30 r.2.2.1) ++ ((arW E Ae 30 r.2.2.2.1) ++ ((arW E An 30 r.2.2.2.2.1) ++ ((arW E At 30 r.2.2.2.2.2.1) ++ ((arW E Ap 18 r.2.2.2.2.2.2.1) ++ ((arW E Aw 16 r.2.2.2.2.2.2.2.1) ++ (arW E Ar 30 r.2.2.2.2.2.2.2.2))))))))) ([.int p0, .ref (Aq 0), .ref (Aa 0), .ref (Ae 0), .ref (An 0), .ref (At 0), .ref (Ap 0), .ref (Aw 0), .ref (Ar 0)] : List Value).toArray s 0 0 A) (F0 m 78 ls [.int s0, .int s1, .int s2, .ref (Ae 0)]) := by
        intro x9 s0 s1 s2 fq fa fe fn ft fp fw fr H locs ls hr hW hl
        rw [e_78] at hr
        refine z_iadd X hr dL_claps_78 (fun t78 hr => ?_)
        refine z_ast X hW 2 hr (fun fe79 => ((arW E Aq 19 fq) ++ ((arW E Aa 30 fa) ++ ((arW E Ae 30 fe79) ++ ((arW E An 30 fn) ++ ((arW E At 30 ft) ++ ((arW E Ap 18 fp) ++ ((arW E Aw 16 fw) ++ (arW E Ar 30 fr))))))))) rfl (fun _ => rfl) dL_claps_79 (fun fe79 H locs hr hW => ?_)
        refine lv_aload_n X.1 X.2.1 dL_claps_80 rfl (lv_at hl 2 rfl) ?_
        refine lv_iload_n X.1 X.2.1 dL_claps_81 rfl (lv_at hl 0 rfl) ?_
        refine lv_dup2_11 X.1 X.2.1 dL_claps_82 rfl rfl ?_
        refine z_ald X hW 1 hr rfl dL_claps_83 (fun t83 hr => ?_)
        refine lv_bipush (v := 32) X.1 X.2.1 dL_claps_84 (by decide) ?_
        refine z_ior X hr dL_claps_86 (fun t86 hr => ?_)
        refine z_ast X hW 1 hr (fun fa87 => ((arW E Aq 19 fq) ++ ((arW E Aa 30 fa87) ++ ((arW E Ae 30 fe79) ++ ((arW E An 30 fn) ++ ((arW E At 30 ft) ++ ((arW E Ap 18 fp) ++ ((arW E Aw 16 fw) ++ (arW E Ar 30 fr))))))))) rfl (fun _ => rfl) dL_claps_87 (fun fa87 H locs hr hW => ?_)
        refine lv_aload X.1 X.2.1 dL_claps_88 (lv_at hl 4 rfl) ?_
        refine lv_iload_n X.1 X.2.1 dL_claps_90 rfl (lv_at hl 0 rfl) ?_
        refine z_ald X hW 3 hr rfl dL_claps_91 (fun t91 hr => ?_)
        obtain ⟨j_111, e_111, hr⟩ := zjn_some hr
        have J_111 : ∀ (x9 : Int32) (fq : Nat → Int32) (fa : Nat → Int32) (fe : Nat → Int32) (fn : Nat → Int32) (ft : Nat → Int32) (fp : Nat → Int32) (fw : Nat → Int32) (fr : Nat → Int32) (H : Heap) (locs : List Loc) (ls : Array Slot), j_111 x9 fq fa fe fn ft fp fw fr = some r → zW E A s ((arW E Aq 19 fq) ++ ((arW E Aa 30 fa) ++ ((arW E Ae 30 fe) ++ ((arW E An 30 fn) ++ ((arW E At 30 ft) ++ ((arW E Ap 18 fp) ++ ((arW E Aw 16 fw) ++ (arW E Ar 30 fr)))))))) H locs → lv_has ls 10 [(0, .int p0), (1, .ref (Aq 0)), (2, .ref (Aa 0)), (3, .ref (Ae 0)), (4, .ref (An 0)), (5, .ref (At 0)), (6, .ref (Ap 0)), (7, .ref (Aw 0)), (8, .ref (Ar 0)), (9, .int x9)] → W p l e rm_L_claps s m ([.int p0, .ref (Aq 0), .ref (Aa 0), .ref (Ae 0), .ref (An 0), .ref (At 0), .ref (Ap 0), .ref (Aw 0), .ref (Ar 0)] : List Value).toArray below meth c H locs 0 0 (MQ below (zQi E A r.1 ((arW E Aq 19 r.2.1) ++ ((arW E Aa 30 r.2.2.1) ++ ((arW E Ae 30 r.2.2.2.1) ++ ((arW E An 30 r.2.2.2.2.1) ++ ((arW E At 30 r.2.2.2.2.2.1) ++ ((arW E Ap 18 r.2.2.2.2.2.2.1) ++ ((arW E Aw 16 r.2.2.2.2.2.2.2.1) ++ (arW E Ar 30 r.2.2.2.2.2.2.2.2))))))))) ([.int p0, .ref (Aq 0), .ref (Aa 0), .ref (Ae 0), .ref (An 0), .ref (At 0), .ref (Ap 0), .ref (Aw 0), .ref (Ar 0)] : List Value).toArray s 0 0 A) (F0 m 111 ls []) := by
          intro x9 fq fa fe fn ft fp fw fr H locs ls hr hW hl
          rw [e_111] at hr
          refine lv_aload X.1 X.2.1 dL_claps_111 (lv_at hl 4 rfl) ?_
          refine lv_iload_n X.1 X.2.1 dL_claps_113 rfl (lv_at hl 0 rfl) ?_
          refine lv_dup2_11 X.1 X.2.1 dL_claps_114 rfl rfl ?_
          refine z_ald X hW 3 hr rfl dL_claps_115 (fun t115 hr => ?_)
          refine lv_iconst (v := 1) X.1 X.2.1 dL_claps_116 (by decide) ?_
          refine z_iadd X hr dL_claps_117 (fun t117 hr => ?_)
          refine z_ast X hW 3 hr (fun fn118 => ((arW E Aq 19 fq) ++ ((arW E Aa 30 fa) ++ ((arW E Ae 30 fe) ++ ((arW E An 30 fn118) ++ ((arW E At 30 ft) ++ ((arW E Ap 18 fp) ++ ((arW E Aw 16 fw) ++ (arW E Ar 30 fr))))))))) rfl (fun _ => rfl) dL_claps_118 (fun fn118 H locs hr hW => ?_)
          refine lv_aload X.1 X.2.1 dL_claps_119 (lv_at hl 5 rfl) ?_
          refine lv_iload_n X.1 X.2.1 dL_claps_121 rfl (lv_at hl 0 rfl) ?_
          refine lv_dup2_11 X.1 X.2.1 dL_claps_122 rfl rfl ?_
          refine z_ald X hW 4 hr rfl dL_claps_123 (fun t123 hr => ?_)
          refine lv_iconst (v := 1) X.1 X.2.1 dL_claps_124 (by decide) ?_
          refine z_iadd X hr dL_claps_125 (fun t125 hr => ?_)
          refine z_ast X hW 4 hr (fun ft126 => ((arW E Aq 19 fq) ++ ((arW E Aa 30 fa) ++ ((arW E Ae 30 fe) ++ ((arW E An 30 fn118) ++ ((arW E At 30 ft126) ++ ((arW E Ap 18 fp) ++ ((arW E Aw 16 fw) ++ (arW E Ar 30 fr))))))))) rfl (fun _ => rfl) dL_claps_126 (fun ft126 H locs hr hW => ?_)
          refine lv_aload_n X.1 X.2.1 dL_claps_127 rfl (lv_at hl 1 rfl) ?_
          refine lv_bipush (v := 9) X.1 X.2.1 dL_claps_128 (by decide) ?_
          refine lv_dup2_11 X.1 X.2.1 dL_claps_130 rfl rfl ?_
          refine z_ald X hW 0 hr rfl dL_claps_131 (fun t131 hr => ?_)
          refine lv_iconst (v := 1) X.1 X.2.1 dL_claps_132 (by decide) ?_
          refine z_iadd X hr dL_claps_133 (fun t133 hr => ?_)
          refine z_ast X hW 0 hr (fun fq134 => ((arW E Aq 19 fq134) ++ ((arW E Aa 30 fa) ++ ((arW E Ae 30 fe) ++ ((arW E An 30 fn118) ++ ((arW E At 30 ft126) ++ ((arW E Ap 18 fp) ++ ((arW E Aw 16 fw) ++ (arW E Ar 30 fr))))))))) rfl (fun _ => rfl) dL_claps_134 (fun fq134 H locs hr hW => ?_)
          refine lv_aload_n X.1 X.2.1 dL_claps_135 rfl (lv_at hl 1 rfl) ?_
          refine lv_bipush (v := 6) X.1 X.2.1 dL_claps_136 (by decide) ?_
          refine z_ald X hW 0 hr rfl dL_claps_138 (fun t138 hr => ?_)
          refine lv_aload_n X.1 X.2.1 dL_claps_139 rfl (lv_at hl 1 rfl) ?_
          refine lv_iconst (v := 1) X.1 X.2.1 dL_claps_140 (by decide) ?_
          refine z_ald X hW 0 hr rfl dL_claps_141 (fun t141 hr => ?_)
          refine z_cmplt X 215 hr dL_claps_142 (by decide) (fun hr => ?_) (fun hr => ?_)
          · refine lv_aload_n X.1 X.2.1 dL_claps_215 rfl (lv_at hl 1 rfl) ?_
            refine lv_bipush (v := 6) X.1 X.2.1 dL_claps_216 (by decide) ?_
            refine z_ald X hW 0 hr rfl dL_claps_218 (fun t218 hr => ?_)
            cases hr
            exact z_iret X hW rfl dL_claps_219
          · refine lv_aload_n X.1 X.2.1 dL_claps_145 rfl (lv_at hl 1 rfl) ?_
            refine lv_bipush (v := 15) X.1 X.2.1 dL_claps_146 (by decide) ?_
            refine z_ald X hW 0 hr rfl dL_claps_148 (fun t148 hr => ?_)
            refine z_ifne X 215 hr dL_claps_149 (by decide) (fun hr => ?_) (fun hr => ?_)
            · refine lv_aload_n X.1 X.2.1 dL_claps_215 rfl (lv_at hl 1 rfl) ?_
              refine lv_bipush (v := 6) X.1 X.2.1 dL_claps_216 (by decide) ?_
              refine z_ald X hW 0 hr rfl dL_claps_218 (fun t218 hr => ?_)
              cases hr
              exact z_iret X hW rfl dL_claps_219
            · refine lv_aload_n X.1 X.2.1 dL_claps_152 rfl (lv_at hl 1 rfl) ?_
              refine lv_bipush (v := 15) X.1 X.2.1 dL_claps_153 (by decide) ?_
              refine lv_iconst (v := 1) X.1 X.2.1 dL_claps_155 (by decide) ?_
              refine z_ast X hW 0 hr (fun fq156 => ((arW E Aq 19 fq156) ++ ((arW E Aa 30 fa) ++ ((arW E Ae 30 fe) ++ ((arW E An 30 fn118) ++ ((arW E At 30 ft126) ++ ((arW E Ap 18 fp) ++ ((arW E Aw 16 fw) ++ (arW E Ar 30 fr))))))))) rfl (fun _ => rfl) dL_claps_156 (fun fq156 H locs hr hW => ?_)
              refine lv_aload_n X.1 X.2.1 dL_claps_157 rfl (lv_at hl 1 rfl) ?_
              refine lv_bipush (v := 16) X.1 X.2.1 dL_claps_158 (by decide) ?_
              refine z_ald X hW 0 hr rfl dL_claps_160 (fun t160 hr => ?_)
              refine lv_bipush (v := 8) X.1 X.2.1 dL_claps_161 (by decide) ?_
              refine z_cmpne X 179 hr dL_claps_163 (by decide) (fun hr => ?_) (fun hr => ?_)
              · refine lv_aload X.1 X.2.1 dL_claps_179 (lv_at hl 7 rfl) ?_
                refine lv_iconst (v := 2) X.1 X.2.1 dL_claps_181 (by decide) ?_
                refine lv_aload_n X.1 X.2.1 dL_claps_182 rfl (lv_at hl 1 rfl) ?_
                refine lv_bipush (v := 16) X.1 X.2.1 dL_claps_183 (by decide) ?_
                refine z_ald X hW 0 hr rfl dL_claps_185 (fun t185 hr => ?_)
                refine z_imul X hr dL_claps_186 (fun t186 hr => ?_)
                refine lv_aload_n X.1 X.2.1 dL_claps_187 rfl (lv_at hl 1 rfl) ?_
                refine lv_bipush (v := 14) X.1 X.2.1 dL_claps_188 (by decide) ?_
                refine z_ald X hW 0 hr rfl dL_claps_190 (fun t190 hr => ?_)
                refine z_ast X hW 6 hr (fun fw191 => ((arW E Aq 19 fq156) ++ ((arW E Aa 30 fa) ++ ((arW E Ae 30 fe) ++ ((arW E An 30 fn118) ++ ((arW E At 30 ft126) ++ ((arW E Ap 18 fp) ++ ((arW E Aw 16 fw191) ++ (arW E Ar 30 fr))))))))) rfl (fun _ => rfl) dL_claps_191 (fun fw191 H locs hr hW => ?_)
                refine lv_aload X.1 X.2.1 dL_claps_192 (lv_at hl 7 rfl) ?_
                refine lv_iconst (v := 2) X.1 X.2.1 dL_claps_194 (by decide) ?_
                refine lv_aload_n X.1 X.2.1 dL_claps_195 rfl (lv_at hl 1 rfl) ?_
                refine lv_bipush (v := 16) X.1 X.2.1 dL_claps_196 (by decide) ?_
                refine z_ald X hW 0 hr rfl dL_claps_198 (fun t198 hr => ?_)
                refine z_imul X hr dL_claps_199 (fun t199 hr => ?_)
                refine lv_iconst (v := 1) X.1 X.2.1 dL_claps_200 (by decide) ?_
                refine z_iadd X hr dL_claps_201 (fun t201 hr => ?_)
                refine lv_aload_n X.1 X.2.1 dL_claps_202 rfl (lv_at hl 1 rfl) ?_
                refine lv_bipush (v := 7) X.1 X.2.1 dL_claps_203 (by decide) ?_
                refine z_ald X hW 0 hr rfl dL_claps_205 (fun t205 hr => ?_)
                refine z_ast X hW 6 hr (fun fw206 => ((arW E Aq 19 fq156) ++ ((arW E Aa 30 fa) ++ ((arW E Ae 30 fe) ++ ((arW E An 30 fn118) ++ ((arW E At 30 ft126) ++ ((arW E Ap 18 fp) ++ ((arW E Aw 16 fw206) ++ (arW E Ar 30 fr))))))))) rfl (fun _ => rfl) dL_claps_206 (fun fw206 H locs hr hW => ?_)
                refine lv_aload_n X.1 X.2.1 dL_claps_207 rfl (lv_at hl 1 rfl) ?_
                refine lv_bipush (v := 16) X.1 X.2.1 dL_claps_208 (by decide) ?_
                refine lv_dup2_11 X.1 X.2.1 dL_claps_210 rfl rfl ?_
                refine z_ald X hW 0 hr rfl dL_claps_211 (fun t211 hr => ?_)
                refine lv_iconst (v := 1) X.1 X.2.1 dL_claps_212 (by decide) ?_
                refine z_iadd X hr dL_claps_213 (fun t213 hr => ?_)
                refine z_ast X hW 0 hr (fun fq214 => ((arW E Aq 19 fq214) ++ ((arW E Aa 30 fa) ++ ((arW E Ae 30 fe) ++ ((arW E An 30 fn118) ++ ((arW E At 30 ft126) ++ ((arW E Ap 18 fp) ++ ((arW E Aw 16 fw206) ++ (arW E Ar 30 fr))))))))) rfl (fun _ => rfl) dL_claps_214 (fun fq214 H locs hr hW => ?_)
                refine lv_aload_n X.1 X.2.1 dL_claps_215 rfl (lv_at hl 1 rfl) ?_
                refine lv_bipush (v := 6) X.1 X.2.1 dL_claps_216 (by decide) ?_
                refine z_ald X hW 0 hr rfl dL_claps_218 (fun t218 hr => ?_)
                cases hr
                exact z_iret X hW rfl dL_claps_219
              · refine lv_aload_n X.1 X.2.1 dL_claps_166 rfl (lv_at hl 1 rfl) ?_
                refine lv_bipush (v := 14) X.1 X.2.1 dL_claps_167 (by decide) ?_
                refine z_ald X hW 0 hr rfl dL_claps_169 (fun t169 hr => ?_)
                refine lv_aload_n X.1 X.2.1 dL_claps_170 rfl (lv_at hl 1 rfl) ?_
                refine lv_aload X.1 X.2.1 dL_claps_171 (lv_at hl 6 rfl) ?_
                have hp_173 := (z_sp2 (z_all (arW E Aq 19 fq156)) (z_spr (arW E Aa 30 fa) (z_spr (arW E Ae 30 fe) (z_spr (arW E An 30 fn118) (z_spr (arW E At 30 ft126) (z_spl ((arW E Aw 16 fw) ++ (arW E Ar 30 fr)) (z_all (arW E Ap 18 fp))))))))
                refine z_callv X hW (fun z9 => (z9.1, z9.2)) hr hp_173 (fun z9 => ((arW E Aq 19 z9.1) ++ (arW E Ap 18 z9.2))) (fun u173 => ((arW E Aq 19 u173.1) ++ ((arW E Aa 30 fa) ++ ((arW E Ae 30 fe) ++ ((arW E An 30 fn118) ++ ((arW E At 30 ft126) ++ ((arW E Ap 18 u173.2) ++ ((arW E Aw 16 fw) ++ (arW E Ar 30 fr))))))))) (fun z9 => (z_jn2 (z_lla (arW E Aq 19 z9.1)) (z_jnr (arW E Aa 30 fa) (z_jnr (arW E Ae 30 fe) (z_jnr (arW E An 30 fn118) (z_jnr (arW E At 30 ft126) (z_jnl ((arW E Aw 16 fw) ++ (arW E Ar 30 fr)) (z_lla (arW E Ap 18 z9.2))))))))) (fun z9 h => z_runS (As := [.int t169, .ref (Aq 0), .ref (Ap 0)]) (rest := []) X hW hp_173 (c_L_lapses l E Aq Ap fq156 fp t169 z9 h _) hy_L_lapses gL_claps_L_lapses rfl rfl ⟨by decide, by decide⟩ rfl hl rfl rfl (Nat.le_of_ble_eq_true rfl) dL_claps_173 ⟨Nat.zero_le _, Nat.zero_le _⟩) (fun u173 H locs hr hW => ?_)
                refine lv_goto (tgt := 215) X.1 X.2.1 dL_claps_176 (by decide) ?_
                refine lv_aload_n X.1 X.2.1 dL_claps_215 rfl (lv_at hl 1 rfl) ?_
                refine lv_bipush (v := 6) X.1 X.2.1 dL_claps_216 (by decide) ?_
                refine z_ald X hW 0 hr rfl dL_claps_218 (fun t218 hr => ?_)
                cases hr
                exact z_iret X hW rfl dL_claps_219
        refine z_ifne X 111 hr dL_claps_92 (by decide) (fun hr => ?_) (fun hr => ?_)
        · exact J_111 x9 fq fa87 fe79 fn ft fp fw fr _ _ _ hr hW (lv_sub hl [0, 1, 2, 3, 4, 5, 6, 7, 8, 9] rfl)
        · refine lv_aload X.1 X.2.1 dL_claps_95 (lv_at hl 8 rfl) ?_
          refine lv_aload_n X.1 X.2.1 dL_claps_97 rfl (lv_at hl 1 rfl) ?_
          refine lv_bipush (v := 17) X.1 X.2.1 dL_claps_98 (by decide) ?_
          refine z_ald X hW 0 hr rfl dL_claps_100 (fun t100 hr => ?_)
          refine lv_iload_n X.1 X.2.1 dL_claps_101 rfl (lv_at hl 0 rfl) ?_
          refine z_ast X hW 7 hr (fun fr102 => ((arW E Aq 19 fq) ++ ((arW E Aa 30 fa87) ++ ((arW E Ae 30 fe79) ++ ((arW E An 30 fn) ++ ((arW E At 30 ft) ++ ((arW E Ap 18 fp) ++ ((arW E Aw 16 fw) ++ (arW E Ar 30 fr102))))))))) rfl (fun _ => rfl) dL_claps_102 (fun fr102 H locs hr hW => ?_)
          refine lv_aload_n X.1 X.2.1 dL_claps_103 rfl (lv_at hl 1 rfl) ?_
          refine lv_bipush (v := 17) X.1 X.2.1 dL_claps_104 (by decide) ?_
          refine lv_dup2_11 X.1 X.2.1 dL_claps_106 rfl rfl ?_
          refine z_ald X hW 0 hr rfl dL_claps_107 (fun t107 hr => ?_)
          refine lv_iconst (v := 1) X.1 X.2.1 dL_claps_108 (by decide) ?_
          refine z_iadd X hr dL_claps_109 (fun t109 hr => ?_)
          refine z_ast X hW 0 hr (fun fq110 => ((arW E Aq 19 fq110) ++ ((arW E Aa 30 fa87) ++ ((arW E Ae 30 fe79) ++ ((arW E An 30 fn) ++ ((arW E At 30 ft) ++ ((arW E Ap 18 fp) ++ ((arW E Aw 16 fw) ++ (arW E Ar 30 fr102))))))))) rfl (fun _ => rfl) dL_claps_110 (fun fq110 H locs hr hW => ?_)
          exact J_111 x9 fq110 fa87 fe79 fn ft fp fw fr102 _ _ _ hr hW (lv_sub hl [0, 1, 2, 3, 4, 5, 6, 7, 8, 9] rfl)
      obtain ⟨j_77, e_77, hr⟩ := zjn_some hr
      have J_77 : ∀ (x9 : Int32) (s0 : Int32) (s1 : Int32) (fq : Nat → Int32) (fa : Nat → Int32) (fe : Nat → Int32) (fn : Nat → Int32) (ft : Nat → Int32) (fp : Nat → Int32) (fw : Nat → Int32) (fr : Nat → Int32) (H : Heap) (locs : List Loc) (ls : Array Slot), j_77 x9 s0 s1 fq fa fe fn ft fp fw fr = some r → zW E A s ((arW E Aq 19 fq) ++ ((arW E Aa 30 fa) ++ ((arW E Ae 30 fe) ++ ((arW E An 30 fn) ++ ((arW E At 30 ft) ++ ((arW E Ap 18 fp) ++ ((arW E Aw 16 fw) ++ (arW E Ar 30 fr)))))))) H locs → lv_has ls 10 [(0, .int p0), (1, .ref (Aq 0)), (2, .ref (Aa 0)), (3, .ref (Ae 0)), (4, .ref (An 0)), (5, .ref (At 0)), (6, .ref (Ap 0)), (7, .ref (Aw 0)), (8, .ref (Ar 0)), (9, .int x9)] → W p l e rm_L_claps s m ([.int p0, .ref (Aq 0), .ref (Aa 0), .ref (Ae 0), .ref (An 0), .ref (At 0), .ref (Ap 0), .ref (Aw 0), .ref (Ar 0)] : List Value).toArray below meth c H locs 0 0 (MQ below (zQi E A r.1 ((arW E Aq 19 r.2.1) ++ ((arW E Aa 30 r.2.2.1) ++ ((arW E Ae 30 r.2.2.2.1) ++ ((arW E An 30 r.2.2.2.2.1) ++ ((arW E At 30 r.2.2.2.2.2.1) ++ ((arW E Ap 18 r.2.2.2.2.2.2.1) ++ ((arW E Aw 16 r.2.2.2.2.2.2.2.1) ++ (arW E Ar 30 r.2.2.2.2.2.2.2.2))))))))) ([.int p0, .ref (Aq 0), .ref (Aa 0), .ref (Ae 0), .ref (An 0), .ref (At 0), .ref (Ap 0), .ref (Aw 0), .ref (Ar 0)] : List Value).toArray s 0 0 A) (F0 m 77 ls [.int s0, .int s1, .ref (Ae 0)]) := by
        intro x9 s0 s1 fq fa fe fn ft fp fw fr H locs ls hr hW hl
        rw [e_77] at hr
        refine lv_iconst (v := 0) X.1 X.2.1 dL_claps_77 (by decide) ?_
        exact J_78 x9 0 s0 s1 fq fa fe fn ft fp fw fr _ _ _ hr hW (lv_sub hl [0, 1, 2, 3, 4, 5, 6, 7, 8, 9] rfl)
      refine z_cmpge X 77 hr dL_claps_55 (by decide) (fun hr => ?_) (fun hr => ?_)
      · exact J_77 x9 t49 p0 fq45 fa fe fn ft fp fw fr _ _ _ hr hW (lv_sub hl [0, 1, 2, 3, 4, 5, 6, 7, 8, 9] rfl)
      · refine lv_aload_n X.1 X.2.1 dL_claps_58 rfl (lv_at hl 1 rfl) ?_
        refine lv_bipush (v := 7) X.1 X.2.1 dL_claps_59 (by decide) ?_
        refine z_ald X hW 0 hr rfl dL_claps_61 (fun t61 hr => ?_)
        refine lv_aload_n X.1 X.2.1 dL_claps_62 rfl (lv_at hl 1 rfl) ?_
        refine lv_bipush (v := 13) X.1 X.2.1 dL_claps_63 (by decide) ?_
        refine z_ald X hW 0 hr rfl dL_claps_65 (fun t65 hr => ?_)
        refine z_isub X hr dL_claps_66 (fun t66 hr => ?_)
        refine lv_aload_n X.1 X.2.1 dL_claps_67 rfl (lv_at hl 1 rfl) ?_
        refine lv_iconst (v := 3) X.1 X.2.1 dL_claps_68 (by decide) ?_
        refine z_ald X hW 0 hr rfl dL_claps_69 (fun t69 hr => ?_)
        refine z_cmpgt X 77 hr dL_claps_70 (by decide) (fun hr => ?_) (fun hr => ?_)
        · exact J_77 x9 t49 p0 fq45 fa fe fn ft fp fw fr _ _ _ hr hW (lv_sub hl [0, 1, 2, 3, 4, 5, 6, 7, 8, 9] rfl)
        · refine lv_iconst (v := 1) X.1 X.2.1 dL_claps_73 (by decide) ?_
          refine lv_goto (tgt := 78) X.1 X.2.1 dL_claps_74 (by decide) ?_
          exact J_78 x9 1 t49 p0 fq45 fa fe fn ft fp fw fr _ _ _ hr hW (lv_sub hl [0, 1, 2, 3, 4, 5, 6, 7, 8, 9] rfl)
    refine z_cmple X 43 hr dL_claps_34 (by decide) (fun hr => ?_) (fun hr => ?_)
    · refine lv_iload X.1 X.2.1 dL_claps_43 (lv_at hl 0 rfl) ?_
      exact J_45 t23 t23 6 fq fa fe fn ft fp fw fr _ _ _ hr hW (lv_sub hl [1, 2, 3, 4, 5, 6, 7, 8, 9, 0] rfl)
    · refine lv_sipush (v := 9999) X.1 X.2.1 dL_claps_37 (by decide) ?_
      refine lv_goto (tgt := 45) X.1 X.2.1 dL_claps_40 (by decide) ?_
      exact J_45 t23 9999 6 fq fa fe fn ft fp fw fr _ _ _ hr hW (lv_sub hl [1, 2, 3, 4, 5, 6, 7, 8, 9, 0] rfl)
  · refine lv_bipush (v := (-5)) X.1 X.2.1 dL_claps_7 (by decide) ?_
    cases hr
    exact z_iret X hW rfl dL_claps_9
abbrev rm_L_less : Room := { frames := 0, cells := 0, slots := 0, locals := 0 }
theorem hy_L_less : zY yL_less wsL_less cL_less 3 (some .int) 2 := ⟨⟨_, rfl⟩, by decide, by decide, by decide +kernel⟩
def d_L_less (fq : Nat → Int32) (p0 : Int32) : Option (Int32) :=
zld 19 fq 0 fun t3 =>
zlet (p0 * t3) fun t4 =>
zdv t4 100 fun t7 =>
(if t7 ≤ 0 then
(if p0 ≤ 0 then
some 0
else
zlet (p0 - 1) fun t25 =>
some t25)
else
zlet (p0 - t7) fun t15 =>
some t15)
set_option maxHeartbeats 4000000 in
set_option maxRecDepth 100000 in
theorem c_L_less (l : Launch) (E : zE) (Aq : Nat → Nat) (fq : Nat → Int32) (p0 : Int32) (r : Int32) (h : d_L_less fq p0 = some r) : zMi l E yL_less wsL_less rm_L_less [.int p0, .ref (Aq 0)] (arW E Aq 19 fq) r (arW E Aq 19 fq) := by
  intro sz
  refine z_entry (Qc := fun A => zQi E A r (arW E Aq 19 fq)) (by decide) rfl (Nat.le_of_ble_eq_true rfl) ?_
  intro p e s m below meth c A X hW ls hl
  have X : zX E wsL_less RL cL_less 3 (some .int) yL_less p s m ([.int p0, .ref (Aq 0)] : List Value).toArray meth c A := X
  have hl : lv_has ls 3 [(0, .int p0), (1, .ref (Aq 0))] := hl
  have hr : d_L_less fq p0 = some r := h
  clear h
  unfold d_L_less at hr
  refine lv_iload_n X.1 X.2.1 dL_less_0 rfl (lv_at hl 0 rfl) ?_
  refine lv_aload_n X.1 X.2.1 dL_less_1 rfl (lv_at hl 1 rfl) ?_
  refine lv_iconst (v := 0) X.1 X.2.1 dL_less_2 (by decide) ?_
  refine z_ald X hW 0 hr rfl dL_less_3 (fun t3 hr => ?_)
  refine z_imul X hr dL_less_4 (fun t4 hr => ?_)
  refine lv_bipush (v := 100) X.1 X.2.1 dL_less_5 (by decide) ?_
  refine z_idiv X hr dL_less_7 (fun t7 hr => ?_)
  refine lv_istore_n (lv' := [(2, .int t7), (0, .int p0), (1, .ref (Aq 0))]) X.1 X.2.1 dL_less_8 rfl hl (by decide) rfl (fun ls hl => ?_)
  refine lv_iload_n X.1 X.2.1 dL_less_9 rfl (lv_at hl 0 rfl) ?_
  refine z_ifle X 19 hr dL_less_10 (by decide) (fun hr => ?_) (fun hr => ?_)
  · refine lv_iload_n X.1 X.2.1 dL_less_19 rfl (lv_at hl 1 rfl) ?_
    refine z_ifle X 29 hr dL_less_20 (by decide) (fun hr => ?_) (fun hr => ?_)
    · refine lv_iconst (v := 0) X.1 X.2.1 dL_less_29 (by decide) ?_
      cases hr
      exact z_iret X hW rfl dL_less_30
    · refine lv_iload_n X.1 X.2.1 dL_less_23 rfl (lv_at hl 1 rfl) ?_
      refine lv_iconst (v := 1) X.1 X.2.1 dL_less_24 (by decide) ?_
      refine z_isub X hr dL_less_25 (fun t25 hr => ?_)
      refine lv_goto (tgt := 30) X.1 X.2.1 dL_less_26 (by decide) ?_
      cases hr
      exact z_iret X hW rfl dL_less_30
  · refine lv_iload_n X.1 X.2.1 dL_less_13 rfl (lv_at hl 1 rfl) ?_
    refine lv_iload_n X.1 X.2.1 dL_less_14 rfl (lv_at hl 0 rfl) ?_
    refine z_isub X hr dL_less_15 (fun t15 hr => ?_)
    refine lv_goto (tgt := 30) X.1 X.2.1 dL_less_16 (by decide) ?_
    cases hr
    exact z_iret X hW rfl dL_less_30
abbrev rm_L_second : Room := { frames := 1, cells := 0, slots := 0, locals := 23 }
theorem hy_L_second : zY yL_second wsL_second cL_second 4 none 3 := ⟨⟨_, rfl⟩, by decide, by decide, by decide +kernel⟩
def lpB_L_second_22   (k_22 : Int32 → (Nat → Int32) → (Nat → Int32) → (Nat → Int32) → Option ((Nat → Int32) × (Nat → Int32) × (Nat → Int32))) (x3 : Int32) (fq : Nat → Int32) (fp : Nat → Int32) (fw : Nat → Int32) : Option ((Nat → Int32) × (Nat → Int32) × (Nat → Int32)) :=
zld 19 fq 16 fun t26 =>
(if t26 ≤ x3 then
some (fq, fp, fw)
else
zld 19 fq 7 fun t33 =>
zlet (2 * x3) fun t37 =>
zlet (t37 + 1) fun t39 =>
zld 16 fw t39 fun t40 =>
zlet (t33 - t40) fun t41 =>
zld 19 fq 2 fun t44 =>
(if t41 < t44 then
zlet (x3 + Int32.ofInt 1) fun x3_67 =>
k_22 x3_67 fq fp fw
else
zlet (2 * x3) fun t51 =>
zld 16 fw t51 fun t52 =>
zup (d_L_lapses fq fp t52) (fun z9 => (z9.1, z9.2)) fun u55 =>
zup (d_L_drops u55.1 fw x3) (fun z9 => (z9.1, z9.2)) fun u61 =>
k_22 x3 u61.1 u55.2 u61.2))
def lp_L_second_22   : Nat → Int32 → (Nat → Int32) → (Nat → Int32) → (Nat → Int32) → Option ((Nat → Int32) × (Nat → Int32) × (Nat → Int32))
  | 0 => fun _ _ _ _ => none
  | n_ + 1 => lpB_L_second_22   (lp_L_second_22   n_)
def d_L_second (fq : Nat → Int32) (fp : Nat → Int32) (fw : Nat → Int32) : Option ((Nat → Int32) × (Nat → Int32) × (Nat → Int32)) :=
zld 19 fq 6 fun t6 =>
zcl (d_L_less fq t6) fun t8 =>
zst 19 fq 6 t8 fun fq11 =>
zld 19 fq11 7 fun t16 =>
zlet (t16 + 1) fun t18 =>
zst 19 fq11 7 t18 fun fq19 =>
lp_L_second_22   zF 0 fq19 fp fw
set_option maxHeartbeats 4000000 in
set_option maxRecDepth 100000 in
theorem c_L_second (l : Launch) (E : zE) (Aq Ap Aw : Nat → Nat) (fq : Nat → Int32) (fp : Nat → Int32) (fw : Nat → Int32) (r : (Nat → Int32) × (Nat → Int32) × (Nat → Int32)) (h : d_L_second fq fp fw = some r) : zMv l E yL_second wsL_second rm_L_second [.ref (Aq 0), .ref (Ap 0), .ref (Aw 0)] ((arW E Aq 19 fq) ++ ((arW E Ap 18 fp) ++ (arW E Aw 16 fw))) ((arW E Aq 19 r.1) ++ ((arW E Ap 18 r.2.1) ++ (arW E Aw 16 r.2.2))) := by
  intro sz
  refine z_entry (Qc := fun A => zQv E A ((arW E Aq 19 r.1) ++ ((arW E Ap 18 r.2.1) ++ (arW E Aw 16 r.2.2)))) (by decide) rfl (Nat.le_of_ble_eq_true rfl) ?_
  intro p e s m below meth c A X hW ls hl
  have X : zX E wsL_second RL cL_second 4 none yL_second p s m ([.ref (Aq 0), .ref (Ap 0), .ref (Aw 0)] : List Value).toArray meth c A := X
  have hl : lv_has ls 4 [(0, .ref (Aq 0)), (1, .ref (Ap 0)), (2, .ref (Aw 0))] := hl
  have hr : d_L_second fq fp fw = some r := h
  clear h
  unfold d_L_second at hr
  refine lv_aload_n X.1 X.2.1 dL_second_0 rfl (lv_at hl 0 rfl) ?_
  refine lv_bipush (v := 6) X.1 X.2.1 dL_second_1 (by decide) ?_
  refine lv_aload_n X.1 X.2.1 dL_second_3 rfl (lv_at hl 0 rfl) ?_
  refine lv_bipush (v := 6) X.1 X.2.1 dL_second_4 (by decide) ?_
  refine z_ald X hW 0 hr rfl dL_second_6 (fun t6 hr => ?_)
  refine lv_aload_n X.1 X.2.1 dL_second_7 rfl (lv_at hl 0 rfl) ?_
  have hp_8 := (z_spl ((arW E Ap 18 fp) ++ (arW E Aw 16 fw)) (z_all (arW E Aq 19 fq)))
  refine z_callp X hW hr hp_8 (fun x h => z_runS (As := [.int t6, .ref (Aq 0)]) (rest := [.int 6, .ref (Aq 0)]) X hW hp_8 (c_L_less l E Aq fq t6 x h _) hy_L_less gL_second_L_less rfl rfl ⟨by decide, by decide⟩ rfl hl rfl rfl (Nat.le_of_ble_eq_true rfl) dL_second_8 ⟨Nat.zero_le _, Nat.zero_le _⟩) (fun t8 H locs hr hW => ?_)
  refine z_ast X hW 0 hr (fun fq11 => ((arW E Aq 19 fq11) ++ ((arW E Ap 18 fp) ++ (arW E Aw 16 fw)))) rfl (fun _ => rfl) dL_second_11 (fun fq11 H locs hr hW => ?_)
  refine lv_aload_n X.1 X.2.1 dL_second_12 rfl (lv_at hl 0 rfl) ?_
  refine lv_bipush (v := 7) X.1 X.2.1 dL_second_13 (by decide) ?_
  refine lv_dup2_11 X.1 X.2.1 dL_second_15 rfl rfl ?_
  refine z_ald X hW 0 hr rfl dL_second_16 (fun t16 hr => ?_)
  refine lv_iconst (v := 1) X.1 X.2.1 dL_second_17 (by decide) ?_
  refine z_iadd X hr dL_second_18 (fun t18 hr => ?_)
  refine z_ast X hW 0 hr (fun fq19 => ((arW E Aq 19 fq19) ++ ((arW E Ap 18 fp) ++ (arW E Aw 16 fw)))) rfl (fun _ => rfl) dL_second_19 (fun fq19 H locs hr hW => ?_)
  refine lv_iconst (v := 0) X.1 X.2.1 dL_second_20 (by decide) ?_
  refine lv_istore_n (lv' := [(3, .int 0), (0, .ref (Aq 0)), (1, .ref (Ap 0)), (2, .ref (Aw 0))]) X.1 X.2.1 dL_second_21 rfl hl (by decide) rfl (fun ls hl => ?_)
  have L_22 : ∀ (n_22 : Nat), ∀ (x3 : Int32) (fq : Nat → Int32) (fp : Nat → Int32) (fw : Nat → Int32) (H : Heap) (locs : List Loc) (ls : Array Slot), lp_L_second_22   n_22 x3 fq fp fw = some r → zW E A s ((arW E Aq 19 fq) ++ ((arW E Ap 18 fp) ++ (arW E Aw 16 fw))) H locs → lv_has ls 4 [(0, .ref (Aq 0)), (1, .ref (Ap 0)), (2, .ref (Aw 0)), (3, .int x3)] → W p l e rm_L_second s m ([.ref (Aq 0), .ref (Ap 0), .ref (Aw 0)] : List Value).toArray below meth c H locs 0 0 (MQ below (zQv E A ((arW E Aq 19 r.1) ++ ((arW E Ap 18 r.2.1) ++ (arW E Aw 16 r.2.2)))) ([.ref (Aq 0), .ref (Ap 0), .ref (Aw 0)] : List Value).toArray s 0 0 A) (F0 m 22 ls []) := by
    intro n_22
    induction n_22 with
    | zero => exact fun x3 fq fp fw H locs ls hr hW hl => absurd (show (none : Option ((Nat → Int32) × (Nat → Int32) × (Nat → Int32))) = some r from hr) (fun h => by cases h)
    | succ n_22 ih_22 =>
      intro x3 fq fp fw H locs ls hr hW hl
      have hr : lpB_L_second_22   (lp_L_second_22   n_22) x3 fq fp fw = some r := hr
      unfold lpB_L_second_22 at hr
      refine lv_iload_n X.1 X.2.1 dL_second_22 rfl (lv_at hl 3 rfl) ?_
      refine lv_aload_n X.1 X.2.1 dL_second_23 rfl (lv_at hl 0 rfl) ?_
      refine lv_bipush (v := 16) X.1 X.2.1 dL_second_24 (by decide) ?_
      refine z_ald X hW 0 hr rfl dL_second_26 (fun t26 hr => ?_)
      refine z_cmpge X 73 hr dL_second_27 (by decide) (fun hr => ?_) (fun hr => ?_)
      · cases hr
        exact z_vret X hW dL_second_73
      · refine lv_aload_n X.1 X.2.1 dL_second_30 rfl (lv_at hl 0 rfl) ?_
        refine lv_bipush (v := 7) X.1 X.2.1 dL_second_31 (by decide) ?_
        refine z_ald X hW 0 hr rfl dL_second_33 (fun t33 hr => ?_)
        refine lv_aload_n X.1 X.2.1 dL_second_34 rfl (lv_at hl 2 rfl) ?_
        refine lv_iconst (v := 2) X.1 X.2.1 dL_second_35 (by decide) ?_
        refine lv_iload_n X.1 X.2.1 dL_second_36 rfl (lv_at hl 3 rfl) ?_
        refine z_imul X hr dL_second_37 (fun t37 hr => ?_)
        refine lv_iconst (v := 1) X.1 X.2.1 dL_second_38 (by decide) ?_
        refine z_iadd X hr dL_second_39 (fun t39 hr => ?_)
        refine z_ald X hW 2 hr rfl dL_second_40 (fun t40 hr => ?_)
        refine z_isub X hr dL_second_41 (fun t41 hr => ?_)
        refine lv_aload_n X.1 X.2.1 dL_second_42 rfl (lv_at hl 0 rfl) ?_
        refine lv_iconst (v := 2) X.1 X.2.1 dL_second_43 (by decide) ?_
        refine z_ald X hW 0 hr rfl dL_second_44 (fun t44 hr => ?_)
        refine z_cmplt X 67 hr dL_second_45 (by decide) (fun hr => ?_) (fun hr => ?_)
        · refine z_iinc X (fun x3_67 => [(3, .int x3_67), (0, .ref (Aq 0)), (1, .ref (Ap 0)), (2, .ref (Aw 0))]) hr hl (k := 3) rfl (by decide) (fun _ => rfl) dL_second_67 (fun x3_67 ls hr hl => ?_)
          refine lv_goto (tgt := 22) X.1 X.2.1 dL_second_70 (by decide) ?_
          exact ih_22 x3_67 fq fp fw _ _ _ hr hW (lv_sub hl [1, 2, 3, 0] rfl)
        · refine lv_aload_n X.1 X.2.1 dL_second_48 rfl (lv_at hl 2 rfl) ?_
          refine lv_iconst (v := 2) X.1 X.2.1 dL_second_49 (by decide) ?_
          refine lv_iload_n X.1 X.2.1 dL_second_50 rfl (lv_at hl 3 rfl) ?_
          refine z_imul X hr dL_second_51 (fun t51 hr => ?_)
          refine z_ald X hW 2 hr rfl dL_second_52 (fun t52 hr => ?_)
          refine lv_aload_n X.1 X.2.1 dL_second_53 rfl (lv_at hl 0 rfl) ?_
          refine lv_aload_n X.1 X.2.1 dL_second_54 rfl (lv_at hl 1 rfl) ?_
          have hp_55 := (z_sp2 (z_all (arW E Aq 19 fq)) (z_spl (arW E Aw 16 fw) (z_all (arW E Ap 18 fp))))
          refine z_callv X hW (fun z9 => (z9.1, z9.2)) hr hp_55 (fun z9 => ((arW E Aq 19 z9.1) ++ (arW E Ap 18 z9.2))) (fun u55 => ((arW E Aq 19 u55.1) ++ ((arW E Ap 18 u55.2) ++ (arW E Aw 16 fw)))) (fun z9 => (z_jn2 (z_lla (arW E Aq 19 z9.1)) (z_jnl (arW E Aw 16 fw) (z_lla (arW E Ap 18 z9.2))))) (fun z9 h => z_runS (As := [.int t52, .ref (Aq 0), .ref (Ap 0)]) (rest := []) X hW hp_55 (c_L_lapses l E Aq Ap fq fp t52 z9 h _) hy_L_lapses gL_second_L_lapses rfl rfl ⟨by decide, by decide⟩ rfl hl rfl rfl (Nat.le_of_ble_eq_true rfl) dL_second_55 ⟨Nat.zero_le _, Nat.zero_le _⟩) (fun u55 H locs hr hW => ?_)
          refine lv_iload_n X.1 X.2.1 dL_second_58 rfl (lv_at hl 3 rfl) ?_
          refine lv_aload_n X.1 X.2.1 dL_second_59 rfl (lv_at hl 0 rfl) ?_
          refine lv_aload_n X.1 X.2.1 dL_second_60 rfl (lv_at hl 2 rfl) ?_
          have hp_61 := (z_sp2 (z_all (arW E Aq 19 u55.1)) (z_spr (arW E Ap 18 u55.2) (z_all (arW E Aw 16 fw))))
          refine z_callv X hW (fun z9 => (z9.1, z9.2)) hr hp_61 (fun z9 => ((arW E Aq 19 z9.1) ++ (arW E Aw 16 z9.2))) (fun u61 => ((arW E Aq 19 u61.1) ++ ((arW E Ap 18 u55.2) ++ (arW E Aw 16 u61.2)))) (fun z9 => (z_jn2 (z_lla (arW E Aq 19 z9.1)) (z_jnr (arW E Ap 18 u55.2) (z_lla (arW E Aw 16 z9.2))))) (fun z9 h => z_runS (As := [.int x3, .ref (Aq 0), .ref (Aw 0)]) (rest := []) X hW hp_61 (c_L_drops l E Aq Aw u55.1 fw x3 z9 h _) hy_L_drops gL_second_L_drops rfl rfl ⟨by decide, by decide⟩ rfl hl rfl rfl (Nat.le_of_ble_eq_true rfl) dL_second_61 ⟨Nat.zero_le _, Nat.zero_le _⟩) (fun u61 H locs hr hW => ?_)
          refine lv_goto (tgt := 22) X.1 X.2.1 dL_second_64 (by decide) ?_
          exact ih_22 x3 u61.1 u55.2 u61.2 _ _ _ hr hW (lv_sub hl [0, 1, 2, 3] rfl)
  exact L_22 _ 0 fq19 fp fw _ _ _ hr hW (lv_sub hl [1, 2, 3, 0] rfl)
abbrev rm_L_owes : Room := { frames := 0, cells := 0, slots := 0, locals := 0 }
theorem hy_L_owes : zY yL_owes wsL_owes cL_owes 5 (some .int) 3 := ⟨⟨_, rfl⟩, by decide, by decide, by decide +kernel⟩
def lpB_L_owes_5 (fq : Nat → Int32) (fw : Nat → Int32) (p0 : Int32)  (k_5 : Int32 → Int32 → Option (Int32)) (x3 : Int32) (x4 : Int32) : Option (Int32) :=
zld 19 fq 16 fun t10 =>
(if t10 ≤ x4 then
some x3
else
zlet (2 * x4) fun t19 =>
zld 16 fw t19 fun t20 =>
(if t20 = p0 then
zlet (x3 + 1) fun t30 =>
zlet (x4 + Int32.ofInt 1) fun x4_32 =>
k_5 t30 x4_32
else
zlet (x3 + 0) fun t30 =>
zlet (x4 + Int32.ofInt 1) fun x4_32 =>
k_5 t30 x4_32))
def lp_L_owes_5 (fq : Nat → Int32) (fw : Nat → Int32) (p0 : Int32)  : Nat → Int32 → Int32 → Option (Int32)
  | 0 => fun _ _ => none
  | n_ + 1 => lpB_L_owes_5 fq fw p0  (lp_L_owes_5 fq fw p0  n_)
def d_L_owes (fq : Nat → Int32) (fw : Nat → Int32) (p0 : Int32) : Option (Int32) :=
lp_L_owes_5 fq fw p0  zF 0 0
set_option maxHeartbeats 4000000 in
set_option maxRecDepth 100000 in
theorem c_L_owes (l : Launch) (E : zE) (Aq Aw : Nat → Nat) (fq : Nat → Int32) (fw : Nat → Int32) (p0 : Int32) (r : Int32) (h : d_L_owes fq fw p0 = some r) : zMi l E yL_owes wsL_owes rm_L_owes [.int p0, .ref (Aq 0), .ref (Aw 0)] ((arW E Aq 19 fq) ++ (arW E Aw 16 fw)) r ((arW E Aq 19 fq) ++ (arW E Aw 16 fw)) := by
  intro sz
  refine z_entry (Qc := fun A => zQi E A r ((arW E Aq 19 fq) ++ (arW E Aw 16 fw))) (by decide) rfl (Nat.le_of_ble_eq_true rfl) ?_
  intro p e s m below meth c A X hW ls hl
  have X : zX E wsL_owes RL cL_owes 5 (some .int) yL_owes p s m ([.int p0, .ref (Aq 0), .ref (Aw 0)] : List Value).toArray meth c A := X
  have hl : lv_has ls 5 [(0, .int p0), (1, .ref (Aq 0)), (2, .ref (Aw 0))] := hl
  have hr : d_L_owes fq fw p0 = some r := h
  clear h
  unfold d_L_owes at hr
  refine lv_iconst (v := 0) X.1 X.2.1 dL_owes_0 (by decide) ?_
  refine lv_istore_n (lv' := [(3, .int 0), (0, .int p0), (1, .ref (Aq 0)), (2, .ref (Aw 0))]) X.1 X.2.1 dL_owes_1 rfl hl (by decide) rfl (fun ls hl => ?_)
  refine lv_iconst (v := 0) X.1 X.2.1 dL_owes_2 (by decide) ?_
  refine lv_istore (lv' := [(4, .int 0), (3, .int 0), (0, .int p0), (1, .ref (Aq 0)), (2, .ref (Aw 0))]) X.1 X.2.1 dL_owes_3 hl (by decide) rfl (fun ls hl => ?_)
  have L_5 : ∀ (n_5 : Nat), ∀ (x3 : Int32) (x4 : Int32) (H : Heap) (locs : List Loc) (ls : Array Slot), lp_L_owes_5 fq fw p0  n_5 x3 x4 = some r → zW E A s ((arW E Aq 19 fq) ++ (arW E Aw 16 fw)) H locs → lv_has ls 5 [(0, .int p0), (1, .ref (Aq 0)), (2, .ref (Aw 0)), (3, .int x3), (4, .int x4)] → W p l e rm_L_owes s m ([.int p0, .ref (Aq 0), .ref (Aw 0)] : List Value).toArray below meth c H locs 0 0 (MQ below (zQi E A r ((arW E Aq 19 fq) ++ (arW E Aw 16 fw))) ([.int p0, .ref (Aq 0), .ref (Aw 0)] : List Value).toArray s 0 0 A) (F0 m 5 ls []) := by
    intro n_5
    induction n_5 with
    | zero => exact fun x3 x4 H locs ls hr hW hl => absurd (show (none : Option (Int32)) = some r from hr) (fun h => by cases h)
    | succ n_5 ih_5 =>
      intro x3 x4 H locs ls hr hW hl
      have hr : lpB_L_owes_5 fq fw p0  (lp_L_owes_5 fq fw p0  n_5) x3 x4 = some r := hr
      unfold lpB_L_owes_5 at hr
      refine lv_iload X.1 X.2.1 dL_owes_5 (lv_at hl 4 rfl) ?_
      refine lv_aload_n X.1 X.2.1 dL_owes_7 rfl (lv_at hl 1 rfl) ?_
      refine lv_bipush (v := 16) X.1 X.2.1 dL_owes_8 (by decide) ?_
      refine z_ald X hW 0 hr rfl dL_owes_10 (fun t10 hr => ?_)
      refine z_cmpge X 38 hr dL_owes_11 (by decide) (fun hr => ?_) (fun hr => ?_)
      · refine lv_iload_n X.1 X.2.1 dL_owes_38 rfl (lv_at hl 3 rfl) ?_
        cases hr
        exact z_iret X hW rfl dL_owes_39
      · refine lv_iload_n X.1 X.2.1 dL_owes_14 rfl (lv_at hl 3 rfl) ?_
        refine lv_aload_n X.1 X.2.1 dL_owes_15 rfl (lv_at hl 2 rfl) ?_
        refine lv_iconst (v := 2) X.1 X.2.1 dL_owes_16 (by decide) ?_
        refine lv_iload X.1 X.2.1 dL_owes_17 (lv_at hl 4 rfl) ?_
        refine z_imul X hr dL_owes_19 (fun t19 hr => ?_)
        refine z_ald X hW 1 hr rfl dL_owes_20 (fun t20 hr => ?_)
        refine lv_iload_n X.1 X.2.1 dL_owes_21 rfl (lv_at hl 0 rfl) ?_
        refine z_cmpne X 29 hr dL_owes_22 (by decide) (fun hr => ?_) (fun hr => ?_)
        · refine lv_iconst (v := 0) X.1 X.2.1 dL_owes_29 (by decide) ?_
          refine z_iadd X hr dL_owes_30 (fun t30 hr => ?_)
          refine lv_istore_n (lv' := [(3, .int t30), (0, .int p0), (1, .ref (Aq 0)), (2, .ref (Aw 0)), (4, .int x4)]) X.1 X.2.1 dL_owes_31 rfl hl (by decide) rfl (fun ls hl => ?_)
          refine z_iinc X (fun x4_32 => [(4, .int x4_32), (3, .int t30), (0, .int p0), (1, .ref (Aq 0)), (2, .ref (Aw 0))]) hr hl (k := 4) rfl (by decide) (fun _ => rfl) dL_owes_32 (fun x4_32 ls hr hl => ?_)
          refine lv_goto (tgt := 5) X.1 X.2.1 dL_owes_35 (by decide) ?_
          exact ih_5 t30 x4_32 _ _ _ hr hW (lv_sub hl [2, 3, 4, 1, 0] rfl)
        · refine lv_iconst (v := 1) X.1 X.2.1 dL_owes_25 (by decide) ?_
          refine lv_goto (tgt := 30) X.1 X.2.1 dL_owes_26 (by decide) ?_
          refine z_iadd X hr dL_owes_30 (fun t30 hr => ?_)
          refine lv_istore_n (lv' := [(3, .int t30), (0, .int p0), (1, .ref (Aq 0)), (2, .ref (Aw 0)), (4, .int x4)]) X.1 X.2.1 dL_owes_31 rfl hl (by decide) rfl (fun ls hl => ?_)
          refine z_iinc X (fun x4_32 => [(4, .int x4_32), (3, .int t30), (0, .int p0), (1, .ref (Aq 0)), (2, .ref (Aw 0))]) hr hl (k := 4) rfl (by decide) (fun _ => rfl) dL_owes_32 (fun x4_32 ls hr hl => ?_)
          refine lv_goto (tgt := 5) X.1 X.2.1 dL_owes_35 (by decide) ?_
          exact ih_5 t30 x4_32 _ _ _ hr hW (lv_sub hl [2, 3, 4, 1, 0] rfl)
  exact L_5 _ 0 0 _ _ _ hr hW (lv_sub hl [2, 3, 4, 1, 0] rfl)
abbrev rm_L_earliest : Room := { frames := 0, cells := 0, slots := 0, locals := 0 }
theorem hy_L_earliest : zY yL_earliest wsL_earliest cL_earliest 5 (some .int) 3 := ⟨⟨_, rfl⟩, by decide, by decide, by decide +kernel⟩
def lpB_L_earliest_10 (fq : Nat → Int32) (fw : Nat → Int32) (p0 : Int32)  (k_10 : Int32 → Int32 → Option (Int32)) (x3 : Int32) (x4 : Int32) : Option (Int32) :=
(if x4 < 0 then
some x3
else
zlet (2 * x4) fun t19 =>
zld 16 fw t19 fun t20 =>
(if t20 = p0 then
zlet (x4 + Int32.ofInt (-1)) fun x4_32 =>
k_10 x4 x4_32
else
zlet (x4 + Int32.ofInt (-1)) fun x4_32 =>
k_10 x3 x4_32))
def lp_L_earliest_10 (fq : Nat → Int32) (fw : Nat → Int32) (p0 : Int32)  : Nat → Int32 → Int32 → Option (Int32)
  | 0 => fun _ _ => none
  | n_ + 1 => lpB_L_earliest_10 fq fw p0  (lp_L_earliest_10 fq fw p0  n_)
def d_L_earliest (fq : Nat → Int32) (fw : Nat → Int32) (p0 : Int32) : Option (Int32) :=
zld 19 fq 16 fun t5 =>
zlet (t5 - 1) fun t7 =>
lp_L_earliest_10 fq fw p0  zF (-1) t7
set_option maxHeartbeats 4000000 in
set_option maxRecDepth 100000 in
theorem c_L_earliest (l : Launch) (E : zE) (Aq Aw : Nat → Nat) (fq : Nat → Int32) (fw : Nat → Int32) (p0 : Int32) (r : Int32) (h : d_L_earliest fq fw p0 = some r) : zMi l E yL_earliest wsL_earliest rm_L_earliest [.int p0, .ref (Aq 0), .ref (Aw 0)] ((arW E Aq 19 fq) ++ (arW E Aw 16 fw)) r ((arW E Aq 19 fq) ++ (arW E Aw 16 fw)) := by
  intro sz
  refine z_entry (Qc := fun A => zQi E A r ((arW E Aq 19 fq) ++ (arW E Aw 16 fw))) (by decide) rfl (Nat.le_of_ble_eq_true rfl) ?_
  intro p e s m below meth c A X hW ls hl
  have X : zX E wsL_earliest RL cL_earliest 5 (some .int) yL_earliest p s m ([.int p0, .ref (Aq 0), .ref (Aw 0)] : List Value).toArray meth c A := X
  have hl : lv_has ls 5 [(0, .int p0), (1, .ref (Aq 0)), (2, .ref (Aw 0))] := hl
  have hr : d_L_earliest fq fw p0 = some r := h
  clear h
  unfold d_L_earliest at hr
  refine lv_iconst (v := (-1)) X.1 X.2.1 dL_earliest_0 (by decide) ?_
  refine lv_istore_n (lv' := [(3, .int (-1)), (0, .int p0), (1, .ref (Aq 0)), (2, .ref (Aw 0))]) X.1 X.2.1 dL_earliest_1 rfl hl (by decide) rfl (fun ls hl => ?_)
  refine lv_aload_n X.1 X.2.1 dL_earliest_2 rfl (lv_at hl 2 rfl) ?_
  refine lv_bipush (v := 16) X.1 X.2.1 dL_earliest_3 (by decide) ?_
  refine z_ald X hW 0 hr rfl dL_earliest_5 (fun t5 hr => ?_)
  refine lv_iconst (v := 1) X.1 X.2.1 dL_earliest_6 (by decide) ?_
  refine z_isub X hr dL_earliest_7 (fun t7 hr => ?_)
  refine lv_istore (lv' := [(4, .int t7), (3, .int (-1)), (0, .int p0), (1, .ref (Aq 0)), (2, .ref (Aw 0))]) X.1 X.2.1 dL_earliest_8 hl (by decide) rfl (fun ls hl => ?_)
  have L_10 : ∀ (n_10 : Nat), ∀ (x3 : Int32) (x4 : Int32) (H : Heap) (locs : List Loc) (ls : Array Slot), lp_L_earliest_10 fq fw p0  n_10 x3 x4 = some r → zW E A s ((arW E Aq 19 fq) ++ (arW E Aw 16 fw)) H locs → lv_has ls 5 [(0, .int p0), (1, .ref (Aq 0)), (2, .ref (Aw 0)), (3, .int x3), (4, .int x4)] → W p l e rm_L_earliest s m ([.int p0, .ref (Aq 0), .ref (Aw 0)] : List Value).toArray below meth c H locs 0 0 (MQ below (zQi E A r ((arW E Aq 19 fq) ++ (arW E Aw 16 fw))) ([.int p0, .ref (Aq 0), .ref (Aw 0)] : List Value).toArray s 0 0 A) (F0 m 10 ls []) := by
    intro n_10
    induction n_10 with
    | zero => exact fun x3 x4 H locs ls hr hW hl => absurd (show (none : Option (Int32)) = some r from hr) (fun h => by cases h)
    | succ n_10 ih_10 =>
      intro x3 x4 H locs ls hr hW hl
      have hr : lpB_L_earliest_10 fq fw p0  (lp_L_earliest_10 fq fw p0  n_10) x3 x4 = some r := hr
      unfold lpB_L_earliest_10 at hr
      refine lv_iload X.1 X.2.1 dL_earliest_10 (lv_at hl 4 rfl) ?_
      refine z_iflt X 38 hr dL_earliest_12 (by decide) (fun hr => ?_) (fun hr => ?_)
      · refine lv_iload_n X.1 X.2.1 dL_earliest_38 rfl (lv_at hl 3 rfl) ?_
        cases hr
        exact z_iret X hW rfl dL_earliest_39
      · refine lv_aload_n X.1 X.2.1 dL_earliest_15 rfl (lv_at hl 2 rfl) ?_
        refine lv_iconst (v := 2) X.1 X.2.1 dL_earliest_16 (by decide) ?_
        refine lv_iload X.1 X.2.1 dL_earliest_17 (lv_at hl 4 rfl) ?_
        refine z_imul X hr dL_earliest_19 (fun t19 hr => ?_)
        refine z_ald X hW 1 hr rfl dL_earliest_20 (fun t20 hr => ?_)
        refine lv_iload_n X.1 X.2.1 dL_earliest_21 rfl (lv_at hl 0 rfl) ?_
        refine z_cmpne X 30 hr dL_earliest_22 (by decide) (fun hr => ?_) (fun hr => ?_)
        · refine lv_iload_n X.1 X.2.1 dL_earliest_30 rfl (lv_at hl 3 rfl) ?_
          refine lv_istore_n (lv' := [(3, .int x3), (0, .int p0), (1, .ref (Aq 0)), (2, .ref (Aw 0)), (4, .int x4)]) X.1 X.2.1 dL_earliest_31 rfl hl (by decide) rfl (fun ls hl => ?_)
          refine z_iinc X (fun x4_32 => [(4, .int x4_32), (3, .int x3), (0, .int p0), (1, .ref (Aq 0)), (2, .ref (Aw 0))]) hr hl (k := 4) rfl (by decide) (fun _ => rfl) dL_earliest_32 (fun x4_32 ls hr hl => ?_)
          refine lv_goto (tgt := 10) X.1 X.2.1 dL_earliest_35 (by decide) ?_
          exact ih_10 x3 x4_32 _ _ _ hr hW (lv_sub hl [2, 3, 4, 1, 0] rfl)
        · refine lv_iload X.1 X.2.1 dL_earliest_25 (lv_at hl 4 rfl) ?_
          refine lv_goto (tgt := 31) X.1 X.2.1 dL_earliest_27 (by decide) ?_
          refine lv_istore_n (lv' := [(3, .int x4), (0, .int p0), (1, .ref (Aq 0)), (2, .ref (Aw 0)), (4, .int x4)]) X.1 X.2.1 dL_earliest_31 rfl hl (by decide) rfl (fun ls hl => ?_)
          refine z_iinc X (fun x4_32 => [(4, .int x4_32), (3, .int x4), (0, .int p0), (1, .ref (Aq 0)), (2, .ref (Aw 0))]) hr hl (k := 4) rfl (by decide) (fun _ => rfl) dL_earliest_32 (fun x4_32 ls hr hl => ?_)
          refine lv_goto (tgt := 10) X.1 X.2.1 dL_earliest_35 (by decide) ?_
          exact ih_10 x4 x4_32 _ _ _ hr hW (lv_sub hl [2, 3, 4, 1, 0] rfl)
  exact L_10 _ (-1) t7 _ _ _ hr hW (lv_sub hl [2, 3, 4, 1, 0] rfl)
abbrev rm_L_plays : Room := { frames := 1, cells := 0, slots := 0, locals := 25 }
theorem hy_L_plays : zY yL_plays wsL_plays cL_plays 7 (some .int) 5 := ⟨⟨_, rfl⟩, by decide, by decide, by decide +kernel⟩
def d_L_plays (fq : Nat → Int32) (fa : Nat → Int32) (fp : Nat → Int32) (fw : Nat → Int32) (p0 : Int32) : Option (Int32 × (Nat → Int32) × (Nat → Int32) × (Nat → Int32) × (Nat → Int32)) :=
zcl (d_L_earliest fq fw p0) fun t4 =>
(if 0 ≤ t4 then
zup (d_L_drops fq fw t4) (fun z9 => (z9.1, z9.2)) fun u22 =>
zlet (3 * p0) fun t28 =>
zld 18 fp t28 fun t30 =>
zlet (t30 + 1) fun t32 =>
zst 18 fp t28 t32 fun fp33 =>
zld 19 u22.1 10 fun t38 =>
zlet (t38 + 1) fun t40 =>
zst 19 u22.1 10 t40 fun fq41 =>
zup2 (d_L_ends fq41 fa fp33 p0) (fun z9 => (z9.1, z9.2.1, z9.2.2)) fun t46 u46 =>
(if 0 ≤ t46 then
zcl (d_L_owes u46.1 u22.2 p0) fun t65 =>
some (t65, u46.1, u46.2.1, u46.2.2, u22.2)
else
some (t46, u46.1, u46.2.1, u46.2.2, u22.2))
else
some ((-5), fq, fa, fp, fw))
set_option maxHeartbeats 4000000 in
set_option maxRecDepth 100000 in
theorem c_L_plays (l : Launch) (E : zE) (Aq Aa Ap Aw : Nat → Nat) (fq : Nat → Int32) (fa : Nat → Int32) (fp : Nat → Int32) (fw : Nat → Int32) (p0 : Int32) (r : Int32 × (Nat → Int32) × (Nat → Int32) × (Nat → Int32) × (Nat → Int32)) (h : d_L_plays fq fa fp fw p0 = some r) : zMi l E yL_plays wsL_plays rm_L_plays [.int p0, .ref (Aq 0), .ref (Aa 0), .ref (Ap 0), .ref (Aw 0)] ((arW E Aq 19 fq) ++ ((arW E Aa 30 fa) ++ ((arW E Ap 18 fp) ++ (arW E Aw 16 fw)))) r.1 ((arW E Aq 19 r.2.1) ++ ((arW E Aa 30 r.2.2.1) ++ ((arW E Ap 18 r.2.2.2.1) ++ (arW E Aw 16 r.2.2.2.2)))) := by
  intro sz
  refine z_entry (Qc := fun A => zQi E A r.1 ((arW E Aq 19 r.2.1) ++ ((arW E Aa 30 r.2.2.1) ++ ((arW E Ap 18 r.2.2.2.1) ++ (arW E Aw 16 r.2.2.2.2))))) (by decide) rfl (Nat.le_of_ble_eq_true rfl) ?_
  intro p e s m below meth c A X hW ls hl
  have X : zX E wsL_plays RL cL_plays 7 (some .int) yL_plays p s m ([.int p0, .ref (Aq 0), .ref (Aa 0), .ref (Ap 0), .ref (Aw 0)] : List Value).toArray meth c A := X
  have hl : lv_has ls 7 [(0, .int p0), (1, .ref (Aq 0)), (2, .ref (Aa 0)), (3, .ref (Ap 0)), (4, .ref (Aw 0))] := hl
  have hr : d_L_plays fq fa fp fw p0 = some r := h
  clear h
  unfold d_L_plays at hr
  refine lv_iload_n X.1 X.2.1 dL_plays_0 rfl (lv_at hl 0 rfl) ?_
  refine lv_aload_n X.1 X.2.1 dL_plays_1 rfl (lv_at hl 1 rfl) ?_
  refine lv_aload X.1 X.2.1 dL_plays_2 (lv_at hl 4 rfl) ?_
  have hp_4 := (z_sp2 (z_all (arW E Aq 19 fq)) (z_spr (arW E Aa 30 fa) (z_spr (arW E Ap 18 fp) (z_all (arW E Aw 16 fw)))))
  refine z_callp X hW hr hp_4 (fun x h => z_runS (As := [.int p0, .ref (Aq 0), .ref (Aw 0)]) (rest := []) X hW hp_4 (c_L_earliest l E Aq Aw fq fw p0 x h _) hy_L_earliest gL_plays_L_earliest rfl rfl ⟨by decide, by decide⟩ rfl hl rfl rfl (Nat.le_of_ble_eq_true rfl) dL_plays_4 ⟨Nat.zero_le _, Nat.zero_le _⟩) (fun t4 H locs hr hW => ?_)
  refine lv_istore (lv' := [(5, .int t4), (0, .int p0), (1, .ref (Aq 0)), (2, .ref (Aa 0)), (3, .ref (Ap 0)), (4, .ref (Aw 0))]) X.1 X.2.1 dL_plays_7 hl (by decide) rfl (fun ls hl => ?_)
  refine lv_iload X.1 X.2.1 dL_plays_9 (lv_at hl 0 rfl) ?_
  refine z_ifge X 17 hr dL_plays_11 (by decide) (fun hr => ?_) (fun hr => ?_)
  · refine lv_iload X.1 X.2.1 dL_plays_17 (lv_at hl 0 rfl) ?_
    refine lv_aload_n X.1 X.2.1 dL_plays_19 rfl (lv_at hl 2 rfl) ?_
    refine lv_aload X.1 X.2.1 dL_plays_20 (lv_at hl 5 rfl) ?_
    have hp_22 := (z_sp2 (z_all (arW E Aq 19 fq)) (z_spr (arW E Aa 30 fa) (z_spr (arW E Ap 18 fp) (z_all (arW E Aw 16 fw)))))
    refine z_callv X hW (fun z9 => (z9.1, z9.2)) hr hp_22 (fun z9 => ((arW E Aq 19 z9.1) ++ (arW E Aw 16 z9.2))) (fun u22 => ((arW E Aq 19 u22.1) ++ ((arW E Aa 30 fa) ++ ((arW E Ap 18 fp) ++ (arW E Aw 16 u22.2))))) (fun z9 => (z_jn2 (z_lla (arW E Aq 19 z9.1)) (z_jnr (arW E Aa 30 fa) (z_jnr (arW E Ap 18 fp) (z_lla (arW E Aw 16 z9.2)))))) (fun z9 h => z_runS (As := [.int t4, .ref (Aq 0), .ref (Aw 0)]) (rest := []) X hW hp_22 (c_L_drops l E Aq Aw fq fw t4 z9 h _) hy_L_drops gL_plays_L_drops rfl rfl ⟨by decide, by decide⟩ rfl hl rfl rfl (Nat.le_of_ble_eq_true rfl) dL_plays_22 ⟨Nat.zero_le _, Nat.zero_le _⟩) (fun u22 H locs hr hW => ?_)
    refine lv_aload_n X.1 X.2.1 dL_plays_25 rfl (lv_at hl 4 rfl) ?_
    refine lv_iconst (v := 3) X.1 X.2.1 dL_plays_26 (by decide) ?_
    refine lv_iload_n X.1 X.2.1 dL_plays_27 rfl (lv_at hl 1 rfl) ?_
    refine z_imul X hr dL_plays_28 (fun t28 hr => ?_)
    refine lv_dup2_11 X.1 X.2.1 dL_plays_29 rfl rfl ?_
    refine z_ald X hW 2 hr rfl dL_plays_30 (fun t30 hr => ?_)
    refine lv_iconst (v := 1) X.1 X.2.1 dL_plays_31 (by decide) ?_
    refine z_iadd X hr dL_plays_32 (fun t32 hr => ?_)
    refine z_ast X hW 2 hr (fun fp33 => ((arW E Aq 19 u22.1) ++ ((arW E Aa 30 fa) ++ ((arW E Ap 18 fp33) ++ (arW E Aw 16 u22.2))))) rfl (fun _ => rfl) dL_plays_33 (fun fp33 H locs hr hW => ?_)
    refine lv_aload_n X.1 X.2.1 dL_plays_34 rfl (lv_at hl 2 rfl) ?_
    refine lv_bipush (v := 10) X.1 X.2.1 dL_plays_35 (by decide) ?_
    refine lv_dup2_11 X.1 X.2.1 dL_plays_37 rfl rfl ?_
    refine z_ald X hW 0 hr rfl dL_plays_38 (fun t38 hr => ?_)
    refine lv_iconst (v := 1) X.1 X.2.1 dL_plays_39 (by decide) ?_
    refine z_iadd X hr dL_plays_40 (fun t40 hr => ?_)
    refine z_ast X hW 0 hr (fun fq41 => ((arW E Aq 19 fq41) ++ ((arW E Aa 30 fa) ++ ((arW E Ap 18 fp33) ++ (arW E Aw 16 u22.2))))) rfl (fun _ => rfl) dL_plays_41 (fun fq41 H locs hr hW => ?_)
    refine lv_iload_n X.1 X.2.1 dL_plays_42 rfl (lv_at hl 1 rfl) ?_
    refine lv_aload_n X.1 X.2.1 dL_plays_43 rfl (lv_at hl 2 rfl) ?_
    refine lv_aload_n X.1 X.2.1 dL_plays_44 rfl (lv_at hl 3 rfl) ?_
    refine lv_aload_n X.1 X.2.1 dL_plays_45 rfl (lv_at hl 4 rfl) ?_
    have hp_46 := (z_sp2 (z_all (arW E Aq 19 fq41)) (z_sp2 (z_all (arW E Aa 30 fa)) (z_spl (arW E Aw 16 u22.2) (z_all (arW E Ap 18 fp33)))))
    refine z_calli X hW (fun z9 => (z9.1, z9.2.1, z9.2.2)) hr hp_46 (fun z9 => ((arW E Aq 19 z9.1) ++ ((arW E Aa 30 z9.2.1) ++ (arW E Ap 18 z9.2.2)))) (fun u46 => ((arW E Aq 19 u46.1) ++ ((arW E Aa 30 u46.2.1) ++ ((arW E Ap 18 u46.2.2) ++ (arW E Aw 16 u22.2))))) (fun z9 => (z_jn2 (z_lla (arW E Aq 19 z9.1)) (z_jn2 (z_lla (arW E Aa 30 z9.2.1)) (z_jnl (arW E Aw 16 u22.2) (z_lla (arW E Ap 18 z9.2.2)))))) (fun x z9 h => z_runS (As := [.int p0, .ref (Aq 0), .ref (Aa 0), .ref (Ap 0)]) (rest := []) X hW hp_46 (c_L_ends l E Aq Aa Ap fq41 fa fp33 p0 (x, z9) h _) hy_L_ends gL_plays_L_ends rfl rfl ⟨by decide, by decide⟩ rfl hl rfl rfl (Nat.le_of_ble_eq_true rfl) dL_plays_46 ⟨Nat.zero_le _, Nat.zero_le _⟩) (fun t46 u46 H locs hr hW => ?_)
    refine lv_istore (lv' := [(6, .int t46), (5, .int t4), (0, .int p0), (1, .ref (Aq 0)), (2, .ref (Aa 0)), (3, .ref (Ap 0)), (4, .ref (Aw 0))]) X.1 X.2.1 dL_plays_49 hl (by decide) rfl (fun ls hl => ?_)
    refine lv_iload X.1 X.2.1 dL_plays_51 (lv_at hl 0 rfl) ?_
    refine z_ifge X 61 hr dL_plays_53 (by decide) (fun hr => ?_) (fun hr => ?_)
    · refine lv_iload_n X.1 X.2.1 dL_plays_61 rfl (lv_at hl 2 rfl) ?_
      refine lv_aload_n X.1 X.2.1 dL_plays_62 rfl (lv_at hl 3 rfl) ?_
      refine lv_aload X.1 X.2.1 dL_plays_63 (lv_at hl 6 rfl) ?_
      have hp_65 := (z_sp2 (z_all (arW E Aq 19 u46.1)) (z_spr (arW E Aa 30 u46.2.1) (z_spr (arW E Ap 18 u46.2.2) (z_all (arW E Aw 16 u22.2)))))
      refine z_callp X hW hr hp_65 (fun x h => z_runS (As := [.int p0, .ref (Aq 0), .ref (Aw 0)]) (rest := []) X hW hp_65 (c_L_owes l E Aq Aw u46.1 u22.2 p0 x h _) hy_L_owes gL_plays_L_owes rfl rfl ⟨by decide, by decide⟩ rfl hl rfl rfl (Nat.le_of_ble_eq_true rfl) dL_plays_65 ⟨Nat.zero_le _, Nat.zero_le _⟩) (fun t65 H locs hr hW => ?_)
      cases hr
      exact z_iret X hW rfl dL_plays_68
    · refine lv_iload X.1 X.2.1 dL_plays_56 (lv_at hl 0 rfl) ?_
      refine lv_goto (tgt := 68) X.1 X.2.1 dL_plays_58 (by decide) ?_
      cases hr
      exact z_iret X hW rfl dL_plays_68
  · refine lv_bipush (v := (-5)) X.1 X.2.1 dL_plays_14 (by decide) ?_
    cases hr
    exact z_iret X hW rfl dL_plays_16
abbrev rm_L_nights : Room := { frames := 1, cells := 0, slots := 0, locals := 22 }
theorem hy_L_nights : zY yL_nights wsL_nights cL_nights 8 (some .int) 6 := ⟨⟨_, rfl⟩, by decide, by decide, by decide +kernel⟩
def lpB_L_nights_100 (fw : Nat → Int32)  (k_100 : Int32 → Int32 → (Nat → Int32) → (Nat → Int32) → (Nat → Int32) → (Nat → Int32) → (Nat → Int32) → Option (Int32 × (Nat → Int32) × (Nat → Int32) × (Nat → Int32) × (Nat → Int32) × (Nat → Int32))) (x6 : Int32) (x7 : Int32) (fq : Nat → Int32) (fa : Nat → Int32) (fn : Nat → Int32) (fp : Nat → Int32) (fc : Nat → Int32) : Option (Int32 × (Nat → Int32) × (Nat → Int32) × (Nat → Int32) × (Nat → Int32) × (Nat → Int32)) :=
(if 30 ≤ x7 then
zst 19 fq 6 0 fun fq131 =>
zld 19 fq131 8 fun t136 =>
zlet (t136 + 1) fun t138 =>
zst 19 fq131 8 t138 fun fq139 =>
zst 19 fq139 13 (-1) fun fq144 =>
zst 19 fq144 16 0 fun fq149 =>
zst 19 fq149 17 0 fun fq154 =>
zld 19 fq154 18 fun t159 =>
zld 19 fq154 18 fun t163 =>
(if 6 ≤ t163 then
zlet (t159 + 0) fun t174 =>
zst 19 fq154 18 t174 fun fq175 =>
some (x6, fq175, fa, fn, fp, fc)
else
zlet (t159 + 1) fun t174 =>
zst 19 fq154 18 t174 fun fq175 =>
some (x6, fq175, fa, fn, fp, fc))
else
zst 30 fn x7 0 fun fn111 =>
zld 30 fa x7 fun t116 =>
zlet (t116 &&& 31) fun t119 =>
zst 30 fa x7 t119 fun fa120 =>
zlet (x7 + Int32.ofInt 1) fun x7_121 =>
k_100 x6 x7_121 fq fa120 fn111 fp fc)
def lp_L_nights_100 (fw : Nat → Int32)  : Nat → Int32 → Int32 → (Nat → Int32) → (Nat → Int32) → (Nat → Int32) → (Nat → Int32) → (Nat → Int32) → Option (Int32 × (Nat → Int32) × (Nat → Int32) × (Nat → Int32) × (Nat → Int32) × (Nat → Int32))
  | 0 => fun _ _ _ _ _ _ _ => none
  | n_ + 1 => lpB_L_nights_100 fw  (lp_L_nights_100 fw  n_)
def lpB_L_nights_65 (fw : Nat → Int32)  (k_65 : Int32 → Int32 → (Nat → Int32) → (Nat → Int32) → (Nat → Int32) → (Nat → Int32) → (Nat → Int32) → Option (Int32 × (Nat → Int32) × (Nat → Int32) × (Nat → Int32) × (Nat → Int32) × (Nat → Int32))) (x6 : Int32) (x7 : Int32) (fq : Nat → Int32) (fa : Nat → Int32) (fn : Nat → Int32) (fp : Nat → Int32) (fc : Nat → Int32) : Option (Int32 × (Nat → Int32) × (Nat → Int32) × (Nat → Int32) × (Nat → Int32) × (Nat → Int32)) :=
(if 4 ≤ x7 then
lp_L_nights_100 fw  zF x6 0 fq fa fn fp fc
else
zlet (9 + x7) fun t80 =>
zld 19 fq t80 fun t81 =>
zst 24 fc x7 t81 fun fc82 =>
zlet (9 + x7) fun t88 =>
zst 19 fq t88 0 fun fq90 =>
zlet (x7 + Int32.ofInt 1) fun x7_91 =>
k_65 x6 x7_91 fq90 fa fn fp fc82)
def lp_L_nights_65 (fw : Nat → Int32)  : Nat → Int32 → Int32 → (Nat → Int32) → (Nat → Int32) → (Nat → Int32) → (Nat → Int32) → (Nat → Int32) → Option (Int32 × (Nat → Int32) × (Nat → Int32) × (Nat → Int32) × (Nat → Int32) × (Nat → Int32))
  | 0 => fun _ _ _ _ _ _ _ => none
  | n_ + 1 => lpB_L_nights_65 fw  (lp_L_nights_65 fw  n_)
def lpB_L_nights_38 (fw : Nat → Int32)  (k_38 : Int32 → Int32 → (Nat → Int32) → (Nat → Int32) → (Nat → Int32) → (Nat → Int32) → (Nat → Int32) → Option (Int32 × (Nat → Int32) × (Nat → Int32) × (Nat → Int32) × (Nat → Int32) × (Nat → Int32))) (x6 : Int32) (x7 : Int32) (fq : Nat → Int32) (fa : Nat → Int32) (fn : Nat → Int32) (fp : Nat → Int32) (fc : Nat → Int32) : Option (Int32 × (Nat → Int32) × (Nat → Int32) × (Nat → Int32) × (Nat → Int32) × (Nat → Int32)) :=
(if x7 ≤ 3 then
lp_L_nights_65 fw  zF x6 0 fq fa fn fp fc
else
zlet (x7 - 4) fun t53 =>
zld 24 fc t53 fun t54 =>
zst 24 fc x7 t54 fun fc55 =>
zlet (x7 + Int32.ofInt (-1)) fun x7_56 =>
k_38 x6 x7_56 fq fa fn fp fc55)
def lp_L_nights_38 (fw : Nat → Int32)  : Nat → Int32 → Int32 → (Nat → Int32) → (Nat → Int32) → (Nat → Int32) → (Nat → Int32) → (Nat → Int32) → Option (Int32 × (Nat → Int32) × (Nat → Int32) × (Nat → Int32) × (Nat → Int32) × (Nat → Int32))
  | 0 => fun _ _ _ _ _ _ _ => none
  | n_ + 1 => lpB_L_nights_38 fw  (lp_L_nights_38 fw  n_)
def lpB_L_nights_9 (fw : Nat → Int32)  (k_9 : Int32 → Int32 → (Nat → Int32) → (Nat → Int32) → (Nat → Int32) → (Nat → Int32) → (Nat → Int32) → Option (Int32 × (Nat → Int32) × (Nat → Int32) × (Nat → Int32) × (Nat → Int32) × (Nat → Int32))) (x6 : Int32) (x7 : Int32) (fq : Nat → Int32) (fa : Nat → Int32) (fn : Nat → Int32) (fp : Nat → Int32) (fc : Nat → Int32) : Option (Int32 × (Nat → Int32) × (Nat → Int32) × (Nat → Int32) × (Nat → Int32) × (Nat → Int32)) :=
(if x6 ≤ x7 then
lp_L_nights_38 fw  zF x6 23 fq fa fn fp fc
else
zlet (2 * x7) fun t21 =>
zld 16 fw t21 fun t22 =>
zup (d_L_lapses fq fp t22) (fun z9 => (z9.1, z9.2)) fun u25 =>
zlet (x7 + Int32.ofInt 1) fun x7_28 =>
k_9 x6 x7_28 u25.1 fa fn u25.2 fc)
def lp_L_nights_9 (fw : Nat → Int32)  : Nat → Int32 → Int32 → (Nat → Int32) → (Nat → Int32) → (Nat → Int32) → (Nat → Int32) → (Nat → Int32) → Option (Int32 × (Nat → Int32) × (Nat → Int32) × (Nat → Int32) × (Nat → Int32) × (Nat → Int32))
  | 0 => fun _ _ _ _ _ _ _ => none
  | n_ + 1 => lpB_L_nights_9 fw  (lp_L_nights_9 fw  n_)
def d_L_nights (fq : Nat → Int32) (fa : Nat → Int32) (fn : Nat → Int32) (fp : Nat → Int32) (fw : Nat → Int32) (fc : Nat → Int32) : Option (Int32 × (Nat → Int32) × (Nat → Int32) × (Nat → Int32) × (Nat → Int32) × (Nat → Int32)) :=
zld 19 fq 16 fun t3 =>
lp_L_nights_9 fw  zF t3 0 fq fa fn fp fc
set_option maxHeartbeats 4000000 in
set_option maxRecDepth 100000 in
theorem c_L_nights (l : Launch) (E : zE) (Aq Aa An Ap Aw Ac : Nat → Nat) (fq : Nat → Int32) (fa : Nat → Int32) (fn : Nat → Int32) (fp : Nat → Int32) (fw : Nat → Int32) (fc : Nat → Int32) (r : Int32 × (Nat → Int32) × (Nat → Int32) × (Nat → Int32) × (Nat → Int32) × (Nat → Int32)) (h : d_L_nights fq fa fn fp fw fc = some r) : zMi l E yL_nights wsL_nights rm_L_nights [.ref (Aq 0), .ref (Aa 0), .ref (An 0), .ref (Ap 0), .ref (Aw 0), .ref (Ac 0)] ((arW E Aq 19 fq) ++ ((arW E Aa 30 fa) ++ ((arW E An 30 fn) ++ ((arW E Ap 18 fp) ++ ((arW E Aw 16 fw) ++ (arW E Ac 24 fc)))))) r.1 ((arW E Aq 19 r.2.1) ++ ((arW E Aa 30 r.2.2.1) ++ ((arW E An 30 r.2.2.2.1) ++ ((arW E Ap 18 r.2.2.2.2.1) ++ ((arW E Aw 16 fw) ++ (arW E Ac 24 r.2.2.2.2.2)))))) := by
  intro sz
  refine z_entry (Qc := fun A => zQi E A r.1 ((arW E Aq 19 r.2.1) ++ ((arW E Aa 30 r.2.2.1) ++ ((arW E An 30 r.2.2.2.1) ++ ((arW E Ap 18 r.2.2.2.2.1) ++ ((arW E Aw 16 fw) ++ (arW E Ac 24 r.2.2.2.2.2))))))) (by decide) rfl (Nat.le_of_ble_eq_true rfl) ?_
  intro p e s m below meth c A X hW ls hl
  have X : zX E wsL_nights RL cL_nights 8 (some .int) yL_nights p s m ([.ref (Aq 0), .ref (Aa 0), .ref (An 0), .ref (Ap 0), .ref (Aw 0), .ref (Ac 0)] : List Value).toArray meth c A := X
  have hl : lv_has ls 8 [(0, .ref (Aq 0)), (1, .ref (Aa 0)), (2, .ref (An 0)), (3, .ref (Ap 0)), (4, .ref (Aw 0)), (5, .ref (Ac 0))] := hl
  have hr : d_L_nights fq fa fn fp fw fc = some r := h
  clear h
  unfold d_L_nights at hr
  refine lv_aload_n X.1 X.2.1 dL_nights_0 rfl (lv_at hl 0 rfl) ?_
  refine lv_bipush (v := 16) X.1 X.2.1 dL_nights_1 (by decide) ?_
  refine z_ald X hW 0 hr rfl dL_nights_3 (fun t3 hr => ?_)
  refine lv_istore (lv' := [(6, .int t3), (0, .ref (Aq 0)), (1, .ref (Aa 0)), (2, .ref (An 0)), (3, .ref (Ap 0)), (4, .ref (Aw 0)), (5, .ref (Ac 0))]) X.1 X.2.1 dL_nights_4 hl (by decide) rfl (fun ls hl => ?_)
  refine lv_iconst (v := 0) X.1 X.2.1 dL_nights_6 (by decide) ?_
  refine lv_istore (lv' := [(7, .int 0), (6, .int t3), (0, .ref (Aq 0)), (1, .ref (Aa 0)), (2, .ref (An 0)), (3, .ref (Ap 0)), (4, .ref (Aw 0)), (5, .ref (Ac 0))]) X.1 X.2.1 dL_nights_7 hl (by decide) rfl (fun ls hl => ?_)
  have L_9 : ∀ (n_9 : Nat), ∀ (x6 : Int32) (x7 : Int32) (fq : Nat → Int32) (fa : Nat → Int32) (fn : Nat → Int32) (fp : Nat → Int32) (fc : Nat → Int32) (H : Heap) (locs : List Loc) (ls : Array Slot), lp_L_nights_9 fw  n_9 x6 x7 fq fa fn fp fc = some r → zW E A s ((arW E Aq 19 fq) ++ ((arW E Aa 30 fa) ++ ((arW E An 30 fn) ++ ((arW E Ap 18 fp) ++ ((arW E Aw 16 fw) ++ (arW E Ac 24 fc)))))) H locs → lv_has ls 8 [(0, .ref (Aq 0)), (1, .ref (Aa 0)), (2, .ref (An 0)), (3, .ref (Ap 0)), (4, .ref (Aw 0)), (5, .ref (Ac 0)), (6, .int x6), (7, .int x7)] → W p l e rm_L_nights s m ([.ref (Aq 0), .ref (Aa 0), .ref (An 0), .ref (Ap 0), .ref (Aw 0), .ref (Ac 0)] : List Value).toArray below meth c H locs 0 0 (MQ below (zQi E A r.1 ((arW E Aq 19 r.2.1) ++ ((arW E Aa 30 r.2.2.1) ++ ((arW E An 30 r.2.2.2.1) ++ ((arW E Ap 18 r.2.2.2.2.1) ++ ((arW E Aw 16 fw) ++ (arW E Ac 24 r.2.2.2.2.2))))))) ([.ref (Aq 0), .ref (Aa 0), .ref (An 0), .ref (Ap 0), .ref (Aw 0), .ref (Ac 0)] : List Value).toArray s 0 0 A) (F0 m 9 ls []) := by
    intro n_9
    induction n_9 with
    | zero => exact fun x6 x7 fq fa fn fp fc H locs ls hr hW hl => absurd (show (none : Option (Int32 × (Nat → Int32) × (Nat → Int32) × (Nat → Int32) × (Nat → Int32) × (Nat → Int32))) = some r from hr) (fun h => by cases h)
    | succ n_9 ih_9 =>
      intro x6 x7 fq fa fn fp fc H locs ls hr hW hl
      have hr : lpB_L_nights_9 fw  (lp_L_nights_9 fw  n_9) x6 x7 fq fa fn fp fc = some r := hr
      unfold lpB_L_nights_9 at hr
      refine lv_iload X.1 X.2.1 dL_nights_9 (lv_at hl 7 rfl) ?_
      refine lv_iload X.1 X.2.1 dL_nights_11 (lv_at hl 6 rfl) ?_
      refine z_cmpge X 34 hr dL_nights_13 (by decide) (fun hr => ?_) (fun hr => ?_)
      · refine lv_bipush (v := 23) X.1 X.2.1 dL_nights_34 (by decide) ?_
        refine lv_istore (lv' := [(7, .int 23), (0, .ref (Aq 0)), (1, .ref (Aa 0)), (2, .ref (An 0)), (3, .ref (Ap 0)), (4, .ref (Aw 0)), (5, .ref (Ac 0)), (6, .int x6)]) X.1 X.2.1 dL_nights_36 hl (by decide) rfl (fun ls hl => ?_)
        have L_38 : ∀ (n_38 : Nat), ∀ (x6 : Int32) (x7 : Int32) (fq : Nat → Int32) (fa : Nat → Int32) (fn : Nat → Int32) (fp : Nat → Int32) (fc : Nat → Int32) (H : Heap) (locs : List Loc) (ls : Array Slot), lp_L_nights_38 fw  n_38 x6 x7 fq fa fn fp fc = some r → zW E A s ((arW E Aq 19 fq) ++ ((arW E Aa 30 fa) ++ ((arW E An 30 fn) ++ ((arW E Ap 18 fp) ++ ((arW E Aw 16 fw) ++ (arW E Ac 24 fc)))))) H locs → lv_has ls 8 [(0, .ref (Aq 0)), (1, .ref (Aa 0)), (2, .ref (An 0)), (3, .ref (Ap 0)), (4, .ref (Aw 0)), (5, .ref (Ac 0)), (6, .int x6), (7, .int x7)] → W p l e rm_L_nights s m ([.ref (Aq 0), .ref (Aa 0), .ref (An 0), .ref (Ap 0), .ref (Aw 0), .ref (Ac 0)] : List Value).toArray below meth c H locs 0 0 (MQ below (zQi E A r.1 ((arW E Aq 19 r.2.1) ++ ((arW E Aa 30 r.2.2.1) ++ ((arW E An 30 r.2.2.2.1) ++ ((arW E Ap 18 r.2.2.2.2.1) ++ ((arW E Aw 16 fw) ++ (arW E Ac 24 r.2.2.2.2.2))))))) ([.ref (Aq 0), .ref (Aa 0), .ref (An 0), .ref (Ap 0), .ref (Aw 0), .ref (Ac 0)] : List Value).toArray s 0 0 A) (F0 m 38 ls []) := by
          intro n_38
          induction n_38 with
          | zero => exact fun x6 x7 fq fa fn fp fc H locs ls hr hW hl => absurd (show (none : Option (Int32 × (Nat → Int32) × (Nat → Int32) × (Nat → Int32) × (Nat → Int32) × (Nat → Int32))) = some r from hr) (fun h => by cases h)
          | succ n_38 ih_38 =>
            intro x6 x7 fq fa fn fp fc H locs ls hr hW hl
            have hr : lpB_L_nights_38 fw  (lp_L_nights_38 fw  n_38) x6 x7 fq fa fn fp fc = some r := hr
            unfold lpB_L_nights_38 at hr
            refine lv_iload X.1 X.2.1 dL_nights_38 (lv_at hl 7 rfl) ?_
            refine lv_iconst (v := 3) X.1 X.2.1 dL_nights_40 (by decide) ?_
            refine z_cmple X 62 hr dL_nights_41 (by decide) (fun hr => ?_) (fun hr => ?_)
            · refine lv_iconst (v := 0) X.1 X.2.1 dL_nights_62 (by decide) ?_
              refine lv_istore (lv' := [(7, .int 0), (0, .ref (Aq 0)), (1, .ref (Aa 0)), (2, .ref (An 0)), (3, .ref (Ap 0)), (4, .ref (Aw 0)), (5, .ref (Ac 0)), (6, .int x6)]) X.1 X.2.1 dL_nights_63 hl (by decide) rfl (fun ls hl => ?_)
              have L_65 : ∀ (n_65 : Nat), ∀ (x6 : Int32) (x7 : Int32) (fq : Nat → Int32) (fa : Nat → Int32) (fn : Nat → Int32) (fp : Nat → Int32) (fc : Nat → Int32) (H : Heap) (locs : List Loc) (ls : Array Slot), lp_L_nights_65 fw  n_65 x6 x7 fq fa fn fp fc = some r → zW E A s ((arW E Aq 19 fq) ++ ((arW E Aa 30 fa) ++ ((arW E An 30 fn) ++ ((arW E Ap 18 fp) ++ ((arW E Aw 16 fw) ++ (arW E Ac 24 fc)))))) H locs → lv_has ls 8 [(0, .ref (Aq 0)), (1, .ref (Aa 0)), (2, .ref (An 0)), (3, .ref (Ap 0)), (4, .ref (Aw 0)), (5, .ref (Ac 0)), (6, .int x6), (7, .int x7)] → W p l e rm_L_nights s m ([.ref (Aq 0), .ref (Aa 0), .ref (An 0), .ref (Ap 0), .ref (Aw 0), .ref (Ac 0)] : List Value).toArray below meth c H locs 0 0 (MQ below (zQi E A r.1 ((arW E Aq 19 r.2.1) ++ ((arW E Aa 30 r.2.2.1) ++ ((arW E An 30 r.2.2.2.1) ++ ((arW E Ap 18 r.2.2.2.2.1) ++ ((arW E Aw 16 fw) ++ (arW E Ac 24 r.2.2.2.2.2))))))) ([.ref (Aq 0), .ref (Aa 0), .ref (An 0), .ref (Ap 0), .ref (Aw 0), .ref (Ac 0)] : List Value).toArray s 0 0 A) (F0 m 65 ls []) := by
                intro n_65
                induction n_65 with
                | zero => exact fun x6 x7 fq fa fn fp fc H locs ls hr hW hl => absurd (show (none : Option (Int32 × (Nat → Int32) × (Nat → Int32) × (Nat → Int32) × (Nat → Int32) × (Nat → Int32))) = some r from hr) (fun h => by cases h)
                | succ n_65 ih_65 =>
                  intro x6 x7 fq fa fn fp fc H locs ls hr hW hl
                  have hr : lpB_L_nights_65 fw  (lp_L_nights_65 fw  n_65) x6 x7 fq fa fn fp fc = some r := hr
                  unfold lpB_L_nights_65 at hr
                  refine lv_iload X.1 X.2.1 dL_nights_65 (lv_at hl 7 rfl) ?_
                  refine lv_iconst (v := 4) X.1 X.2.1 dL_nights_67 (by decide) ?_
                  refine z_cmpge X 97 hr dL_nights_68 (by decide) (fun hr => ?_) (fun hr => ?_)
                  · refine lv_iconst (v := 0) X.1 X.2.1 dL_nights_97 (by decide) ?_
                    refine lv_istore (lv' := [(7, .int 0), (0, .ref (Aq 0)), (1, .ref (Aa 0)), (2, .ref (An 0)), (3, .ref (Ap 0)), (4, .ref (Aw 0)), (5, .ref (Ac 0)), (6, .int x6)]) X.1 X.2.1 dL_nights_98 hl (by decide) rfl (fun ls hl => ?_)
                    have L_100 : ∀ (n_100 : Nat), ∀ (x6 : Int32) (x7 : Int32) (fq : Nat → Int32) (fa : Nat → Int32) (fn : Nat → Int32) (fp : Nat → Int32) (fc : Nat → Int32) (H : Heap) (locs : List Loc) (ls : Array Slot), lp_L_nights_100 fw  n_100 x6 x7 fq fa fn fp fc = some r → zW E A s ((arW E Aq 19 fq) ++ ((arW E Aa 30 fa) ++ ((arW E An 30 fn) ++ ((arW E Ap 18 fp) ++ ((arW E Aw 16 fw) ++ (arW E Ac 24 fc)))))) H locs → lv_has ls 8 [(0, .ref (Aq 0)), (1, .ref (Aa 0)), (2, .ref (An 0)), (3, .ref (Ap 0)), (4, .ref (Aw 0)), (5, .ref (Ac 0)), (6, .int x6), (7, .int x7)] → W p l e rm_L_nights s m ([.ref (Aq 0), .ref (Aa 0), .ref (An 0), .ref (Ap 0), .ref (Aw 0), .ref (Ac 0)] : List Value).toArray below meth c H locs 0 0 (MQ below (zQi E A r.1 ((arW E Aq 19 r.2.1) ++ ((arW E Aa 30 r.2.2.1) ++ ((arW E An 30 r.2.2.2.1) ++ ((arW E Ap 18 r.2.2.2.2.1) ++ ((arW E Aw 16 fw) ++ (arW E Ac 24 r.2.2.2.2.2))))))) ([.ref (Aq 0), .ref (Aa 0), .ref (An 0), .ref (Ap 0), .ref (Aw 0), .ref (Ac 0)] : List Value).toArray s 0 0 A) (F0 m 100 ls []) := by
                      intro n_100
                      induction n_100 with
                      | zero => exact fun x6 x7 fq fa fn fp fc H locs ls hr hW hl => absurd (show (none : Option (Int32 × (Nat → Int32) × (Nat → Int32) × (Nat → Int32) × (Nat → Int32) × (Nat → Int32))) = some r from hr) (fun h => by cases h)
                      | succ n_100 ih_100 =>
                        intro x6 x7 fq fa fn fp fc H locs ls hr hW hl
                        have hr : lpB_L_nights_100 fw  (lp_L_nights_100 fw  n_100) x6 x7 fq fa fn fp fc = some r := hr
                        unfold lpB_L_nights_100 at hr
                        refine lv_iload X.1 X.2.1 dL_nights_100 (lv_at hl 7 rfl) ?_
                        refine lv_bipush (v := 30) X.1 X.2.1 dL_nights_102 (by decide) ?_
                        refine z_cmpge X 127 hr dL_nights_104 (by decide) (fun hr => ?_) (fun hr => ?_)
                        · refine lv_aload_n X.1 X.2.1 dL_nights_127 rfl (lv_at hl 0 rfl) ?_
                          refine lv_bipush (v := 6) X.1 X.2.1 dL_nights_128 (by decide) ?_
                          refine lv_iconst (v := 0) X.1 X.2.1 dL_nights_130 (by decide) ?_
                          refine z_ast X hW 0 hr (fun fq131 => ((arW E Aq 19 fq131) ++ ((arW E Aa 30 fa) ++ ((arW E An 30 fn) ++ ((arW E Ap 18 fp) ++ ((arW E Aw 16 fw) ++ (arW E Ac 24 fc))))))) rfl (fun _ => rfl) dL_nights_131 (fun fq131 H locs hr hW => ?_)
                          refine lv_aload_n X.1 X.2.1 dL_nights_132 rfl (lv_at hl 0 rfl) ?_
                          refine lv_bipush (v := 8) X.1 X.2.1 dL_nights_133 (by decide) ?_
                          refine lv_dup2_11 X.1 X.2.1 dL_nights_135 rfl rfl ?_
                          refine z_ald X hW 0 hr rfl dL_nights_136 (fun t136 hr => ?_)
                          refine lv_iconst (v := 1) X.1 X.2.1 dL_nights_137 (by decide) ?_
                          refine z_iadd X hr dL_nights_138 (fun t138 hr => ?_)
                          refine z_ast X hW 0 hr (fun fq139 => ((arW E Aq 19 fq139) ++ ((arW E Aa 30 fa) ++ ((arW E An 30 fn) ++ ((arW E Ap 18 fp) ++ ((arW E Aw 16 fw) ++ (arW E Ac 24 fc))))))) rfl (fun _ => rfl) dL_nights_139 (fun fq139 H locs hr hW => ?_)
                          refine lv_aload_n X.1 X.2.1 dL_nights_140 rfl (lv_at hl 0 rfl) ?_
                          refine lv_bipush (v := 13) X.1 X.2.1 dL_nights_141 (by decide) ?_
                          refine lv_iconst (v := (-1)) X.1 X.2.1 dL_nights_143 (by decide) ?_
                          refine z_ast X hW 0 hr (fun fq144 => ((arW E Aq 19 fq144) ++ ((arW E Aa 30 fa) ++ ((arW E An 30 fn) ++ ((arW E Ap 18 fp) ++ ((arW E Aw 16 fw) ++ (arW E Ac 24 fc))))))) rfl (fun _ => rfl) dL_nights_144 (fun fq144 H locs hr hW => ?_)
                          refine lv_aload_n X.1 X.2.1 dL_nights_145 rfl (lv_at hl 0 rfl) ?_
                          refine lv_bipush (v := 16) X.1 X.2.1 dL_nights_146 (by decide) ?_
                          refine lv_iconst (v := 0) X.1 X.2.1 dL_nights_148 (by decide) ?_
                          refine z_ast X hW 0 hr (fun fq149 => ((arW E Aq 19 fq149) ++ ((arW E Aa 30 fa) ++ ((arW E An 30 fn) ++ ((arW E Ap 18 fp) ++ ((arW E Aw 16 fw) ++ (arW E Ac 24 fc))))))) rfl (fun _ => rfl) dL_nights_149 (fun fq149 H locs hr hW => ?_)
                          refine lv_aload_n X.1 X.2.1 dL_nights_150 rfl (lv_at hl 0 rfl) ?_
                          refine lv_bipush (v := 17) X.1 X.2.1 dL_nights_151 (by decide) ?_
                          refine lv_iconst (v := 0) X.1 X.2.1 dL_nights_153 (by decide) ?_
                          refine z_ast X hW 0 hr (fun fq154 => ((arW E Aq 19 fq154) ++ ((arW E Aa 30 fa) ++ ((arW E An 30 fn) ++ ((arW E Ap 18 fp) ++ ((arW E Aw 16 fw) ++ (arW E Ac 24 fc))))))) rfl (fun _ => rfl) dL_nights_154 (fun fq154 H locs hr hW => ?_)
                          refine lv_aload_n X.1 X.2.1 dL_nights_155 rfl (lv_at hl 0 rfl) ?_
                          refine lv_bipush (v := 18) X.1 X.2.1 dL_nights_156 (by decide) ?_
                          refine lv_dup2_11 X.1 X.2.1 dL_nights_158 rfl rfl ?_
                          refine z_ald X hW 0 hr rfl dL_nights_159 (fun t159 hr => ?_)
                          refine lv_aload_n X.1 X.2.1 dL_nights_160 rfl (lv_at hl 0 rfl) ?_
                          refine lv_bipush (v := 18) X.1 X.2.1 dL_nights_161 (by decide) ?_
                          refine z_ald X hW 0 hr rfl dL_nights_163 (fun t163 hr => ?_)
                          refine lv_bipush (v := 6) X.1 X.2.1 dL_nights_164 (by decide) ?_
                          refine z_cmpge X 173 hr dL_nights_166 (by decide) (fun hr => ?_) (fun hr => ?_)
                          · refine lv_iconst (v := 0) X.1 X.2.1 dL_nights_173 (by decide) ?_
                            refine z_iadd X hr dL_nights_174 (fun t174 hr => ?_)
                            refine z_ast X hW 0 hr (fun fq175 => ((arW E Aq 19 fq175) ++ ((arW E Aa 30 fa) ++ ((arW E An 30 fn) ++ ((arW E Ap 18 fp) ++ ((arW E Aw 16 fw) ++ (arW E Ac 24 fc))))))) rfl (fun _ => rfl) dL_nights_175 (fun fq175 H locs hr hW => ?_)
                            refine lv_iload X.1 X.2.1 dL_nights_176 (lv_at hl 6 rfl) ?_
                            cases hr
                            exact z_iret X hW rfl dL_nights_178
                          · refine lv_iconst (v := 1) X.1 X.2.1 dL_nights_169 (by decide) ?_
                            refine lv_goto (tgt := 174) X.1 X.2.1 dL_nights_170 (by decide) ?_
                            refine z_iadd X hr dL_nights_174 (fun t174 hr => ?_)
                            refine z_ast X hW 0 hr (fun fq175 => ((arW E Aq 19 fq175) ++ ((arW E Aa 30 fa) ++ ((arW E An 30 fn) ++ ((arW E Ap 18 fp) ++ ((arW E Aw 16 fw) ++ (arW E Ac 24 fc))))))) rfl (fun _ => rfl) dL_nights_175 (fun fq175 H locs hr hW => ?_)
                            refine lv_iload X.1 X.2.1 dL_nights_176 (lv_at hl 6 rfl) ?_
                            cases hr
                            exact z_iret X hW rfl dL_nights_178
                        · refine lv_aload_n X.1 X.2.1 dL_nights_107 rfl (lv_at hl 2 rfl) ?_
                          refine lv_iload X.1 X.2.1 dL_nights_108 (lv_at hl 7 rfl) ?_
                          refine lv_iconst (v := 0) X.1 X.2.1 dL_nights_110 (by decide) ?_
                          refine z_ast X hW 2 hr (fun fn111 => ((arW E Aq 19 fq) ++ ((arW E Aa 30 fa) ++ ((arW E An 30 fn111) ++ ((arW E Ap 18 fp) ++ ((arW E Aw 16 fw) ++ (arW E Ac 24 fc))))))) rfl (fun _ => rfl) dL_nights_111 (fun fn111 H locs hr hW => ?_)
                          refine lv_aload_n X.1 X.2.1 dL_nights_112 rfl (lv_at hl 1 rfl) ?_
                          refine lv_iload X.1 X.2.1 dL_nights_113 (lv_at hl 7 rfl) ?_
                          refine lv_dup2_11 X.1 X.2.1 dL_nights_115 rfl rfl ?_
                          refine z_ald X hW 1 hr rfl dL_nights_116 (fun t116 hr => ?_)
                          refine lv_bipush (v := 31) X.1 X.2.1 dL_nights_117 (by decide) ?_
                          refine z_iand X hr dL_nights_119 (fun t119 hr => ?_)
                          refine z_ast X hW 1 hr (fun fa120 => ((arW E Aq 19 fq) ++ ((arW E Aa 30 fa120) ++ ((arW E An 30 fn111) ++ ((arW E Ap 18 fp) ++ ((arW E Aw 16 fw) ++ (arW E Ac 24 fc))))))) rfl (fun _ => rfl) dL_nights_120 (fun fa120 H locs hr hW => ?_)
                          refine z_iinc X (fun x7_121 => [(7, .int x7_121), (0, .ref (Aq 0)), (1, .ref (Aa 0)), (2, .ref (An 0)), (3, .ref (Ap 0)), (4, .ref (Aw 0)), (5, .ref (Ac 0)), (6, .int x6)]) hr hl (k := 7) rfl (by decide) (fun _ => rfl) dL_nights_121 (fun x7_121 ls hr hl => ?_)
                          refine lv_goto (tgt := 100) X.1 X.2.1 dL_nights_124 (by decide) ?_
                          exact ih_100 x6 x7_121 fq fa120 fn111 fp fc _ _ _ hr hW (lv_sub hl [1, 2, 3, 4, 5, 6, 7, 0] rfl)
                    exact L_100 _ x6 0 fq fa fn fp fc _ _ _ hr hW (lv_sub hl [1, 2, 3, 4, 5, 6, 7, 0] rfl)
                  · refine lv_aload X.1 X.2.1 dL_nights_71 (lv_at hl 5 rfl) ?_
                    refine lv_iload X.1 X.2.1 dL_nights_73 (lv_at hl 7 rfl) ?_
                    refine lv_aload_n X.1 X.2.1 dL_nights_75 rfl (lv_at hl 0 rfl) ?_
                    refine lv_bipush (v := 9) X.1 X.2.1 dL_nights_76 (by decide) ?_
                    refine lv_iload X.1 X.2.1 dL_nights_78 (lv_at hl 7 rfl) ?_
                    refine z_iadd X hr dL_nights_80 (fun t80 hr => ?_)
                    refine z_ald X hW 0 hr rfl dL_nights_81 (fun t81 hr => ?_)
                    refine z_ast X hW 5 hr (fun fc82 => ((arW E Aq 19 fq) ++ ((arW E Aa 30 fa) ++ ((arW E An 30 fn) ++ ((arW E Ap 18 fp) ++ ((arW E Aw 16 fw) ++ (arW E Ac 24 fc82))))))) rfl (fun _ => rfl) dL_nights_82 (fun fc82 H locs hr hW => ?_)
                    refine lv_aload_n X.1 X.2.1 dL_nights_83 rfl (lv_at hl 0 rfl) ?_
                    refine lv_bipush (v := 9) X.1 X.2.1 dL_nights_84 (by decide) ?_
                    refine lv_iload X.1 X.2.1 dL_nights_86 (lv_at hl 7 rfl) ?_
                    refine z_iadd X hr dL_nights_88 (fun t88 hr => ?_)
                    refine lv_iconst (v := 0) X.1 X.2.1 dL_nights_89 (by decide) ?_
                    refine z_ast X hW 0 hr (fun fq90 => ((arW E Aq 19 fq90) ++ ((arW E Aa 30 fa) ++ ((arW E An 30 fn) ++ ((arW E Ap 18 fp) ++ ((arW E Aw 16 fw) ++ (arW E Ac 24 fc82))))))) rfl (fun _ => rfl) dL_nights_90 (fun fq90 H locs hr hW => ?_)
                    refine z_iinc X (fun x7_91 => [(7, .int x7_91), (0, .ref (Aq 0)), (1, .ref (Aa 0)), (2, .ref (An 0)), (3, .ref (Ap 0)), (4, .ref (Aw 0)), (5, .ref (Ac 0)), (6, .int x6)]) hr hl (k := 7) rfl (by decide) (fun _ => rfl) dL_nights_91 (fun x7_91 ls hr hl => ?_)
                    refine lv_goto (tgt := 65) X.1 X.2.1 dL_nights_94 (by decide) ?_
                    exact ih_65 x6 x7_91 fq90 fa fn fp fc82 _ _ _ hr hW (lv_sub hl [1, 2, 3, 4, 5, 6, 7, 0] rfl)
              exact L_65 _ x6 0 fq fa fn fp fc _ _ _ hr hW (lv_sub hl [1, 2, 3, 4, 5, 6, 7, 0] rfl)
            · refine lv_aload X.1 X.2.1 dL_nights_44 (lv_at hl 5 rfl) ?_
              refine lv_iload X.1 X.2.1 dL_nights_46 (lv_at hl 7 rfl) ?_
              refine lv_aload X.1 X.2.1 dL_nights_48 (lv_at hl 5 rfl) ?_
              refine lv_iload X.1 X.2.1 dL_nights_50 (lv_at hl 7 rfl) ?_
              refine lv_iconst (v := 4) X.1 X.2.1 dL_nights_52 (by decide) ?_
              refine z_isub X hr dL_nights_53 (fun t53 hr => ?_)
              refine z_ald X hW 5 hr rfl dL_nights_54 (fun t54 hr => ?_)
              refine z_ast X hW 5 hr (fun fc55 => ((arW E Aq 19 fq) ++ ((arW E Aa 30 fa) ++ ((arW E An 30 fn) ++ ((arW E Ap 18 fp) ++ ((arW E Aw 16 fw) ++ (arW E Ac 24 fc55))))))) rfl (fun _ => rfl) dL_nights_55 (fun fc55 H locs hr hW => ?_)
              refine z_iinc X (fun x7_56 => [(7, .int x7_56), (0, .ref (Aq 0)), (1, .ref (Aa 0)), (2, .ref (An 0)), (3, .ref (Ap 0)), (4, .ref (Aw 0)), (5, .ref (Ac 0)), (6, .int x6)]) hr hl (k := 7) rfl (by decide) (fun _ => rfl) dL_nights_56 (fun x7_56 ls hr hl => ?_)
              refine lv_goto (tgt := 38) X.1 X.2.1 dL_nights_59 (by decide) ?_
              exact ih_38 x6 x7_56 fq fa fn fp fc55 _ _ _ hr hW (lv_sub hl [1, 2, 3, 4, 5, 6, 7, 0] rfl)
        exact L_38 _ x6 23 fq fa fn fp fc _ _ _ hr hW (lv_sub hl [1, 2, 3, 4, 5, 6, 7, 0] rfl)
      · refine lv_aload X.1 X.2.1 dL_nights_16 (lv_at hl 4 rfl) ?_
        refine lv_iconst (v := 2) X.1 X.2.1 dL_nights_18 (by decide) ?_
        refine lv_iload X.1 X.2.1 dL_nights_19 (lv_at hl 7 rfl) ?_
        refine z_imul X hr dL_nights_21 (fun t21 hr => ?_)
        refine z_ald X hW 4 hr rfl dL_nights_22 (fun t22 hr => ?_)
        refine lv_aload_n X.1 X.2.1 dL_nights_23 rfl (lv_at hl 0 rfl) ?_
        refine lv_aload_n X.1 X.2.1 dL_nights_24 rfl (lv_at hl 3 rfl) ?_
        have hp_25 := (z_sp2 (z_all (arW E Aq 19 fq)) (z_spr (arW E Aa 30 fa) (z_spr (arW E An 30 fn) (z_spl ((arW E Aw 16 fw) ++ (arW E Ac 24 fc)) (z_all (arW E Ap 18 fp))))))
        refine z_callv X hW (fun z9 => (z9.1, z9.2)) hr hp_25 (fun z9 => ((arW E Aq 19 z9.1) ++ (arW E Ap 18 z9.2))) (fun u25 => ((arW E Aq 19 u25.1) ++ ((arW E Aa 30 fa) ++ ((arW E An 30 fn) ++ ((arW E Ap 18 u25.2) ++ ((arW E Aw 16 fw) ++ (arW E Ac 24 fc))))))) (fun z9 => (z_jn2 (z_lla (arW E Aq 19 z9.1)) (z_jnr (arW E Aa 30 fa) (z_jnr (arW E An 30 fn) (z_jnl ((arW E Aw 16 fw) ++ (arW E Ac 24 fc)) (z_lla (arW E Ap 18 z9.2))))))) (fun z9 h => z_runS (As := [.int t22, .ref (Aq 0), .ref (Ap 0)]) (rest := []) X hW hp_25 (c_L_lapses l E Aq Ap fq fp t22 z9 h _) hy_L_lapses gL_nights_L_lapses rfl rfl ⟨by decide, by decide⟩ rfl hl rfl rfl (Nat.le_of_ble_eq_true rfl) dL_nights_25 ⟨Nat.zero_le _, Nat.zero_le _⟩) (fun u25 H locs hr hW => ?_)
        refine z_iinc X (fun x7_28 => [(7, .int x7_28), (0, .ref (Aq 0)), (1, .ref (Aa 0)), (2, .ref (An 0)), (3, .ref (Ap 0)), (4, .ref (Aw 0)), (5, .ref (Ac 0)), (6, .int x6)]) hr hl (k := 7) rfl (by decide) (fun _ => rfl) dL_nights_28 (fun x7_28 ls hr hl => ?_)
        refine lv_goto (tgt := 9) X.1 X.2.1 dL_nights_31 (by decide) ?_
        exact ih_9 x6 x7_28 u25.1 fa fn u25.2 fc _ _ _ hr hW (lv_sub hl [1, 2, 3, 4, 5, 6, 7, 0] rfl)
  exact L_9 _ t3 0 fq fa fn fp fc _ _ _ hr hW (lv_sub hl [2, 3, 4, 5, 6, 7, 1, 0] rfl)
abbrev rm_L_seats : Room := { frames := 0, cells := 0, slots := 0, locals := 0 }
theorem hy_L_seats : zY yL_seats wsL_seats cL_seats 6 (some .int) 4 := ⟨⟨_, rfl⟩, by decide, by decide, by decide +kernel⟩
def lpB_L_seats_6 (fa : Nat → Int32) (fe : Nat → Int32) (p0 : Int32) (p1 : Int32)  (k_6 : Int32 → Int32 → Option (Int32)) (x4 : Int32) (x5 : Int32) : Option (Int32) :=
(if 30 ≤ x5 then
some x4
else
(if p0 = 0 then
zld 30 fe x5 fun t36 =>
(if t36 < p1 then
zlet (x4 ||| 0) fun t49 =>
zlet (x5 + Int32.ofInt 1) fun x5_52 =>
k_6 t49 x5_52
else
zlet (1 <<< (x5 &&& 31)) fun t44 =>
zlet (x4 ||| t44) fun t49 =>
zlet (x5 + Int32.ofInt 1) fun x5_52 =>
k_6 t49 x5_52)
else
zld 30 fa x5 fun t22 =>
zlet (t22 >>> (4 &&& 31)) fun t24 =>
zlet (t24 &&& 1) fun t26 =>
zlet (t26 <<< (x5 &&& 31)) fun t29 =>
zlet (x4 ||| t29) fun t49 =>
zlet (x5 + Int32.ofInt 1) fun x5_52 =>
k_6 t49 x5_52))
def lp_L_seats_6 (fa : Nat → Int32) (fe : Nat → Int32) (p0 : Int32) (p1 : Int32)  : Nat → Int32 → Int32 → Option (Int32)
  | 0 => fun _ _ => none
  | n_ + 1 => lpB_L_seats_6 fa fe p0 p1  (lp_L_seats_6 fa fe p0 p1  n_)
def d_L_seats (fa : Nat → Int32) (fe : Nat → Int32) (p0 : Int32) (p1 : Int32) : Option (Int32) :=
lp_L_seats_6 fa fe p0 p1  zF 0 0
set_option maxHeartbeats 4000000 in
set_option maxRecDepth 100000 in
theorem c_L_seats (l : Launch) (E : zE) (Aa Ae : Nat → Nat) (fa : Nat → Int32) (fe : Nat → Int32) (p0 : Int32) (p1 : Int32) (r : Int32) (h : d_L_seats fa fe p0 p1 = some r) : zMi l E yL_seats wsL_seats rm_L_seats [.int p0, .int p1, .ref (Aa 0), .ref (Ae 0)] ((arW E Aa 30 fa) ++ (arW E Ae 30 fe)) r ((arW E Aa 30 fa) ++ (arW E Ae 30 fe)) := by
  intro sz
  refine z_entry (Qc := fun A => zQi E A r ((arW E Aa 30 fa) ++ (arW E Ae 30 fe))) (by decide) rfl (Nat.le_of_ble_eq_true rfl) ?_
  intro p e s m below meth c A X hW ls hl
  have X : zX E wsL_seats RL cL_seats 6 (some .int) yL_seats p s m ([.int p0, .int p1, .ref (Aa 0), .ref (Ae 0)] : List Value).toArray meth c A := X
  have hl : lv_has ls 6 [(0, .int p0), (1, .int p1), (2, .ref (Aa 0)), (3, .ref (Ae 0))] := hl
  have hr : d_L_seats fa fe p0 p1 = some r := h
  clear h
  unfold d_L_seats at hr
  refine lv_iconst (v := 0) X.1 X.2.1 dL_seats_0 (by decide) ?_
  refine lv_istore (lv' := [(4, .int 0), (0, .int p0), (1, .int p1), (2, .ref (Aa 0)), (3, .ref (Ae 0))]) X.1 X.2.1 dL_seats_1 hl (by decide) rfl (fun ls hl => ?_)
  refine lv_iconst (v := 0) X.1 X.2.1 dL_seats_3 (by decide) ?_
  refine lv_istore (lv' := [(5, .int 0), (4, .int 0), (0, .int p0), (1, .int p1), (2, .ref (Aa 0)), (3, .ref (Ae 0))]) X.1 X.2.1 dL_seats_4 hl (by decide) rfl (fun ls hl => ?_)
  have L_6 : ∀ (n_6 : Nat), ∀ (x4 : Int32) (x5 : Int32) (H : Heap) (locs : List Loc) (ls : Array Slot), lp_L_seats_6 fa fe p0 p1  n_6 x4 x5 = some r → zW E A s ((arW E Aa 30 fa) ++ (arW E Ae 30 fe)) H locs → lv_has ls 6 [(0, .int p0), (1, .int p1), (2, .ref (Aa 0)), (3, .ref (Ae 0)), (4, .int x4), (5, .int x5)] → W p l e rm_L_seats s m ([.int p0, .int p1, .ref (Aa 0), .ref (Ae 0)] : List Value).toArray below meth c H locs 0 0 (MQ below (zQi E A r ((arW E Aa 30 fa) ++ (arW E Ae 30 fe))) ([.int p0, .int p1, .ref (Aa 0), .ref (Ae 0)] : List Value).toArray s 0 0 A) (F0 m 6 ls []) := by
    intro n_6
    induction n_6 with
    | zero => exact fun x4 x5 H locs ls hr hW hl => absurd (show (none : Option (Int32)) = some r from hr) (fun h => by cases h)
    | succ n_6 ih_6 =>
      intro x4 x5 H locs ls hr hW hl
      have hr : lpB_L_seats_6 fa fe p0 p1  (lp_L_seats_6 fa fe p0 p1  n_6) x4 x5 = some r := hr
      unfold lpB_L_seats_6 at hr
      refine lv_iload X.1 X.2.1 dL_seats_6 (lv_at hl 5 rfl) ?_
      refine lv_bipush (v := 30) X.1 X.2.1 dL_seats_8 (by decide) ?_
      refine z_cmpge X 58 hr dL_seats_10 (by decide) (fun hr => ?_) (fun hr => ?_)
      · refine lv_iload X.1 X.2.1 dL_seats_58 (lv_at hl 4 rfl) ?_
        cases hr
        exact z_iret X hW rfl dL_seats_60
      · refine lv_iload X.1 X.2.1 dL_seats_13 (lv_at hl 4 rfl) ?_
        refine lv_iload_n X.1 X.2.1 dL_seats_15 rfl (lv_at hl 0 rfl) ?_
        refine z_ifeq X 33 hr dL_seats_16 (by decide) (fun hr => ?_) (fun hr => ?_)
        · refine lv_aload_n X.1 X.2.1 dL_seats_33 rfl (lv_at hl 3 rfl) ?_
          refine lv_iload X.1 X.2.1 dL_seats_34 (lv_at hl 5 rfl) ?_
          refine z_ald X hW 1 hr rfl dL_seats_36 (fun t36 hr => ?_)
          refine lv_iload_n X.1 X.2.1 dL_seats_37 rfl (lv_at hl 1 rfl) ?_
          refine z_cmplt X 48 hr dL_seats_38 (by decide) (fun hr => ?_) (fun hr => ?_)
          · refine lv_iconst (v := 0) X.1 X.2.1 dL_seats_48 (by decide) ?_
            refine z_ior X hr dL_seats_49 (fun t49 hr => ?_)
            refine lv_istore (lv' := [(4, .int t49), (0, .int p0), (1, .int p1), (2, .ref (Aa 0)), (3, .ref (Ae 0)), (5, .int x5)]) X.1 X.2.1 dL_seats_50 hl (by decide) rfl (fun ls hl => ?_)
            refine z_iinc X (fun x5_52 => [(5, .int x5_52), (4, .int t49), (0, .int p0), (1, .int p1), (2, .ref (Aa 0)), (3, .ref (Ae 0))]) hr hl (k := 5) rfl (by decide) (fun _ => rfl) dL_seats_52 (fun x5_52 ls hr hl => ?_)
            refine lv_goto (tgt := 6) X.1 X.2.1 dL_seats_55 (by decide) ?_
            exact ih_6 t49 x5_52 _ _ _ hr hW (lv_sub hl [2, 3, 4, 5, 1, 0] rfl)
          · refine lv_iconst (v := 1) X.1 X.2.1 dL_seats_41 (by decide) ?_
            refine lv_iload X.1 X.2.1 dL_seats_42 (lv_at hl 5 rfl) ?_
            refine z_ishl X hr dL_seats_44 (fun t44 hr => ?_)
            refine lv_goto (tgt := 49) X.1 X.2.1 dL_seats_45 (by decide) ?_
            refine z_ior X hr dL_seats_49 (fun t49 hr => ?_)
            refine lv_istore (lv' := [(4, .int t49), (0, .int p0), (1, .int p1), (2, .ref (Aa 0)), (3, .ref (Ae 0)), (5, .int x5)]) X.1 X.2.1 dL_seats_50 hl (by decide) rfl (fun ls hl => ?_)
            refine z_iinc X (fun x5_52 => [(5, .int x5_52), (4, .int t49), (0, .int p0), (1, .int p1), (2, .ref (Aa 0)), (3, .ref (Ae 0))]) hr hl (k := 5) rfl (by decide) (fun _ => rfl) dL_seats_52 (fun x5_52 ls hr hl => ?_)
            refine lv_goto (tgt := 6) X.1 X.2.1 dL_seats_55 (by decide) ?_
            exact ih_6 t49 x5_52 _ _ _ hr hW (lv_sub hl [2, 3, 4, 5, 1, 0] rfl)
        · refine lv_aload_n X.1 X.2.1 dL_seats_19 rfl (lv_at hl 2 rfl) ?_
          refine lv_iload X.1 X.2.1 dL_seats_20 (lv_at hl 5 rfl) ?_
          refine z_ald X hW 0 hr rfl dL_seats_22 (fun t22 hr => ?_)
          refine lv_iconst (v := 4) X.1 X.2.1 dL_seats_23 (by decide) ?_
          refine z_ishr X hr dL_seats_24 (fun t24 hr => ?_)
          refine lv_iconst (v := 1) X.1 X.2.1 dL_seats_25 (by decide) ?_
          refine z_iand X hr dL_seats_26 (fun t26 hr => ?_)
          refine lv_iload X.1 X.2.1 dL_seats_27 (lv_at hl 5 rfl) ?_
          refine z_ishl X hr dL_seats_29 (fun t29 hr => ?_)
          refine lv_goto (tgt := 49) X.1 X.2.1 dL_seats_30 (by decide) ?_
          refine z_ior X hr dL_seats_49 (fun t49 hr => ?_)
          refine lv_istore (lv' := [(4, .int t49), (0, .int p0), (1, .int p1), (2, .ref (Aa 0)), (3, .ref (Ae 0)), (5, .int x5)]) X.1 X.2.1 dL_seats_50 hl (by decide) rfl (fun ls hl => ?_)
          refine z_iinc X (fun x5_52 => [(5, .int x5_52), (4, .int t49), (0, .int p0), (1, .int p1), (2, .ref (Aa 0)), (3, .ref (Ae 0))]) hr hl (k := 5) rfl (by decide) (fun _ => rfl) dL_seats_52 (fun x5_52 ls hr hl => ?_)
          refine lv_goto (tgt := 6) X.1 X.2.1 dL_seats_55 (by decide) ?_
          exact ih_6 t49 x5_52 _ _ _ hr hW (lv_sub hl [2, 3, 4, 5, 1, 0] rfl)
  exact L_6 _ 0 0 _ _ _ hr hW (lv_sub hl [2, 3, 4, 5, 1, 0] rfl)
abbrev rm_L_ofRest : Room := { frames := 1, cells := 0, slots := 0, locals := 25 }
theorem hy_L_ofRest : zY yL_ofRest wsL_ofRest cL_ofRest 7 (some .int) 6 := ⟨⟨_, rfl⟩, by decide, by decide, by decide +kernel⟩
def d_L_ofRest (fq : Nat → Int32) (fa : Nat → Int32) (fe : Nat → Int32) (p0 : Int32) (p1 : Int32) (p2 : Int32) : Option (Int32 × (Nat → Int32) × (Nat → Int32)) :=
(if p0 = 4 then
zld 19 fq 6 fun t8 =>
zld 19 fq 5 fun t11 =>
(if t11 ≤ t8 then
zld 19 fq 6 fun t22 =>
zdv t22 2 fun t24 =>
zst 19 fq 6 t24 fun fq25 =>
zld 19 fq25 12 fun t30 =>
zlet (t30 + 1) fun t32 =>
zst 19 fq25 12 t32 fun fq33 =>
zld 19 fq33 6 fun t37 =>
some (t37, fq33, fa)
else
some ((-5), fq, fa))
else
zjn (fun (s0 : Int32) (fq : Nat → Int32) (fa : Nat → Int32) =>
((if p0 = 6 then
zld 30 fa p1 fun t75 =>
zlet (t75 - s0) fun t78 =>
zlet (t78 + p2) fun t80 =>
zst 30 fa p1 t80 fun fa81 =>
some (s0, fq, fa81)
else
(if p0 = 7 then
zld 30 fa p1 fun t95 =>
zlet (t95 ^^^ 16) fun t98 =>
zst 30 fa p1 t98 fun fa99 =>
zcl (d_L_seats fa99 fe 1 0) fun t106 =>
some (t106, fq, fa99)
else
zst 19 fq p1 p2 fun fq113 =>
some (s0, fq113, fa))) : Option (Int32 × (Nat → Int32) × (Nat → Int32)))) fun j_61 =>
(if p0 = 6 then
zld 30 fa p1 fun t48 =>
zlet (t48 &&& 15) fun t51 =>
j_61 t51 fq fa
else
zrm p1 6 fun t59 =>
zld 19 fq t59 fun t60 =>
j_61 t60 fq fa))
set_option maxHeartbeats 4000000 in
set_option maxRecDepth 100000 in
theorem c_L_ofRest (l : Launch) (E : zE) (Aq Aa Ae : Nat → Nat) (fq : Nat → Int32) (fa : Nat → Int32) (fe : Nat → Int32) (p0 : Int32) (p1 : Int32) (p2 : Int32) (r : Int32 × (Nat → Int32) × (Nat → Int32)) (h : d_L_ofRest fq fa fe p0 p1 p2 = some r) : zMi l E yL_ofRest wsL_ofRest rm_L_ofRest [.int p0, .int p1, .int p2, .ref (Aq 0), .ref (Aa 0), .ref (Ae 0)] ((arW E Aq 19 fq) ++ ((arW E Aa 30 fa) ++ (arW E Ae 30 fe))) r.1 ((arW E Aq 19 r.2.1) ++ ((arW E Aa 30 r.2.2) ++ (arW E Ae 30 fe))) := by
  intro sz
  refine z_entry (Qc := fun A => zQi E A r.1 ((arW E Aq 19 r.2.1) ++ ((arW E Aa 30 r.2.2) ++ (arW E Ae 30 fe)))) (by decide) rfl (Nat.le_of_ble_eq_true rfl) ?_
  intro p e s m below meth c A X hW ls hl
  have X : zX E wsL_ofRest RL cL_ofRest 7 (some .int) yL_ofRest p s m ([.int p0, .int p1, .int p2, .ref (Aq 0), .ref (Aa 0), .ref (Ae 0)] : List Value).toArray meth c A := X
  have hl : lv_has ls 7 [(0, .int p0), (1, .int p1), (2, .int p2), (3, .ref (Aq 0)), (4, .ref (Aa 0)), (5, .ref (Ae 0))] := hl
  have hr : d_L_ofRest fq fa fe p0 p1 p2 = some r := h
  clear h
  unfold d_L_ofRest at hr
  refine lv_iload_n X.1 X.2.1 dL_ofRest_0 rfl (lv_at hl 0 rfl) ?_
  refine lv_iconst (v := 4) X.1 X.2.1 dL_ofRest_1 (by decide) ?_
  refine z_cmpne X 39 hr dL_ofRest_2 (by decide) (fun hr => ?_) (fun hr => ?_)
  · refine lv_iload_n X.1 X.2.1 dL_ofRest_39 rfl (lv_at hl 0 rfl) ?_
    refine lv_bipush (v := 6) X.1 X.2.1 dL_ofRest_40 (by decide) ?_
    obtain ⟨j_61, e_61, hr⟩ := zjn_some hr
    have J_61 : ∀ (s0 : Int32) (fq : Nat → Int32) (fa : Nat → Int32) (H : Heap) (locs : List Loc) (ls : Array Slot), j_61 s0 fq fa = some r → zW E A s ((arW E Aq 19 fq) ++ ((arW E Aa 30 fa) ++ (arW E Ae 30 fe))) H locs → lv_has ls 7 [(0, .int p0), (1, .int p1), (2, .int p2), (3, .ref (Aq 0)), (4, .ref (Aa 0)), (5, .ref (Ae 0))] → W p l e rm_L_ofRest s m ([.int p0, .int p1, .int p2, .ref (Aq 0), .ref (Aa 0), .ref (Ae 0)] : List Value).toArray below meth c H locs 0 0 (MQ below (zQi E A r.1 ((arW E Aq 19 r.2.1) ++ ((arW E Aa 30 r.2.2) ++ (arW E Ae 30 fe)))) ([.int p0, .int p1, .int p2, .ref (Aq 0), .ref (Aa 0), .ref (Ae 0)] : List Value).toArray s 0 0 A) (F0 m 61 ls [.int s0]) := by
      intro s0 fq fa H locs ls hr hW hl
      rw [e_61] at hr
      refine lv_istore (lv' := [(6, .int s0), (0, .int p0), (1, .int p1), (2, .int p2), (3, .ref (Aq 0)), (4, .ref (Aa 0)), (5, .ref (Ae 0))]) X.1 X.2.1 dL_ofRest_61 hl (by decide) rfl (fun ls hl => ?_)
      refine lv_iload_n X.1 X.2.1 dL_ofRest_63 rfl (lv_at hl 1 rfl) ?_
      refine lv_bipush (v := 6) X.1 X.2.1 dL_ofRest_64 (by decide) ?_
      refine z_cmpne X 85 hr dL_ofRest_66 (by decide) (fun hr => ?_) (fun hr => ?_)
      · refine lv_iload_n X.1 X.2.1 dL_ofRest_85 rfl (lv_at hl 1 rfl) ?_
        refine lv_bipush (v := 7) X.1 X.2.1 dL_ofRest_86 (by decide) ?_
        refine z_cmpne X 110 hr dL_ofRest_88 (by decide) (fun hr => ?_) (fun hr => ?_)
        · refine lv_aload_n X.1 X.2.1 dL_ofRest_110 rfl (lv_at hl 4 rfl) ?_
          refine lv_iload_n X.1 X.2.1 dL_ofRest_111 rfl (lv_at hl 2 rfl) ?_
          refine lv_iload_n X.1 X.2.1 dL_ofRest_112 rfl (lv_at hl 3 rfl) ?_
          refine z_ast X hW 0 hr (fun fq113 => ((arW E Aq 19 fq113) ++ ((arW E Aa 30 fa) ++ (arW E Ae 30 fe)))) rfl (fun _ => rfl) dL_ofRest_113 (fun fq113 H locs hr hW => ?_)
          refine lv_iload X.1 X.2.1 dL_ofRest_114 (lv_at hl 0 rfl) ?_
          cases hr
          exact z_iret X hW rfl dL_ofRest_116
        · refine lv_aload X.1 X.2.1 dL_ofRest_91 (lv_at hl 5 rfl) ?_
          refine lv_iload_n X.1 X.2.1 dL_ofRest_93 rfl (lv_at hl 2 rfl) ?_
          refine lv_dup2_11 X.1 X.2.1 dL_ofRest_94 rfl rfl ?_
          refine z_ald X hW 1 hr rfl dL_ofRest_95 (fun t95 hr => ?_)
          refine lv_bipush (v := 16) X.1 X.2.1 dL_ofRest_96 (by decide) ?_
          refine z_ixor X hr dL_ofRest_98 (fun t98 hr => ?_)
          refine z_ast X hW 1 hr (fun fa99 => ((arW E Aq 19 fq) ++ ((arW E Aa 30 fa99) ++ (arW E Ae 30 fe)))) rfl (fun _ => rfl) dL_ofRest_99 (fun fa99 H locs hr hW => ?_)
          refine lv_iconst (v := 1) X.1 X.2.1 dL_ofRest_100 (by decide) ?_
          refine lv_iconst (v := 0) X.1 X.2.1 dL_ofRest_101 (by decide) ?_
          refine lv_aload X.1 X.2.1 dL_ofRest_102 (lv_at hl 5 rfl) ?_
          refine lv_aload X.1 X.2.1 dL_ofRest_104 (lv_at hl 6 rfl) ?_
          have hp_106 := (z_spr (arW E Aq 19 fq) (z_sp2 (z_all (arW E Aa 30 fa99)) (z_all (arW E Ae 30 fe))))
          refine z_callp X hW hr hp_106 (fun x h => z_runS (As := [.int 1, .int 0, .ref (Aa 0), .ref (Ae 0)]) (rest := []) X hW hp_106 (c_L_seats l E Aa Ae fa99 fe 1 0 x h _) hy_L_seats gL_ofRest_L_seats rfl rfl ⟨by decide, by decide⟩ rfl hl rfl rfl (Nat.le_of_ble_eq_true rfl) dL_ofRest_106 ⟨Nat.zero_le _, Nat.zero_le _⟩) (fun t106 H locs hr hW => ?_)
          cases hr
          exact z_iret X hW rfl dL_ofRest_109
      · refine lv_aload X.1 X.2.1 dL_ofRest_69 (lv_at hl 5 rfl) ?_
        refine lv_iload_n X.1 X.2.1 dL_ofRest_71 rfl (lv_at hl 2 rfl) ?_
        refine lv_aload X.1 X.2.1 dL_ofRest_72 (lv_at hl 5 rfl) ?_
        refine lv_iload_n X.1 X.2.1 dL_ofRest_74 rfl (lv_at hl 2 rfl) ?_
        refine z_ald X hW 1 hr rfl dL_ofRest_75 (fun t75 hr => ?_)
        refine lv_iload X.1 X.2.1 dL_ofRest_76 (lv_at hl 0 rfl) ?_
        refine z_isub X hr dL_ofRest_78 (fun t78 hr => ?_)
        refine lv_iload_n X.1 X.2.1 dL_ofRest_79 rfl (lv_at hl 3 rfl) ?_
        refine z_iadd X hr dL_ofRest_80 (fun t80 hr => ?_)
        refine z_ast X hW 1 hr (fun fa81 => ((arW E Aq 19 fq) ++ ((arW E Aa 30 fa81) ++ (arW E Ae 30 fe)))) rfl (fun _ => rfl) dL_ofRest_81 (fun fa81 H locs hr hW => ?_)
        refine lv_iload X.1 X.2.1 dL_ofRest_82 (lv_at hl 0 rfl) ?_
        cases hr
        exact z_iret X hW rfl dL_ofRest_84
    refine z_cmpne X 55 hr dL_ofRest_42 (by decide) (fun hr => ?_) (fun hr => ?_)
    · refine lv_aload_n X.1 X.2.1 dL_ofRest_55 rfl (lv_at hl 3 rfl) ?_
      refine lv_iload_n X.1 X.2.1 dL_ofRest_56 rfl (lv_at hl 1 rfl) ?_
      refine lv_bipush (v := 6) X.1 X.2.1 dL_ofRest_57 (by decide) ?_
      refine z_irem X hr dL_ofRest_59 (fun t59 hr => ?_)
      refine z_ald X hW 0 hr rfl dL_ofRest_60 (fun t60 hr => ?_)
      exact J_61 t60 fq fa _ _ _ hr hW (lv_sub hl [0, 1, 2, 3, 4, 5] rfl)
    · refine lv_aload X.1 X.2.1 dL_ofRest_45 (lv_at hl 4 rfl) ?_
      refine lv_iload_n X.1 X.2.1 dL_ofRest_47 rfl (lv_at hl 1 rfl) ?_
      refine z_ald X hW 1 hr rfl dL_ofRest_48 (fun t48 hr => ?_)
      refine lv_bipush (v := 15) X.1 X.2.1 dL_ofRest_49 (by decide) ?_
      refine z_iand X hr dL_ofRest_51 (fun t51 hr => ?_)
      refine lv_goto (tgt := 61) X.1 X.2.1 dL_ofRest_52 (by decide) ?_
      exact J_61 t51 fq fa _ _ _ hr hW (lv_sub hl [0, 1, 2, 3, 4, 5] rfl)
  · refine lv_aload_n X.1 X.2.1 dL_ofRest_5 rfl (lv_at hl 3 rfl) ?_
    refine lv_bipush (v := 6) X.1 X.2.1 dL_ofRest_6 (by decide) ?_
    refine z_ald X hW 0 hr rfl dL_ofRest_8 (fun t8 hr => ?_)
    refine lv_aload_n X.1 X.2.1 dL_ofRest_9 rfl (lv_at hl 3 rfl) ?_
    refine lv_iconst (v := 5) X.1 X.2.1 dL_ofRest_10 (by decide) ?_
    refine z_ald X hW 0 hr rfl dL_ofRest_11 (fun t11 hr => ?_)
    refine z_cmpge X 18 hr dL_ofRest_12 (by decide) (fun hr => ?_) (fun hr => ?_)
    · refine lv_aload_n X.1 X.2.1 dL_ofRest_18 rfl (lv_at hl 3 rfl) ?_
      refine lv_bipush (v := 6) X.1 X.2.1 dL_ofRest_19 (by decide) ?_
      refine lv_dup2_11 X.1 X.2.1 dL_ofRest_21 rfl rfl ?_
      refine z_ald X hW 0 hr rfl dL_ofRest_22 (fun t22 hr => ?_)
      refine lv_iconst (v := 2) X.1 X.2.1 dL_ofRest_23 (by decide) ?_
      refine z_idiv X hr dL_ofRest_24 (fun t24 hr => ?_)
      refine z_ast X hW 0 hr (fun fq25 => ((arW E Aq 19 fq25) ++ ((arW E Aa 30 fa) ++ (arW E Ae 30 fe)))) rfl (fun _ => rfl) dL_ofRest_25 (fun fq25 H locs hr hW => ?_)
      refine lv_aload_n X.1 X.2.1 dL_ofRest_26 rfl (lv_at hl 3 rfl) ?_
      refine lv_bipush (v := 12) X.1 X.2.1 dL_ofRest_27 (by decide) ?_
      refine lv_dup2_11 X.1 X.2.1 dL_ofRest_29 rfl rfl ?_
      refine z_ald X hW 0 hr rfl dL_ofRest_30 (fun t30 hr => ?_)
      refine lv_iconst (v := 1) X.1 X.2.1 dL_ofRest_31 (by decide) ?_
      refine z_iadd X hr dL_ofRest_32 (fun t32 hr => ?_)
      refine z_ast X hW 0 hr (fun fq33 => ((arW E Aq 19 fq33) ++ ((arW E Aa 30 fa) ++ (arW E Ae 30 fe)))) rfl (fun _ => rfl) dL_ofRest_33 (fun fq33 H locs hr hW => ?_)
      refine lv_aload_n X.1 X.2.1 dL_ofRest_34 rfl (lv_at hl 3 rfl) ?_
      refine lv_bipush (v := 6) X.1 X.2.1 dL_ofRest_35 (by decide) ?_
      refine z_ald X hW 0 hr rfl dL_ofRest_37 (fun t37 hr => ?_)
      cases hr
      exact z_iret X hW rfl dL_ofRest_38
    · refine lv_bipush (v := (-5)) X.1 X.2.1 dL_ofRest_15 (by decide) ?_
      cases hr
      exact z_iret X hW rfl dL_ofRest_17
abbrev rm_L_sum : Room := { frames := 0, cells := 0, slots := 0, locals := 0 }
theorem hy_L_sum : zY yL_sum wsL_sum cL_sum 4 (some .int) 2 := ⟨⟨_, rfl⟩, by decide, by decide, by decide +kernel⟩
def lpB_L_sum_4 (fp : Nat → Int32) (p0 : Int32)  (k_4 : Int32 → Int32 → Option (Int32)) (x2 : Int32) (x3 : Int32) : Option (Int32) :=
(if 18 ≤ x3 then
some x2
else
zld 18 fp x3 fun t13 =>
zlet (x2 + t13) fun t14 =>
zlet (x3 + Int32.ofInt 3) fun x3_16 =>
k_4 t14 x3_16)
def lp_L_sum_4 (fp : Nat → Int32) (p0 : Int32)  : Nat → Int32 → Int32 → Option (Int32)
  | 0 => fun _ _ => none
  | n_ + 1 => lpB_L_sum_4 fp p0  (lp_L_sum_4 fp p0  n_)
def d_L_sum (fp : Nat → Int32) (p0 : Int32) : Option (Int32) :=
lp_L_sum_4 fp p0  zF 0 p0
set_option maxHeartbeats 4000000 in
set_option maxRecDepth 100000 in
theorem c_L_sum (l : Launch) (E : zE) (Ap : Nat → Nat) (fp : Nat → Int32) (p0 : Int32) (r : Int32) (h : d_L_sum fp p0 = some r) : zMi l E yL_sum wsL_sum rm_L_sum [.int p0, .ref (Ap 0)] (arW E Ap 18 fp) r (arW E Ap 18 fp) := by
  intro sz
  refine z_entry (Qc := fun A => zQi E A r (arW E Ap 18 fp)) (by decide) rfl (Nat.le_of_ble_eq_true rfl) ?_
  intro p e s m below meth c A X hW ls hl
  have X : zX E wsL_sum RL cL_sum 4 (some .int) yL_sum p s m ([.int p0, .ref (Ap 0)] : List Value).toArray meth c A := X
  have hl : lv_has ls 4 [(0, .int p0), (1, .ref (Ap 0))] := hl
  have hr : d_L_sum fp p0 = some r := h
  clear h
  unfold d_L_sum at hr
  refine lv_iconst (v := 0) X.1 X.2.1 dL_sum_0 (by decide) ?_
  refine lv_istore_n (lv' := [(2, .int 0), (0, .int p0), (1, .ref (Ap 0))]) X.1 X.2.1 dL_sum_1 rfl hl (by decide) rfl (fun ls hl => ?_)
  refine lv_iload_n X.1 X.2.1 dL_sum_2 rfl (lv_at hl 1 rfl) ?_
  refine lv_istore_n (lv' := [(3, .int p0), (2, .int 0), (0, .int p0), (1, .ref (Ap 0))]) X.1 X.2.1 dL_sum_3 rfl hl (by decide) rfl (fun ls hl => ?_)
  have L_4 : ∀ (n_4 : Nat), ∀ (x2 : Int32) (x3 : Int32) (H : Heap) (locs : List Loc) (ls : Array Slot), lp_L_sum_4 fp p0  n_4 x2 x3 = some r → zW E A s (arW E Ap 18 fp) H locs → lv_has ls 4 [(0, .int p0), (1, .ref (Ap 0)), (2, .int x2), (3, .int x3)] → W p l e rm_L_sum s m ([.int p0, .ref (Ap 0)] : List Value).toArray below meth c H locs 0 0 (MQ below (zQi E A r (arW E Ap 18 fp)) ([.int p0, .ref (Ap 0)] : List Value).toArray s 0 0 A) (F0 m 4 ls []) := by
    intro n_4
    induction n_4 with
    | zero => exact fun x2 x3 H locs ls hr hW hl => absurd (show (none : Option (Int32)) = some r from hr) (fun h => by cases h)
    | succ n_4 ih_4 =>
      intro x2 x3 H locs ls hr hW hl
      have hr : lpB_L_sum_4 fp p0  (lp_L_sum_4 fp p0  n_4) x2 x3 = some r := hr
      unfold lpB_L_sum_4 at hr
      refine lv_iload_n X.1 X.2.1 dL_sum_4 rfl (lv_at hl 3 rfl) ?_
      refine lv_bipush (v := 18) X.1 X.2.1 dL_sum_5 (by decide) ?_
      refine z_cmpge X 22 hr dL_sum_7 (by decide) (fun hr => ?_) (fun hr => ?_)
      · refine lv_iload_n X.1 X.2.1 dL_sum_22 rfl (lv_at hl 2 rfl) ?_
        cases hr
        exact z_iret X hW rfl dL_sum_23
      · refine lv_iload_n X.1 X.2.1 dL_sum_10 rfl (lv_at hl 2 rfl) ?_
        refine lv_aload_n X.1 X.2.1 dL_sum_11 rfl (lv_at hl 1 rfl) ?_
        refine lv_iload_n X.1 X.2.1 dL_sum_12 rfl (lv_at hl 3 rfl) ?_
        refine z_ald X hW 0 hr rfl dL_sum_13 (fun t13 hr => ?_)
        refine z_iadd X hr dL_sum_14 (fun t14 hr => ?_)
        refine lv_istore_n (lv' := [(2, .int t14), (0, .int p0), (1, .ref (Ap 0)), (3, .int x3)]) X.1 X.2.1 dL_sum_15 rfl hl (by decide) rfl (fun ls hl => ?_)
        refine z_iinc X (fun x3_16 => [(3, .int x3_16), (2, .int t14), (0, .int p0), (1, .ref (Ap 0))]) hr hl (k := 3) rfl (by decide) (fun _ => rfl) dL_sum_16 (fun x3_16 ls hr hl => ?_)
        refine lv_goto (tgt := 4) X.1 X.2.1 dL_sum_19 (by decide) ?_
        exact ih_4 t14 x3_16 _ _ _ hr hW (lv_sub hl [2, 3, 1, 0] rfl)
  exact L_4 _ 0 p0 _ _ _ hr hW (lv_sub hl [2, 3, 1, 0] rfl)
