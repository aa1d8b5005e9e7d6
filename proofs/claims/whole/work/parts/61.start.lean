/-! ===== the start: what the Statement gives of it ===== -/
theorem st_lit (k : Nat) : (k : Nat) < 6 → Int32.ofNat k = nI k := fun _ => rfl

theorem st_LEAST {b : Nat} {s : State} (hgv : (Jvm.Cond.and given_1 narrow_1).before #[Value.ref b] s = true) (hts : ∀ w ∈ lw_tbl, w.before #[Value.ref b] s = true) : ∃ t : Nat, va_Z RX7 "LEAST" "[I" (.ref t) (fun q : Nat => s.heap.size ≤ q) s s.heap ∧ va_T .int t 6 (fun j => .int (zLEAST j)) (fun q : Nat => s.heap.size ≤ q) s s.heap := by
  have hs := flat_of_before _ hgv
  have hA : ∀ a : Nat, a < s.heap.size → ¬ (fun q : Nat => s.heap.size ≤ q) a := fun a h => Nat.not_le.mpr h
  have h1 : (Cond.arrayOf (Term.static "ApplauseTallies" "LEAST" "[I") .int).before #[Value.ref b] s = true := hs _ (by decide +kernel)
  have h2 : (Cond.eq (.length (Term.static "ApplauseTallies" "LEAST" "[I")) (.int 6)).before #[Value.ref b] s = true := hs _ (by decide +kernel)
  have g0 : (Cond.eq (.elem (Term.static "ApplauseTallies" "LEAST" "[I") (.int 0)) (.int 1)).before #[Value.ref b] s = true := hs _ (by decide +kernel)
  have g1 : (Cond.eq (.elem (Term.static "ApplauseTallies" "LEAST" "[I") (.int 1)) (.int 20)).before #[Value.ref b] s = true := hs _ (by decide +kernel)
  have g2 : (Cond.eq (.elem (Term.static "ApplauseTallies" "LEAST" "[I") (.int 2)) (.int 1)).before #[Value.ref b] s = true := hs _ (by decide +kernel)
  have g3 : (Cond.eq (.elem (Term.static "ApplauseTallies" "LEAST" "[I") (.int 3)) (.int 0)).before #[Value.ref b] s = true := hs _ (by decide +kernel)
  have g4 : (Cond.eq (.elem (Term.static "ApplauseTallies" "LEAST" "[I") (.int 4)) (.int 1)).before #[Value.ref b] s = true := hs _ (by decide +kernel)
  have g5 : (Cond.eq (.elem (Term.static "ApplauseTallies" "LEAST" "[I") (.int 5)) (.int 1)).before #[Value.ref b] s = true := hs _ (by decide +kernel)
  obtain ⟨t, ht, hT⟩ := va_Tof (f := fun j => .int (zLEAST j)) (N := 6) (by decide) h1 (va_eqt h2) (fun j hj => by
    match j, hj with
    | 0, _ => exact va_eqt g0
    | 1, _ => exact va_eqt g1
    | 2, _ => exact va_eqt g2
    | 3, _ => exact va_eqt g3
    | 4, _ => exact va_eqt g4
    | 5, _ => exact va_eqt g5
    | j + 6, h => omega) hA
  exact ⟨t, va_Zof (hts (.laysStatic RX7 "LEAST" "[I") (List.mem_of_getElem? (i := 316) (by decide +kernel))) (hts (.initialized RX7) (List.mem_of_getElem? (i := 48) (by decide +kernel))) ht hA, hT⟩
theorem st_MOST {b : Nat} {s : State} (hgv : (Jvm.Cond.and given_1 narrow_1).before #[Value.ref b] s = true) (hts : ∀ w ∈ lw_tbl, w.before #[Value.ref b] s = true) : ∃ t : Nat, va_Z RX7 "MOST" "[I" (.ref t) (fun q : Nat => s.heap.size ≤ q) s s.heap ∧ va_T .int t 6 (fun j => .int (zMOST j)) (fun q : Nat => s.heap.size ≤ q) s s.heap := by
  have hs := flat_of_before _ hgv
  have hA : ∀ a : Nat, a < s.heap.size → ¬ (fun q : Nat => s.heap.size ≤ q) a := fun a h => Nat.not_le.mpr h
  have h1 : (Cond.arrayOf (Term.static "ApplauseTallies" "MOST" "[I") .int).before #[Value.ref b] s = true := hs _ (by decide +kernel)
  have h2 : (Cond.eq (.length (Term.static "ApplauseTallies" "MOST" "[I")) (.int 6)).before #[Value.ref b] s = true := hs _ (by decide +kernel)
  have g0 : (Cond.eq (.elem (Term.static "ApplauseTallies" "MOST" "[I") (.int 0)) (.int 50)).before #[Value.ref b] s = true := hs _ (by decide +kernel)
  have g1 : (Cond.eq (.elem (Term.static "ApplauseTallies" "MOST" "[I") (.int 1)) (.int 900)).before #[Value.ref b] s = true := hs _ (by decide +kernel)
  have g2 : (Cond.eq (.elem (Term.static "ApplauseTallies" "MOST" "[I") (.int 2)) (.int 300)).before #[Value.ref b] s = true := hs _ (by decide +kernel)
  have g3 : (Cond.eq (.elem (Term.static "ApplauseTallies" "MOST" "[I") (.int 3)) (.int 9)).before #[Value.ref b] s = true := hs _ (by decide +kernel)
  have g4 : (Cond.eq (.elem (Term.static "ApplauseTallies" "MOST" "[I") (.int 4)) (.int 9)).before #[Value.ref b] s = true := hs _ (by decide +kernel)
  have g5 : (Cond.eq (.elem (Term.static "ApplauseTallies" "MOST" "[I") (.int 5)) (.int 900)).before #[Value.ref b] s = true := hs _ (by decide +kernel)
  obtain ⟨t, ht, hT⟩ := va_Tof (f := fun j => .int (zMOST j)) (N := 6) (by decide) h1 (va_eqt h2) (fun j hj => by
    match j, hj with
    | 0, _ => exact va_eqt g0
    | 1, _ => exact va_eqt g1
    | 2, _ => exact va_eqt g2
    | 3, _ => exact va_eqt g3
    | 4, _ => exact va_eqt g4
    | 5, _ => exact va_eqt g5
    | j + 6, h => omega) hA
  exact ⟨t, va_Zof (hts (.laysStatic RX7 "MOST" "[I") (List.mem_of_getElem? (i := 318) (by decide +kernel))) (hts (.initialized RX7) (List.mem_of_getElem? (i := 48) (by decide +kernel))) ht hA, hT⟩
theorem st_FIRST {b : Nat} {s : State} (hgv : (Jvm.Cond.and given_1 narrow_1).before #[Value.ref b] s = true) (hts : ∀ w ∈ lw_tbl, w.before #[Value.ref b] s = true) : ∃ t : Nat, va_Z RX7 "FIRST" "[I" (.ref t) (fun q : Nat => s.heap.size ≤ q) s s.heap ∧ va_T .int t 6 (fun j => .int (zFIRST j)) (fun q : Nat => s.heap.size ≤ q) s s.heap := by
  have hs := flat_of_before _ hgv
  have hA : ∀ a : Nat, a < s.heap.size → ¬ (fun q : Nat => s.heap.size ≤ q) a := fun a h => Nat.not_le.mpr h
  have h1 : (Cond.arrayOf (Term.static "ApplauseTallies" "FIRST" "[I") .int).before #[Value.ref b] s = true := hs _ (by decide +kernel)
  have h2 : (Cond.eq (.length (Term.static "ApplauseTallies" "FIRST" "[I")) (.int 6)).before #[Value.ref b] s = true := hs _ (by decide +kernel)
  have g0 : (Cond.eq (.elem (Term.static "ApplauseTallies" "FIRST" "[I") (.int 0)) (.int 10)).before #[Value.ref b] s = true := hs _ (by decide +kernel)
  have g1 : (Cond.eq (.elem (Term.static "ApplauseTallies" "FIRST" "[I") (.int 1)) (.int 200)).before #[Value.ref b] s = true := hs _ (by decide +kernel)
  have g2 : (Cond.eq (.elem (Term.static "ApplauseTallies" "FIRST" "[I") (.int 2)) (.int 60)).before #[Value.ref b] s = true := hs _ (by decide +kernel)
  have g3 : (Cond.eq (.elem (Term.static "ApplauseTallies" "FIRST" "[I") (.int 3)) (.int 2)).before #[Value.ref b] s = true := hs _ (by decide +kernel)
  have g4 : (Cond.eq (.elem (Term.static "ApplauseTallies" "FIRST" "[I") (.int 4)) (.int 3)).before #[Value.ref b] s = true := hs _ (by decide +kernel)
  have g5 : (Cond.eq (.elem (Term.static "ApplauseTallies" "FIRST" "[I") (.int 5)) (.int 50)).before #[Value.ref b] s = true := hs _ (by decide +kernel)
  obtain ⟨t, ht, hT⟩ := va_Tof (f := fun j => .int (zFIRST j)) (N := 6) (by decide) h1 (va_eqt h2) (fun j hj => by
    match j, hj with
    | 0, _ => exact va_eqt g0
    | 1, _ => exact va_eqt g1
    | 2, _ => exact va_eqt g2
    | 3, _ => exact va_eqt g3
    | 4, _ => exact va_eqt g4
    | 5, _ => exact va_eqt g5
    | j + 6, h => omega) hA
  exact ⟨t, va_Zof (hts (.laysStatic RX7 "FIRST" "[I") (List.mem_of_getElem? (i := 162) (by decide +kernel))) (hts (.initialized RX7) (List.mem_of_getElem? (i := 48) (by decide +kernel))) ht hA, hT⟩
set_option maxHeartbeats 4000000 in
set_option maxRecDepth 100000 in
theorem st_E {b : Nat} {s : State} (hgv : (Jvm.Cond.and given_1 narrow_1).before #[Value.ref b] s = true) (hts : ∀ w ∈ lw_tbl, w.before #[Value.ref b] s = true) : ∃ E : zE, zK E (fun q : Nat => s.heap.size ≤ q) s s.heap := by
  obtain ⟨c0, i0, hk0⟩ := u_known (C := RX0) (T := TX0) (N := 6) (n := 6) hts inX0 (hts (.instantiable RX0 6) (List.mem_of_getElem? (i := 130) (by decide +kernel)))
  obtain ⟨c1, i1, hk1⟩ := u_known (C := RX1) (T := TX1) (N := 3) (n := 3) hts inX1 (hts (.instantiable RX1 3) (List.mem_of_getElem? (i := 206) (by decide +kernel)))
  obtain ⟨c2, i2, hk2⟩ := u_known (C := RX2) (T := TX2) (N := 11) (n := 11) hts inX2 (hts (.instantiable RX2 11) (List.mem_of_getElem? (i := 68) (by decide +kernel)))
  obtain ⟨c3, i3, hk3⟩ := u_known (C := RX3) (T := TX3) (N := 5) (n := 5) hts inX3 (hts (.instantiable RX3 5) (List.mem_of_getElem? (i := 238) (by decide +kernel)))
  obtain ⟨c4, i4, hk4⟩ := u_known (C := RX4) (T := TX4) (N := 2) (n := 2) hts inX4 (hts (.instantiable RX4 2) (List.mem_of_getElem? (i := 225) (by decide +kernel)))
  obtain ⟨c5, i5, hk5⟩ := u_known (C := RX5) (T := TX5) (N := 1) (n := 1) hts inX5 (hts (.instantiable RX5 1) (List.mem_of_getElem? (i := 74) (by decide +kernel)))
  obtain ⟨c6, i6, hk6⟩ := u_known (C := RX6) (T := TX6) (N := 8) (n := 8) hts inX6 (hts (.instantiable RX6 8) (List.mem_of_getElem? (i := 88) (by decide +kernel)))
  obtain ⟨c7, i7, hk7⟩ := u_known (C := RX7) (T := TX7) (N := 5) (n := 5) hts inX7 (hts (.instantiable RX7 5) (List.mem_of_getElem? (i := 60) (by decide +kernel)))
  obtain ⟨c8, i8, hk8⟩ := u_known (C := RX8) (T := TX8) (N := 12) (n := 12) hts inX8 (hts (.instantiable RX8 12) (List.mem_of_getElem? (i := 690) (by decide +kernel)))
  obtain ⟨dC, dI, hKc⟩ : ∃ (dC : Nat → ClassId) (dI : Nat → Nat → Nat), ∀ (k : Nat) (q : vw_C), vwCl[k]? = some q → u_Kn s q.1 q.2.1 q.2.2 (dC k) (dI k) := by
    refine ⟨fun k => if k = 0 then c0 else if k = 1 then c1 else if k = 2 then c2 else if k = 3 then c3 else if k = 4 then c4 else if k = 5 then c5 else if k = 6 then c6 else if k = 7 then c7 else c8, fun k => if k = 0 then i0 else if k = 1 then i1 else if k = 2 then i2 else if k = 3 then i3 else if k = 4 then i4 else if k = 5 then i5 else if k = 6 then i6 else if k = 7 then i7 else i8, ?_⟩
    intro k q hq
    match k, hq with
    | 0, hq => cases hq; exact hk0
    | 1, hq => cases hq; exact hk1
    | 2, hq => cases hq; exact hk2
    | 3, hq => cases hq; exact hk3
    | 4, hq => cases hq; exact hk4
    | 5, hq => cases hq; exact hk5
    | 6, hq => cases hq; exact hk6
    | 7, hq => cases hq; exact hk7
    | 8, hq => cases hq; exact hk8
    | k + 9, hq => simp [vwCl] at hq
  obtain ⟨cI, kI, mI, a1, a2, a3⟩ := Cond.arrayClass_spec (hts (.arrayClass .int) (List.mem_of_getElem? (i := 86) (by decide +kernel)))
  obtain ⟨mH, cH, kH, b1, b2, b3, b4, b5⟩ := Cond.arrayOver_spec (hts (.arrayOver (.object RX2)) (List.mem_of_getElem? (i := 212) (by decide +kernel)))
  obtain ⟨t0, z0, T0⟩ := st_LEAST hgv hts
  obtain ⟨t1, z1, T1⟩ := st_MOST hgv hts
  obtain ⟨t2, z2, T2⟩ := st_FIRST hgv hts
  refine ⟨((dC, dI), cI, cH, fun k => if k = 0 then t0 else if k = 1 then t1 else t2), ⟨hKc, fun k q hq => ?_⟩, fun w hw => ?_, va_AO.of (hts (.arrayOver (.object RX2)) (List.mem_of_getElem? (i := 212) (by decide +kernel))), ⟨z0, T0⟩, ⟨z1, T1⟩, z2, T2⟩
  · match k, hq with
    | 0, hq =>
      cases hq
      exact ⟨fun n z => ⟨fun k h => (by cases h), kI, a2, mI, a3⟩, a1⟩
    | 1, hq =>
      cases hq
      exact ⟨fun n z => ⟨fun k h => (by cases h), kH, b3, mH, b4⟩, kH, mH, b3, b4, b1, b5⟩
    | k + 2, hq => simp at hq
  · have h1 := zNest_is w hw
    have h2 := hts w (zNest_in w hw)
    cases w <;> first | (cases h1; done) | exact va_Nw.of rfl h2
set_option maxHeartbeats 4000000 in
set_option maxRecDepth 100000 in
theorem start_of {S : zREL} (hSt : zSteps S) (hS0 : S 0 zH0 (fun _ _ => 0) zU0 (fun _ _ _ => 0) zM0) {p : Program} {e : Env} {s : State} {m : MethodId} {below : List Frame} {meth : Method} {c : Code} (l : Launch) {b L : Nat} {xs : Nat → Int32} (hL : L ≤ 1536) (C0 : lw_At p s m meth c b L xs) : W p l e room_1 s m #[Value.ref b] below meth c s.heap [] 0 0 (lw_Z below #[Value.ref b] s) (entryFrame m ([Value.ref b] : List Value).toArray 4) := by
  obtain ⟨hx, hb, hr, hml, hown, hts, hX, hbl, hlocks, hgv⟩ := C0
  obtain ⟨E, hK⟩ := st_E hgv hts
  have X : zX E wsL_law RL cL_law 4 ret ⟨"", meth.name, ""⟩ p s m #[Value.ref b] meth c (fun q : Nat => s.heap.size ≤ q) := ⟨hx, hb, hml, hown, fun w hw => hts w (wsL_law_in w hw), hK, fun q h => h, hr, hlocks, rfl⟩
  have hW : zW E (fun q : Nat => s.heap.size ≤ q) s [] s.heap [] := ⟨fun k q h => by simp at h, ⟨fun i j p q h => by simp at h, fun k q h => by simp at h⟩, va_S.rf⟩
  have hl := lv_entry ([.ref b]) (n := 4) (Nat.le_of_ble_eq_true rfl)
  rw [lg_entry_eq]
  generalize (lg_sl ([.ref b]) ++ List.replicate (4 - (lg_sl ([.ref b])).length) Slot.unset).toArray = ls at hl ⊢
  have hl : lv_has ls 4 [(0, .ref b)] := hl
  have m1 : Cond.classLink RL 7 RX7 ∈ wsL_law := by decide +kernel
  have m2 : Cond.instantiable RX7 5 ∈ wsL_law := by decide +kernel
  have m3 : Cond.initialized RX7 ∈ wsL_law := by decide +kernel
  have m4 : Cond.methodLink RL 9 yX7_init ∈ wsL_law := by decide +kernel
  have m5 : Cond.instanceMethod yX7_init ∈ wsL_law := by decide +kernel
  have n1 : Cond.classLink RL 10 RX8 ∈ wsL_law := by decide +kernel
  have n2 : Cond.instantiable RX8 12 ∈ wsL_law := by decide +kernel
  have n3 : Cond.initialized RX8 ∈ wsL_law := by decide +kernel
  have n4 : Cond.methodLink RL 12 yX8_init ∈ wsL_law := by decide +kernel
  have n5 : Cond.instanceMethod yX8_init ∈ wsL_law := by decide +kernel
  refine z_new X hW tyX7 tyX7_ok (C := RX7) (T := TX7) (N := 5) 7 rfl inlX7 m1 m2 m3 [.null, .null, .null, .null, .null] (fun j hj => by rcases (show j = 0 ∨ j = 1 ∨ j = 2 ∨ j = 3 ∨ j = 4 by omega) with rfl | rfl | rfl | rfl | rfl <;> rfl) (by decide) (by decide) dL_law_0 (fun q1 H hW => ?_)
  refine W.cs (cells' := 1) (slots' := 5) rfl rfl ?_
  have hW := zW_eq hW (List.nil_append _)
  refine lv_dup X.1 X.2.1 dL_law_3 rfl ?_
  have hp_4 := z_all ([(q1, .inr (7, [.null, .null, .null, .null, .null]))] : va_W)
  refine z_calla X hW hp_4 (z_runI (b := q1) (As := []) (rest := [.ref q1]) X hW hp_4 (c_X7_init l E q1 _) hy_X7_init m3 m4 m5 rfl gL_law_X7_init rfl rfl ⟨by decide, by decide⟩ rfl hl rfl rfl (Nat.le_of_ble_eq_true rfl) dL_law_4 ⟨by decide, by decide⟩) (fun w1 H locs hw hW1 => ?_)
  clear hp_4 hW
  obtain ⟨a, b0, e1, rfl⟩ := hw
  subst e1
  have hW := zW_perm hW1 (z_lla _)
  clear hW1
  refine W.cs (cells' := 239) (slots' := 2152) rfl rfl ?_
  refine lv_astore_n (lv' := [(1, .ref (a 0)), (0, .ref b)]) X.1 X.2.1 dL_law_7 rfl hl (by decide) rfl (fun ls hl => ?_)
  refine z_new X hW tyX8 tyX8_ok (C := RX8) (T := TX8) (N := 12) 8 rfl inlX8 n1 n2 n3 [.null, .null, .null, .int 0, .null, .null, .null, .int 0, .int 0, .int 0, .int 0, .int 0] (fun j hj => by rcases (show j = 0 ∨ j = 1 ∨ j = 2 ∨ j = 3 ∨ j = 4 ∨ j = 5 ∨ j = 6 ∨ j = 7 ∨ j = 8 ∨ j = 9 ∨ j = 10 ∨ j = 11 by omega) with rfl | rfl | rfl | rfl | rfl | rfl | rfl | rfl | rfl | rfl | rfl | rfl <;> rfl) (by decide) (by decide) dL_law_8 (fun q2 H hW => ?_)
  refine W.cs (cells' := 240) (slots' := 2164) rfl rfl ?_
  refine lv_dup X.1 X.2.1 dL_law_11 rfl ?_
  have hp_12 : (zXW E a b0 zH0 (fun _ _ => 0) zU0 (fun _ _ _ => 0) ++ ([(q2, .inr (8, [.null, .null, .null, .int 0, .null, .null, .null, .int 0, .int 0, .int 0, .int 0, .int 0]))] : va_W)).Perm (([(q2, .inr (8, [.null, .null, .null, .int 0, .null, .null, .null, .int 0, .int 0, .int 0, .int 0, .int 0]))] : va_W) ++ zXW E a b0 zH0 (fun _ _ => 0) zU0 (fun _ _ _ => 0)) := List.perm_append_comm
  refine z_calla X hW hp_12 (z_runI (b := q2) (As := []) (rest := [.ref q2]) X hW hp_12 (c_X8_init l E q2 _) hy_X8_init n3 n4 n5 rfl gL_law_X8_init rfl rfl ⟨by decide, by decide⟩ rfl hl rfl rfl (Nat.le_of_ble_eq_true rfl) dL_law_12 ⟨by decide, by decide⟩) (fun w1 H locs hw hW1 => ?_)
  clear hp_12 hW
  obtain ⟨am, e2, rfl⟩ := hw
  subst e2
  have hW := zW_perm hW1 List.perm_append_comm
  clear hW1
  refine W.cs (cells' := 246) (slots' := 5126) rfl rfl ?_
  refine lv_astore_n (lv' := [(2, .ref (am 0)), (1, .ref (a 0)), (0, .ref b)]) X.1 X.2.1 dL_law_15 rfl hl (by decide) rfl (fun ls hl => ?_)
  refine lv_iconst (v := 0) X.1 X.2.1 dL_law_16 (by decide) ?_
  refine lv_istore_n (lv' := [(3, .int 0), (2, .ref (am 0)), (1, .ref (a 0)), (0, .ref b)]) X.1 X.2.1 dL_law_17 rfl hl (by decide) rfl (fun ls hl => ?_)
  exact law_loop hSt hL X hX hbl 513 0 (by omega) (by omega) a b0 am _ _ _ _ _ _ _ _ hS0 hW (lv_sub hl [3, 2, 1, 0] rfl)
