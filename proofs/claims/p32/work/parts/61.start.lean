/-! ===== the start: what the Statement gives of it ===== -/
theorem st_LEAST {b : Nat} {s : State} (hgv : (Jvm.Cond.and given_1 narrow_1).before #[Value.ref b] s = true) (hts : ∀ w ∈ lw_tbl, w.before #[Value.ref b] s = true) : ∃ t : Nat, va_Z RX7 "LEAST" "[I" (.ref t) (fun q : Nat => s.heap.size ≤ q) s s.heap ∧ va_T .int t 6 (fun j => .int (zLEAST j)) (fun q : Nat => s.heap.size ≤ q) s s.heap := by
  have hs := flat_of_before _ hgv
  have hA : ∀ a : Nat, a < s.heap.size → ¬ (fun q : Nat => s.heap.size ≤ q) a := fun a h => Nat.not_le.mpr h
  have h1 : (Cond.arrayOf (Term.static "ApplauseTallies" "LEAST" "[I") .int).before #[Value.ref b] s = true := hs _ (by decide +kernel)
  have h2 : (Cond.eq (.length (Term.static "ApplauseTallies" "LEAST" "[I")) (.int 6)).before #[Value.ref b] s = true := hs _ (by decide +kernel)
  have g0 : (Cond.eq (.elem (Term.static "ApplauseTallies" "LEAST" "[I") (.int 0)) (.int 1)).before #[Value.ref b] s = true := hs _ (by decide +kernel)
  have g1 : (Cond.eq (.elem (Term.static "ApplauseTallies" "LEAST" "[I") (.int 1)) (.int 20)).before #[Value.ref b] s = true := hs _ (by decide +kernel)
  have g2 : (Cond.eq (.elem (Term.static "ApplauseTallies" "LEAST" "[I") (.int 2)) (.int 1)).before #[Value.ref b] s = true := hs _ (by decide +kernel)
  have g3 : (Cond.eq (.elem (Term.static "ApplauseTallies" "LEAST" "[I") (.int 3)) (.int 0)).before #[Value.ref b] s = true := hs _ (by decide +kernel)
  have g4 : (Cond.eq (.elem (Term.static "ApplauseTallies" "LEAST" "[I") (.int 4)) (.int 1)).before #[Value.ref b] s = true := hs _ (by decide +kernel)
  have g5 : (Cond.eq (.elem (Term.static "ApplauseTallies" "LEAST" "[I") (.int 5)) (.int 1)).before #[Value.ref b] s = true := hs _ (by decide +kernel)
  obtain ⟨t, ht, hT⟩ := va_Tof (f := fun j => .int (zLEAST j)) (N := 6) (by decide) h1 (va_eqt h2) (fun j hj => by
    match j, hj with
    | 0, _ => exact va_eqt g0
    | 1, _ => exact va_eqt g1
    | 2, _ => exact va_eqt g2
    | 3, _ => exact va_eqt g3
    | 4, _ => exact va_eqt g4
    | 5, _ => exact va_eqt g5
    | j + 6, h => omega) hA
  exact ⟨t, va_Zof (hts (.laysStatic RX7 "LEAST" "[I") (List.mem_of_getElem? (i := 460) (by decide +kernel))) (hts (.initialized RX7) (List.mem_of_getElem? (i := 5) (by decide +kernel))) ht hA, hT⟩
theorem st_MOST {b : Nat} {s : State} (hgv : (Jvm.Cond.and given_1 narrow_1).before #[Value.ref b] s = true) (hts : ∀ w ∈ lw_tbl, w.before #[Value.ref b] s = true) : ∃ t : Nat, va_Z RX7 "MOST" "[I" (.ref t) (fun q : Nat => s.heap.size ≤ q) s s.heap ∧ va_T .int t 6 (fun j => .int (zMOST j)) (fun q : Nat => s.heap.size ≤ q) s s.heap := by
  have hs := flat_of_before _ hgv
  have hA : ∀ a : Nat, a < s.heap.size → ¬ (fun q : Nat => s.heap.size ≤ q) a := fun a h => Nat.not_le.mpr h
  have h1 : (Cond.arrayOf (Term.static "ApplauseTallies" "MOST" "[I") .int).before #[Value.ref b] s = true := hs _ (by decide +kernel)
  have h2 : (Cond.eq (.length (Term.static "ApplauseTallies" "MOST" "[I")) (.int 6)).before #[Value.ref b] s = true := hs _ (by decide +kernel)
  have g0 : (Cond.eq (.elem (Term.static "ApplauseTallies" "MOST" "[I") (.int 0)) (.int 50)).before #[Value.ref b] s = true := hs _ (by decide +kernel)
  have g1 : (Cond.eq (.elem (Term.static "ApplauseTallies" "MOST" "[I") (.int 1)) (.int 900)).before #[Value.ref b] s = true := hs _ (by decide +kernel)
  have g2 : (Cond.eq (.elem (Term.static "ApplauseTallies" "MOST" "[I") (.int 2)) (.int 300)).before #[Value.ref b] s = true := hs _ (by decide +kernel)
  have g3 : (Cond.eq (.elem (Term.static "ApplauseTallies" "MOST" "[I") (.int 3)) (.int 9)).before #[Value.ref b] s = true := hs _ (by decide +kernel)
  have g4 : (Cond.eq (.elem (Term.static "ApplauseTallies" "MOST" "[I") (.int 4)) (.int 9)).before #[Value.ref b] s = true := hs _ (by decide +kernel)
  have g5 : (Cond.eq (.elem (Term.static "ApplauseTallies" "MOST" "[I") (.int 5)) (.int 900)).before #[Value.ref b] s = true := hs _ (by decide +kernel)
  obtain ⟨t, ht, hT⟩ := va_Tof (f := fun j => .int (zMOST j)) (N := 6) (by decide) h1 (va_eqt h2) (fun j hj => by
    match j, hj with
    | 0, _ => exact va_eqt g0
    | 1, _ => exact va_eqt g1
    | 2, _ => exact va_eqt g2
    | 3, _ => exact va_eqt g3
    | 4, _ => exact va_eqt g4
    | 5, _ => exact va_eqt g5
    | j + 6, h => omega) hA
  exact ⟨t, va_Zof (hts (.laysStatic RX7 "MOST" "[I") (List.mem_of_getElem? (i := 462) (by decide +kernel))) (hts (.initialized RX7) (List.mem_of_getElem? (i := 5) (by decide +kernel))) ht hA, hT⟩
theorem st_FIRST {b : Nat} {s : State} (hgv : (Jvm.Cond.and given_1 narrow_1).before #[Value.ref b] s = true) (hts : ∀ w ∈ lw_tbl, w.before #[Value.ref b] s = true) : ∃ t : Nat, va_Z RX7 "FIRST" "[I" (.ref t) (fun q : Nat => s.heap.size ≤ q) s s.heap ∧ va_T .int t 6 (fun j => .int (zFIRST j)) (fun q : Nat => s.heap.size ≤ q) s s.heap := by
  have hs := flat_of_before _ hgv
  have hA : ∀ a : Nat, a < s.heap.size → ¬ (fun q : Nat => s.heap.size ≤ q) a := fun a h => Nat.not_le.mpr h
  have h1 : (Cond.arrayOf (Term.static "ApplauseTallies" "FIRST" "[I") .int).before #[Value.ref b] s = true := hs _ (by decide +kernel)
  have h2 : (Cond.eq (.length (Term.static "ApplauseTallies" "FIRST" "[I")) (.int 6)).before #[Value.ref b] s = true := hs _ (by decide +kernel)
  have g0 : (Cond.eq (.elem (Term.static "ApplauseTallies" "FIRST" "[I") (.int 0)) (.int 10)).before #[Value.ref b] s = true := hs _ (by decide +kernel)
  have g1 : (Cond.eq (.elem (Term.static "ApplauseTallies" "FIRST" "[I") (.int 1)) (.int 200)).before #[Value.ref b] s = true := hs _ (by decide +kernel)
  have g2 : (Cond.eq (.elem (Term.static "ApplauseTallies" "FIRST" "[I") (.int 2)) (.int 60)).before #[Value.ref b] s = true := hs _ (by decide +kernel)
  have g3 : (Cond.eq (.elem (Term.static "ApplauseTallies" "FIRST" "[I") (.int 3)) (.int 2)).before #[Value.ref b] s = true := hs _ (by decide +kernel)
  have g4 : (Cond.eq (.elem (Term.static "ApplauseTallies" "FIRST" "[I") (.int 4)) (.int 3)).before #[Value.ref b] s = true := hs _ (by decide +kernel)
  have g5 : (Cond.eq (.elem (Term.static "ApplauseTallies" "FIRST" "[I") (.int 5)) (.int 50)).before #[Value.ref b] s = true := hs _ (by decide +kernel)
  obtain ⟨t, ht, hT⟩ := va_Tof (f := fun j => .int (zFIRST j)) (N := 6) (by decide) h1 (va_eqt h2) (fun j hj => by
    match j, hj with
    | 0, _ => exact va_eqt g0
    | 1, _ => exact va_eqt g1
    | 2, _ => exact va_eqt g2
    | 3, _ => exact va_eqt g3
    | 4, _ => exact va_eqt g4
    | 5, _ => exact va_eqt g5
    | j + 6, h => omega) hA
  exact ⟨t, va_Zof (hts (.laysStatic RX7 "FIRST" "[I") (List.mem_of_getElem? (i := 118) (by decide +kernel))) (hts (.initialized RX7) (List.mem_of_getElem? (i := 5) (by decide +kernel))) ht hA, hT⟩
set_option maxHeartbeats 4000000 in
set_option maxRecDepth 100000 in
theorem st_E {b L : Nat} {xs : Nat → Int32} {s : State} (hgv : (Jvm.Cond.and given_1 narrow_1).before #[Value.ref b] s = true) (hts : ∀ w ∈ lw_tbl, w.before #[Value.ref b] s = true) (hX : va_X b L xs s s.heap) (hbl : b < s.heap.size) : ∃ E : zE, E.2.2.2.1 3 = b ∧ E.2.2.2.2.1 = L ∧ zK E (fun q : Nat => s.heap.size ≤ q) s s.heap := by
  obtain ⟨c0, i0, hk0⟩ := u_known (C := RX0) (T := TX0) (N := 6) (n := 6) hts inX0 (hts (.instantiable RX0 6) (List.mem_of_getElem? (i := 86) (by decide +kernel)))
  obtain ⟨c1, i1, hk1⟩ := u_known (C := RX1) (T := TX1) (N := 3) (n := 3) hts inX1 (hts (.instantiable RX1 3) (List.mem_of_getElem? (i := 161) (by decide +kernel)))
  obtain ⟨c2, i2, hk2⟩ := u_known (C := RX2) (T := TX2) (N := 11) (n := 11) hts inX2 (hts (.instantiable RX2 11) (List.mem_of_getElem? (i := 24) (by decide +kernel)))
  obtain ⟨c3, i3, hk3⟩ := u_known (C := RX3) (T := TX3) (N := 5) (n := 5) hts inX3 (hts (.instantiable RX3 5) (List.mem_of_getElem? (i := 193) (by decide +kernel)))
  obtain ⟨c4, i4, hk4⟩ := u_known (C := RX4) (T := TX4) (N := 2) (n := 2) hts inX4 (hts (.instantiable RX4 2) (List.mem_of_getElem? (i := 180) (by decide +kernel)))
  obtain ⟨c5, i5, hk5⟩ := u_known (C := RX5) (T := TX5) (N := 1) (n := 1) hts inX5 (hts (.instantiable RX5 1) (List.mem_of_getElem? (i := 30) (by decide +kernel)))
  obtain ⟨c6, i6, hk6⟩ := u_known (C := RX6) (T := TX6) (N := 8) (n := 8) hts inX6 (hts (.instantiable RX6 8) (List.mem_of_getElem? (i := 44) (by decide +kernel)))
  obtain ⟨c7, i7, hk7⟩ := u_known (C := RX7) (T := TX7) (N := 5) (n := 5) hts inX7 (hts (.instantiable RX7 5) (List.mem_of_getElem? (i := 16) (by decide +kernel)))
  obtain ⟨dC, dI, hKc⟩ : ∃ (dC : Nat → ClassId) (dI : Nat → Nat → Nat), ∀ (k : Nat) (q : vw_C), vwCl[k]? = some q → u_Kn s q.1 q.2.1 q.2.2 (dC k) (dI k) := by
    refine ⟨fun k => if k = 0 then c0 else if k = 1 then c1 else if k = 2 then c2 else if k = 3 then c3 else if k = 4 then c4 else if k = 5 then c5 else if k = 6 then c6 else c7, fun k => if k = 0 then i0 else if k = 1 then i1 else if k = 2 then i2 else if k = 3 then i3 else if k = 4 then i4 else if k = 5 then i5 else if k = 6 then i6 else i7, ?_⟩
    intro k q hq
    match k, hq with
    | 0, hq => cases hq; exact hk0
    | 1, hq => cases hq; exact hk1
    | 2, hq => cases hq; exact hk2
    | 3, hq => cases hq; exact hk3
    | 4, hq => cases hq; exact hk4
    | 5, hq => cases hq; exact hk5
    | 6, hq => cases hq; exact hk6
    | 7, hq => cases hq; exact hk7
    | k + 8, hq => simp [vwCl] at hq
  obtain ⟨cI, kI, mI, a1, a2, a3⟩ := Cond.arrayClass_spec (hts (.arrayClass .int) (List.mem_of_getElem? (i := 42) (by decide +kernel)))
  obtain ⟨mH, cH, kH, b1, b2, b3, b4, b5⟩ := Cond.arrayOver_spec (hts (.arrayOver (.object RX2)) (List.mem_of_getElem? (i := 167) (by decide +kernel)))
  obtain ⟨t0, z0, T0⟩ := st_LEAST hgv hts
  obtain ⟨t1, z1, T1⟩ := st_MOST hgv hts
  obtain ⟨t2, z2, T2⟩ := st_FIRST hgv hts
  have T3 : va_T .int b L (fun j => .int (xs j)) (fun q : Nat => s.heap.size ≤ q) s s.heap := by
    obtain ⟨scr, hcb, hof, hkn, hsz, hval⟩ := hX
    exact ⟨scr, hcb, hof, hkn, Nat.le_of_eq hsz.symm, by rw [hsz], hval, Nat.not_le.mpr hbl⟩
  refine ⟨((dC, dI), cI, cH, (fun k => if k = 0 then t0 else if k = 1 then t1 else if k = 2 then t2 else b), L, xs), rfl, rfl, ⟨hKc, fun k q hq => ?_⟩, fun w hw => ?_, va_AO.of (hts (.arrayOver (.object RX2)) (List.mem_of_getElem? (i := 167) (by decide +kernel))), ⟨z0, T0⟩, ⟨z1, T1⟩, ⟨z2, T2⟩, T3⟩
  · match k, hq with
    | 0, hq =>
      cases hq
      exact ⟨fun n z => ⟨fun k h => (by cases h), kI, a2, mI, a3⟩, a1⟩
    | 1, hq =>
      cases hq
      exact ⟨fun n z => ⟨fun k h => (by cases h), kH, b3, mH, b4⟩, kH, mH, b3, b4, b1, b5⟩
    | k + 2, hq => simp at hq
  · have h1 := zNest_is w hw
    have h2 := hts w (zNest_in w hw)
    cases w <;> first | (cases h1; done) | exact va_Nw.of rfl h2
/-! ===== the law's arrays as they are set, and the law itself ===== -/
theorem set_3 (E : zE) (w9 : zHV) (q9 : zHI) (q e nn t p w r c : Nat → Int32) (v : zHV) (u : zHI) : ∀ d i f a, 30 - i = d → i ≤ 30 → d < f → lp_L_law_97 E w9 q9 f (nI i) q a e nn t p w r c v u = lp_L_law_118 E w9 q9 zF 0 q (zfil i 30 3 a) e nn t p w r c v u := by
  intro d
  induction d with
  | zero =>
    intro i f a h1 h2 h3
    obtain ⟨f, rfl⟩ := fu h3
    obtain rfl : i = 30 := by omega
    have z : zfil 30 30 3 a = a := by funext k; unfold zfil; rw [if_neg (by omega)]
    rw [z]
    show lpB_L_law_97 E w9 q9 (lp_L_law_97 E w9 q9 f) (nI 30) q a e nn t p w r c v u = _
    unfold lpB_L_law_97
    rw [if_pos (by decide)]
  | succ d ih =>
    intro i f a h1 h2 h3
    obtain ⟨f, rfl⟩ := fu (by omega : 0 < f)
    show lpB_L_law_97 E w9 q9 (lp_L_law_97 E w9 q9 f) (nI i) q a e nn t p w r c v u = _
    unfold lpB_L_law_97
    rw [if_neg (show ¬ (30 : Int32) ≤ nI i from nI_ge (b := 30) (by omega) (by decide)), zst_nI (by omega) (by decide), zlet_n, nI_p1, ih (i + 1) f _ (by omega) (by omega) (by omega)]
    have z2 : zfil (i + 1) 30 3 (upd a i 3) = zfil i 30 3 a := by
      funext k
      unfold zfil
      by_cases c : k = i
      · subst c
        rw [if_neg (by omega), pk_us, if_pos (by omega)]
      · rw [pk_un c]
        by_cases c2 : i + 1 ≤ k ∧ k < 30
        · rw [if_pos c2, if_pos (by omega)]
        · rw [if_neg c2, if_neg (by omega)]
    rw [z2]
def zQ0 : Nat → Int32 := upd (upd (upd (upd (upd (upd (upd (fun _ => 0) 0 10) 1 200) 2 60) 3 2) 4 3) 5 50) 13 (-1)
theorem zcn_H0 : zcn (zH0 3) 30 = 0 := zcn_0 30 (fun _ _ => rfl)
theorem rel_0 : zLR 0 0 0 0 0 zH0 (z9 zQ0 (zfil 0 30 3 (fun _ => 0)) (fun _ => 0) (fun _ => 0) (fun _ => 0) (fun _ => 0) (fun _ => 0) (fun _ => 0) (fun _ => 0)) := by
  refine zLR_9.mpr ⟨fun k hk => ?_, ⟨fun k hk => ?_, ⟨0, by decide, rfl⟩, ?_, rfl, fun k hk => ?_⟩, ⟨by decide, rfl, rfl, fun k hk => absurd hk (by omega)⟩, fun k hk => ⟨rfl, rfl, rfl⟩, fun k hk => ?_, ⟨rfl, fun r i hr => absurd hr (by omega)⟩, ⟨by decide, by decide, by decide, rfl, rfl, rfl, Or.inl rfl, Or.inl rfl, rfl, rfl, rfl, fun _ => rfl, fun z => absurd rfl z, rfl⟩⟩
  · match k, hk with
    | 0, _ => exact ⟨rfl, 10, by decide, by decide, rfl⟩
    | 1, _ => exact ⟨rfl, 200, by decide, by decide, rfl⟩
    | 2, _ => exact ⟨rfl, 60, by decide, by decide, rfl⟩
    | 3, _ => exact ⟨rfl, 2, by decide, by decide, rfl⟩
    | 4, _ => exact ⟨rfl, 3, by decide, by decide, rfl⟩
    | 5, _ => exact ⟨rfl, 50, by decide, by decide, rfl⟩
  · refine ⟨⟨3, by decide, by decide, rfl, ?_⟩, rfl, rfl, rfl, 0, by decide, rfl⟩
    show zfil 0 30 3 (fun _ => 0) k = nI (zAc 3 ((0 : Int32).toBitVec.getLsbD k) ((0 : Int32).toBitVec.getLsbD k))
    rw [bit_0]
    unfold zfil
    rw [if_pos (by omega)]
    rfl
  · rw [zcn_H0]; rfl
  · rw [zcn_H0] at hk
    exact absurd hk (by omega)
  · match k, hk with
    | 0, _ => rfl
    | 1, _ => rfl
    | 2, _ => rfl
    | 3, _ => rfl
theorem d_start (E : zE) (hL : E.2.2.2.2.1 ≤ 260) (w9 : zHV) (q9 : zHI) : d_L_law E (fun _ => 0) (fun _ => 0) (fun _ => 0) (fun _ => 0) (fun _ => 0) (fun _ => 0) (fun _ => 0) (fun _ => 0) (fun _ => 0) zH0 w9 zU0 q9 = some 1 := by
  unfold d_L_law
  rw [V0, V1, V2, V3, V4, V5, V13]
  refine (set_3 E w9 q9 zQ0 (fun _ => 0) (fun _ => 0) (fun _ => 0) (fun _ => 0) (fun _ => 0) (fun _ => 0) (fun _ => 0) zH0 zU0 30 0 zF (fun _ => 0) rfl (by decide) (by decide)).trans ?_
  exact turns E hL w9 q9 60 0 zF 0 0 0 0 zH0 zU0 zQ0 _ _ _ _ _ _ _ _ rfl (by decide) (by decide) (by decide) (by decide) ⟨0, 0, by decide, by decide, rfl, rfl⟩ rel_0
set_option maxHeartbeats 4000000 in
set_option maxRecDepth 100000 in
theorem start_of {p : Program} {e : Env} {s : State} {m : MethodId} {below : List Frame} {meth : Method} {c : Code} (l : Launch) {b L : Nat} {xs : Nat → Int32} (hL : L ≤ 260) (C0 : lw_At p s m meth c b L xs) : W p l e room_1 s m #[Value.ref b] below meth c s.heap [] 0 0 (lw_Z below #[Value.ref b] s) (entryFrame m ([Value.ref b] : List Value).toArray 22) := by
  obtain ⟨hx, hb, hr, hml, hown, hts, hX, hbl, hlocks, hgv⟩ := C0
  obtain ⟨E, rfl, rfl, hK⟩ := st_E hgv hts hX hbl
  have X : zX E wsL_law RL cL_law 22 ret ⟨"", meth.name, ""⟩ p s m #[Value.ref (E.2.2.2.1 3)] meth c (fun q : Nat => s.heap.size ≤ q) := ⟨hx, hb, hml, hown, fun w hw => hts w (wsL_law_in w hw), hK, fun q h => h, hr, hlocks, rfl⟩
  have hW : zW E (fun q : Nat => s.heap.size ≤ q) s [] s.heap [] := ⟨fun k q h => by simp at h, ⟨fun i j p q h => by simp at h, fun k q h => by simp at h⟩, va_S.rf⟩
  have hl := lv_entry ([.ref (E.2.2.2.1 3)]) (n := 22) (Nat.le_of_ble_eq_true rfl)
  rw [lg_entry_eq]
  generalize (lg_sl ([.ref (E.2.2.2.1 3)]) ++ List.replicate (22 - (lg_sl ([.ref (E.2.2.2.1 3)])).length) Slot.unset).toArray = ls at hl ⊢
  have hl : lv_has ls 22 [(0, .ref (E.2.2.2.1 3))] := hl
  have m1 : Cond.classLink RL 35 RX7 ∈ wsL_law := by decide +kernel
  have m2 : Cond.instantiable RX7 5 ∈ wsL_law := by decide +kernel
  have m3 : Cond.initialized RX7 ∈ wsL_law := by decide +kernel
  have m4 : Cond.methodLink RL 120 yX7_init ∈ wsL_law := by decide +kernel
  have m5 : Cond.instanceMethod yX7_init ∈ wsL_law := by decide +kernel
  have mA : Cond.arrayClass .int ∈ wsL_law := by decide +kernel
  refine z_new X hW tyX7 tyX7_ok (C := RX7) (T := TX7) (N := 5) 7 rfl inlX7 m1 m2 m3 [.null, .null, .null, .null, .null] (fun j hj => by rcases (show j = 0 ∨ j = 1 ∨ j = 2 ∨ j = 3 ∨ j = 4 by omega) with rfl | rfl | rfl | rfl | rfl <;> rfl) (by decide) (by decide) dL_law_0 (fun q1 H hW => ?_)
  refine W.cs (cells' := 1) (slots' := 5) rfl rfl ?_
  have hW := zW_eq hW (List.nil_append _)
  refine lv_dup X.1 X.2.1 dL_law_3 rfl ?_
  have hp_4 := z_all ([(q1, .inr (7, [.null, .null, .null, .null, .null]))] : va_W)
  refine z_calla X hW hp_4 (z_runI (b := q1) (As := []) (rest := [.ref q1]) X hW hp_4 (c_X7_init l E q1 _) hy_X7_init m3 m4 m5 rfl gL_law_X7_init rfl rfl ⟨by decide, by decide⟩ rfl hl rfl rfl (Nat.le_of_ble_eq_true rfl) dL_law_4 ⟨by decide, by decide⟩) (fun w1 H locs hw hW1 => ?_)
  clear hp_4 hW
  obtain ⟨a, b0, e1, rfl⟩ := hw
  subst e1
  have hW := zW_perm hW1 (z_lla _)
  clear hW1
  refine W.cs (cells' := 239) (slots' := 2152) rfl rfl ?_
  refine lv_astore_n (lv' := [(1, .ref (a 0)), (0, .ref (E.2.2.2.1 3))]) X.1 X.2.1 dL_law_7 rfl hl (by decide) rfl (fun ls hl => ?_)
  refine lv_bipush (v := 19) X.1 X.2.1 dL_law_8 (by decide) ?_
  refine z_newi X hW mA 19 (by decide) (by decide) (by decide) (by decide) (by decide) dL_law_10 (fun qq H hW => ?_)
  refine W.cs (cells' := 240) (slots' := 2171) rfl rfl ?_
  have hW := zW_perm hW List.perm_append_comm
  refine lv_astore_n (lv' := [(2, .ref qq), (1, .ref (a 0)), (0, .ref (E.2.2.2.1 3))]) X.1 X.2.1 dL_law_12 rfl hl (by decide) rfl (fun ls hl => ?_)
  refine lv_bipush (v := 30) X.1 X.2.1 dL_law_13 (by decide) ?_
  refine z_newi X hW mA 30 (by decide) (by decide) (by decide) (by decide) (by decide) dL_law_15 (fun qa H hW => ?_)
  refine W.cs (cells' := 241) (slots' := 2201) rfl rfl ?_
  have hW := zW_perm hW List.perm_append_comm
  refine lv_astore_n (lv' := [(3, .ref qa), (2, .ref qq), (1, .ref (a 0)), (0, .ref (E.2.2.2.1 3))]) X.1 X.2.1 dL_law_17 rfl hl (by decide) rfl (fun ls hl => ?_)
  refine lv_bipush (v := 30) X.1 X.2.1 dL_law_18 (by decide) ?_
  refine z_newi X hW mA 30 (by decide) (by decide) (by decide) (by decide) (by decide) dL_law_20 (fun qe H hW => ?_)
  refine W.cs (cells' := 242) (slots' := 2231) rfl rfl ?_
  have hW := zW_perm hW List.perm_append_comm
  refine lv_astore (lv' := [(4, .ref qe), (3, .ref qa), (2, .ref qq), (1, .ref (a 0)), (0, .ref (E.2.2.2.1 3))]) X.1 X.2.1 dL_law_22 hl (by decide) rfl (fun ls hl => ?_)
  refine lv_bipush (v := 30) X.1 X.2.1 dL_law_24 (by decide) ?_
  refine z_newi X hW mA 30 (by decide) (by decide) (by decide) (by decide) (by decide) dL_law_26 (fun qn H hW => ?_)
  refine W.cs (cells' := 243) (slots' := 2261) rfl rfl ?_
  have hW := zW_perm hW List.perm_append_comm
  refine lv_astore (lv' := [(5, .ref qn), (4, .ref qe), (3, .ref qa), (2, .ref qq), (1, .ref (a 0)), (0, .ref (E.2.2.2.1 3))]) X.1 X.2.1 dL_law_28 hl (by decide) rfl (fun ls hl => ?_)
  refine lv_bipush (v := 30) X.1 X.2.1 dL_law_30 (by decide) ?_
  refine z_newi X hW mA 30 (by decide) (by decide) (by decide) (by decide) (by decide) dL_law_32 (fun qt H hW => ?_)
  refine W.cs (cells' := 244) (slots' := 2291) rfl rfl ?_
  have hW := zW_perm hW List.perm_append_comm
  refine lv_astore (lv' := [(6, .ref qt), (5, .ref qn), (4, .ref qe), (3, .ref qa), (2, .ref qq), (1, .ref (a 0)), (0, .ref (E.2.2.2.1 3))]) X.1 X.2.1 dL_law_34 hl (by decide) rfl (fun ls hl => ?_)
  refine lv_bipush (v := 18) X.1 X.2.1 dL_law_36 (by decide) ?_
  refine z_newi X hW mA 18 (by decide) (by decide) (by decide) (by decide) (by decide) dL_law_38 (fun qp H hW => ?_)
  refine W.cs (cells' := 245) (slots' := 2309) rfl rfl ?_
  have hW := zW_perm hW List.perm_append_comm
  refine lv_astore (lv' := [(7, .ref qp), (6, .ref qt), (5, .ref qn), (4, .ref qe), (3, .ref qa), (2, .ref qq), (1, .ref (a 0)), (0, .ref (E.2.2.2.1 3))]) X.1 X.2.1 dL_law_40 hl (by decide) rfl (fun ls hl => ?_)
  refine lv_bipush (v := 16) X.1 X.2.1 dL_law_42 (by decide) ?_
  refine z_newi X hW mA 16 (by decide) (by decide) (by decide) (by decide) (by decide) dL_law_44 (fun qw H hW => ?_)
  refine W.cs (cells' := 246) (slots' := 2325) rfl rfl ?_
  have hW := zW_perm hW List.perm_append_comm
  refine lv_astore (lv' := [(8, .ref qw), (7, .ref qp), (6, .ref qt), (5, .ref qn), (4, .ref qe), (3, .ref qa), (2, .ref qq), (1, .ref (a 0)), (0, .ref (E.2.2.2.1 3))]) X.1 X.2.1 dL_law_46 hl (by decide) rfl (fun ls hl => ?_)
  refine lv_bipush (v := 30) X.1 X.2.1 dL_law_48 (by decide) ?_
  refine z_newi X hW mA 30 (by decide) (by decide) (by decide) (by decide) (by decide) dL_law_50 (fun qr H hW => ?_)
  refine W.cs (cells' := 247) (slots' := 2355) rfl rfl ?_
  have hW := zW_perm hW List.perm_append_comm
  refine lv_astore (lv' := [(9, .ref qr), (8, .ref qw), (7, .ref qp), (6, .ref qt), (5, .ref qn), (4, .ref qe), (3, .ref qa), (2, .ref qq), (1, .ref (a 0)), (0, .ref (E.2.2.2.1 3))]) X.1 X.2.1 dL_law_52 hl (by decide) rfl (fun ls hl => ?_)
  refine lv_bipush (v := 24) X.1 X.2.1 dL_law_54 (by decide) ?_
  refine z_newi X hW mA 24 (by decide) (by decide) (by decide) (by decide) (by decide) dL_law_56 (fun qc H hW => ?_)
  refine W.cs (cells' := 248) (slots' := 2379) rfl rfl ?_
  have hW := zW_perm hW List.perm_append_comm
  refine lv_astore (lv' := [(10, .ref qc), (9, .ref qr), (8, .ref qw), (7, .ref qp), (6, .ref qt), (5, .ref qn), (4, .ref qe), (3, .ref qa), (2, .ref qq), (1, .ref (a 0)), (0, .ref (E.2.2.2.1 3))]) X.1 X.2.1 dL_law_58 hl (by decide) rfl (fun ls hl => ?_)
  have hW := zW_perm hW (show (([(qc, .inl (E.2.1, 24, .inl (fun _ => 0))), (qr, .inl (E.2.1, 30, .inl (fun _ => 0))), (qw, .inl (E.2.1, 16, .inl (fun _ => 0))), (qp, .inl (E.2.1, 18, .inl (fun _ => 0))), (qt, .inl (E.2.1, 30, .inl (fun _ => 0))), (qn, .inl (E.2.1, 30, .inl (fun _ => 0))), (qe, .inl (E.2.1, 30, .inl (fun _ => 0))), (qa, .inl (E.2.1, 30, .inl (fun _ => 0))), (qq, .inl (E.2.1, 19, .inl (fun _ => 0)))] : va_W) ++ zXW E a b0 zH0 (fun _ _ => 0) zU0 (fun _ _ _ => 0)).Perm (([(qq, .inl (E.2.1, 19, .inl (fun _ => 0))), (qa, .inl (E.2.1, 30, .inl (fun _ => 0))), (qe, .inl (E.2.1, 30, .inl (fun _ => 0))), (qn, .inl (E.2.1, 30, .inl (fun _ => 0))), (qt, .inl (E.2.1, 30, .inl (fun _ => 0))), (qp, .inl (E.2.1, 18, .inl (fun _ => 0))), (qw, .inl (E.2.1, 16, .inl (fun _ => 0))), (qr, .inl (E.2.1, 30, .inl (fun _ => 0))), (qc, .inl (E.2.1, 24, .inl (fun _ => 0)))] : va_W) ++ zXW E a b0 zH0 (fun _ _ => 0) zU0 (fun _ _ _ => 0)) from (List.reverse_perm ([(qq, .inl (E.2.1, 19, .inl (fun _ => 0))), (qa, .inl (E.2.1, 30, .inl (fun _ => 0))), (qe, .inl (E.2.1, 30, .inl (fun _ => 0))), (qn, .inl (E.2.1, 30, .inl (fun _ => 0))), (qt, .inl (E.2.1, 30, .inl (fun _ => 0))), (qp, .inl (E.2.1, 18, .inl (fun _ => 0))), (qw, .inl (E.2.1, 16, .inl (fun _ => 0))), (qr, .inl (E.2.1, 30, .inl (fun _ => 0))), (qc, .inl (E.2.1, 24, .inl (fun _ => 0)))] : va_W)).append_right _)
  refine W.widen (k := 600000) (n := 7302250) (by omega) (by omega) ?_
  exact c_L_law E (fun _ => 0) (fun _ => 0) (fun _ => 0) (fun _ => 0) (fun _ => 0) (fun _ => 0) (fun _ => 0) (fun _ => 0) (fun _ => 0) zH0 (fun _ _ => 0) zU0 (fun _ _ _ => 0) rfl X (fun _ => qq) (fun _ => qa) (fun _ => qe) (fun _ => qn) (fun _ => qt) (fun _ => qp) (fun _ => qw) (fun _ => qr) (fun _ => qc) a b0 1 rfl (d_start E hL _ _) hW (lv_sub hl [10, 9, 8, 7, 6, 5, 4, 3, 2, 1, 0] rfl)
