/-! ===== the questions ===== -/
/-- the reference as it stands, with its state in rows -/
theorem zm_of {j : Nat} {v w : zHV} {u q : zHI} {μ : zHV} (h : zSim j v w u q μ) : ∃ A T N n g, μ = zM5 μ g ∧ zRel (20000 * j) A T N n v g := by
  obtain ⟨⟨A, T, N, n, hR⟩, -⟩ := h
  exact ⟨A, T, N, n, zD5 (μ 0), (zM5_self μ).symm, hR⟩
theorem lit_case (p : Int32) (n : Nat) (hn : n < 2147483648) : (∀ k, k < n → ¬ p = nI k) ∨ ∃ k, k < n ∧ p = nI k := by
  by_cases h : ∃ k, k < n ∧ p = nI k
  · exact Or.inr h
  · exact Or.inl fun k hk e => h ⟨k, hk, e⟩
theorem stp_of : zSt_of zSim := by
  intro j v w u q μ p0 p1 hj h
  obtain ⟨A, T, N, n, g, eμ, hR⟩ := zm_of h
  suffices hs : ∃ r, d_X7_of v w u q p0 p1 = some r ∧ d_X8_of (zM5 μ g) p0 p1 = some r by
    obtain ⟨r, a1, a2⟩ := hs
    exact ⟨r, a1, by rw [eμ]; exact a2, zSim_up h⟩
  obtain ⟨ha, hb, -⟩ := hR
  obtain ⟨q4, s4, l4, u4, e4⟩ := ha 4 (by decide)
  unfold d_X7_of d_X2_aboutSeat d_X8_of
  rcases seat_case p0 with ⟨e1, e2⟩ | ⟨k, hk, rfl, e1, e2⟩
  · rw [e1, e2]; exact ⟨_, rfl, rfl⟩
  · have h10 : ¬ (1 : Int32) = 0 := by decide
    obtain ⟨b1, b2, b3, b4, b5, b6, -⟩ := hb.1 k hk
    rw [e1, e2, zcl_e, zcl_e, if_neg h10, if_neg h10]
    rcases lit_case p1 7 (by decide) with hn | ⟨i, hi, rfl⟩
    · have n0 : ¬ p1 = 0 := hn 0 (by decide)
      have n1 : ¬ p1 = 1 := hn 1 (by decide)
      have n2 : ¬ p1 = 2 := hn 2 (by decide)
      have n3 : ¬ p1 = 3 := hn 3 (by decide)
      have n4 : ¬ p1 = 4 := hn 4 (by decide)
      have n5 : ¬ p1 = 5 := hn 5 (by decide)
      have n6 : ¬ p1 = 6 := hn 6 (by decide)
      simp only [n0, n1, n2, n3, n4, n5, n6, if_false, zcl_e]
      exact ⟨_, rfl, rfl⟩
    · match i, hi with
      | 0, _ =>
        simp only [show (nI 0 = (0 : Int32)) = True from eq_true rfl, if_true, if_false]
        rw [r_at 30 _ k hk (by decide), show d_X8_seat (zM5 μ g) (nI k) (nI 0) = some (g 1 k) from G0 μ g k hk, b1]
        exact ⟨_, rfl, rfl⟩
      | 1, _ =>
        simp only [show (nI 1 = (0 : Int32)) = False from eq_false (by decide), show (nI 1 = (1 : Int32)) = True from eq_true rfl, if_true, if_false]
        rw [show d_X8_seat (zM5 μ g) (nI k) (nI 1) = some (g 2 k) from G1 μ g k hk, b2]
        simp only [zlet_n]
        rw [zb_shr _ k hk]
        exact ⟨_, rfl, rfl⟩
      | 2, _ =>
        simp only [show (nI 2 = (0 : Int32)) = False from eq_false (by decide), show (nI 2 = (1 : Int32)) = False from eq_false (by decide), show (nI 2 = (2 : Int32)) = True from eq_true rfl, if_true, if_false]
        rw [r_at 30 _ k hk (by decide), R4_at _ _ (by decide) (by decide), G2 μ g k hk, zcl_e, zcl_e, zcl_e, L4, b3, q4]
        by_cases c : v 2 k < v 0 4
        · rw [if_pos c]; exact ⟨_, rfl, rfl⟩
        · rw [if_neg c]; exact ⟨_, rfl, rfl⟩
      | 3, _ =>
        simp only [show (nI 3 = (0 : Int32)) = False from eq_false (by decide), show (nI 3 = (1 : Int32)) = False from eq_false (by decide), show (nI 3 = (2 : Int32)) = False from eq_false (by decide), show (nI 3 = (3 : Int32)) = True from eq_true rfl, if_true, if_false]
        rw [r_at 30 _ k hk (by decide), zlet_n, show d_X8_seat (zM5 μ g) (nI k) (nI 3 - 1) = some (g 3 k) from G2 μ g k hk, b3]
        exact ⟨_, rfl, rfl⟩
      | 4, _ =>
        simp only [show (nI 4 = (0 : Int32)) = False from eq_false (by decide), show (nI 4 = (1 : Int32)) = False from eq_false (by decide), show (nI 4 = (2 : Int32)) = False from eq_false (by decide), show (nI 4 = (3 : Int32)) = False from eq_false (by decide), show (nI 4 = (4 : Int32)) = True from eq_true rfl, if_true, if_false]
        rw [r_at 30 _ k hk (by decide), zlet_n, show d_X8_seat (zM5 μ g) (nI k) (nI 4 - 1) = some (g 4 k) from G3 μ g k hk, b4]
        exact ⟨_, rfl, rfl⟩
      | 5, _ =>
        simp only [show (nI 5 = (0 : Int32)) = False from eq_false (by decide), show (nI 5 = (1 : Int32)) = False from eq_false (by decide), show (nI 5 = (2 : Int32)) = False from eq_false (by decide), show (nI 5 = (3 : Int32)) = False from eq_false (by decide), show (nI 5 = (4 : Int32)) = False from eq_false (by decide), show (nI 5 = (5 : Int32)) = True from eq_true rfl, if_true, if_false]
        rw [q_has _ k hk, zcl_e, zlet_n, show d_X8_seat (zM5 μ g) (nI k) (nI 5 - 1) = some (g 5 k) from G4 μ g k hk, b5, show zh v 1 5 2 = v 6 2 from rfl]
        rcases zb_01 (v 6 2) k with c | c
        · rw [c]; exact ⟨_, rfl, rfl⟩
        · rw [c]; exact ⟨_, rfl, rfl⟩
      | 6, _ =>
        simp only [show (nI 6 = (0 : Int32)) = False from eq_false (by decide), show (nI 6 = (1 : Int32)) = False from eq_false (by decide), show (nI 6 = (2 : Int32)) = False from eq_false (by decide), show (nI 6 = (3 : Int32)) = False from eq_false (by decide), show (nI 6 = (4 : Int32)) = False from eq_false (by decide), show (nI 6 = (5 : Int32)) = False from eq_false (by decide), show (nI 6 = (6 : Int32)) = True from eq_true rfl, if_true, if_false]
        rw [r_at 30 _ k hk (by decide), zlet_n, show d_X8_seat (zM5 μ g) (nI k) (nI 6 - 1) = some (g 6 k) from G5 μ g k hk, b6]
        exact ⟨_, rfl, rfl⟩
      | i + 7, hi => omega
theorem stp_performer : zSt_performer zSim := by
  intro j v w u q μ p0 p1 hj h
  obtain ⟨A, T, N, n, g, eμ, hR⟩ := zm_of h
  suffices hs : ∃ r, d_X7_performer v w u q p0 p1 = some r ∧ d_X8_performer (zM5 μ g) p0 p1 = some r by
    obtain ⟨r, a1, a2⟩ := hs
    exact ⟨r, a1, by rw [eμ]; exact a2, zSim_up h⟩
  obtain ⟨t, -, t1, t2⟩ := b_owes (μ := μ) hR p0
  obtain ⟨ha, hb, hc, hd, -⟩ := hR
  unfold d_X7_performer d_X0_aboutPerformer d_X8_performer
  rcases perf_case p0 with ⟨e1, e2⟩ | ⟨k, hk, rfl, e1, e2⟩
  · rw [e1, e2]; exact ⟨_, rfl, rfl⟩
  · have h10 : ¬ (1 : Int32) = 0 := by decide
    obtain ⟨d1, d2, d3⟩ := hd k hk
    rw [e1, e2, zcl_e, zcl_e, if_neg h10, if_neg h10]
    rcases lit_case p1 4 (by decide) with hn | ⟨i, hi, rfl⟩
    · have n0 : ¬ p1 = 0 := hn 0 (by decide)
      have n1 : ¬ p1 = 1 := hn 1 (by decide)
      have n2 : ¬ p1 = 2 := hn 2 (by decide)
      have n3 : ¬ p1 = 3 := hn 3 (by decide)
      simp only [n0, n1, n2, n3, if_false]
      rcases w_case p1 0 3 (by decide) with ⟨e, hc⟩ | ⟨e, hc1, hc2⟩
      · rw [show d_X8_within p1 0 3 = some 0 from e, zcl_e, zcl_e, if_pos rfl]; exact ⟨_, rfl, rfl⟩
      · obtain ⟨y, y1, y2, rfl⟩ := w_get (by decide) (by decide) hc1 hc2
        exact absurd rfl (hn y (by omega))
    · rw [show d_X8_within (nI i) 0 3 = some 1 from w_in (a := 0) (b := 3) (by omega) (by omega) (by decide), zcl_e, if_neg h10]
      match i, hi with
      | 0, _ =>
        simp only [show (nI 0 = (0 : Int32)) = True from eq_true rfl, if_true, if_false]
        rw [t1, t2]
        exact ⟨_, rfl, rfl⟩
      | 1, _ =>
        simp only [show (nI 1 = (0 : Int32)) = False from eq_false (by decide), show (nI 1 = (1 : Int32)) = True from eq_true rfl, if_true, if_false]
        rw [r_at 6 _ k hk (by decide), zlet_n, show d_X8_ofPerformer (zM5 μ g) (nI k) (nI 1 - 1) = some (g 7 k) from P0 μ g k hk, d1]
        exact ⟨_, rfl, rfl⟩
      | 2, _ =>
        simp only [show (nI 2 = (0 : Int32)) = False from eq_false (by decide), show (nI 2 = (1 : Int32)) = False from eq_false (by decide), show (nI 2 = (2 : Int32)) = True from eq_true rfl, if_true, if_false]
        rw [r_at 6 _ k hk (by decide), zlet_n, show d_X8_ofPerformer (zM5 μ g) (nI k) (nI 2 - 1) = some (g 8 k) from P1 μ g k hk, d2]
        exact ⟨_, rfl, rfl⟩
      | 3, _ =>
        simp only [show (nI 3 = (0 : Int32)) = False from eq_false (by decide), show (nI 3 = (1 : Int32)) = False from eq_false (by decide), show (nI 3 = (2 : Int32)) = False from eq_false (by decide), show (nI 3 = (3 : Int32)) = True from eq_true rfl, if_true, if_false]
        rw [r_at 6 _ k hk (by decide), zlet_n, show d_X8_ofPerformer (zM5 μ g) (nI k) (nI 3 - 1) = some (g 9 k) from P2 μ g k hk, d3]
        exact ⟨_, rfl, rfl⟩
      | i + 4, hi => omega
/-- an index within 0 and a count less one -/
theorem ix_case (p : Int32) (n : Nat) (hn : n < 2147483647) : (d_X8_within p 0 (nI n - 1) = some 0 ∧ (p < 0 ∨ (¬ p < 0 ∧ nI n ≤ p))) ∨ ∃ k, k < n ∧ p = nI k ∧ d_X8_within p 0 (nI n - 1) = some 1 := by
  unfold d_X8_within
  rcases nI_case p n (by omega) with h | ⟨h, h2⟩ | ⟨k, hk, rfl⟩
  · exact Or.inl ⟨if_pos h, Or.inl h⟩
  · refine Or.inl ⟨?_, Or.inr ⟨h, h2⟩⟩
    rw [if_neg h, if_pos]
    have e1 : (nI n).toInt ≤ p.toInt := Int32.le_iff_toInt_le.mp h2
    rw [nI_toInt (by omega)] at e1
    refine Int32.lt_iff_toInt_lt.mpr ?_
    by_cases c : n = 0
    · subst c
      rw [show (nI 0 - 1).toInt = -1 from by decide]; omega
    · rw [show (1 : Int32) = nI 1 from rfl, pk_sub (by omega), nI_toInt (by omega)]; omega
  · refine Or.inr ⟨k, hk, rfl, ?_⟩
    rw [if_neg (nI_pos (by omega)), show (1 : Int32) = nI 1 from rfl, pk_sub (by omega), if_neg (nI_nlt (by omega) (by omega))]
theorem stp_owed : zSt_owed zSim := by
  intro j v w u q μ p0 p1 hj h
  obtain ⟨A, T, N, n, g, eμ, hR⟩ := zm_of h
  suffices hs : ∃ r, d_X7_owed v w u q p0 p1 = some r ∧ d_X8_owed (zM5 μ g) p0 p1 = some r by
    obtain ⟨r, a1, a2⟩ := hs
    exact ⟨r, a1, by rw [eμ]; exact a2, zSim_up h⟩
  obtain ⟨ha, hb, ⟨c1, c2, c3, c4⟩, hd, he, hf, hg⟩ := hR
  have gt : g 0 7 = nI T := hg.2.2.2.2.2.2.2.2.2.1
  have et : v 15 1 = nI T := hg.2.2.2.2.1
  unfold d_X7_owed d_X0_aboutOwed d_X8_owed d_X8_owedFor
  rw [L17, c3, zlet_n, show zh v 7 5 0 = nI n from c2]
  have h10 : ¬ (1 : Int32) = 0 := by decide
  rcases ix_case p0 n (by omega) with ⟨e, hc⟩ | ⟨k, hk, rfl, e⟩
  · rw [e, zcl_e, if_pos rfl]
    rcases hc with hc | ⟨hc, hc2⟩
    · rw [if_pos hc]; exact ⟨_, rfl, rfl⟩
    · rw [if_neg hc, if_neg (Int32.not_lt.mpr hc2)]; exact ⟨_, rfl, rfl⟩
  · rw [e, zcl_e, if_neg (nI_pos (by omega)), if_pos (nI_lt hk (by omega)), if_neg h10]
    obtain ⟨a1, a2, -, -⟩ := c4 k hk
    by_cases d0 : p1 = 0
    · rw [if_pos d0, if_pos d0, r_at 8 _ k (by omega) (by decide)]
      simp only [zlet_n, nL_mul, nL_add]
      rw [l10a μ g k _ (by omega), a1]
      exact ⟨_, rfl, rfl⟩
    · rw [if_neg d0, if_neg d0]
      by_cases d1 : p1 = 1
      · rw [if_pos d1, if_pos d1, r_at 8 _ k (by omega) (by decide), L7]
        simp only [zlet_n, nL_mul, nL_add, nR_add, zcl_e]
        rw [l10b μ g k _ (by omega), a2, gt, et]
        exact ⟨_, rfl, rfl⟩
      · rw [if_neg d1, if_neg d1]
        exact ⟨_, rfl, rfl⟩
theorem stp_clapper : zSt_clapper zSim := by
  intro j v w u q μ p0 hj h
  obtain ⟨A, T, N, n, g, eμ, hR⟩ := zm_of h
  suffices hs : ∃ r, d_X7_clapper v w u q p0 = some r ∧ d_X8_clapper (zM5 μ g) p0 = some r by
    obtain ⟨r, a1, a2⟩ := hs
    exact ⟨r, a1, by rw [eμ]; exact a2, zSim_up h⟩
  obtain ⟨ha, ⟨b1, b2, b3, b4, b5⟩, -⟩ := hR
  have hle := zcn_le (v 3) 30
  unfold d_X7_clapper d_X6_clapperAt d_X8_clapper
  rw [L18, b4, b3, zlet_n, show zh v 1 5 0 = nI (zcn (v 3) 30) from b3]
  have h10 : ¬ (1 : Int32) = 0 := by decide
  rcases ix_case p0 (zcn (v 3) 30) (by omega) with ⟨e, hc⟩ | ⟨k, hk, rfl, e⟩
  · rw [e, zcl_e, if_pos rfl]
    rcases hc with hc | ⟨hc, hc2⟩
    · rw [if_pos hc]; exact ⟨_, rfl, rfl⟩
    · rw [if_neg hc, if_pos hc2]; exact ⟨_, rfl, rfl⟩
  · rw [e, zcl_e, if_neg (nI_pos (by omega)), if_neg (nI_ge hk (by omega)), if_neg h10, r_at 30 _ k (by omega) (by decide), zlet_n, nL_add, l12 μ g k _ (by omega), b5 k hk]
    exact ⟨_, rfl, rfl⟩
theorem stp_record : zSt_record zSim := by
  intro j v w u q μ p0 p1 hj h
  obtain ⟨A, T, N, n, g, eμ, hR⟩ := zm_of h
  suffices hs : ∃ r, d_X7_record v w u q p0 p1 = some r ∧ d_X8_record (zM5 μ g) p0 p1 = some r by
    obtain ⟨r, a1, a2⟩ := hs
    exact ⟨r, a1, by rw [eμ]; exact a2, zSim_up h⟩
  obtain ⟨ha, hb, hc, hd, he, ⟨f1, f2⟩, hg⟩ := hR
  have hN : N ≤ 99 := hg.2.2.1
  have en : v 15 2 = nI N := hg.2.2.2.2.2.1
  unfold d_X7_record d_X2_recordOf d_X8_record
  rw [L19, f1, en]
  simp only [zlet_n]
  have h10 : ¬ (1 : Int32) = 0 := by decide
  have hm : (if 6 < nI N then 6 else nI N) = nI (min N 6) := by
    by_cases c : N ≤ 6
    · rw [if_neg (show ¬ 6 < nI N from nI_nlt (a := 6) c (by decide)), Nat.min_eq_left c]
    · rw [if_pos (show 6 < nI N from nI_lt (a := 6) (by omega) (by omega)), Nat.min_eq_right (by omega)]; rfl
  rw [hm]
  rcases ix_case p0 (min N 6) (by omega) with ⟨e, hc⟩ | ⟨k, hk, rfl, e⟩
  · rw [e, zcl_e, if_pos rfl]
    rcases hc with hc | ⟨hc, hc2⟩
    · rw [if_pos hc]; exact ⟨_, rfl, rfl⟩
    · rw [if_neg hc, if_neg (Int32.not_lt.mpr hc2)]; exact ⟨_, rfl, rfl⟩
  · rw [e, zcl_e, if_neg (nI_pos (by omega)), if_pos (nI_lt hk (by omega)), if_neg h10]
    rcases nI_case p1 4 (by decide) with hc | ⟨hc, hc2⟩ | ⟨i, hi, rfl⟩
    · rw [if_pos hc, show d_X8_within p1 0 3 = some 0 from w_neg (a := 0) hc (by decide), zcl_e, zcl_e, if_pos rfl]; exact ⟨_, rfl, rfl⟩
    · have hw : d_X8_within p1 0 3 = some 0 := by
        unfold d_X8_within
        have h3 : (nI 4).toInt ≤ p1.toInt := Int32.le_iff_toInt_le.mp hc2
        rw [nI_toInt (by decide)] at h3
        rw [if_neg hc, if_pos (Int32.lt_iff_toInt_lt.mpr (by rw [show (3 : Int32).toInt = 3 from by decide]; omega))]
      rw [if_neg hc, if_neg (show ¬ p1 < 4 from Int32.not_lt.mpr hc2), hw, zcl_e, zcl_e, if_pos rfl]; exact ⟨_, rfl, rfl⟩
    · rw [if_neg (nI_pos (by omega)), if_pos (show nI i < 4 from nI_lt (b := 4) hi (by decide)), show d_X8_within (nI i) 0 3 = some 1 from w_in (a := 0) (b := 3) (by omega) (by omega) (by decide), zcl_e, if_neg h10, show (1 : Int32) = nI 1 from rfl, pk_sub (by omega), pk_sub (by omega), b_rpl (by omega) hi, zcl_e, r_at 24 _ _ (by omega) (by decide)]
      rw [nL_mul, nL_add, nI_add, Nat.add_assoc, l13 μ g (4 * k + i) _ (by omega), f2 k i hk hi, Nat.mul_comm ((N - 1 - k) % 6) 4]
      exact ⟨_, rfl, rfl⟩
theorem stp_sign : zSt_sign zSim := by
  intro j v w u q μ p0 hj h
  have h' := h
  obtain ⟨h1, ⟨L, hL, w1, m1, hk⟩, -⟩ := h
  suffices hs : ∃ r, d_X7_sign v w u q p0 = some r ∧ d_X8_sign μ p0 = some r by
    obtain ⟨r, a1, a2⟩ := hs
    exact ⟨r, a1, a2, zSim_up h'⟩
  unfold d_X7_sign d_X4_has d_X4_codeAt d_X8_sign
  rw [w1, m1, zlet_n]
  have h10 : ¬ (1 : Int32) = 0 := by decide
  rcases ix_case p0 L (by omega) with ⟨e, hc⟩ | ⟨k, hkL, rfl, e⟩
  · rw [e, zcl_e, if_pos rfl]
    rcases hc with hc | ⟨hc, hc2⟩
    · rw [if_pos hc, zcl_e, if_pos rfl]; exact ⟨_, rfl, rfl⟩
    · rw [if_neg hc, if_pos hc2, zcl_e, if_pos rfl]; exact ⟨_, rfl, rfl⟩
  · rw [e, zcl_e, if_neg (nI_pos (by omega)), if_neg (nI_ge hkL (by omega)), zcl_e, if_neg h10, if_neg h10, if_neg (nI_pos (by omega)), if_neg (nI_ge hkL (by omega)), if_neg (nI_ge (b := 80) (by omega) (by decide)), zld_nI (by omega) (by decide), zcl_e, zld_nI (by omega) (by decide), hk k hkL]
    exact ⟨_, rfl, rfl⟩
theorem stp_wipe : zSt_wipe zSim := by
  intro j v w u q μ hj h
  have h' := h
  obtain ⟨h1, ⟨L, hL, w1, m1, hk⟩, h3, h4⟩ := h
  refine ⟨nI L, zq w 0 2 (zs w 1 0 0), zs μ 6 1 0, ?_, ?_, ?_⟩
  · unfold d_X7_wipe d_X4_length d_X4_clear
    rw [w1]; rfl
  · unfold d_X8_wipe
    rw [zlet_n, m1]
  · exact ⟨zS1_up (m := 20000 * j) (by omega) h1, ⟨0, by decide, rfl, rfl, fun k hk => by omega⟩, zS3_up (m := 20000 * j) (by omega) h3, zS4_up (m := 20000 * j) (by omega) h4⟩
