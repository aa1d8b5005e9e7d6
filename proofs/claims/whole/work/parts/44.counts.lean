/-! ===== the counts and the forecasts ===== -/
theorem b_susp {m A T N n : Nat} {v g μ : zHV} (h : zRel m A T N n v g) (p : Int32) : ∃ t, d_X6_suspected (zh v 1) p = some t ∧ d_X8_those (zM5 μ g) 0 p = some t :=
  q_susp (zh v 1) g μ p (fun k hk => (h.2.1.1 k hk).2.2.1) 30 0 0 zF zF rfl (by decide) (by decide) (by decide)
theorem q_sum (f : Nat → Int32) (g μ : zHV) (c : Int32) (hk : ∀ k, k < 6 → d_X8_ofPerformer (zM5 μ g) (nI k) c = some (f k)) : ∀ d i x n n', 6 - i = d → i ≤ 6 → d < n → d < n' → ∃ t, lp_X5_sum_4 6 f n x (nI i) = some t ∧ lp_X8_soFar_4 (zM5 μ g) c n' x (nI i) = some t := by
  intro d
  induction d with
  | zero =>
    intro i x n n' h1 h2 h3 h4
    obtain ⟨n, rfl⟩ := fu h3
    obtain ⟨n', rfl⟩ := fu h4
    obtain rfl : i = 6 := by omega
    exact ⟨x, rfl, rfl⟩
  | succ d ih =>
    intro i x n n' h1 h2 h3 h4
    obtain ⟨n, rfl⟩ := fu (by omega : 0 < n)
    obtain ⟨n', rfl⟩ := fu (by omega : 0 < n')
    have e1 : lp_X5_sum_4 6 f (n + 1) x (nI i) = lp_X5_sum_4 6 f n (x + f i) (nI (i + 1)) := by
      show lpB_X5_sum_4 6 f (lp_X5_sum_4 6 f n) x (nI i) = _
      unfold lpB_X5_sum_4
      rw [if_neg (nI_ge (by omega) (by decide)), zld_nI (by omega) (by decide), zlet_n, zlet_n, nI_p1]
    have e2 : lp_X8_soFar_4 (zM5 μ g) c (n' + 1) x (nI i) = lp_X8_soFar_4 (zM5 μ g) c n' (x + f i) (nI (i + 1)) := by
      show lpB_X8_soFar_4 (zM5 μ g) c (lp_X8_soFar_4 (zM5 μ g) c n') x (nI i) = _
      unfold lpB_X8_soFar_4
      rw [if_neg (show ¬ (6 : Int32) ≤ nI i from nI_ge (b := 6) (by omega) (by decide)), hk i (by omega), zcl_e, zlet_n, zlet_n, nI_p1]
    rw [e1, e2]
    exact ih (i + 1) _ n n' (by omega) (by omega) (by omega) (by omega)
theorem stp_count : zSt_count zSim := by
  intro j v w u q μ p1 hj h
  have h' := h
  obtain ⟨hv, ⟨L, hL, w1, m1, hk⟩, ⟨K, x, hK, hx, k1, k2, k3, k4⟩, h4⟩ := h
  obtain ⟨A, T, N, n, g, eμ, hR⟩ := zm_of h'
  have m2 : zM5 μ g 6 1 = nI L := m1
  have m3 : zM5 μ g 6 0 = nI K := k2
  suffices hs : ∃ r, d_X7_count v w u q p1 = some r ∧ d_X8_count (zM5 μ g) p1 = some r by
    obtain ⟨r, a1, a2⟩ := hs
    exact ⟨r, a1, by rw [eμ]; exact a2, zSim_up h'⟩
  have hR' := hR
  obtain ⟨ha, hb, ⟨c1, c2, c3, c4⟩, hd, he, hf, ⟨hA, hT, hN, ea, et, en, hby, hen, ga, gt, gn, gh, ge, gb, go⟩⟩ := hR
  have h10 : ¬ (1 : Int32) = 0 := by decide
  obtain ⟨q4, -⟩ := ha 4 (by decide)
  obtain ⟨tS, tS1, tS2⟩ := b_susp (μ := μ) hR' (v 0 4)
  have hpaid := b_paid (μ := μ) 0 hR'
  obtain ⟨tP, tP1, tP2⟩ := q_sum (v 9) g μ 0 (fun k hk => by rw [P0 μ g k hk, (hd k hk).1]) 6 0 0 zF zF rfl (by decide) (by decide) (by decide)
  obtain ⟨tL, tL1, tL2⟩ := q_sum (v 10) g μ 1 (fun k hk => by rw [P1 μ g k hk, (hd k hk).2.1]) 6 0 0 zF zF rfl (by decide) (by decide) (by decide)
  have tP1 : d_X5_sum 6 (v 9) = some tP := tP1
  have tL1 : d_X5_sum 6 (v 10) = some tL := tL1
  have tP2 : d_X8_soFar (zM5 μ g) 0 = some tP := tP2
  have tL2 : d_X8_soFar (zM5 μ g) 1 = some tL := tL2
  unfold d_X7_count d_X2_numberOf d_X8_count d_X2_suspectedNow d_X4_length d_X1_kept
  rcases lit_case p1 21 (by decide) with hn | ⟨i, hi, rfl⟩
  · have n0 : ¬ p1 = 0 := hn 0 (by decide)
    have n1 : ¬ p1 = 1 := hn 1 (by decide)
    have n2 : ¬ p1 = 2 := hn 2 (by decide)
    have n3 : ¬ p1 = 3 := hn 3 (by decide)
    have n4 : ¬ p1 = 4 := hn 4 (by decide)
    have n5 : ¬ p1 = 5 := hn 5 (by decide)
    have n6 : ¬ p1 = 6 := hn 6 (by decide)
    have n7 : ¬ p1 = 7 := hn 7 (by decide)
    have n8 : ¬ p1 = 8 := hn 8 (by decide)
    have n9 : ¬ p1 = 9 := hn 9 (by decide)
    have n10 : ¬ p1 = 10 := hn 10 (by decide)
    have n11 : ¬ p1 = 11 := hn 11 (by decide)
    have n12 : ¬ p1 = 12 := hn 12 (by decide)
    have n13 : ¬ p1 = 13 := hn 13 (by decide)
    have n14 : ¬ p1 = 14 := hn 14 (by decide)
    have n15 : ¬ p1 = 15 := hn 15 (by decide)
    have n16 : ¬ p1 = 16 := hn 16 (by decide)
    have n17 : ¬ p1 = 17 := hn 17 (by decide)
    have n18 : ¬ p1 = 18 := hn 18 (by decide)
    have n19 : ¬ p1 = 19 := hn 19 (by decide)
    have n20 : ¬ p1 = 20 := hn 20 (by decide)
    have hw : d_X8_within p1 13 18 = some 0 := by
      rcases w_case p1 13 18 (by decide) with ⟨e, hc⟩ | ⟨e, hc1, hc2⟩
      · exact e
      · obtain ⟨y, y1, y2, e3⟩ := w_get (by decide) (by decide) hc1 hc2
        exact absurd e3 (hn y (by omega))
    rw [hw]
    simp only [n0, n1, n2, n3, n4, n5, n6, n7, n8, n9, n10, n11, n12, n13, n14, n15, n16, n17, n18, n19, n20, if_false, zcl_e, if_true, eq_self]
    by_cases c : p1 < 13
    · rw [if_pos c, zcl_e]; exact ⟨_, rfl, rfl⟩
    · rw [if_neg c]
      by_cases c2 : 19 ≤ p1
      · rw [if_pos c2, zcl_e]; exact ⟨_, rfl, rfl⟩
      · exfalso
        rcases nI_case p1 19 (by decide) with q1 | ⟨q1, q2⟩ | ⟨y, y1, e3⟩
        · exact c (nI_lt_of_neg (a := 13) q1 (by decide))
        · exact c2 q2
        · exact hn y (by omega) e3
  · match i, hi with
    | 0, _ =>
      rw [show d_X8_within (nI 0) 13 18 = some 0 from rfl]
      simp only [show (nI 0 = (0 : Int32)) = True from eq_true rfl, show (nI 0 = (1 : Int32)) = False from eq_false (by decide), show (nI 0 = (2 : Int32)) = False from eq_false (by decide), show (nI 0 = (3 : Int32)) = False from eq_false (by decide), show (nI 0 = (4 : Int32)) = False from eq_false (by decide), show (nI 0 = (5 : Int32)) = False from eq_false (by decide), show (nI 0 = (6 : Int32)) = False from eq_false (by decide), show (nI 0 = (7 : Int32)) = False from eq_false (by decide), show (nI 0 = (8 : Int32)) = False from eq_false (by decide), show (nI 0 = (9 : Int32)) = False from eq_false (by decide), show (nI 0 = (10 : Int32)) = False from eq_false (by decide), show (nI 0 = (11 : Int32)) = False from eq_false (by decide), show (nI 0 = (12 : Int32)) = False from eq_false (by decide), show (nI 0 = (13 : Int32)) = False from eq_false (by decide), show (nI 0 = (14 : Int32)) = False from eq_false (by decide), show (nI 0 = (15 : Int32)) = False from eq_false (by decide), show (nI 0 = (16 : Int32)) = False from eq_false (by decide), show (nI 0 = (17 : Int32)) = False from eq_false (by decide), show (nI 0 = (18 : Int32)) = False from eq_false (by decide), show (nI 0 = (19 : Int32)) = False from eq_false (by decide), show (nI 0 = (20 : Int32)) = False from eq_false (by decide), if_true, if_false, zcl_e, eq_self]
      rw [zlet_n, show 6 + nI 0 = 6 from by decide, L6, ga, ea]
      exact ⟨_, rfl, rfl⟩
    | 1, _ =>
      rw [show d_X8_within (nI 1) 13 18 = some 0 from rfl]
      simp only [show (nI 1 = (0 : Int32)) = False from eq_false (by decide), show (nI 1 = (1 : Int32)) = True from eq_true rfl, show (nI 1 = (2 : Int32)) = False from eq_false (by decide), show (nI 1 = (3 : Int32)) = False from eq_false (by decide), show (nI 1 = (4 : Int32)) = False from eq_false (by decide), show (nI 1 = (5 : Int32)) = False from eq_false (by decide), show (nI 1 = (6 : Int32)) = False from eq_false (by decide), show (nI 1 = (7 : Int32)) = False from eq_false (by decide), show (nI 1 = (8 : Int32)) = False from eq_false (by decide), show (nI 1 = (9 : Int32)) = False from eq_false (by decide), show (nI 1 = (10 : Int32)) = False from eq_false (by decide), show (nI 1 = (11 : Int32)) = False from eq_false (by decide), show (nI 1 = (12 : Int32)) = False from eq_false (by decide), show (nI 1 = (13 : Int32)) = False from eq_false (by decide), show (nI 1 = (14 : Int32)) = False from eq_false (by decide), show (nI 1 = (15 : Int32)) = False from eq_false (by decide), show (nI 1 = (16 : Int32)) = False from eq_false (by decide), show (nI 1 = (17 : Int32)) = False from eq_false (by decide), show (nI 1 = (18 : Int32)) = False from eq_false (by decide), show (nI 1 = (19 : Int32)) = False from eq_false (by decide), show (nI 1 = (20 : Int32)) = False from eq_false (by decide), if_true, if_false, zcl_e, eq_self]
      rw [zlet_n, show 6 + nI 1 = 7 from by decide, L7, gt, et]
      exact ⟨_, rfl, rfl⟩
    | 2, _ =>
      rw [show d_X8_within (nI 2) 13 18 = some 0 from rfl]
      simp only [show (nI 2 = (0 : Int32)) = False from eq_false (by decide), show (nI 2 = (1 : Int32)) = False from eq_false (by decide), show (nI 2 = (2 : Int32)) = True from eq_true rfl, show (nI 2 = (3 : Int32)) = False from eq_false (by decide), show (nI 2 = (4 : Int32)) = False from eq_false (by decide), show (nI 2 = (5 : Int32)) = False from eq_false (by decide), show (nI 2 = (6 : Int32)) = False from eq_false (by decide), show (nI 2 = (7 : Int32)) = False from eq_false (by decide), show (nI 2 = (8 : Int32)) = False from eq_false (by decide), show (nI 2 = (9 : Int32)) = False from eq_false (by decide), show (nI 2 = (10 : Int32)) = False from eq_false (by decide), show (nI 2 = (11 : Int32)) = False from eq_false (by decide), show (nI 2 = (12 : Int32)) = False from eq_false (by decide), show (nI 2 = (13 : Int32)) = False from eq_false (by decide), show (nI 2 = (14 : Int32)) = False from eq_false (by decide), show (nI 2 = (15 : Int32)) = False from eq_false (by decide), show (nI 2 = (16 : Int32)) = False from eq_false (by decide), show (nI 2 = (17 : Int32)) = False from eq_false (by decide), show (nI 2 = (18 : Int32)) = False from eq_false (by decide), show (nI 2 = (19 : Int32)) = False from eq_false (by decide), show (nI 2 = (20 : Int32)) = False from eq_false (by decide), if_true, if_false, zcl_e, eq_self]
      rw [zlet_n, show 6 + nI 2 = 8 from by decide, L8, gn, en]
      exact ⟨_, rfl, rfl⟩
    | 3, _ =>
      rw [show d_X8_within (nI 3) 13 18 = some 0 from rfl]
      simp only [show (nI 3 = (0 : Int32)) = False from eq_false (by decide), show (nI 3 = (1 : Int32)) = False from eq_false (by decide), show (nI 3 = (2 : Int32)) = False from eq_false (by decide), show (nI 3 = (3 : Int32)) = True from eq_true rfl, show (nI 3 = (4 : Int32)) = False from eq_false (by decide), show (nI 3 = (5 : Int32)) = False from eq_false (by decide), show (nI 3 = (6 : Int32)) = False from eq_false (by decide), show (nI 3 = (7 : Int32)) = False from eq_false (by decide), show (nI 3 = (8 : Int32)) = False from eq_false (by decide), show (nI 3 = (9 : Int32)) = False from eq_false (by decide), show (nI 3 = (10 : Int32)) = False from eq_false (by decide), show (nI 3 = (11 : Int32)) = False from eq_false (by decide), show (nI 3 = (12 : Int32)) = False from eq_false (by decide), show (nI 3 = (13 : Int32)) = False from eq_false (by decide), show (nI 3 = (14 : Int32)) = False from eq_false (by decide), show (nI 3 = (15 : Int32)) = False from eq_false (by decide), show (nI 3 = (16 : Int32)) = False from eq_false (by decide), show (nI 3 = (17 : Int32)) = False from eq_false (by decide), show (nI 3 = (18 : Int32)) = False from eq_false (by decide), show (nI 3 = (19 : Int32)) = False from eq_false (by decide), show (nI 3 = (20 : Int32)) = False from eq_false (by decide), if_true, if_false, zcl_e, eq_self]
      rw [zlet_n, show 6 + nI 3 = 9 from by decide, L9, R0_at _ _ (by decide) (by decide), he.1 0 (by decide)]
      exact ⟨_, rfl, rfl⟩
    | 4, _ =>
      rw [show d_X8_within (nI 4) 13 18 = some 0 from rfl]
      simp only [show (nI 4 = (0 : Int32)) = False from eq_false (by decide), show (nI 4 = (1 : Int32)) = False from eq_false (by decide), show (nI 4 = (2 : Int32)) = False from eq_false (by decide), show (nI 4 = (3 : Int32)) = False from eq_false (by decide), show (nI 4 = (4 : Int32)) = True from eq_true rfl, show (nI 4 = (5 : Int32)) = False from eq_false (by decide), show (nI 4 = (6 : Int32)) = False from eq_false (by decide), show (nI 4 = (7 : Int32)) = False from eq_false (by decide), show (nI 4 = (8 : Int32)) = False from eq_false (by decide), show (nI 4 = (9 : Int32)) = False from eq_false (by decide), show (nI 4 = (10 : Int32)) = False from eq_false (by decide), show (nI 4 = (11 : Int32)) = False from eq_false (by decide), show (nI 4 = (12 : Int32)) = False from eq_false (by decide), show (nI 4 = (13 : Int32)) = False from eq_false (by decide), show (nI 4 = (14 : Int32)) = False from eq_false (by decide), show (nI 4 = (15 : Int32)) = False from eq_false (by decide), show (nI 4 = (16 : Int32)) = False from eq_false (by decide), show (nI 4 = (17 : Int32)) = False from eq_false (by decide), show (nI 4 = (18 : Int32)) = False from eq_false (by decide), show (nI 4 = (19 : Int32)) = False from eq_false (by decide), show (nI 4 = (20 : Int32)) = False from eq_false (by decide), if_true, if_false, zcl_e, eq_self]
      rw [L17, c2, c3]
      exact ⟨_, rfl, rfl⟩
    | 5, _ =>
      rw [show d_X8_within (nI 5) 13 18 = some 0 from rfl]
      simp only [show (nI 5 = (0 : Int32)) = False from eq_false (by decide), show (nI 5 = (1 : Int32)) = False from eq_false (by decide), show (nI 5 = (2 : Int32)) = False from eq_false (by decide), show (nI 5 = (3 : Int32)) = False from eq_false (by decide), show (nI 5 = (4 : Int32)) = False from eq_false (by decide), show (nI 5 = (5 : Int32)) = True from eq_true rfl, show (nI 5 = (6 : Int32)) = False from eq_false (by decide), show (nI 5 = (7 : Int32)) = False from eq_false (by decide), show (nI 5 = (8 : Int32)) = False from eq_false (by decide), show (nI 5 = (9 : Int32)) = False from eq_false (by decide), show (nI 5 = (10 : Int32)) = False from eq_false (by decide), show (nI 5 = (11 : Int32)) = False from eq_false (by decide), show (nI 5 = (12 : Int32)) = False from eq_false (by decide), show (nI 5 = (13 : Int32)) = False from eq_false (by decide), show (nI 5 = (14 : Int32)) = False from eq_false (by decide), show (nI 5 = (15 : Int32)) = False from eq_false (by decide), show (nI 5 = (16 : Int32)) = False from eq_false (by decide), show (nI 5 = (17 : Int32)) = False from eq_false (by decide), show (nI 5 = (18 : Int32)) = False from eq_false (by decide), show (nI 5 = (19 : Int32)) = False from eq_false (by decide), show (nI 5 = (20 : Int32)) = False from eq_false (by decide), if_true, if_false, zcl_e, eq_self]
      rw [zlet_n, show nI 5 - 5 = 0 from by decide, tP1, tP2]
      exact ⟨_, rfl, rfl⟩
    | 6, _ =>
      rw [show d_X8_within (nI 6) 13 18 = some 0 from rfl]
      simp only [show (nI 6 = (0 : Int32)) = False from eq_false (by decide), show (nI 6 = (1 : Int32)) = False from eq_false (by decide), show (nI 6 = (2 : Int32)) = False from eq_false (by decide), show (nI 6 = (3 : Int32)) = False from eq_false (by decide), show (nI 6 = (4 : Int32)) = False from eq_false (by decide), show (nI 6 = (5 : Int32)) = False from eq_false (by decide), show (nI 6 = (6 : Int32)) = True from eq_true rfl, show (nI 6 = (7 : Int32)) = False from eq_false (by decide), show (nI 6 = (8 : Int32)) = False from eq_false (by decide), show (nI 6 = (9 : Int32)) = False from eq_false (by decide), show (nI 6 = (10 : Int32)) = False from eq_false (by decide), show (nI 6 = (11 : Int32)) = False from eq_false (by decide), show (nI 6 = (12 : Int32)) = False from eq_false (by decide), show (nI 6 = (13 : Int32)) = False from eq_false (by decide), show (nI 6 = (14 : Int32)) = False from eq_false (by decide), show (nI 6 = (15 : Int32)) = False from eq_false (by decide), show (nI 6 = (16 : Int32)) = False from eq_false (by decide), show (nI 6 = (17 : Int32)) = False from eq_false (by decide), show (nI 6 = (18 : Int32)) = False from eq_false (by decide), show (nI 6 = (19 : Int32)) = False from eq_false (by decide), show (nI 6 = (20 : Int32)) = False from eq_false (by decide), if_true, if_false, zcl_e, eq_self]
      rw [zlet_n, show nI 6 - 5 = 1 from by decide, tL1, tL2]
      exact ⟨_, rfl, rfl⟩
    | 7, _ =>
      rw [show d_X8_within (nI 7) 13 18 = some 0 from rfl]
      simp only [show (nI 7 = (0 : Int32)) = False from eq_false (by decide), show (nI 7 = (1 : Int32)) = False from eq_false (by decide), show (nI 7 = (2 : Int32)) = False from eq_false (by decide), show (nI 7 = (3 : Int32)) = False from eq_false (by decide), show (nI 7 = (4 : Int32)) = False from eq_false (by decide), show (nI 7 = (5 : Int32)) = False from eq_false (by decide), show (nI 7 = (6 : Int32)) = False from eq_false (by decide), show (nI 7 = (7 : Int32)) = True from eq_true rfl, show (nI 7 = (8 : Int32)) = False from eq_false (by decide), show (nI 7 = (9 : Int32)) = False from eq_false (by decide), show (nI 7 = (10 : Int32)) = False from eq_false (by decide), show (nI 7 = (11 : Int32)) = False from eq_false (by decide), show (nI 7 = (12 : Int32)) = False from eq_false (by decide), show (nI 7 = (13 : Int32)) = False from eq_false (by decide), show (nI 7 = (14 : Int32)) = False from eq_false (by decide), show (nI 7 = (15 : Int32)) = False from eq_false (by decide), show (nI 7 = (16 : Int32)) = False from eq_false (by decide), show (nI 7 = (17 : Int32)) = False from eq_false (by decide), show (nI 7 = (18 : Int32)) = False from eq_false (by decide), show (nI 7 = (19 : Int32)) = False from eq_false (by decide), show (nI 7 = (20 : Int32)) = False from eq_false (by decide), if_true, if_false, zcl_e, eq_self]
      rw [L12, R3_at _ _ (by decide) (by decide), he.1 3 (by decide)]
      exact ⟨_, rfl, rfl⟩
    | 8, _ =>
      rw [show d_X8_within (nI 8) 13 18 = some 0 from rfl]
      simp only [show (nI 8 = (0 : Int32)) = False from eq_false (by decide), show (nI 8 = (1 : Int32)) = False from eq_false (by decide), show (nI 8 = (2 : Int32)) = False from eq_false (by decide), show (nI 8 = (3 : Int32)) = False from eq_false (by decide), show (nI 8 = (4 : Int32)) = False from eq_false (by decide), show (nI 8 = (5 : Int32)) = False from eq_false (by decide), show (nI 8 = (6 : Int32)) = False from eq_false (by decide), show (nI 8 = (7 : Int32)) = False from eq_false (by decide), show (nI 8 = (8 : Int32)) = True from eq_true rfl, show (nI 8 = (9 : Int32)) = False from eq_false (by decide), show (nI 8 = (10 : Int32)) = False from eq_false (by decide), show (nI 8 = (11 : Int32)) = False from eq_false (by decide), show (nI 8 = (12 : Int32)) = False from eq_false (by decide), show (nI 8 = (13 : Int32)) = False from eq_false (by decide), show (nI 8 = (14 : Int32)) = False from eq_false (by decide), show (nI 8 = (15 : Int32)) = False from eq_false (by decide), show (nI 8 = (16 : Int32)) = False from eq_false (by decide), show (nI 8 = (17 : Int32)) = False from eq_false (by decide), show (nI 8 = (18 : Int32)) = False from eq_false (by decide), show (nI 8 = (19 : Int32)) = False from eq_false (by decide), show (nI 8 = (20 : Int32)) = False from eq_false (by decide), if_true, if_false, zcl_e, eq_self]
      rw [L13, gh]
      by_cases c : v 15 3 = -6
      · rw [if_pos c, if_pos c, if_neg (by decide)]; exact ⟨_, rfl, rfl⟩
      · rw [if_neg c, if_neg c, if_pos rfl, L7, L14, gt, ge, et]; exact ⟨_, rfl, rfl⟩
    | 9, _ =>
      rw [show d_X8_within (nI 9) 13 18 = some 0 from rfl]
      simp only [show (nI 9 = (0 : Int32)) = False from eq_false (by decide), show (nI 9 = (1 : Int32)) = False from eq_false (by decide), show (nI 9 = (2 : Int32)) = False from eq_false (by decide), show (nI 9 = (3 : Int32)) = False from eq_false (by decide), show (nI 9 = (4 : Int32)) = False from eq_false (by decide), show (nI 9 = (5 : Int32)) = False from eq_false (by decide), show (nI 9 = (6 : Int32)) = False from eq_false (by decide), show (nI 9 = (7 : Int32)) = False from eq_false (by decide), show (nI 9 = (8 : Int32)) = False from eq_false (by decide), show (nI 9 = (9 : Int32)) = True from eq_true rfl, show (nI 9 = (10 : Int32)) = False from eq_false (by decide), show (nI 9 = (11 : Int32)) = False from eq_false (by decide), show (nI 9 = (12 : Int32)) = False from eq_false (by decide), show (nI 9 = (13 : Int32)) = False from eq_false (by decide), show (nI 9 = (14 : Int32)) = False from eq_false (by decide), show (nI 9 = (15 : Int32)) = False from eq_false (by decide), show (nI 9 = (16 : Int32)) = False from eq_false (by decide), show (nI 9 = (17 : Int32)) = False from eq_false (by decide), show (nI 9 = (18 : Int32)) = False from eq_false (by decide), show (nI 9 = (19 : Int32)) = False from eq_false (by decide), show (nI 9 = (20 : Int32)) = False from eq_false (by decide), if_true, if_false, zcl_e, eq_self]
      rw [L13, gh]
      by_cases c : v 15 3 = -6
      · rw [if_pos c, if_neg (by decide), c]; exact ⟨_, rfl, rfl⟩
      · rw [if_neg c, if_pos rfl, L15, gb c]; exact ⟨_, rfl, rfl⟩
    | 10, _ =>
      rw [show d_X8_within (nI 10) 13 18 = some 0 from rfl]
      simp only [show (nI 10 = (0 : Int32)) = False from eq_false (by decide), show (nI 10 = (1 : Int32)) = False from eq_false (by decide), show (nI 10 = (2 : Int32)) = False from eq_false (by decide), show (nI 10 = (3 : Int32)) = False from eq_false (by decide), show (nI 10 = (4 : Int32)) = False from eq_false (by decide), show (nI 10 = (5 : Int32)) = False from eq_false (by decide), show (nI 10 = (6 : Int32)) = False from eq_false (by decide), show (nI 10 = (7 : Int32)) = False from eq_false (by decide), show (nI 10 = (8 : Int32)) = False from eq_false (by decide), show (nI 10 = (9 : Int32)) = False from eq_false (by decide), show (nI 10 = (10 : Int32)) = True from eq_true rfl, show (nI 10 = (11 : Int32)) = False from eq_false (by decide), show (nI 10 = (12 : Int32)) = False from eq_false (by decide), show (nI 10 = (13 : Int32)) = False from eq_false (by decide), show (nI 10 = (14 : Int32)) = False from eq_false (by decide), show (nI 10 = (15 : Int32)) = False from eq_false (by decide), show (nI 10 = (16 : Int32)) = False from eq_false (by decide), show (nI 10 = (17 : Int32)) = False from eq_false (by decide), show (nI 10 = (18 : Int32)) = False from eq_false (by decide), show (nI 10 = (19 : Int32)) = False from eq_false (by decide), show (nI 10 = (20 : Int32)) = False from eq_false (by decide), if_true, if_false, zcl_e, eq_self]
      rw [hpaid]
      exact ⟨_, rfl, rfl⟩
    | 11, _ =>
      rw [show d_X8_within (nI 11) 13 18 = some 0 from rfl]
      simp only [show (nI 11 = (0 : Int32)) = False from eq_false (by decide), show (nI 11 = (1 : Int32)) = False from eq_false (by decide), show (nI 11 = (2 : Int32)) = False from eq_false (by decide), show (nI 11 = (3 : Int32)) = False from eq_false (by decide), show (nI 11 = (4 : Int32)) = False from eq_false (by decide), show (nI 11 = (5 : Int32)) = False from eq_false (by decide), show (nI 11 = (6 : Int32)) = False from eq_false (by decide), show (nI 11 = (7 : Int32)) = False from eq_false (by decide), show (nI 11 = (8 : Int32)) = False from eq_false (by decide), show (nI 11 = (9 : Int32)) = False from eq_false (by decide), show (nI 11 = (10 : Int32)) = False from eq_false (by decide), show (nI 11 = (11 : Int32)) = True from eq_true rfl, show (nI 11 = (12 : Int32)) = False from eq_false (by decide), show (nI 11 = (13 : Int32)) = False from eq_false (by decide), show (nI 11 = (14 : Int32)) = False from eq_false (by decide), show (nI 11 = (15 : Int32)) = False from eq_false (by decide), show (nI 11 = (16 : Int32)) = False from eq_false (by decide), show (nI 11 = (17 : Int32)) = False from eq_false (by decide), show (nI 11 = (18 : Int32)) = False from eq_false (by decide), show (nI 11 = (19 : Int32)) = False from eq_false (by decide), show (nI 11 = (20 : Int32)) = False from eq_false (by decide), if_true, if_false, zcl_e, eq_self]
      rw [L4, q4, R4_at _ _ (by decide) (by decide), zcl_e, tS1, tS2]
      exact ⟨_, rfl, rfl⟩
    | 12, _ =>
      rw [show d_X8_within (nI 12) 13 18 = some 0 from rfl]
      simp only [show (nI 12 = (0 : Int32)) = False from eq_false (by decide), show (nI 12 = (1 : Int32)) = False from eq_false (by decide), show (nI 12 = (2 : Int32)) = False from eq_false (by decide), show (nI 12 = (3 : Int32)) = False from eq_false (by decide), show (nI 12 = (4 : Int32)) = False from eq_false (by decide), show (nI 12 = (5 : Int32)) = False from eq_false (by decide), show (nI 12 = (6 : Int32)) = False from eq_false (by decide), show (nI 12 = (7 : Int32)) = False from eq_false (by decide), show (nI 12 = (8 : Int32)) = False from eq_false (by decide), show (nI 12 = (9 : Int32)) = False from eq_false (by decide), show (nI 12 = (10 : Int32)) = False from eq_false (by decide), show (nI 12 = (11 : Int32)) = False from eq_false (by decide), show (nI 12 = (12 : Int32)) = True from eq_true rfl, show (nI 12 = (13 : Int32)) = False from eq_false (by decide), show (nI 12 = (14 : Int32)) = False from eq_false (by decide), show (nI 12 = (15 : Int32)) = False from eq_false (by decide), show (nI 12 = (16 : Int32)) = False from eq_false (by decide), show (nI 12 = (17 : Int32)) = False from eq_false (by decide), show (nI 12 = (18 : Int32)) = False from eq_false (by decide), show (nI 12 = (19 : Int32)) = False from eq_false (by decide), show (nI 12 = (20 : Int32)) = False from eq_false (by decide), if_true, if_false, zcl_e, eq_self]
      rw [hpaid, zcl_e, L4, q4, R4_at _ _ (by decide) (by decide), zcl_e, tS1, tS2]
      exact ⟨_, rfl, rfl⟩
    | 13, _ =>
      rw [show d_X8_within (nI 13) 13 18 = some 1 from rfl]
      simp only [show (nI 13 = (0 : Int32)) = False from eq_false (by decide), show (nI 13 = (1 : Int32)) = False from eq_false (by decide), show (nI 13 = (2 : Int32)) = False from eq_false (by decide), show (nI 13 = (3 : Int32)) = False from eq_false (by decide), show (nI 13 = (4 : Int32)) = False from eq_false (by decide), show (nI 13 = (5 : Int32)) = False from eq_false (by decide), show (nI 13 = (6 : Int32)) = False from eq_false (by decide), show (nI 13 = (7 : Int32)) = False from eq_false (by decide), show (nI 13 = (8 : Int32)) = False from eq_false (by decide), show (nI 13 = (9 : Int32)) = False from eq_false (by decide), show (nI 13 = (10 : Int32)) = False from eq_false (by decide), show (nI 13 = (11 : Int32)) = False from eq_false (by decide), show (nI 13 = (12 : Int32)) = False from eq_false (by decide), show (nI 13 = (13 : Int32)) = True from eq_true rfl, show (nI 13 = (14 : Int32)) = False from eq_false (by decide), show (nI 13 = (15 : Int32)) = False from eq_false (by decide), show (nI 13 = (16 : Int32)) = False from eq_false (by decide), show (nI 13 = (17 : Int32)) = False from eq_false (by decide), show (nI 13 = (18 : Int32)) = False from eq_false (by decide), show (nI 13 = (19 : Int32)) = False from eq_false (by decide), show (nI 13 = (20 : Int32)) = False from eq_false (by decide), if_true, if_false, zcl_e, h10, show (nI 13 < (13 : Int32)) = False from eq_false (by decide), show ((19 : Int32) ≤ nI 13) = False from eq_false (by decide)]
      rw [zlet_n, zlet_n, show nI 13 - 13 = nI 0 from by decide, r_at 6 _ 0 (by decide) (by decide), l14 μ g 0 _ (by decide), (ha 0 (by decide)).1]
      exact ⟨_, rfl, rfl⟩
    | 14, _ =>
      rw [show d_X8_within (nI 14) 13 18 = some 1 from rfl]
      simp only [show (nI 14 = (0 : Int32)) = False from eq_false (by decide), show (nI 14 = (1 : Int32)) = False from eq_false (by decide), show (nI 14 = (2 : Int32)) = False from eq_false (by decide), show (nI 14 = (3 : Int32)) = False from eq_false (by decide), show (nI 14 = (4 : Int32)) = False from eq_false (by decide), show (nI 14 = (5 : Int32)) = False from eq_false (by decide), show (nI 14 = (6 : Int32)) = False from eq_false (by decide), show (nI 14 = (7 : Int32)) = False from eq_false (by decide), show (nI 14 = (8 : Int32)) = False from eq_false (by decide), show (nI 14 = (9 : Int32)) = False from eq_false (by decide), show (nI 14 = (10 : Int32)) = False from eq_false (by decide), show (nI 14 = (11 : Int32)) = False from eq_false (by decide), show (nI 14 = (12 : Int32)) = False from eq_false (by decide), show (nI 14 = (13 : Int32)) = False from eq_false (by decide), show (nI 14 = (14 : Int32)) = True from eq_true rfl, show (nI 14 = (15 : Int32)) = False from eq_false (by decide), show (nI 14 = (16 : Int32)) = False from eq_false (by decide), show (nI 14 = (17 : Int32)) = False from eq_false (by decide), show (nI 14 = (18 : Int32)) = False from eq_false (by decide), show (nI 14 = (19 : Int32)) = False from eq_false (by decide), show (nI 14 = (20 : Int32)) = False from eq_false (by decide), if_true, if_false, zcl_e, h10, show (nI 14 < (13 : Int32)) = False from eq_false (by decide), show ((19 : Int32) ≤ nI 14) = False from eq_false (by decide)]
      rw [zlet_n, zlet_n, show nI 14 - 13 = nI 1 from by decide, r_at 6 _ 1 (by decide) (by decide), l14 μ g 1 _ (by decide), (ha 1 (by decide)).1]
      exact ⟨_, rfl, rfl⟩
    | 15, _ =>
      rw [show d_X8_within (nI 15) 13 18 = some 1 from rfl]
      simp only [show (nI 15 = (0 : Int32)) = False from eq_false (by decide), show (nI 15 = (1 : Int32)) = False from eq_false (by decide), show (nI 15 = (2 : Int32)) = False from eq_false (by decide), show (nI 15 = (3 : Int32)) = False from eq_false (by decide), show (nI 15 = (4 : Int32)) = False from eq_false (by decide), show (nI 15 = (5 : Int32)) = False from eq_false (by decide), show (nI 15 = (6 : Int32)) = False from eq_false (by decide), show (nI 15 = (7 : Int32)) = False from eq_false (by decide), show (nI 15 = (8 : Int32)) = False from eq_false (by decide), show (nI 15 = (9 : Int32)) = False from eq_false (by decide), show (nI 15 = (10 : Int32)) = False from eq_false (by decide), show (nI 15 = (11 : Int32)) = False from eq_false (by decide), show (nI 15 = (12 : Int32)) = False from eq_false (by decide), show (nI 15 = (13 : Int32)) = False from eq_false (by decide), show (nI 15 = (14 : Int32)) = False from eq_false (by decide), show (nI 15 = (15 : Int32)) = True from eq_true rfl, show (nI 15 = (16 : Int32)) = False from eq_false (by decide), show (nI 15 = (17 : Int32)) = False from eq_false (by decide), show (nI 15 = (18 : Int32)) = False from eq_false (by decide), show (nI 15 = (19 : Int32)) = False from eq_false (by decide), show (nI 15 = (20 : Int32)) = False from eq_false (by decide), if_true, if_false, zcl_e, h10, show (nI 15 < (13 : Int32)) = False from eq_false (by decide), show ((19 : Int32) ≤ nI 15) = False from eq_false (by decide)]
      rw [zlet_n, zlet_n, show nI 15 - 13 = nI 2 from by decide, r_at 6 _ 2 (by decide) (by decide), l14 μ g 2 _ (by decide), (ha 2 (by decide)).1]
      exact ⟨_, rfl, rfl⟩
    | 16, _ =>
      rw [show d_X8_within (nI 16) 13 18 = some 1 from rfl]
      simp only [show (nI 16 = (0 : Int32)) = False from eq_false (by decide), show (nI 16 = (1 : Int32)) = False from eq_false (by decide), show (nI 16 = (2 : Int32)) = False from eq_false (by decide), show (nI 16 = (3 : Int32)) = False from eq_false (by decide), show (nI 16 = (4 : Int32)) = False from eq_false (by decide), show (nI 16 = (5 : Int32)) = False from eq_false (by decide), show (nI 16 = (6 : Int32)) = False from eq_false (by decide), show (nI 16 = (7 : Int32)) = False from eq_false (by decide), show (nI 16 = (8 : Int32)) = False from eq_false (by decide), show (nI 16 = (9 : Int32)) = False from eq_false (by decide), show (nI 16 = (10 : Int32)) = False from eq_false (by decide), show (nI 16 = (11 : Int32)) = False from eq_false (by decide), show (nI 16 = (12 : Int32)) = False from eq_false (by decide), show (nI 16 = (13 : Int32)) = False from eq_false (by decide), show (nI 16 = (14 : Int32)) = False from eq_false (by decide), show (nI 16 = (15 : Int32)) = False from eq_false (by decide), show (nI 16 = (16 : Int32)) = True from eq_true rfl, show (nI 16 = (17 : Int32)) = False from eq_false (by decide), show (nI 16 = (18 : Int32)) = False from eq_false (by decide), show (nI 16 = (19 : Int32)) = False from eq_false (by decide), show (nI 16 = (20 : Int32)) = False from eq_false (by decide), if_true, if_false, zcl_e, h10, show (nI 16 < (13 : Int32)) = False from eq_false (by decide), show ((19 : Int32) ≤ nI 16) = False from eq_false (by decide)]
      rw [zlet_n, zlet_n, show nI 16 - 13 = nI 3 from by decide, r_at 6 _ 3 (by decide) (by decide), l14 μ g 3 _ (by decide), (ha 3 (by decide)).1]
      exact ⟨_, rfl, rfl⟩
    | 17, _ =>
      rw [show d_X8_within (nI 17) 13 18 = some 1 from rfl]
      simp only [show (nI 17 = (0 : Int32)) = False from eq_false (by decide), show (nI 17 = (1 : Int32)) = False from eq_false (by decide), show (nI 17 = (2 : Int32)) = False from eq_false (by decide), show (nI 17 = (3 : Int32)) = False from eq_false (by decide), show (nI 17 = (4 : Int32)) = False from eq_false (by decide), show (nI 17 = (5 : Int32)) = False from eq_false (by decide), show (nI 17 = (6 : Int32)) = False from eq_false (by decide), show (nI 17 = (7 : Int32)) = False from eq_false (by decide), show (nI 17 = (8 : Int32)) = False from eq_false (by decide), show (nI 17 = (9 : Int32)) = False from eq_false (by decide), show (nI 17 = (10 : Int32)) = False from eq_false (by decide), show (nI 17 = (11 : Int32)) = False from eq_false (by decide), show (nI 17 = (12 : Int32)) = False from eq_false (by decide), show (nI 17 = (13 : Int32)) = False from eq_false (by decide), show (nI 17 = (14 : Int32)) = False from eq_false (by decide), show (nI 17 = (15 : Int32)) = False from eq_false (by decide), show (nI 17 = (16 : Int32)) = False from eq_false (by decide), show (nI 17 = (17 : Int32)) = True from eq_true rfl, show (nI 17 = (18 : Int32)) = False from eq_false (by decide), show (nI 17 = (19 : Int32)) = False from eq_false (by decide), show (nI 17 = (20 : Int32)) = False from eq_false (by decide), if_true, if_false, zcl_e, h10, show (nI 17 < (13 : Int32)) = False from eq_false (by decide), show ((19 : Int32) ≤ nI 17) = False from eq_false (by decide)]
      rw [zlet_n, zlet_n, show nI 17 - 13 = nI 4 from by decide, r_at 6 _ 4 (by decide) (by decide), l14 μ g 4 _ (by decide), (ha 4 (by decide)).1]
      exact ⟨_, rfl, rfl⟩
    | 18, _ =>
      rw [show d_X8_within (nI 18) 13 18 = some 1 from rfl]
      simp only [show (nI 18 = (0 : Int32)) = False from eq_false (by decide), show (nI 18 = (1 : Int32)) = False from eq_false (by decide), show (nI 18 = (2 : Int32)) = False from eq_false (by decide), show (nI 18 = (3 : Int32)) = False from eq_false (by decide), show (nI 18 = (4 : Int32)) = False from eq_false (by decide), show (nI 18 = (5 : Int32)) = False from eq_false (by decide), show (nI 18 = (6 : Int32)) = False from eq_false (by decide), show (nI 18 = (7 : Int32)) = False from eq_false (by decide), show (nI 18 = (8 : Int32)) = False from eq_false (by decide), show (nI 18 = (9 : Int32)) = False from eq_false (by decide), show (nI 18 = (10 : Int32)) = False from eq_false (by decide), show (nI 18 = (11 : Int32)) = False from eq_false (by decide), show (nI 18 = (12 : Int32)) = False from eq_false (by decide), show (nI 18 = (13 : Int32)) = False from eq_false (by decide), show (nI 18 = (14 : Int32)) = False from eq_false (by decide), show (nI 18 = (15 : Int32)) = False from eq_false (by decide), show (nI 18 = (16 : Int32)) = False from eq_false (by decide), show (nI 18 = (17 : Int32)) = False from eq_false (by decide), show (nI 18 = (18 : Int32)) = True from eq_true rfl, show (nI 18 = (19 : Int32)) = False from eq_false (by decide), show (nI 18 = (20 : Int32)) = False from eq_false (by decide), if_true, if_false, zcl_e, h10, show (nI 18 < (13 : Int32)) = False from eq_false (by decide), show ((19 : Int32) ≤ nI 18) = False from eq_false (by decide)]
      rw [zlet_n, zlet_n, show nI 18 - 13 = nI 5 from by decide, r_at 6 _ 5 (by decide) (by decide), l14 μ g 5 _ (by decide), (ha 5 (by decide)).1]
      exact ⟨_, rfl, rfl⟩
    | 19, _ =>
      rw [show d_X8_within (nI 19) 13 18 = some 0 from rfl]
      simp only [show (nI 19 = (0 : Int32)) = False from eq_false (by decide), show (nI 19 = (1 : Int32)) = False from eq_false (by decide), show (nI 19 = (2 : Int32)) = False from eq_false (by decide), show (nI 19 = (3 : Int32)) = False from eq_false (by decide), show (nI 19 = (4 : Int32)) = False from eq_false (by decide), show (nI 19 = (5 : Int32)) = False from eq_false (by decide), show (nI 19 = (6 : Int32)) = False from eq_false (by decide), show (nI 19 = (7 : Int32)) = False from eq_false (by decide), show (nI 19 = (8 : Int32)) = False from eq_false (by decide), show (nI 19 = (9 : Int32)) = False from eq_false (by decide), show (nI 19 = (10 : Int32)) = False from eq_false (by decide), show (nI 19 = (11 : Int32)) = False from eq_false (by decide), show (nI 19 = (12 : Int32)) = False from eq_false (by decide), show (nI 19 = (13 : Int32)) = False from eq_false (by decide), show (nI 19 = (14 : Int32)) = False from eq_false (by decide), show (nI 19 = (15 : Int32)) = False from eq_false (by decide), show (nI 19 = (16 : Int32)) = False from eq_false (by decide), show (nI 19 = (17 : Int32)) = False from eq_false (by decide), show (nI 19 = (18 : Int32)) = False from eq_false (by decide), show (nI 19 = (19 : Int32)) = True from eq_true rfl, show (nI 19 = (20 : Int32)) = False from eq_false (by decide), if_true, if_false, zcl_e, eq_self]
      rw [w1, m2]
      exact ⟨_, rfl, rfl⟩
    | 20, _ =>
      rw [show d_X8_within (nI 20) 13 18 = some 0 from rfl]
      simp only [show (nI 20 = (0 : Int32)) = False from eq_false (by decide), show (nI 20 = (1 : Int32)) = False from eq_false (by decide), show (nI 20 = (2 : Int32)) = False from eq_false (by decide), show (nI 20 = (3 : Int32)) = False from eq_false (by decide), show (nI 20 = (4 : Int32)) = False from eq_false (by decide), show (nI 20 = (5 : Int32)) = False from eq_false (by decide), show (nI 20 = (6 : Int32)) = False from eq_false (by decide), show (nI 20 = (7 : Int32)) = False from eq_false (by decide), show (nI 20 = (8 : Int32)) = False from eq_false (by decide), show (nI 20 = (9 : Int32)) = False from eq_false (by decide), show (nI 20 = (10 : Int32)) = False from eq_false (by decide), show (nI 20 = (11 : Int32)) = False from eq_false (by decide), show (nI 20 = (12 : Int32)) = False from eq_false (by decide), show (nI 20 = (13 : Int32)) = False from eq_false (by decide), show (nI 20 = (14 : Int32)) = False from eq_false (by decide), show (nI 20 = (15 : Int32)) = False from eq_false (by decide), show (nI 20 = (16 : Int32)) = False from eq_false (by decide), show (nI 20 = (17 : Int32)) = False from eq_false (by decide), show (nI 20 = (18 : Int32)) = False from eq_false (by decide), show (nI 20 = (19 : Int32)) = False from eq_false (by decide), show (nI 20 = (20 : Int32)) = True from eq_true rfl, if_true, if_false, zcl_e, eq_self]
      rw [k1, m3]
      exact ⟨_, rfl, rfl⟩
    | i + 21, hi => omega
theorem stp_ifFound : zSt_ifFound zSim := by
  intro j v w u q μ p1 hj h
  obtain ⟨A, T, N, n, g, eμ, hR⟩ := zm_of h
  suffices hs : ∃ r, d_X7_ifFound v w u q p1 = some r ∧ d_X8_ifFound (zM5 μ g) p1 = some r by
    obtain ⟨r, a1, a2⟩ := hs
    exact ⟨r, a1, by rw [eμ]; exact a2, zSim_up h⟩
  unfold d_X7_ifFound d_X8_ifFound
  rw [show (4 : Int32) = nI 4 from rfl, zld_nI (by decide) (by decide), zld_nI (by decide) (by decide)]
  rcases w_case p1 1 9 (by decide) with ⟨e, hc⟩ | ⟨e, hc1, hc2⟩
  · rw [show d_X8_within p1 1 9 = some 0 from e, zcl_e, if_pos rfl]
    rcases hc with hc | ⟨hc, hc2⟩
    · rw [if_pos (show p1 < zLEAST 4 from hc)]; exact ⟨_, rfl, rfl⟩
    · rw [if_neg (show ¬ p1 < zLEAST 4 from hc), if_neg (show ¬ p1 ≤ zMOST 4 from fun q => absurd hc2 (Int32.not_lt.mpr q))]; exact ⟨_, rfl, rfl⟩
  · obtain ⟨t, t1, t2⟩ := b_susp (μ := μ) hR p1
    rw [show d_X8_within p1 1 9 = some 1 from e, zcl_e, if_neg (show ¬ (1 : Int32) = 0 from by decide), if_neg (show ¬ p1 < zLEAST 4 from hc1), if_pos (show p1 ≤ zMOST 4 from Int32.not_lt.mp hc2), t1, t2]
    exact ⟨_, rfl, rfl⟩
theorem stp_lapsesIn : zSt_lapsesIn zSim := by
  intro j v w u q μ p1 hj h
  obtain ⟨A, T, N, n, g, eμ, hR⟩ := zm_of h
  suffices hs : ∃ r, d_X7_lapsesIn v w u q p1 = some r ∧ d_X8_lapsesIn (zM5 μ g) p1 = some r by
    obtain ⟨r, a1, a2⟩ := hs
    exact ⟨r, a1, by rw [eμ]; exact a2, zSim_up h⟩
  have hE := b_earl (μ := μ) hR p1
  obtain ⟨ha, hb, ⟨c1, c2, c3, c4⟩, hd, he, hf, ⟨hA, hT, hN, ea, et, en, hby, hen, ga, gt, gn, gh, ge, gb, go⟩⟩ := hR
  obtain ⟨q2, s2, l2, u2, e2⟩ := ha 2 (by decide)
  unfold d_X7_lapsesIn d_X2_secondsUntilLapse d_X8_lapsesIn d_X8_owedFor
  have h10 : ¬ (1 : Int32) = 0 := by decide
  rcases perf_case p1 with ⟨e1, e2⟩ | ⟨k, hk, rfl, e1, e3⟩
  · rw [e1, e2]; exact ⟨_, rfl, rfl⟩
  · rw [e1, e3, zcl_e, zcl_e, if_neg h10, if_neg h10]
    rcases hE with ⟨f1, f2⟩ | ⟨t, ht, -, f1, f2⟩
    · rw [f1, f2]; exact ⟨_, rfl, rfl⟩
    · obtain ⟨a1, a2, -, y, hy, ey⟩ := c4 t ht
      rw [f1, f2, zcl_e, zcl_e, if_neg (nI_m6 (by omega)), if_neg (nI_m6 (by omega)), r_at 8 _ t (by omega) (by decide), zcl_e, R2_at _ _ (by decide) (by decide), L2, L7]
      simp only [zlet_n, zcl_e, nL_mul, nL_add, nR_add]
      rw [l10b μ g t _ (by omega), a2, q2, gt, et, zcl_e]
      by_cases c : v 0 2 - (nI T - v 8 t) < 1
      · rw [if_pos c, if_neg (fun q => absurd c (Int32.not_lt.mpr q))]; exact ⟨_, rfl, rfl⟩
      · rw [if_neg c, if_pos (Int32.not_lt.mp c)]; exact ⟨_, rfl, rfl⟩
theorem q_quiet (v g μ : zHV) (p s : Nat) (hp : p ≤ 9999) (hs1 : 1 ≤ s) (hs : s ≤ 50) (hv : v 0 0 = nI s) (hg : g 14 0 = nI s) : ∀ a i f f', a ≤ 9999 - i → i ≤ 9999 → a < f → a < f' → ∃ r, lp_X2_secondsUntil_21 v (nI p) f (nI a) (nI i) = some r ∧ lp_X8_quietIn_24 (zM5 μ g) (nI p) f' (nI i) (nI a) = some r := by
  intro a
  induction a using Nat.strongRecOn with
  | _ a ih =>
    intro i f f' h1 h2 h3 h4
    obtain ⟨f, rfl⟩ := fu (by omega : 0 < f)
    obtain ⟨f', rfl⟩ := fu (by omega : 0 < f')
    show ∃ r, lpB_X2_secondsUntil_21 v (nI p) (lp_X2_secondsUntil_21 v (nI p) f) (nI a) (nI i) = some r ∧ lpB_X8_quietIn_24 (zM5 μ g) (nI p) (lp_X8_quietIn_24 (zM5 μ g) (nI p) f') (nI i) (nI a) = some r
    unfold lpB_X2_secondsUntil_21 lpB_X8_quietIn_24
    by_cases c : a ≤ p
    · rw [if_pos (nI_le c (by omega)), if_pos (nI_le c (by omega))]; exact ⟨_, rfl, rfl⟩
    · rw [if_neg (nI_ge (by omega) (by omega)), if_neg (nI_ge (by omega) (by omega)), if_neg (show ¬ (9999 : Int32) ≤ nI i from nI_ge (b := 9999) (by omega) (by decide))]
      obtain ⟨a', k1, k2, k3, k4⟩ := b_decay (A := a) (by omega) hs1 hs μ g hg
      simp only [zlet_n]
      rw [R0_at _ _ (by decide) (by decide), zcl_e, hv, k3, zcl_e, k4, zcl_e, nI_p1]
      have := k2 (by omega)
      exact ih a' (by omega) (i + 1) f f' (by omega) (by omega) (by omega) (by omega)
theorem stp_quietIn : zSt_quietIn zSim := by
  intro j v w u q μ p1 hj h
  obtain ⟨A, T, N, n, g, eμ, hR⟩ := zm_of h
  suffices hs : ∃ r, d_X7_quietIn v w u q p1 = some r ∧ d_X8_quietIn (zM5 μ g) p1 = some r by
    obtain ⟨r, a1, a2⟩ := hs
    exact ⟨r, a1, by rw [eμ]; exact a2, zSim_up h⟩
  obtain ⟨ha, hb, hc, hd, he, hf, ⟨hA, hT, hN, ea, et, en, hby, hen, ga, gt, gn, gh, ge, gb, go⟩⟩ := hR
  obtain ⟨q0, s0, l0, u0, e0⟩ := ha 0 (by decide)
  unfold d_X7_quietIn d_X2_secondsUntil d_X8_quietIn
  rcases w_case p1 0 9999 (by decide) with ⟨e, hc⟩ | ⟨e, hc1, hc2⟩
  · rw [show d_X8_within p1 0 9999 = some 0 from e, zcl_e, if_pos rfl]
    rcases hc with hc | ⟨hc, hc2⟩
    · rw [if_pos (show p1 < 0 from hc)]; exact ⟨_, rfl, rfl⟩
    · rw [if_neg (show ¬ p1 < 0 from hc), if_neg (show ¬ p1 ≤ 9999 from fun q => absurd hc2 (Int32.not_lt.mpr q))]; exact ⟨_, rfl, rfl⟩
  · obtain ⟨y, y1, y2, rfl⟩ := w_get (by decide) (by decide) hc1 hc2
    rw [show d_X8_within (nI y) 0 9999 = some 1 from e, zcl_e, if_neg (show ¬ (1 : Int32) = 0 from by decide), if_neg (nI_pos (by omega)), if_pos (show nI y ≤ 9999 from nI_le (b := 9999) y2 (by decide)), L6, ga, ea]
    obtain ⟨r, r1, r2⟩ := q_quiet v g μ y s0 y2 l0 u0 e0 (by rw [q0, e0]) A 0 zF zF (by omega) (by omega) (by unfold zF; omega) (by unfold zF; omega)
    rw [show lp_X2_secondsUntil_21 v (nI y) zF (nI A) 0 = some r from r1, show lp_X8_quietIn_24 (zM5 μ g) (nI y) zF 0 (nI A) = some r from r2]
    exact ⟨_, rfl, rfl⟩
theorem q_calls (v g μ : zHV) (s : Nat) (hs1 : 1 ≤ s) (hs9 : s < 1000) (hv : v 0 5 = nI s) (hg : g 14 5 = nI s) : ∀ a (x : Int32) f f', a ≤ 9999 → a < f → a < f' → ∃ r, lp_X2_curtainsLeft_7 v f (nI a) x = some r ∧ lp_X8_calls_10 (zM5 μ g) f' x (nI a) = some r := by
  intro a
  induction a using Nat.strongRecOn with
  | _ a ih =>
    intro x f f' h1 h3 h4
    obtain ⟨f, rfl⟩ := fu (by omega : 0 < f)
    obtain ⟨f', rfl⟩ := fu (by omega : 0 < f')
    show ∃ r, lpB_X2_curtainsLeft_7 v (lp_X2_curtainsLeft_7 v f) (nI a) x = some r ∧ lpB_X8_calls_10 (zM5 μ g) (lp_X8_calls_10 (zM5 μ g) f') x (nI a) = some r
    unfold lpB_X2_curtainsLeft_7 lpB_X8_calls_10
    rw [L5, hg]
    by_cases c0 : a = 0
    · subst c0
      rw [if_pos (by decide), if_pos (nI_lt (by omega) (by omega))]; exact ⟨_, rfl, rfl⟩
    · rw [if_neg (show ¬ nI a ≤ 0 from nI_nle (by omega) (by omega)), R5_at _ _ (by decide) (by decide), zcl_e, hv]
      by_cases c : a < s
      · rw [if_pos (nI_lt c (by omega)), if_pos (nI_lt c (by omega))]; exact ⟨_, rfl, rfl⟩
      · rw [if_neg (nI_nlt (by omega) (by omega)), if_neg (nI_nlt (by omega) (by omega)), show (2 : Int32) = nI 2 from rfl, zdv_nI (by omega) (by decide) (by decide), zdv_nI (by omega) (by decide) (by decide), zlet_n, zlet_n]
        exact ih (a / 2) (by omega) _ f f' (by omega) (by omega) (by omega)
theorem stp_calls : zSt_calls zSim := by
  intro j v w u q μ hj h
  obtain ⟨A, T, N, n, g, eμ, hR⟩ := zm_of h
  suffices hs : ∃ r, d_X7_calls v w u q = some r ∧ d_X8_calls (zM5 μ g) = some r by
    obtain ⟨r, a1, a2⟩ := hs
    exact ⟨r, a1, by rw [eμ]; exact a2, zSim_up h⟩
  obtain ⟨ha, hb, hc, hd, he, hf, ⟨hA, hT, hN, ea, et, en, hby, hen, ga, gt, gn, gh, ge, gb, go⟩⟩ := hR
  obtain ⟨q5, s5, l5, u5, e5⟩ := ha 5 (by decide)
  have u5 : s5 ≤ 900 := u5
  unfold d_X7_calls d_X2_curtainsLeft d_X8_calls
  rw [L6, ga, ea]
  obtain ⟨r, r1, r2⟩ := q_calls v g μ s5 l5 (by omega) e5 (by rw [q5, e5]) A 0 zF zF hA (by unfold zF; omega) (by unfold zF; omega)
  rw [r1, r2]
  exact ⟨_, rfl, rfl⟩
theorem q_claps (g μ : zHV) (p : Int32) (A G s : Nat) (hA : A ≤ 9999) (hG : 1 ≤ G) (hG9 : G ≤ 90) (hs : s ≤ 900) (ga : g 0 6 = nI A) (gs : g 14 1 = nI s) (R : Nat) (hR : s ≤ A + R * G) (hR9 : R ≤ 1000) : ∀ d i f, R - i = d → 1 ≤ i → i ≤ R → d < f → (∀ k, i ≤ k → k < R → ¬ s ≤ A + k * G) → lp_X8_clapsFor_45 (zM5 μ g) p f (nI G) (nI i) = some (nI R) := by
  intro d
  induction d with
  | zero =>
    intro i f h1 h0 h2 h3 hn
    obtain ⟨f, rfl⟩ := fu h3
    obtain rfl : i = R := by omega
    have hb : i * G ≤ 1000 * 90 := Nat.mul_le_mul hR9 hG9
    show lpB_X8_clapsFor_45 (zM5 μ g) p (lp_X8_clapsFor_45 (zM5 μ g) p f) (nI G) (nI i) = _
    unfold lpB_X8_clapsFor_45
    rw [L6, ga, zlet_n, zlet_n, L1, gs, pk_mul, nI_add, if_pos (nI_le hR (by omega))]
  | succ d ih =>
    intro i f h1 h0 h2 h3 hn
    obtain ⟨f, rfl⟩ := fu (by omega : 0 < f)
    have hb : i * G ≤ 1000 * 90 := Nat.mul_le_mul (by omega) hG9
    have hi := hn i (Nat.le_refl i) (by omega)
    show lpB_X8_clapsFor_45 (zM5 μ g) p (lp_X8_clapsFor_45 (zM5 μ g) p f) (nI G) (nI i) = _
    unfold lpB_X8_clapsFor_45
    rw [L6, ga, zlet_n, zlet_n, L1, gs, pk_mul, nI_add, if_neg (nI_ge (by omega) (by omega)), zlet_n, nI_p1]
    exact ih (i + 1) f (by omega) (by omega) (by omega) (by omega) (fun k k1 k2 => hn k (by omega) k2)
theorem stp_clapsFor : zSt_clapsFor zSim := by
  intro j v w u q μ p1 hj h
  obtain ⟨A, T, N, n, g, eμ, hR⟩ := zm_of h
  suffices hs : ∃ r, d_X7_clapsFor v w u q p1 = some r ∧ d_X8_clapsFor (zM5 μ g) p1 = some r by
    obtain ⟨r, a1, a2⟩ := hs
    exact ⟨r, a1, by rw [eμ]; exact a2, zSim_up h⟩
  obtain ⟨ha, hb, hc, hd, he, hf, ⟨hA, hT, hN, ea, et, en, hby, hen, ga, gt, gn, gh, ge, gb, go⟩⟩ := hR
  obtain ⟨q1, s1, l1, u1, e1⟩ := ha 1 (by decide)
  have u1 : s1 ≤ 900 := u1
  have h10 : ¬ (1 : Int32) = 0 := by decide
  unfold d_X7_clapsFor d_X2_clapsUntilEncore d_X8_clapsFor
  rcases seat_case p1 with ⟨e2, e3⟩ | ⟨k, hk, rfl, e2, e3⟩
  · rw [e2, e3]; exact ⟨_, rfl, rfl⟩
  · rw [e2, e3, zcl_e, zcl_e, if_neg h10, if_neg h10, L13, gh]
    by_cases hq : v 15 3 = -6
    · rw [if_pos hq, if_pos hq, if_pos rfl]; exact ⟨_, rfl, rfl⟩
    · rw [if_neg hq, if_neg hq, if_neg h10, L16, go]
      rcases hen with c | c
      · rw [c, if_pos rfl, if_neg (show ¬ (0 : Int32) = 1 from by decide)]
        obtain ⟨b1, b2, b3, b4, b5, b6, ⟨lo, lo1, lo2, elo⟩, -⟩ := hb.1 k hk
        rw [r_at 30 _ k hk (by decide), zcl_e, R1_at _ _ (by decide) (by decide), G0 μ g k hk, zcl_e, b1, elo, e1, ea, zlet_n, zlet_n, nL_mul, zcl_e, zlet_n, if_neg (show ¬ nI (10 * lo) ≤ 0 from nI_nle (by omega) (by omega))]
        by_cases cs : A < s1
        · rw [pk_sub (by omega), if_pos (show 0 < nI (s1 - A) from nI_lt (a := 0) (by omega) (by omega)), zlet_n, zlet_n, nI_add, show (1 : Int32) = nI 1 from rfl, pk_sub (by omega), zdv_nI (by omega) (by omega) (by omega), zcl_e]
          have hdiv := Nat.div_add_mod (s1 - A + 10 * lo - 1) (10 * lo)
          have hmod := Nat.mod_lt (s1 - A + 10 * lo - 1) (show 0 < 10 * lo by omega)
          have hcomm := Nat.mul_comm (10 * lo) ((s1 - A + 10 * lo - 1) / (10 * lo))
          have hpos : 1 ≤ (s1 - A + 10 * lo - 1) / (10 * lo) := (Nat.one_le_div_iff (by omega)).mpr (by omega)
          have hle : (s1 - A + 10 * lo - 1) / (10 * lo) ≤ s1 - A + 10 * lo - 1 := Nat.div_le_self _ _
          rw [q_claps g μ (nI k) A (10 * lo) s1 hA (by omega) (by omega) u1 ga (by rw [q1, e1]) ((s1 - A + 10 * lo - 1) / (10 * lo)) (by omega) (by omega) _ 1 zF rfl (by omega) hpos (by unfold zF; omega) (fun i i1 i2 q => by
            have h5 : (i + 1) * (10 * lo) ≤ (s1 - A + 10 * lo - 1) / (10 * lo) * (10 * lo) := Nat.mul_le_mul i2 (Nat.le_refl _)
            rw [Nat.add_mul] at h5
            omega)]
          exact ⟨_, rfl, rfl⟩
        · have hneg : ¬ 0 < nI s1 - nI A := by
            rw [show (0 : Int32) = nI 0 from rfl, nI_ltSub (by omega) (by omega) (by decide)]
            omega
          rw [if_neg hneg, zcl_e, show lp_X8_clapsFor_45 (zM5 μ g) (nI k) zF (nI (10 * lo)) 1 = lp_X8_clapsFor_45 (zM5 μ g) (nI k) zF (nI (10 * lo)) (nI 1) from rfl, q_claps g μ (nI k) A (10 * lo) s1 hA (by omega) (by omega) u1 ga (by rw [q1, e1]) 1 (by omega) (by decide) 0 1 zF rfl (by decide) (by decide) (by decide) (fun i i1 i2 => by omega)]
          exact ⟨_, rfl, rfl⟩
      · rw [c, if_neg h10, if_pos rfl]; exact ⟨_, rfl, rfl⟩
