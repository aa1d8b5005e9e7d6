/-! ===== the acts: pass, night ===== -/
theorem nI_subLt {a b c : Nat} (ha : a < 1000000) (hb : b < 1000000) (hc : c < 1000000) : nI a - nI b < nI c ↔ (a : Int) - b < c := by
  rw [Int32.lt_iff_toInt_lt, pk_sub_toInt (by omega) (by omega), nI_toInt (by omega)]
theorem nI_ltSub {a b c : Nat} (ha : a < 1000000) (hb : b < 1000000) (hc : c < 1000000) : nI c < nI a - nI b ↔ (c : Int) < a - b := by
  rw [Int32.lt_iff_toInt_lt, pk_sub_toInt (by omega) (by omega), nI_toInt (by omega)]
theorem zRc_kept {n T n' : Nat} {P : Nat → Bool} {v7 v8 w7 w8 : Nat → Int32} {c : Int32} {g10 g11 h10 h11 : Nat → Int32} {gc c' gc' : Int32} (h : zRc n T v7 v8 c g10 g11 gc) (hn : n' = zkc P n) (hc : c' = nI n') (hg : gc' = nI n')
    (h7 : ∀ k, k < n → P k = false → w7 (zkc P k) = v7 k ∧ w8 (zkc P k) = v8 k) (h8 : ∀ k, k < n → P k = false → h10 (zkc P k) = v7 k ∧ h11 (zkc P k) = v8 k) : zRc n' T w7 w8 c' h10 h11 gc' := by
  obtain ⟨h1, h2, h3, h4⟩ := h
  have := zkc_le P n
  refine ⟨by omega, hc, hg, fun j hj => ?_⟩
  rw [hn] at hj
  obtain ⟨k, k1, k2, rfl⟩ := zkc_j P n j hj
  obtain ⟨a1, a2⟩ := h7 k k1 k2
  obtain ⟨b1, b2⟩ := h8 k k1 k2
  obtain ⟨-, -, c3, c4⟩ := h4 k k1
  rw [a1, a2, b1, b2]
  exact ⟨rfl, rfl, c3, c4⟩
theorem zRe_lap {m n t : Nat} {v13 g15 : Nat → Int32} (h : zRe m n v13 g15) (ht : t ≤ n) : zRe m (n - t) (upd v13 2 (v13 2 + nI t)) (upd g15 2 (g15 2 + nI t)) := by
  obtain ⟨k1, ⟨a0, b0, d0⟩, ⟨a1, b1, d1⟩, ⟨a2, b2, d2⟩, a3, b3, d3⟩ := h
  refine ⟨fun k hk => ?_, ⟨a0, b0, ?_⟩, ⟨a1, b1, ?_⟩, ⟨a2 + t, by omega, ?_⟩, a3, b3, ?_⟩
  · by_cases c : k = 2
    · subst c; rw [pk_us, pk_us, k1 2 hk]
    · rw [pk_un c, pk_un c, k1 k hk]
  · rw [pk_un (by decide), d0]
  · rw [pk_un (by decide), d1]
  · rw [pk_us, d2, nI_add]
  · rw [pk_un (by decide), d3]
/-- what lapses at a time -/
theorem b_lapse {m A T N n : Nat} {v g μ : zHV} (h : zRel m A T N n v g) {s : Nat} (hs : g 14 2 = nI s) (hs9 : s < 1000) : ∃ t e' g' n', d_X0_lapseSince (zh v 7) (nI T - nI s) = some (nI t, e') ∧ lp_X8_passSecond_39 zF (nI n - 1) (zM5 μ g) = some (zM5 μ g') ∧ zRel m A T N n' (zr (zq v 7 6 e') 13 (upd (v 13) 2 (v 13 2 + nI t))) g' := by
  obtain ⟨ha, hb, hc, hd, he, hf, hg⟩ := h
  have hT : T ≤ 99999 := hg.2.1
  have hn : n ≤ 8 := hc.1
  have hc4 := hc.2.2.2
  let P : Nat → Bool := fun k => decide (¬ nI T - nI s < v 8 k)
  have hP7 : ∀ k, k < n → (P k = true ↔ ¬ nI T - nI s < v 8 k) := fun k hk => by show decide _ = true ↔ _; rw [decide_eq_true_iff]
  have hP8 : ∀ k, k < n → (P k = true ↔ ¬ nI T - v 8 k < nI s) := fun k hk => by
    rw [hP7 k hk]
    obtain ⟨-, -, -, t, ht, et⟩ := hc4 k hk
    rw [et, nI_subLt (by omega) (by omega) (by omega), nI_subLt (by omega) (by omega) (by omega)]
    omega
  have hw : ∀ k, k < n → ∃ p, p < 6 ∧ v 7 k = nI p := fun k hk => (hc4 k hk).2.2.1
  obtain ⟨e', f1, f2, f3, f4, f5, f6⟩ := q_laps P (v 7) (v 8) (nI T - nI s) n hn (zh v 7) hP7 hw n 0 zF (zh v 7) rfl (Nat.zero_le n) (by unfold zF; omega) hc.2.1 (fun k _ _ => ⟨rfl, rfl⟩) (fun k hk => by omega) rfl rfl (fun p hp => by
    show _ = _ + nI 0
    rw [show nI 0 = 0 from rfl, Int32.add_zero])
  have hgt : g 0 7 = nI T := hg.2.2.2.2.2.2.2.2.2.1
  obtain ⟨g', r1, r2, r3, r4, r5, r6⟩ := q_pass P (v 7) (v 8) (nI T) (nI s) n hn μ g hgt hs hP8 hw n zF g (Nat.le_refl n) (by unfold zF; omega) ⟨fun _ _ _ _ _ _ => rfl, fun _ _ => rfl⟩ (by rw [Nat.sub_self, Nat.add_zero]; exact hc.2.2.1) (fun k hk => ⟨(hc4 k hk).1, (hc4 k hk).2.1⟩) (fun k h1 h2 => by omega) (by
    rw [Nat.sub_self, Nat.sub_self, show nI 0 = 0 from rfl, Int32.add_zero]
    funext b
    by_cases c : b = 2
    · rw [c, pk_us]
    · rw [pk_un c]) (fun p hp => by rw [Nat.sub_self, show nI 0 = 0 from rfl, Int32.add_zero])
  have hle := zkc_le P n
  have h15 := zRe_lap (t := n - zkc P n) he (by omega)
  refine ⟨n - zkc P n, e', g', zkc P n, f1, r1, ?_, ?_, ?_, ?_, ?_, ?_, ?_⟩
  · rw [r2.1 14 (by decide) (by decide) (by decide) (by decide) (by decide)]; exact ha
  · rw [r2.1 1 (by decide) (by decide) (by decide) (by decide) (by decide), r2.1 2 (by decide) (by decide) (by decide) (by decide) (by decide), r2.1 3 (by decide) (by decide) (by decide) (by decide) (by decide), r2.1 4 (by decide) (by decide) (by decide) (by decide) (by decide), r2.1 5 (by decide) (by decide) (by decide) (by decide) (by decide), r2.1 6 (by decide) (by decide) (by decide) (by decide) (by decide), r2.1 12 (by decide) (by decide) (by decide) (by decide) (by decide), r2.2 18 (by decide)]; exact hb
  · exact zRc_kept hc rfl f2 r3 f3 r4
  · rw [r2.1 7 (by decide) (by decide) (by decide) (by decide) (by decide), r2.1 9 (by decide) (by decide) (by decide) (by decide) (by decide)]
    intro k hk
    show g 7 k = e' 2 k ∧ g' 8 k = e' 3 k ∧ g 9 k = e' 4 k
    rw [f4, f5, f6 k hk, r6 k hk]
    obtain ⟨d1, d2, d3⟩ := hd k hk
    refine ⟨d1, ?_, d3⟩
    show g 8 k + _ = v 10 k + _
    rw [d2]
  · rw [r5]
    show zRe m (zkc P n) (upd (v 13) 2 (v 13 2 + nI (n - zkc P n))) _
    rw [show n - (n - zkc P n) = zkc P n by omega] at h15
    exact h15
  · rw [r2.1 13 (by decide) (by decide) (by decide) (by decide) (by decide), r2.2 19 (by decide)]; exact hf
  · rw [r2.2 6 (by decide), r2.2 7 (by decide), r2.2 8 (by decide), r2.2 13 (by decide), r2.2 14 (by decide), r2.2 15 (by decide), r2.2 16 (by decide)]; exact hg
theorem b_decay {A s : Nat} (hA : A ≤ 9999) (hs1 : 1 ≤ s) (hs : s ≤ 50) (μ g : zHV) (hg : g 14 0 = nI s) : ∃ A', A' ≤ A ∧ (0 < A → A' < A) ∧ d_X7_afterSecond (nI A) (nI s) = some (nI A') ∧ d_X8_decayed (zM5 μ g) (nI A) = some (nI A') := by
  have hm : A * s ≤ 9999 * 50 := Nat.mul_le_mul hA hs
  have hd : A * s / 100 ≤ A := by
    have : A * s ≤ A * 50 := Nat.mul_le_mul (Nat.le_refl A) hs
    omega
  unfold d_X7_afterSecond d_X8_decayed
  rw [L0, hg, zlet_n, pk_mul]
  by_cases c : A = 0
  · subst c
    refine ⟨0, by omega, by omega, rfl, ?_⟩
    rw [zlet_n, show (100 : Int32) = nI 100 from rfl, zdv_nI (by omega) (by decide) (by decide), if_pos (show nI 0 = 0 from rfl)]; rfl
  · rw [if_pos (show 0 < nI A from nI_lt (a := 0) (by omega) (by omega)), zlet_n, show (100 : Int32) = nI 100 from rfl, zdv_nI (by omega) (by decide) (by decide), zdv_nI (by omega) (by decide) (by decide), if_neg (nI_ne0 (by omega) (by omega))]
    by_cases c2 : 1 ≤ A * s / 100
    · refine ⟨A - A * s / 100, by omega, by omega, ?_, ?_⟩
      · rw [zlet_n, if_neg (show ¬ nI (A * s / 100) < 1 from nI_nlt (b := 1) c2 (by omega)), zlet_n, pk_sub hd]
      · rw [if_pos (show 1 ≤ nI (A * s / 100) from nI_le (a := 1) c2 (by omega)), zlet_n, pk_sub hd]
    · refine ⟨A - 1, by omega, by omega, ?_, ?_⟩
      · rw [zlet_n, if_pos (show nI (A * s / 100) < 1 from nI_lt (b := 1) (by omega) (by decide)), zlet_n, show (1 : Int32) = nI 1 from rfl, pk_sub (by omega)]
      · rw [if_neg (show ¬ 1 ≤ nI (A * s / 100) from fun q => by
          have h2 := (nI_leI (a := 1) (b := A * s / 100) (by decide) (by omega)).mp q
          omega), zlet_n, show (1 : Int32) = nI 1 from rfl, pk_sub (by omega)]
theorem q_second {m A T N n : Nat} {v g μ : zHV} (h : zRel m A T N n v g) (hT : T < 99999) : ∃ v' g' A' n', A' ≤ A ∧ (∀ (p1 : Int32) (K : Int32 → zHV → Option (Int32 × zHV)) (x2 : Int32), (zcl (d_X5_at 6 (v 0) 0) fun t45 => zcl (d_X7_afterSecond (v 15 0) t45) fun t48 => zlet (zs v 15 0 t48) fun v51 => zlet ((v51 15 1) + 1) fun t60 => zlet (zs v51 15 1 t60) fun v61 => zcl (d_X5_at 6 (v61 0) 2) fun t82 => zlet ((v61 15 1) - t82) fun t85 => zup2 (d_X0_lapseSince (zh v61 7) t85) (fun u => (zq v61 7 6 u)) fun t86 v86 => zup (d_X5_add 4 (v86 13) 2 t86) (fun u => (zr v86 13 u)) fun v89 => zlet (x2 + Int32.ofInt 1) fun x2_92 => K x2_92 v89) = K (x2 + Int32.ofInt 1) v') ∧ d_X8_passSecond (zM5 μ g) = some (zM5 μ g') ∧ zRel m A' (T + 1) N n' v' g' := by
  have h' := h
  obtain ⟨ha, hb, hc, hd, he, hf, hg⟩ := h
  obtain ⟨q0, s0, l0, u0, e0⟩ := ha 0 (by decide)
  obtain ⟨q2, s2, l2, u2, e2⟩ := ha 2 (by decide)
  obtain ⟨hA, hT9, hN, ea, et, en, hby, hen, ga, gt, gn, gh, ge, gb, go⟩ := hg
  have u2 : s2 ≤ 300 := u2
  obtain ⟨A', hA1, hA2, d7, d8⟩ := b_decay (s := s0) hA l0 u0 μ g (by rw [q0, e0])
  have h2 : zRel m A' (T + 1) N n (zs (zs v 15 0 (nI A')) 15 1 (nI (T + 1))) (zs (zs g 0 6 (nI A')) 0 7 (nI (T + 1))) := by
    refine ⟨ha, hb, ⟨hc.1, hc.2.1, hc.2.2.1, fun k hk => ?_⟩, hd, he, hf, ⟨by omega, by omega, hN, rfl, rfl, en, hby, hen, rfl, rfl, gn, gh, ge, gb, go⟩⟩
    obtain ⟨c1, c2, c3, t, ht, c4⟩ := hc.2.2.2 k hk
    exact ⟨c1, c2, c3, t, by omega, c4⟩
  obtain ⟨t, e', g', n', r1, r2, r3⟩ := b_lapse (μ := μ) h2 (s := s2) (by show g 14 2 = _; rw [q2, e2]) (by omega)
  refine ⟨_, g', A', n', hA1, fun p1 K x2 => ?_, ?_, r3⟩
  · rw [R0_at _ _ (by decide) (by decide), zcl_e, e0, ea, d7, zcl_e]
    simp only [zlet_n]
    rw [show zs v 15 0 (nI A') 15 1 = nI T from et, nI_1, R2_at _ _ (by decide) (by decide), zcl_e, show zs (zs v 15 0 (nI A')) 15 1 (nI (T + 1)) 0 2 = nI s2 from e2, show zs (zs v 15 0 (nI A')) 15 1 (nI (T + 1)) 15 1 = nI (T + 1) from rfl, r1, zup2_e, R2_add _ _ _ (by decide) (by decide), zup_e]
    rfl
  · unfold d_X8_passSecond
    rw [L6, ga, d8, zcl_e, S6, L7, show zs g 0 6 (nI A') 0 7 = nI T from gt]
    simp only [zlet_n]
    rw [nI_1, S7, L17, show zs (zs g 0 6 (nI A')) 0 7 (nI (T + 1)) 0 17 = nI n from hc.2.2.1, r2]
theorem q_passes (p : Nat) (hp : p ≤ 99) (μ : zHV) : ∀ d i f f' m A T N n v g, p - i = d → i ≤ p → d < f → d < f' → T + d ≤ 99999 → zRel m A T N n v g → ∃ r v' g' A' T' n', lp_X2_letPass_30 (nI p) f (nI i) v = some (nI r, v') ∧ lp_X8_doPass_32 (nI p) f' (nI i) (zM5 μ g) = some (nI r, zM5 μ g') ∧ zRel m A' T' N n' v' g' := by
  intro d
  induction d with
  | zero =>
    intro i f f' m A T N n v g h1 h2 h3 h4 h5 h
    obtain ⟨f, rfl⟩ := fu h3
    obtain ⟨f', rfl⟩ := fu h4
    obtain rfl : i = p := by omega
    refine ⟨A, v, g, A, T, n, ?_, ?_, h⟩
    · show lpB_X2_letPass_30 (nI i) (lp_X2_letPass_30 (nI i) f) (nI i) v = _
      unfold lpB_X2_letPass_30
      rw [if_pos (nI_le (Nat.le_refl _) (by omega)), h.2.2.2.2.2.2.2.2.2.1]
    · show lpB_X8_doPass_32 (nI i) (lp_X8_doPass_32 (nI i) f') (nI i) (zM5 μ g) = _
      unfold lpB_X8_doPass_32
      rw [if_pos (nI_le (Nat.le_refl _) (by omega)), L6, h.2.2.2.2.2.2.2.2.2.2.2.2.2.2.1]
  | succ d ih =>
    intro i f f' m A T N n v g h1 h2 h3 h4 h5 h
    obtain ⟨f, rfl⟩ := fu (by omega : 0 < f)
    obtain ⟨f', rfl⟩ := fu (by omega : 0 < f')
    obtain ⟨v1, g1, A1, n1, hA1, k1, k2, k3⟩ := q_second (μ := μ) h (by omega)
    have e1 : lp_X2_letPass_30 (nI p) (f + 1) (nI i) v = lp_X2_letPass_30 (nI p) f (nI (i + 1)) v1 := by
      show lpB_X2_letPass_30 (nI p) (lp_X2_letPass_30 (nI p) f) (nI i) v = _
      unfold lpB_X2_letPass_30
      rw [if_neg (nI_ge (by omega) (by omega)), k1 (nI p), nI_p1]
    have e2 : lp_X8_doPass_32 (nI p) (f' + 1) (nI i) (zM5 μ g) = lp_X8_doPass_32 (nI p) f' (nI (i + 1)) (zM5 μ g1) := by
      show lpB_X8_doPass_32 (nI p) (lp_X8_doPass_32 (nI p) f') (nI i) (zM5 μ g) = _
      unfold lpB_X8_doPass_32
      rw [if_neg (nI_ge (by omega) (by omega)), k2, zup_e, zlet_n, nI_p1]
    rw [e1, e2]
    exact ih (i + 1) f f' m A1 (T + 1) N n1 v1 g1 (by omega) (by omega) (by omega) (by omega) (by omega) k3
theorem o_pass (p : Int32) : zOp (fun v => d_X2_letPass v p) (fun μ => d_X8_doPass μ p) := by
  intro m A T N n v g μ hm h
  show ∃ (r : Int32) (v' g' : zHV) (A' T' N' n' : Nat), d_X2_letPass v p = some (r, v') ∧ d_X8_doPass (zM5 μ g) p = some (r, zM5 μ g') ∧ zRel (m + 2) A' T' N' n' v' g'
  unfold d_X2_letPass d_X8_doPass
  have hT : T ≤ 99999 := h.2.2.2.2.2.2.2.1
  rcases nI_case p 100 (by decide) with hc | ⟨hc, hc2⟩ | ⟨k, hk, rfl⟩
  · rw [if_pos (show p < 1 from nI_lt_of_neg (a := 1) hc (by decide)), show d_X8_within p 1 99 = some 0 from w_neg (a := 1) hc (by decide), zcl_e, if_pos rfl]
    exact ⟨_, v, g, A, T, N, n, rfl, rfl, zRel_up (by omega) h⟩
  · have h1 : ¬ p < 1 := fun q => by
      have e1 : (nI 100).toInt ≤ p.toInt := Int32.le_iff_toInt_le.mp hc2
      have e2 : p.toInt < (1 : Int32).toInt := Int32.lt_iff_toInt_lt.mp q
      rw [nI_toInt (by decide)] at e1
      rw [show (1 : Int32).toInt = 1 from by decide] at e2
      omega
    have h2 : ¬ p ≤ 99 := fun q => by
      have e1 : (nI 100).toInt ≤ p.toInt := Int32.le_iff_toInt_le.mp hc2
      have e2 : p.toInt ≤ (99 : Int32).toInt := Int32.le_iff_toInt_le.mp q
      rw [nI_toInt (by decide)] at e1
      rw [show (99 : Int32).toInt = 99 from by decide] at e2
      omega
    have h3 : d_X8_within p 1 99 = some 0 := by
      unfold d_X8_within
      rw [if_neg h1, if_pos (Int32.not_le.mp h2)]
    rw [if_neg h1, if_neg h2, h3, zcl_e, if_pos rfl]
    exact ⟨_, v, g, A, T, N, n, rfl, rfl, zRel_up (by omega) h⟩
  · by_cases c : k = 0
    · subst c
      exact ⟨-2, v, g, A, T, N, n, rfl, rfl, zRel_up (by omega) h⟩
    · rw [if_neg (show ¬ nI k < 1 from nI_nlt (b := 1) (by omega) (by omega)), if_pos (show nI k ≤ 99 from nI_le (b := 99) (by omega) (by decide)), show d_X8_within (nI k) 1 99 = some 1 from w_in (a := 1) (b := 99) (by omega) (by omega) (by decide), zcl_e, if_neg (by decide), zlet_n, h.2.2.2.2.2.2.2.2.2.2.1, L7, h.2.2.2.2.2.2.2.2.2.2.2.2.2.2.2.1, zlet_n, nI_add, show (99999 : Int32) = nI 99999 from rfl, pk_sub (by omega)]
      by_cases c2 : T + k ≤ 99999
      · rw [if_pos (nI_le (by omega) (by omega)), if_pos (nI_le (by omega) (by omega))]
        obtain ⟨r, v', g', A', T', n', k1, k2, k3⟩ := q_passes k (by omega) μ k 0 zF zF m A T N n v g rfl (Nat.zero_le k) (by unfold zF; omega) (by unfold zF; omega) (by omega) h
        exact ⟨_, v', g', A', T', N, n', k1, k2, zRel_up (by omega) k3⟩
      · rw [if_neg (nI_ge (by omega) (by omega)), if_neg (nI_ge (by omega) (by omega))]
        exact ⟨_, v, g, A, T, N, n, rfl, rfl, zRel_up (by omega) h⟩
