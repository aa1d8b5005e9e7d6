/-! ===== what lapses; a second; seconds pass ===== -/
theorem q_sec (P : Nat → Bool) (W Tm : Nat → Int32) (T s : Int32) (n : Nat) (hn : n ≤ 8) (q0 p0 : Nat → Int32) (hT : q0 7 = T) (hs : q0 2 = s) (hP : ∀ k, k < n → (P k = true ↔ ¬ T - Tm k < s)) (hw : ∀ k, k < n → ∃ r, r < 6 ∧ W k = nI r) :
    ∀ d i f q p w, n - i = d → i ≤ n → d < f → q 16 = nI (zkc P i + (n - i)) → (∀ j, ¬ j = 16 → ¬ j = 11 → q j = q0 j) → q 11 = q0 11 + nI (i - zkc P i) →
      (∀ k, k < i → P k = false → w (2 * zkc P k) = W k ∧ w (2 * zkc P k + 1) = Tm k) → (∀ j, i ≤ j → j < n → w (2 * (zkc P i + (j - i))) = W j ∧ w (2 * (zkc P i + (j - i)) + 1) = Tm j) →
      (∀ r, r < 6 → p (3 * r) = p0 (3 * r) ∧ p (3 * r + 1) = p0 (3 * r + 1) + nI (zlp P W r i) ∧ p (3 * r + 2) = p0 (3 * r + 2)) →
    ∃ q' p' w', lp_L_second_22 f (nI (zkc P i)) q p w = some (q', p', w') ∧ q' 16 = nI (zkc P n) ∧ (∀ j, ¬ j = 16 → ¬ j = 11 → q' j = q0 j) ∧ q' 11 = q0 11 + nI (n - zkc P n) ∧ (∀ k, k < n → P k = false → w' (2 * zkc P k) = W k ∧ w' (2 * zkc P k + 1) = Tm k) ∧
      ∀ r, r < 6 → p' (3 * r) = p0 (3 * r) ∧ p' (3 * r + 1) = p0 (3 * r + 1) + nI (zlp P W r n) ∧ p' (3 * r + 2) = p0 (3 * r + 2) := by
  intro d
  induction d with
  | zero =>
    intro i f q p w h1 h2 h3 h4 h5 h6 h7 h8 h9
    obtain ⟨f, rfl⟩ := fu h3
    obtain rfl : i = n := by omega
    have hle := zkc_le P i
    rw [Nat.sub_self, Nat.add_zero] at h4
    refine ⟨q, p, w, ?_, h4, h5, h6, h7, h9⟩
    show lpB_L_second_22 (lp_L_second_22 f) (nI (zkc P i)) q p w = _
    unfold lpB_L_second_22
    rw [Q16, h4, if_pos (nI_le (Nat.le_refl _) (by omega))]
  | succ d ih =>
    intro i f q p w h1 h2 h3 h4 h5 h6 h7 h8 h9
    obtain ⟨f, rfl⟩ := fu (by omega : 0 < f)
    have hle := zkc_le P i
    obtain ⟨hw1, hw2⟩ := h8 i (Nat.le_refl i) (by omega)
    rw [show zkc P i + (i - i) = zkc P i by omega] at hw1 hw2
    obtain ⟨r, hr, hwr⟩ := hw i (by omega)
    show ∃ q' p' w', lpB_L_second_22 (lp_L_second_22 f) (nI (zkc P i)) q p w = _ ∧ _
    unfold lpB_L_second_22
    rw [Q16, h4, if_neg (nI_ge (by omega) (by omega)), Q7, h5 7 (by decide) (by decide), hT, zlet_n, show (2 : Int32) * nI (zkc P i) = nI (2 * zkc P i) from nL_mul 2 _, zlet_n, nI_1, zld_nI (by omega) (by decide), hw2, zlet_n, Q2, h5 2 (by decide) (by decide), hs]
    cases hPi : P i
    · have hc : T - Tm i < s := by
        by_cases c : T - Tm i < s
        · exact c
        · rw [(hP i (by omega)).mpr c] at hPi; cases hPi
      rw [if_pos hc, zlet_n, nI_p1, ← zkc_f hPi]
      refine ih (i + 1) f q p w (by omega) (by omega) (by omega) ?_ h5 ?_ (fun k hk1 hk2 => ?_) (fun j hj1 hj2 => ?_) (fun r hr => ?_)
      · rw [h4, zkc_f hPi]; congr 1; omega
      · rw [h6, zkc_f hPi]; congr 2; omega
      · by_cases c : k = i
        · subst c; exact ⟨hw1, hw2⟩
        · exact h7 k (by omega) hk2
      · rw [zkc_f hPi, show zkc P i + 1 + (j - (i + 1)) = zkc P i + (j - i) by omega]
        exact h8 j (by omega) hj2
      · rw [zlp_f (by rw [hPi]; simp)]; exact h9 r hr
    · have hc : ¬ T - Tm i < s := (hP i (by omega)).mp hPi
      obtain ⟨N', eN⟩ : ∃ N', zkc P i + (n - i) = N' + 1 := ⟨zkc P i + (n - i) - 1, by omega⟩
      rw [if_neg hc, zlet_n, zld_nI (by omega) (by decide), hw1, hwr, e_lapses q p hr, zup_e, e_drops (q := upd q 11 (q 11 + 1)) (n := N') (e := zkc P i) (by omega) (by omega) (by rw [pk_un (by decide), h4, eN]), zup_e]
      have hk1 := zkc_t hPi
      rw [← hk1]
      refine ih (i + 1) f _ _ _ (by omega) (by omega) (by omega) ?_ (fun j hj1 hj2 => ?_) ?_ (fun k hk1' hk2 => ?_) (fun j hj1 hj2 => ?_) (fun r' hr' => ?_)
      · show upd (upd q 11 (q 11 + 1)) 16 (nI N') 16 = nI (zkc P (i + 1) + (n - (i + 1)))
        rw [pk_us, hk1]; congr 1; omega
      · show upd (upd q 11 (q 11 + 1)) 16 (nI N') j = q0 j
        rw [pk_un hj1, pk_un hj2]; exact h5 j hj1 hj2
      · show upd (upd q 11 (q 11 + 1)) 16 (nI N') 11 = _
        rw [pk_un (by decide), pk_us, h6, Int32.add_assoc, nI_1, hk1]; congr 2; omega
      · have hne : ¬ k = i := fun q => by rw [q, hPi] at hk2; cases hk2
        have hlt := zkc_s hk2 (show k < i by omega)
        show zsh (2 * zkc P (i + 1)) N' w (2 * zkc P k) = W k ∧ zsh (2 * zkc P (i + 1)) N' w (2 * zkc P k + 1) = Tm k
        unfold zsh
        rw [hk1, if_neg (by omega), if_neg (by omega)]
        exact h7 k (by omega) hk2
      · show zsh (2 * zkc P (i + 1)) N' w (2 * (zkc P (i + 1) + (j - (i + 1)))) = W j ∧ zsh (2 * zkc P (i + 1)) N' w (2 * (zkc P (i + 1) + (j - (i + 1))) + 1) = Tm j
        unfold zsh
        rw [hk1, if_pos (by omega), if_pos (by omega), show 2 * (zkc P i + (j - (i + 1))) + 2 = 2 * (zkc P i + (j - i)) by omega, show 2 * (zkc P i + (j - (i + 1))) + 1 + 2 = 2 * (zkc P i + (j - i)) + 1 by omega]
        exact h8 j (by omega) hj2
      · obtain ⟨g1, g2, g3⟩ := h9 r' hr'
        refine ⟨(pk_un (by omega)).trans g1, ?_, (pk_un (by omega)).trans g3⟩
        show upd p (3 * r + 1) (p (3 * r + 1) + 1) (3 * r' + 1) = _
        by_cases c : r' = r
        · subst c
          rw [pk_us, g2, zlp_t ⟨hPi, hwr⟩, Int32.add_assoc, nI_1]
        · rw [pk_un (by omega), g2, zlp_f (fun z => by
            have h9 := z.2
            rw [hwr] at h9
            have := (nI_eq (by omega) (by omega)).mp h9
            omega)]
/-- what lapses at a time, on both sides -/
theorem b_lapse {m A T N n : Nat} {v : zHV} {q a e nn t p w r c : Nat → Int32} (h : zLR m A T N n v (z9 q a e nn t p w r c)) : ∃ s u e' q' p' w' n', v 0 2 = nI s ∧ d_X0_lapseSince (zh v 7) (nI T - nI s) = some (nI u, e') ∧ lp_L_second_22 zF 0 q p w = some (q', p', w') ∧ zLR m A T N n' (zr (zq v 7 6 e') 13 (upd (v 13) 2 (v 13 2 + nI u))) (z9 q' a e nn t p' w' r c) := by
  obtain ⟨ha, hb, hc, hd, he, hf, hg⟩ := zLR_9.mp h
  obtain ⟨hA, hT, hN, ea, et, en, hby, hen, ga, gt, gn, gh, ge, go⟩ := hg
  obtain ⟨qs, s, ls, us, es⟩ := ha 2 (by decide)
  have us : s ≤ 300 := us
  have hn : n ≤ 8 := hc.1
  have hc4 := hc.2.2.2
  let P : Nat → Bool := fun k => decide (¬ nI T - nI s < v 8 k)
  have hP7 : ∀ k, k < n → (P k = true ↔ ¬ nI T - nI s < v 8 k) := fun k hk => by show decide _ = true ↔ _; rw [decide_eq_true_iff]
  have hP8 : ∀ k, k < n → (P k = true ↔ ¬ nI T - v 8 k < nI s) := fun k hk => by
    rw [hP7 k hk]
    obtain ⟨-, -, -, t, ht, et⟩ := hc4 k hk
    rw [et, nI_subLt (by omega) (by omega) (by omega), nI_subLt (by omega) (by omega) (by omega)]
    omega
  have hw : ∀ k, k < n → ∃ p, p < 6 ∧ v 7 k = nI p := fun k hk => (hc4 k hk).2.2.1
  obtain ⟨e', f1, f2, f3, f4, f5, f6⟩ := q_laps P (v 7) (v 8) (nI T - nI s) n hn (zh v 7) hP7 hw n 0 zF (zh v 7) rfl (Nat.zero_le n) (by unfold zF; omega) hc.2.1 (fun k _ _ => ⟨rfl, rfl⟩) (fun k hk => by omega) rfl rfl (fun p hp => by
    show _ = _ + nI 0
    rw [show nI 0 = 0 from rfl, Int32.add_zero])
  obtain ⟨q', p', w', r1, r2, r3, r4, r5, r6⟩ := q_sec P (v 7) (v 8) (nI T) (nI s) n hn q p gt (by rw [qs, es]) hP8 hw n 0 zF q p w rfl (Nat.zero_le n) (by unfold zF; omega) (by
    show q 16 = nI (0 + (n - 0))
    rw [Nat.zero_add, Nat.sub_zero]; exact hc.2.2.1) (fun _ _ _ => rfl) (by
    show q 11 = q 11 + nI 0
    rw [show nI 0 = 0 from rfl, Int32.add_zero]) (fun k hk => by omega) (fun j _ hj => by
    show w (2 * (0 + (j - 0))) = _ ∧ w (2 * (0 + (j - 0)) + 1) = _
    rw [Nat.zero_add, Nat.sub_zero]
    exact ⟨(hc4 j hj).1, (hc4 j hj).2.1⟩) (fun r hr => ⟨rfl, by
    show _ = _ + nI 0
    rw [show nI 0 = 0 from rfl, Int32.add_zero], rfl⟩)
  refine ⟨s, n - zkc P n, e', q', p', w', zkc P n, es, f1, r1, zLR_9.mpr ⟨zRa_q ha (fun k hk => r3 k (by omega) (by omega)), ?_, ?_, ?_, ?_, ?_, ?_⟩⟩
  · rw [r3 17 (by decide) (by decide)]; exact hb
  · exact zRc_kept hc rfl f2 r2 f3 r5
  · intro k hk
    obtain ⟨d1, d2, d3⟩ := hd k hk
    obtain ⟨g1, g2, g3⟩ := r6 k hk
    show p' (3 * k) = e' 2 k ∧ p' (3 * k + 1) = e' 3 k ∧ p' (3 * k + 2) = e' 4 k
    rw [f4, f5, f6 k hk, g1, g2, g3]
    refine ⟨d1, ?_, d3⟩
    show p (3 * k + 1) + _ = v 10 k + _
    exact congrArg (· + nI (zlp P (v 7) k n)) d2
  · intro k hk
    show q' (9 + k) = upd (v 13) 2 (v 13 2 + nI (n - zkc P n)) k
    by_cases ck : k = 2
    · subst ck
      rw [pk_us, r4, ← he 2 hk]
    · rw [pk_un ck, r3 _ (by omega) (by omega)]; exact he k hk
  · rw [r3 18 (by decide) (by decide)]; exact hf
  · refine ⟨hA, hT, hN, ea, et, en, hby, hen, ?_, ?_, ?_, ?_, ?_, ?_⟩
    · rw [r3 6 (by decide) (by decide)]; exact ga
    · rw [r3 7 (by decide) (by decide)]; exact gt
    · rw [r3 8 (by decide) (by decide)]; exact gn
    · rw [r3 13 (by decide) (by decide)]; exact gh
    · rw [r3 13 (by decide) (by decide), r3 14 (by decide) (by decide)]; exact ge
    · rw [r3 15 (by decide) (by decide)]; exact go
theorem b_decay {A s : Nat} (hA : A ≤ 9999) (hs1 : 1 ≤ s) (hs : s ≤ 50) (q : Nat → Int32) (hq : q 0 = nI s) : ∃ A', A' ≤ A ∧ (0 < A → A' < A) ∧ d_X7_afterSecond (nI A) (nI s) = some (nI A') ∧ d_L_less q (nI A) = some (nI A') := by
  have hm : A * s ≤ 9999 * 50 := Nat.mul_le_mul hA hs
  have hd : A * s / 100 ≤ A := by
    have : A * s ≤ A * 50 := Nat.mul_le_mul (Nat.le_refl A) hs
    omega
  unfold d_X7_afterSecond d_L_less
  rw [Q0, hq, zlet_n, pk_mul]
  by_cases c : A = 0
  · subst c
    refine ⟨0, by omega, by omega, rfl, ?_⟩
    rw [zlet_n, show zdv (nI (0 * s)) 100 = zdv (γ := Int32) (nI (0 * s)) (nI 100) from rfl, zdv_nI (by omega) (by decide) (by decide), Nat.zero_mul]
    rfl
  · rw [if_pos (show 0 < nI A from nI_lt (a := 0) (by omega) (by omega)), zlet_n, show zdv (nI (A * s)) 100 = zdv (γ := Int32) (nI (A * s)) (nI 100) from rfl, zdv_nI (by omega) (by decide) (by decide), zdv_nI (by omega) (by decide) (by decide)]
    by_cases c2 : 1 ≤ A * s / 100
    · refine ⟨A - A * s / 100, by omega, by omega, ?_, ?_⟩
      · rw [zlet_n, if_neg (show ¬ nI (A * s / 100) < 1 from nI_nlt (b := 1) c2 (by omega)), zlet_n, pk_sub hd]
      · rw [if_neg (show ¬ nI (A * s / 100) ≤ 0 from nI_ge (a := 0) (by omega) (by omega)), zlet_n, pk_sub hd]
    · refine ⟨A - 1, by omega, by omega, ?_, ?_⟩
      · rw [zlet_n, if_pos (show nI (A * s / 100) < 1 from nI_lt (b := 1) (by omega) (by decide)), zlet_n, show (1 : Int32) = nI 1 from rfl, pk_sub (by omega)]
      · rw [if_pos (show nI (A * s / 100) ≤ 0 from nI_le (b := 0) (by omega) (by decide)), if_neg (show ¬ nI A ≤ 0 from nI_ge (a := 0) (by omega) (by omega)), zlet_n, show (1 : Int32) = nI 1 from rfl, pk_sub (by omega)]
theorem b_second {m A T N n : Nat} {v : zHV} {q a e nn t p w r c : Nat → Int32} (h : zLR m A T N n v (z9 q a e nn t p w r c)) (hT : T < 99999) : ∃ v' q' p' w' A' n', A' ≤ A ∧ (∀ (K : Int32 → zHV → Option (Int32 × zHV)) (x2 : Int32), (zcl (d_X5_at 6 (v 0) 0) fun t45 => zcl (d_X7_afterSecond (v 15 0) t45) fun t48 => zlet (zs v 15 0 t48) fun v51 => zlet ((v51 15 1) + 1) fun t60 => zlet (zs v51 15 1 t60) fun v61 => zcl (d_X5_at 6 (v61 0) 2) fun t82 => zlet ((v61 15 1) - t82) fun t85 => zup2 (d_X0_lapseSince (zh v61 7) t85) (fun u => (zq v61 7 6 u)) fun t86 v86 => zup (d_X5_add 4 (v86 13) 2 t86) (fun u => (zr v86 13 u)) fun v89 => zlet (x2 + Int32.ofInt 1) fun x2_92 => K x2_92 v89) = K (x2 + Int32.ofInt 1) v') ∧ d_L_second q p w = some (q', p', w') ∧ zLR m A' (T + 1) N n' v' (z9 q' a e nn t p' w' r c) := by
  obtain ⟨ha, hb, hc, hd, he, hf, hg⟩ := zLR_9.mp h
  obtain ⟨q0, s0, l0, u0, e0⟩ := ha 0 (by decide)
  obtain ⟨hA, hT9, hN, ea, et, en, hby, hen, ga, gt, gn, gh, ge, go⟩ := hg
  obtain ⟨A', hA1, hA2, d7, d8⟩ := b_decay (s := s0) hA l0 u0 q (by rw [q0, e0])
  have h2 : zLR m A' (T + 1) N n (zs (zs v 15 0 (nI A')) 15 1 (nI (T + 1))) (z9 (upd (upd q 6 (nI A')) 7 (nI (T + 1))) a e nn t p w r c) := by
    refine zLR_9.mpr ⟨zRa_q ha (fun j hj => by rw [pk_un (by omega), pk_un (by omega)]), hb, ⟨hc.1, hc.2.1, hc.2.2.1, fun k hk => ?_⟩, hd, he_q he (fun j h1 h2 => by rw [pk_un (by omega), pk_un (by omega)]), hf, ⟨by omega, by omega, hN, rfl, rfl, en, hby, hen, rfl, rfl, gn, gh, fun z => ?_, go⟩⟩
    · obtain ⟨c1, c2, c3, t, ht, c4⟩ := hc.2.2.2 k hk
      exact ⟨c1, c2, c3, t, by omega, c4⟩
    · obtain ⟨z1, z2, D, hD, eD⟩ := ge z
      exact ⟨z1, z2, D, by omega, eD⟩
  obtain ⟨s2, u, e', q', p', w', n', e2, r1, r2, r3⟩ := b_lapse h2
  refine ⟨_, q', p', w', A', n', hA1, fun K x2 => ?_, ?_, r3⟩
  · rw [R0_at _ _ (by decide) (by decide), zcl_e, e0, ea, d7, zcl_e]
    simp only [zlet_n]
    rw [show zs v 15 0 (nI A') 15 1 = nI T from et, nI_1, R2_at _ _ (by decide) (by decide), zcl_e, e2, show zs (zs v 15 0 (nI A')) 15 1 (nI (T + 1)) 15 1 = nI (T + 1) from rfl, r1, zup2_e, R2_add _ _ _ (by decide) (by decide), zup_e]
    rfl
  · unfold d_L_second
    rw [Q6, ga, d8, zcl_e, V6, Q7, show upd q 6 (nI A') 7 = nI T from gt, zlet_n, nI_1, V7, r2]
abbrev zTA : Type := (Nat → Int32) → (Nat → Int32) → (Nat → Int32) → (Nat → Int32) → (Nat → Int32) → (Nat → Int32) → (Nat → Int32) → (Nat → Int32) → (Nat → Int32) → zHV → zHI → Option Int32
theorem q_passes (p0 : Nat) (hp : p0 ≤ 99) (a e nn t r c : Nat → Int32) : ∀ d i f m A T N n v q p w, p0 - i = d → i ≤ p0 → d < f → T + d ≤ 99999 → zLR m A T N n v (z9 q a e nn t p w r c) → ∃ x v' q' p' w' A' n', lp_X2_letPass_30 (nI p0) f (nI i) v = some (nI x, v') ∧ x ≤ 9999 ∧ q' 6 = nI x ∧
    (∀ (E : zE) (w9 : zHV) (q9 : zHI) (k118 : Int32 → zTA) (j686 : Int32 → Int32 → Int32 → Int32 → Int32 → Int32 → Int64 → Int32 → Int32 → zTA) (x11 x12 x13 x14 x16 : Int32) (x17 : Int64) (x19 x20 : Int32) (vv : zHV) (u : zHI) (f' : Nat), d < f' → lp_L_law_595 E w9 q9 k118 j686 f' x11 x12 x13 x14 (nI p0) x16 x17 x19 x20 (nI i) q a e nn t p w r c vv u = j686 x11 x12 x13 x14 (nI p0) x16 x17 x19 (nI x) q' a e nn t p' w' r c vv u) ∧
    zLR m A' (T + d) N n' v' (z9 q' a e nn t p' w' r c) := by
  intro d
  induction d with
  | zero =>
    intro i f m A T N n v q p w h1 h2 h3 h5 h
    obtain ⟨f, rfl⟩ := fu h3
    obtain rfl : i = p0 := by omega
    obtain ⟨hA, hT, hN, ea, et, en, hby, hen, ga, hg⟩ := (zLR_9.mp h).2.2.2.2.2.2
    refine ⟨A, v, q, p, w, A, n, ?_, hA, ga, fun E w9 q9 k118 j686 x11 x12 x13 x14 x16 x17 x19 x20 vv u f' hf' => ?_, h⟩
    · show lpB_X2_letPass_30 (nI i) (lp_X2_letPass_30 (nI i) f) (nI i) v = _
      unfold lpB_X2_letPass_30
      rw [if_pos (nI_le (Nat.le_refl _) (by omega)), ea]
    · obtain ⟨f', rfl⟩ := fu hf'
      show lpB_L_law_595 E w9 q9 k118 j686 (lp_L_law_595 E w9 q9 k118 j686 f') x11 x12 x13 x14 (nI i) x16 x17 x19 x20 (nI i) q a e nn t p w r c vv u = _
      unfold lpB_L_law_595
      rw [if_pos (nI_le (Nat.le_refl _) (by omega)), Q6, ga]
  | succ d ih =>
    intro i f m A T N n v q p w h1 h2 h3 h5 h
    obtain ⟨f, rfl⟩ := fu (by omega : 0 < f)
    obtain ⟨v1, q1, p1, w1, A1, n1, hA1, k1, k2, k3⟩ := b_second h (by omega)
    obtain ⟨x, v', q', p', w', A', n', g1, g2, g3, g4, g5⟩ := ih (i + 1) f m A1 (T + 1) N n1 v1 q1 p1 w1 (by omega) (by omega) (by omega) (by omega) k3
    refine ⟨x, v', q', p', w', A', n', ?_, g2, g3, fun E w9 q9 k118 j686 x11 x12 x13 x14 x16 x17 x19 x20 vv u f' hf' => ?_, ?_⟩
    · rw [← g1]
      show lpB_X2_letPass_30 (nI p0) (lp_X2_letPass_30 (nI p0) f) (nI i) v = _
      unfold lpB_X2_letPass_30
      rw [if_neg (nI_ge (by omega) (by omega)), k1, nI_p1]
    · obtain ⟨f', rfl⟩ := fu (by omega : 0 < f')
      rw [← g4 E w9 q9 k118 j686 x11 x12 x13 x14 x16 x17 x19 x20 vv u f' (by omega)]
      show lpB_L_law_595 E w9 q9 k118 j686 (lp_L_law_595 E w9 q9 k118 j686 f') x11 x12 x13 x14 (nI p0) x16 x17 x19 x20 (nI i) q a e nn t p w r c vv u = _
      unfold lpB_L_law_595
      rw [if_neg (nI_ge (by omega) (by omega)), k2, zup_e, zlet_n, nI_p1]
    · rw [show T + (d + 1) = T + 1 + d by omega]; exact g5
theorem o_pass {m A T N n : Nat} {v : zHV} {q a e nn t p w r c : Nat → Int32} (h : zLR m A T N n v (z9 q a e nn t p w r c)) {k : Nat} (hk1 : 1 ≤ k) (hk : k ≤ 99) (hT : T + 99 ≤ 99999) : ∃ x v' q' p' w', d_X2_letPass v (nI k) = some (x, v') ∧
    (∀ (E : zE) (w9 : zHV) (q9 : zHI) (k118 : Int32 → zTA) (j686 : Int32 → Int32 → Int32 → Int32 → Int32 → Int32 → Int64 → Int32 → Int32 → zTA) (x11 x12 x13 x14 x16 : Int32) (x17 : Int64) (x19 : Int32) (vv : zHV) (u : zHI), lp_L_law_595 E w9 q9 k118 j686 zF x11 x12 x13 x14 (nI k) x16 x17 x19 0 0 q a e nn t p w r c vv u = j686 x11 x12 x13 x14 (nI k) x16 x17 x19 x q' a e nn t p' w' r c vv u) ∧
    zOut m T N x v' (z9 q a e nn t p w r c) (z9 q' a e nn t p' w' r c) := by
  obtain ⟨hA, hT9, hN, ea, et, hg⟩ := (zLR_9.mp h).2.2.2.2.2.2
  obtain ⟨x, v', q', p', w', A', n', g1, g2, g3, g4, g5⟩ := q_passes k hk a e nn t r c k 0 zF m A T N n v q p w rfl (Nat.zero_le k) (by unfold zF; omega) (by omega) h
  refine ⟨nI x, v', q', p', w', ?_, fun E w9 q9 k118 j686 x11 x12 x13 x14 x16 x17 x19 vv u => g4 E w9 q9 k118 j686 x11 x12 x13 x14 x16 x17 x19 0 vv u zF (by unfold zF; omega), zOut_of A' (T + k) N n' (show m ≤ m + 2 by omega) g5 (nI_pos (by omega)) (by omega) (by omega)⟩
  unfold d_X2_letPass
  rw [if_neg (show ¬ nI k < 1 from nI_nlt (b := 1) hk1 (by omega)), if_pos (show nI k ≤ 99 from nI_le (b := 99) hk (by decide)), zlet_n, et, show (99999 : Int32) = nI 99999 from rfl, pk_sub (by omega), if_pos (nI_le (by omega) (by omega))]
  exact g1
