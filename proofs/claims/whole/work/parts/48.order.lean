theorem b_order {a L : Nat} {cd : Nat → Int32} {w μ w0 μ0 : zHV} (h : zRR a L cd w μ w0 μ0) : ∃ w' μ', zRR (zO cd a).1 L cd w' μ' w0 μ0 ∧ (((zO cd a).2 = true ∧ d_X3_readOrder w = some (1, w') ∧ d_X8_readsOrder μ = some (1, μ') ∧ w' 2 1 = cd a ∧ μ' 6 3 = cd a ∧ (¬ cd a = 107 → ¬ cd a = 110 → w' 2 2 = μ' 6 4) ∧ a < (zO cd a).1 ∧ ∃ t, t ≤ 99 ∧ w' 2 3 = nI t ∧ μ' 6 5 = nI t) ∨ ((zO cd a).2 = false ∧ d_X3_readOrder w = some (0, w') ∧ d_X8_readsOrder μ = some (0, μ'))) := by
  obtain ⟨c1, c2⟩ := b_code h
  have hL : L ≤ 80 := h.1
  have e6 : w 2 0 = nI a := h.2.2.2.2.2.1
  have e7 : μ 6 2 = nI a := h.2.2.2.2.2.2.1
  have h1 : zRR a L cd (zs (zs w 2 1 (cd a)) 2 3 1) (zs (zs μ 6 3 (cd a)) 6 5 1) w0 μ0 := rr_set h h.2.2.2.2.2.2.2.1 e6 e7 (fun i hi => by funext b; rw [zs_at, if_neg hi, zs_at, if_neg hi]) (fun i hi => by funext b; rw [zs_at, if_neg hi, zs_at, if_neg hi]) rfl rfl
  have h2 : a < L → zRR (a + 1) L cd (zs (zs (zs w 2 1 (cd a)) 2 3 1) 2 0 (nI (a + 1))) (zs (zs (zs μ 6 3 (cd a)) 6 5 1) 6 2 (nI (a + 1))) w0 μ0 := fun haL => rr_set h1 haL rfl rfl (fun i hi => by funext b; rw [zs_at, if_neg hi]) (fun i hi => by funext b; rw [zs_at, if_neg hi]) rfl rfl
  have h10 : ¬ (1 : Int32) = 0 := by decide
  have hn1 : ∀ b, b ≤ (zn1 cd b).1 := fun b => by unfold zn1; split <;> simp
  have hn2 : ∀ b, b ≤ (zn2 cd b).1 := fun b => by unfold zn2; split <;> (try split) <;> (try split) <;> simp
  unfold d_X3_readOrder d_X8_readsOrder
  rw [c1, c2, zcl_e, zcl_e]
  simp only [zlet_n]
  rw [ch7, ch7, show zs (zs w 2 1 (cd a)) 2 3 1 2 1 = cd a from rfl, show zs (zs μ 6 3 (cd a)) 6 5 1 6 3 = cd a from rfl, show zs (zs w 2 1 (cd a)) 2 3 1 2 0 = nI a from e6, show zs (zs μ 6 3 (cd a)) 6 5 1 6 2 = nI a from e7, nI_1]
  unfold zO
  by_cases q99 : cd a = 99
  · have haL := cd_lt h (b := a) (by rw [q99]; decide)
    simp only [if_pos q99]
    obtain ⟨w1, μ1, r1, ⟨kp1, kp2, kp3, kp4, kp5⟩, r2⟩ := b_n2 (h2 haL)
    have hb1 := hn2 (a + 1)
    unfold d_X8_readsClaps
    rcases r2 with ⟨n2, x, x9, s1, s2, s3⟩ | ⟨n2, s1, s3⟩
    · rw [s1, s3, zup2_e, zup2_e, if_neg h10, if_pos n2, zlet_n, zjn_e]
      have r1' : zRR (zn2 cd (a + 1)).1 L cd w1 (zs μ1 6 4 (nI x)) w0 μ0 := rr_set r1 r1.2.2.2.2.2.2.2.1 r1.2.2.2.2.2.1 r1.2.2.2.2.2.2.1 (fun _ _ => rfl) (fun i hi => by funext b; rw [zs_at, if_neg hi]) rfl rfl
      rw [if_neg (show ¬ zs μ1 6 4 (nI x) 6 4 = -6 from nI_m6 (by omega))]
      unfold d_X3_readTimes
      rcases b_sgn 42 (by decide) r1' with ⟨m1, w2, μ2, t1, ⟨u1, u2, u3, u4, u5⟩, u6, t3, t4⟩ | ⟨m1, t3, μ2, t1, ⟨u1, u2, u3, u4, u5⟩, t4⟩
      · rw [t3, t4, zup2_e, zup2_e, if_neg h10, if_neg h10, if_pos m1]
        obtain ⟨w3, μ3, v1, ⟨y1, y2, y3, y4, y5⟩, v2⟩ := b_n2 t1
        have hb2 := hn2 ((zn2 cd (a + 1)).1 + 1)
        rcases v2 with ⟨o2, x', x9', z1, z2, z3⟩ | ⟨o2, z1, z3⟩
        · rw [z1, z3, zup2_e, zup2_e]
          simp only [zlet_n, zgb_1, zup2_e]
          have g4 : zs μ3 6 5 (nI x') 6 4 = nI x := by show μ3 6 4 = nI x; rw [y4, u4]; rfl
          rw [if_neg h10, g4, if_neg (nI_m6 (by omega)), if_neg (show ¬ zs μ3 6 5 (nI x') 6 5 = -6 from nI_m6 (by omega)), zup2_e, zgb_1]
          refine ⟨zs (zs w3 2 3 (w3 2 2)) 2 2 (w2 2 2), zs μ3 6 5 (nI x'), rr_set v1 v1.2.2.2.2.2.2.2.1 v1.2.2.2.2.2.1 v1.2.2.2.2.2.2.1 (fun i hi => by funext b; rw [zs_at, if_neg hi, zs_at, if_neg hi]) (fun i hi => by funext b; rw [zs_at, if_neg hi]) rfl rfl, Or.inl ⟨o2, rfl, rfl, ?_, ?_, fun _ _ => ?_, by omega, x', x9', z2, rfl⟩⟩
          · show w3 2 1 = cd a; rw [y1, u1, kp1]; rfl
          · show μ3 6 3 = cd a; rw [y3, u3]; show μ1 6 3 = _; rw [kp3]; rfl
          · rw [g4]; show w2 2 2 = _; rw [u6]; exact s2
        · rw [z1, z3, zup2_e, zup2_e]
          simp only [zlet_n, zgb_0, zup2_e]
          have g4 : zs μ3 6 5 (-6) 6 4 = nI x := by show μ3 6 4 = nI x; rw [y4, u4]; rfl
          rw [if_pos trivial, g4, if_neg (nI_m6 (by omega)), if_pos (show zs μ3 6 5 (-6) 6 5 = -6 from rfl), zup2_e, zgb_0]
          exact ⟨zs (zs w3 2 3 (w3 2 2)) 2 2 (w2 2 2), zs μ3 6 5 (-6), rr_set v1 v1.2.2.2.2.2.2.2.1 v1.2.2.2.2.2.1 v1.2.2.2.2.2.2.1 (fun i hi => by funext b; rw [zs_at, if_neg hi, zs_at, if_neg hi]) (fun i hi => by funext b; rw [zs_at, if_neg hi]) rfl rfl, Or.inr ⟨o2, rfl, rfl⟩⟩
      · rw [t3, t4, zup2_e, zup2_e, if_pos rfl, if_pos rfl, if_neg m1, zup2_e, if_neg h10]
        have g4 : μ2 6 4 = nI x := by rw [u4]; rfl
        have g5 : μ2 6 5 = 1 := by rw [u5]; show μ1 6 5 = 1; rw [kp5]; rfl
        dsimp only
        rw [g4, g5, if_neg (nI_m6 (by omega)), if_neg (show ¬ (1 : Int32) = -6 from by decide), zup2_e, zgb_1]
        refine ⟨_, _, t1, Or.inl ⟨rfl, rfl, rfl, ?_, ?_, fun _ _ => ?_, by show a < (zn2 cd (a + 1)).1; omega, 1, by decide, ?_, g5⟩⟩
        · rw [kp1]; rfl
        · rw [u3]; show μ1 6 3 = _; rw [kp3]; rfl
        · rw [g4]; exact s2
        · rw [kp2]; rfl
    · rw [s1, s3, zup2_e, zup2_e, if_pos rfl, if_neg (by rw [n2]; decide), zlet_n, zjn_e, if_pos (show zs μ1 6 4 (-6) 6 4 = -6 from rfl)]
      dsimp only
      rw [if_pos (show zs μ1 6 4 (-6) 6 4 = -6 from rfl), zup2_e, zgb_0]
      exact ⟨w1, zs μ1 6 4 (-6), rr_set r1 r1.2.2.2.2.2.2.2.1 r1.2.2.2.2.2.1 r1.2.2.2.2.2.2.1 (fun _ _ => rfl) (fun i hi => by funext b; rw [zs_at, if_neg hi]) rfl rfl, Or.inr ⟨rfl, rfl, rfl⟩⟩
  simp only [if_neg q99]
  have numA : a < L → ∀ (_ : True), ∃ w' μ', zRR (zn1 cd (a + 1)).1 L cd w' μ' w0 μ0 ∧ (((zn1 cd (a + 1)).2 = true ∧ (zup2 (d_X3_readNumber (zs (zs (zs w 2 1 (cd a)) 2 3 1) 2 0 (nI (a + 1))) 1) (fun u => u) fun t148 v148 => zgb t148 (some (t148, v148))) = some (1, w') ∧ (zup2 (d_X8_takeDigit (zs (zs (zs μ 6 3 (cd a)) 6 5 1) 6 2 (nI (a + 1)))) (fun u => u) fun t128 v128 => if zs v128 6 4 t128 6 4 = -6 then some ((0 : Int32), zs v128 6 4 t128) else some ((1 : Int32), zs v128 6 4 t128)) = some (1, μ') ∧ w' 2 1 = cd a ∧ μ' 6 3 = cd a ∧ (¬ cd a = 107 → ¬ cd a = 110 → w' 2 2 = μ' 6 4) ∧ a < (zn1 cd (a + 1)).1 ∧ ∃ t, t ≤ 99 ∧ w' 2 3 = nI t ∧ μ' 6 5 = nI t) ∨ ((zn1 cd (a + 1)).2 = false ∧ (zup2 (d_X3_readNumber (zs (zs (zs w 2 1 (cd a)) 2 3 1) 2 0 (nI (a + 1))) 1) (fun u => u) fun t148 v148 => zgb t148 (some (t148, v148))) = some (0, w') ∧ (zup2 (d_X8_takeDigit (zs (zs (zs μ 6 3 (cd a)) 6 5 1) 6 2 (nI (a + 1)))) (fun u => u) fun t128 v128 => if zs v128 6 4 t128 6 4 = -6 then some ((0 : Int32), zs v128 6 4 t128) else some ((1 : Int32), zs v128 6 4 t128)) = some (0, μ'))) := by
    intro haL _
    obtain ⟨w1, μ1, r1, ⟨kp1, kp2, kp3, kp4, kp5⟩, r2⟩ := b_n1 (h2 haL)
    have hb1 := hn1 (a + 1)
    rcases r2 with ⟨n2, x, x9, s1, s2, s3⟩ | ⟨n2, s1, s3⟩
    · rw [s1, s3, zup2_e, zup2_e, zgb_1, if_neg (show ¬ zs μ1 6 4 (nI x) 6 4 = -6 from nI_m6 (by omega))]
      refine ⟨w1, zs μ1 6 4 (nI x), rr_set r1 r1.2.2.2.2.2.2.2.1 r1.2.2.2.2.2.1 r1.2.2.2.2.2.2.1 (fun _ _ => rfl) (fun i hi => by funext b; rw [zs_at, if_neg hi]) rfl rfl, Or.inl ⟨n2, rfl, rfl, ?_, ?_, fun _ _ => s2, by omega, 1, by decide, ?_, ?_⟩⟩
      · rw [kp1]; rfl
      · show μ1 6 3 = _; rw [kp3]; rfl
      · rw [kp2]; rfl
      · show μ1 6 5 = _; rw [kp5]; rfl
    · rw [s1, s3, zup2_e, zup2_e, zgb_0, if_pos (show zs μ1 6 4 (-6) 6 4 = -6 from rfl)]
      exact ⟨w1, zs μ1 6 4 (-6), rr_set r1 r1.2.2.2.2.2.2.2.1 r1.2.2.2.2.2.1 r1.2.2.2.2.2.2.1 (fun _ _ => rfl) (fun i hi => by funext b; rw [zs_at, if_neg hi]) rfl rfl, Or.inr ⟨n2, rfl, rfl⟩⟩
  have numB : a < L → ∀ (_ : True), ∃ w' μ', zRR (zn2 cd (a + 1)).1 L cd w' μ' w0 μ0 ∧ (((zn2 cd (a + 1)).2 = true ∧ (zup2 (d_X3_readNumber (zs (zs (zs w 2 1 (cd a)) 2 3 1) 2 0 (nI (a + 1))) 2) (fun u => u) fun t148 v148 => zgb t148 (some (t148, v148))) = some (1, w') ∧ (zup2 (d_X8_readNumber (zs (zs (zs μ 6 3 (cd a)) 6 5 1) 6 2 (nI (a + 1)))) (fun u => u) fun t128 v128 => if zs v128 6 4 t128 6 4 = -6 then some ((0 : Int32), zs v128 6 4 t128) else some ((1 : Int32), zs v128 6 4 t128)) = some (1, μ') ∧ w' 2 1 = cd a ∧ μ' 6 3 = cd a ∧ (¬ cd a = 107 → ¬ cd a = 110 → w' 2 2 = μ' 6 4) ∧ a < (zn2 cd (a + 1)).1 ∧ ∃ t, t ≤ 99 ∧ w' 2 3 = nI t ∧ μ' 6 5 = nI t) ∨ ((zn2 cd (a + 1)).2 = false ∧ (zup2 (d_X3_readNumber (zs (zs (zs w 2 1 (cd a)) 2 3 1) 2 0 (nI (a + 1))) 2) (fun u => u) fun t148 v148 => zgb t148 (some (t148, v148))) = some (0, w') ∧ (zup2 (d_X8_readNumber (zs (zs (zs μ 6 3 (cd a)) 6 5 1) 6 2 (nI (a + 1)))) (fun u => u) fun t128 v128 => if zs v128 6 4 t128 6 4 = -6 then some ((0 : Int32), zs v128 6 4 t128) else some ((1 : Int32), zs v128 6 4 t128)) = some (0, μ'))) := by
    intro haL _
    obtain ⟨w1, μ1, r1, ⟨kp1, kp2, kp3, kp4, kp5⟩, r2⟩ := b_n2 (h2 haL)
    have hb1 := hn2 (a + 1)
    rcases r2 with ⟨n2, x, x9, s1, s2, s3⟩ | ⟨n2, s1, s3⟩
    · rw [s1, s3, zup2_e, zup2_e, zgb_1, if_neg (show ¬ zs μ1 6 4 (nI x) 6 4 = -6 from nI_m6 (by omega))]
      refine ⟨w1, zs μ1 6 4 (nI x), rr_set r1 r1.2.2.2.2.2.2.2.1 r1.2.2.2.2.2.1 r1.2.2.2.2.2.2.1 (fun _ _ => rfl) (fun i hi => by funext b; rw [zs_at, if_neg hi]) rfl rfl, Or.inl ⟨n2, rfl, rfl, ?_, ?_, fun _ _ => s2, by omega, 1, by decide, ?_, ?_⟩⟩
      · rw [kp1]; rfl
      · show μ1 6 3 = _; rw [kp3]; rfl
      · rw [kp2]; rfl
      · show μ1 6 5 = _; rw [kp5]; rfl
    · rw [s1, s3, zup2_e, zup2_e, zgb_0, if_pos (show zs μ1 6 4 (-6) 6 4 = -6 from rfl)]
      exact ⟨w1, zs μ1 6 4 (-6), rr_set r1 r1.2.2.2.2.2.2.2.1 r1.2.2.2.2.2.1 r1.2.2.2.2.2.2.1 (fun _ _ => rfl) (fun i hi => by funext b; rw [zs_at, if_neg hi]) rfl rfl, Or.inr ⟨n2, rfl, rfl⟩⟩
  by_cases q101 : cd a = 101
  · simp only [if_pos q101]
    exact numA (cd_lt h (b := a) (by rw [q101]; decide)) trivial
  simp only [if_neg q101]
  by_cases q104 : cd a = 104
  · simp only [if_pos q104]
    exact numB (cd_lt h (b := a) (by rw [q104]; decide)) trivial
  simp only [if_neg q104]
  by_cases q107 : cd a = 107
  · simp only [if_pos q107]
    exact ⟨_, _, h2 (cd_lt h (b := a) (by rw [q107]; decide)), Or.inl ⟨trivial, rfl, rfl, rfl, rfl, fun q => absurd q107 q, by omega, 1, by decide, rfl, rfl⟩⟩
  simp only [if_neg q107]
  by_cases q110 : cd a = 110
  · simp only [if_pos q110]
    exact ⟨_, _, h2 (cd_lt h (b := a) (by rw [q110]; decide)), Or.inl ⟨trivial, rfl, rfl, rfl, rfl, fun _ q => absurd q110 q, by omega, 1, by decide, rfl, rfl⟩⟩
  simp only [if_neg q110]
  by_cases q112 : cd a = 112
  · simp only [if_pos q112]
    exact numA (cd_lt h (b := a) (by rw [q112]; decide)) trivial
  simp only [if_neg q112]
  by_cases q119 : cd a = 119
  · simp only [if_pos q119]
    exact numB (cd_lt h (b := a) (by rw [q119]; decide)) trivial
  simp only [if_neg q119]
  exact ⟨_, _, h1, Or.inr ⟨trivial, rfl, rfl⟩⟩
