/-! ===== steps of the law: the recorded calls, undo, save, restore ===== -/
theorem w_get {x : Int32} {a b : Nat} (ha : a < 2147483648) (hb : b < 2147483648) (h1 : ¬ x < nI a) (h2 : ¬ nI b < x) : ∃ y, a ≤ y ∧ y ≤ b ∧ x = nI y := by
  have h0 : ¬ x < 0 := fun q => h1 (nI_lt_of_neg q ha)
  obtain ⟨y, hy, rfl⟩ := nI_of h0
  exact ⟨y, Nat.le_of_not_lt (fun q => h1 (nI_lt q ha)), Nat.le_of_not_lt (fun q => h2 (nI_lt q hy)), rfl⟩
theorem zup2_zld {α β γ δ : Type} (n : Nat) (f : Nat → Int32) (i : Int32) (K : Int32 → Option (α × β)) (g : β → γ) (K' : α → γ → Option δ) : zup2 (zld n f i K) g K' = zld n f i fun t => zup2 (K t) g K' := by
  unfold zld
  split <;> rfl
theorem zup2_zsv {α β γ δ : Type} (n : Nat) (v : zHV) (k : Nat) (i x : Int32) (K : zHV → Option (α × β)) (g : β → γ) (K' : α → γ → Option δ) : zup2 (zsv n v k i x K) g K' = zsv n v k i x fun t => zup2 (K t) g K' := by
  unfold zsv
  split <;> rfl
theorem zup2_zcl {α β γ δ ε : Type} (d : Option ε) (K : ε → Option (α × β)) (g : β → γ) (K' : α → γ → Option δ) : zup2 (zcl d K) g K' = zcl d fun t => zup2 (K t) g K' := by
  cases d <;> rfl
theorem zup2_zup {α β γ δ ε ζ : Type} (d : Option ε) (h : ε → ζ) (K : ζ → Option (α × β)) (g : β → γ) (K' : α → γ → Option δ) : zup2 (zup d h K) g K' = zup d h fun t => zup2 (K t) g K' := by
  cases d <;> rfl
/-- an error of a recorded call, where the reference puts nothing aside -/
theorem b_bad {j : Nat} {v w : zHV} {u q : zHI} {μ : zHV} {r : Int32} (hr : r < 0) (h : zSim j v w u q μ) : ∃ u1 : zHI,
    (zup (d_X1_setAside v u) (fun z9 => z9) fun u8 => zup2 (some (r, v)) (fun z9 => z9) fun t21 v21 => zup2 (d_X1_keepUnlessError u8 t21) (fun z9 => z9) fun t24 u24 => some (t24, v21, u24)) = some (r, v, u1) ∧ zSim (j + 1) v w u1 q μ := by
  have h' := h
  obtain ⟨h1, h2, ⟨K, x, hK, hx, k1, k2, k3, k4⟩, h4⟩ := h
  obtain ⟨hh, a1, a2⟩ := b_aside h1 k3 hx
  rw [a1, zup_e, zup2_e]
  unfold d_X1_keepUnlessError
  rw [if_pos hr, zup2_e]
  refine ⟨_, rfl, zS1_up (by omega) h1, h2, ⟨K, x, hK, hx, ?_, k2, ?_, fun i hi => ?_⟩, zS4_up (by omega) h4⟩
  · unfold zui; rw [if_neg (by omega)]; exact k1
  · unfold zui; rw [if_neg (by omega)]; exact k3
  · unfold zui
    rw [if_neg (by omega)]
    exact zS1_up (by omega) (k4 i hi)
theorem set_tab : ∀ k : Nat, k < 6 → zLEAST k = nI (zSlo k) ∧ zMOST k = nI (zShi k) ∧ d_X8_leastOf (nI k) = some (nI (zSlo k)) ∧ d_X8_mostOf (nI k) = some (nI (zShi k)) ∧ zSlo k < 1000 ∧ zShi k < 1000 := by decide +kernel
theorem o_set {k y : Nat} (hk : k < 6) (h1 : zSlo k ≤ y) (h2 : y ≤ zShi k) : zOp (fun v => zcl (d_X5_at 6 (v 0) (nI k)) fun t49 => zup (d_X5_store 6 (v 0) (nI k) (nI y)) (fun u => (zr v 0 u)) fun v59 => some (t49, v59)) (fun μ => zld 288 (μ 0) (nI k) fun t36 => zsv 288 μ 0 (nI k) (nI y) fun v44 => some (t36, v44)) := by
  intro m A T N n v g μ hm h
  obtain ⟨ha, hb, hc, hd, he, hf, hg⟩ := zRel_up (show m ≤ m + 2 by omega) h
  show ∃ (r : Int32) (v' g' : zHV) (A' T' N' n' : Nat), (zcl (d_X5_at 6 (v 0) (nI k)) fun t49 => zup (d_X5_store 6 (v 0) (nI k) (nI y)) (fun u => (zr v 0 u)) fun v59 => some (t49, v59)) = some (r, v') ∧ (zld 288 (zM5 μ g 0) (nI k) fun t36 => zsv 288 (zM5 μ g) 0 (nI k) (nI y) fun v44 => some (t36, v44)) = some (r, zM5 μ g') ∧ zRel (m + 2) A' T' N' n' v' g'
  rw [r_at 6 _ k hk (by decide), zcl_e, r_store 6 _ k _ hk (by decide), zup_e, l14 μ g k _ hk, s14 μ g k _ _ hk, (ha k hk).1]
  refine ⟨_, _, _, A, T, N, n, rfl, rfl, ?_, hb, hc, hd, he, hf, hg⟩
  show zRa (upd (v 0) k (nI y)) (zs g 14 k (nI y) 14)
  rw [up_zs]
  intro i hi
  by_cases c : i = k
  · subst c
    rw [pk_us, pk_us]
    exact ⟨rfl, y, h1, h2, rfl⟩
  · rw [pk_un c, pk_un c]
    exact ha i hi
theorem stp_set : zSt_set zSim := by
  intro j v w u q μ p0 p1 hj h
  unfold d_X7_set d_X8_set
  have hbad : d_X2_changeSetting v p0 p1 = some (-2, v) → ∃ (u1 : zHI), (zup (d_X1_setAside v u) (fun z9 => z9) fun u8 => zup2 (d_X2_changeSetting v p0 p1) (fun z9 => z9) fun t21 v21 => zup2 (d_X1_keepUnlessError u8 t21) (fun z9 => z9) fun t24 u24 => some (t24, v21, u24)) = some (-2, v, u1) ∧ zSim (j + 1) v w u1 q μ := fun e => by
    rw [e]; exact b_bad (by decide) h
  rcases w_case p0 0 5 (by decide) with ⟨e, hc⟩ | ⟨e, hc1, hc2⟩
  · obtain ⟨u1, x1, x2⟩ := hbad (by
      unfold d_X2_changeSetting
      rcases hc with hc | ⟨hc, hc2⟩
      · rw [if_pos (show p0 < 0 from hc)]
      · rw [if_neg (show ¬ p0 < 0 from hc), if_pos (show nI 6 ≤ p0 from by
          have := Int32.lt_iff_toInt_lt.mp hc2
          rw [nI_toInt (by decide)] at this
          exact Int32.le_iff_toInt_le.mpr (by rw [nI_toInt (by decide)]; omega))])
    exact ⟨_, _, _, μ, x1, by rw [show d_X8_within p0 0 5 = some 0 from e, zcl_e, if_pos rfl], x2⟩
  · obtain ⟨k, -, hk, rfl⟩ := w_get (by decide) (by decide) hc1 hc2
    obtain ⟨s1, s2, s3, s4, s5, s6⟩ := set_tab k (by omega)
    have hcs : d_X2_changeSetting v (nI k) p1 = if p1 < nI (zSlo k) then some (-2, v) else if p1 ≤ nI (zShi k) then (zcl (d_X5_at 6 (v 0) (nI k)) fun t49 => zup (d_X5_store 6 (v 0) (nI k) p1) (fun u => (zr v 0 u)) fun v59 => some (t49, v59)) else some (-2, v) := by
      unfold d_X2_changeSetting
      rw [if_neg (nI_pos (by omega)), if_neg (nI_ge (by omega) (by decide)), if_pos (nI_lt (by omega) (by decide)), zld_nI (by omega) (by decide), s1, zld_nI (by omega) (by decide), s2]
    rw [show d_X8_within (nI k) 0 5 = some 1 from e, zcl_e, if_neg (by decide), s3, zcl_e, s4, zcl_e]
    rcases w_case p1 (zSlo k) (zShi k) (by omega) with ⟨e2, hd⟩ | ⟨e2, hd1, hd2⟩
    · obtain ⟨u1, x1, x2⟩ := hbad (by
        rw [hcs]
        rcases hd with hd | ⟨hd, hd2⟩
        · rw [if_pos hd]
        · rw [if_neg hd, if_neg (fun q => absurd hd2 (Int32.not_lt.mpr q))])
      exact ⟨_, _, _, μ, x1, by rw [e2, zcl_e, if_pos rfl], x2⟩
    · obtain ⟨y, hy1, hy2, rfl⟩ := w_get (by omega) (by omega) hd1 hd2
      rw [if_neg hd1, if_pos (Int32.not_lt.mp hd2)] at hcs
      obtain ⟨r, v1, u1, μ1, x1, x2, x3⟩ := b_rec hj (o_set (by omega) hy1 hy2) h
      rw [e2, zcl_e, if_neg (by decide), hcs]
      refine ⟨r, v1, u1, μ1, x1, ?_, x3⟩
      refine Eq.trans ?_ x2
      simp only [zup2_zld, zup2_zsv, zup2_e]
theorem o_loud {k y : Nat} (hk : k < 30) (h1 : 1 ≤ y) (h2 : y ≤ 9) : zOp (fun v => zcl (d_X5_at 30 (v 1) (nI k)) fun t31 => zup (d_X5_store 30 (v 1) (nI k) (nI y)) (fun u => (zr v 1 u)) fun v44 => some (t31, v44)) (fun μ => zcl (d_X8_seat μ (nI k) 0) fun t29 => zup (d_X8_setSeat μ (nI k) 0 (nI y)) (fun u => u) fun v37 => some (t29, v37)) := by
  intro m A T N n v g μ hm h
  obtain ⟨ha, hb, hc, hd, he, hf, hg⟩ := zRel_up (show m ≤ m + 2 by omega) h
  show ∃ (r : Int32) (v' g' : zHV) (A' T' N' n' : Nat), (zcl (d_X5_at 30 (v 1) (nI k)) fun t31 => zup (d_X5_store 30 (v 1) (nI k) (nI y)) (fun u => (zr v 1 u)) fun v44 => some (t31, v44)) = some (r, v') ∧ (zcl (d_X8_seat (zM5 μ g) (nI k) 0) fun t29 => zup (d_X8_setSeat (zM5 μ g) (nI k) 0 (nI y)) (fun u => u) fun v37 => some (t29, v37)) = some (r, zM5 μ g') ∧ zRel (m + 2) A' T' N' n' v' g'
  rw [r_at 30 _ k hk (by decide), zcl_e, r_store 30 _ k _ hk (by decide), zup_e, G0 μ g k hk, zcl_e, T0 μ g k _ hk, zup_e, (hb.1 k hk).1]
  refine ⟨_, _, _, A, T, N, n, rfl, rfl, ha, ⟨fun i hi => ?_, hb.2⟩, hc, hd, he, hf, hg⟩
  show zs g 1 k (nI y) 1 i = upd (v 1) k (nI y) i ∧ g 2 i = zbt (v 6 1) i ∧ g 3 i = v 2 i ∧ g 4 i = v 3 i ∧ g 5 i = zbt (v 6 2) i ∧ g 6 i = v 4 i ∧ (∃ x, 1 ≤ x ∧ x ≤ 9 ∧ upd (v 1) k (nI y) i = nI x) ∧ ∃ x, x ≤ m + 2 ∧ v 3 i = nI x
  obtain ⟨q1, q2, q3, q4, q5, q6, q7, q8⟩ := hb.1 i hi
  rw [up_zs]
  refine ⟨?_, q2, q3, q4, q5, q6, ?_, q8⟩
  · by_cases c : i = k
    · subst c; rw [pk_us, pk_us]
    · rw [pk_un c, pk_un c]; exact q1
  · by_cases c : i = k
    · subst c; rw [pk_us]; exact ⟨y, h1, h2, rfl⟩
    · rw [pk_un c]; exact q7
theorem stp_loud : zSt_loud zSim := by
  intro j v w u q μ p0 p1 hj h
  unfold d_X7_loud d_X8_loud
  have hbad : ∀ r : Int32, r < 0 → d_X2_changeLoudness v p0 p1 = some (r, v) → ∃ (u1 : zHI), (zup (d_X1_setAside v u) (fun z9 => z9) fun u8 => zup2 (d_X2_changeLoudness v p0 p1) (fun z9 => z9) fun t21 v21 => zup2 (d_X1_keepUnlessError u8 t21) (fun z9 => z9) fun t24 u24 => some (t24, v21, u24)) = some (r, v, u1) ∧ zSim (j + 1) v w u1 q μ := fun r hr e => by
    rw [e]; exact b_bad hr h
  rcases seat_case p0 with ⟨e1, e2⟩ | ⟨k, hk, rfl, e1, e2⟩
  · obtain ⟨u1, x1, x2⟩ := hbad (-1) (by decide) (by unfold d_X2_changeLoudness; rw [e1, zcl_e, if_pos rfl])
    exact ⟨_, _, _, μ, x1, by rw [e2, zcl_e, if_pos rfl], x2⟩
  · have hcs : d_X2_changeLoudness v (nI k) p1 = if p1 < 1 then some (-2, v) else if p1 ≤ 9 then (zcl (d_X5_at 30 (v 1) (nI k)) fun t31 => zup (d_X5_store 30 (v 1) (nI k) p1) (fun u => (zr v 1 u)) fun v44 => some (t31, v44)) else some (-2, v) := by
      unfold d_X2_changeLoudness
      rw [e1, zcl_e, if_neg (by decide)]
    rw [e2, zcl_e, if_neg (by decide)]
    rcases w_case p1 1 9 (by decide) with ⟨e3, hd⟩ | ⟨e3, hd1, hd2⟩
    · obtain ⟨u1, x1, x2⟩ := hbad (-2) (by decide) (by
        rw [hcs]
        rcases hd with hd | ⟨hd, hd2⟩
        · rw [if_pos (show p1 < 1 from hd)]
        · rw [if_neg (show ¬ p1 < 1 from hd), if_neg (show ¬ p1 ≤ 9 from fun q => absurd hd2 (Int32.not_lt.mpr q))])
      exact ⟨_, _, _, μ, x1, by rw [show d_X8_within p1 1 9 = some 0 from e3, zcl_e, if_pos rfl], x2⟩
    · obtain ⟨y, hy1, hy2, rfl⟩ := w_get (by decide) (by decide) hd1 hd2
      rw [if_neg (show ¬ nI y < 1 from hd1), if_pos (show nI y ≤ 9 from Int32.not_lt.mp hd2)] at hcs
      obtain ⟨r, v1, u1, μ1, x1, x2, x3⟩ := b_rec hj (o_loud hk hy1 hy2) h
      rw [show d_X8_within (nI y) 1 9 = some 1 from e3, zcl_e, if_neg (by decide), hcs]
      refine ⟨r, v1, u1, μ1, x1, ?_, x3⟩
      refine Eq.trans ?_ x2
      simp only [zup2_zcl, zup2_zup, zup2_e]
theorem stp_pay : zSt_pay zSim := fun j v w u q μ p0 hj h => b_rec hj (o_pay p0) h
theorem stp_ends : zSt_ends zSim := fun j v w u q μ p0 hj h => b_rec hj (o_ends p0) h
theorem stp_clap : zSt_clap zSim := fun j v w u q μ p0 hj h => b_rec hj (o_clap p0) h
theorem stp_pass : zSt_pass zSim := fun j v w u q μ p0 hj h => b_rec hj (o_pass p0) h
theorem stp_play : zSt_play zSim := fun j v w u q μ p0 hj h => b_rec hj (o_play p0) h
theorem stp_call : zSt_call zSim := fun j v w u q μ hj h => b_rec hj o_call h
theorem stp_night : zSt_night zSim := fun j v w u q μ hj h => b_rec hj o_night h
theorem stp_skip : zSt_skip zSim := fun j v w u q μ h => zSim_up h
