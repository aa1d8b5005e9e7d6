/-! ===== loops that both sides run alike ===== -/
theorem fu {f : Nat} (h : 0 < f) : ∃ k, f = k + 1 := ⟨f - 1, by omega⟩
theorem q_owes (e g μ : zHV) (p : Int32) (n : Nat) (hn : n ≤ 8) (he : e 5 0 = nI n) (hg : g 0 17 = nI n) (hk : ∀ k, k < n → g 10 k = e 0 k) : ∀ d i x f f', n - i = d → i ≤ n → d < f → d < f' → ∃ t, x ≤ t ∧ t ≤ x + d ∧ lp_X0_owedBy_4 e p f (nI x) (nI i) = some (nI t) ∧ lp_X8_owes_4 (zM5 μ g) p f' (nI x) (nI i) = some (nI t) := by
  intro d
  induction d with
  | zero =>
    intro i x f f' h1 h2 h3 h4
    obtain ⟨f, rfl⟩ := fu h3
    obtain ⟨f', rfl⟩ := fu h4
    obtain rfl : i = n := by omega
    refine ⟨x, by omega, by omega, ?_, ?_⟩
    · show lpB_X0_owedBy_4 e p (lp_X0_owedBy_4 e p f) (nI x) (nI i) = _
      unfold lpB_X0_owedBy_4
      rw [he, if_pos (nI_le (Nat.le_refl i) (by omega))]
    · show lpB_X8_owes_4 (zM5 μ g) p (lp_X8_owes_4 (zM5 μ g) p f') (nI x) (nI i) = _
      unfold lpB_X8_owes_4
      rw [L17, hg, if_pos (nI_le (Nat.le_refl i) (by omega))]
  | succ d ih =>
    intro i x f f' h1 h2 h3 h4
    obtain ⟨f, rfl⟩ := fu (by omega : 0 < f)
    obtain ⟨f', rfl⟩ := fu (by omega : 0 < f')
    have hin : i < n := by omega
    have e1 : lp_X0_owedBy_4 e p (f + 1) (nI x) (nI i) = lp_X0_owedBy_4 e p f (nI (if e 0 i = p then x + 1 else x)) (nI (i + 1)) := by
      show lpB_X0_owedBy_4 e p (lp_X0_owedBy_4 e p f) (nI x) (nI i) = _
      unfold lpB_X0_owedBy_4
      rw [he, if_neg (nI_ge hin (by omega)), r_at 8 _ i (by omega) (by decide), zcl_e]
      split <;> simp only [zlet_n, nI_p1]
    have e2 : lp_X8_owes_4 (zM5 μ g) p (f' + 1) (nI x) (nI i) = lp_X8_owes_4 (zM5 μ g) p f' (nI (if e 0 i = p then x + 1 else x)) (nI (i + 1)) := by
      show lpB_X8_owes_4 (zM5 μ g) p (lp_X8_owes_4 (zM5 μ g) p f') (nI x) (nI i) = _
      unfold lpB_X8_owes_4
      rw [L17, hg, if_neg (nI_ge hin (by omega))]
      simp only [zlet_n, nL_mul, nL_add]
      rw [l10a μ g i _ (by omega), hk i hin]
      split <;> simp only [nI_p1, nI_1, Int32.add_zero]
    rw [e1, e2]
    obtain ⟨t, g1, g2, g3, g4⟩ := ih (i + 1) (if e 0 i = p then x + 1 else x) f f' (by omega) (by omega) (by omega) (by omega)
    refine ⟨t, ?_, ?_, g3, g4⟩
    · split at g1 <;> omega
    · split at g2 <;> omega
theorem b_owes {m A T N n : Nat} {v g μ : zHV} (h : zRel m A T N n v g) (p : Int32) : ∃ t, t ≤ 8 ∧ d_X0_owedBy (zh v 7) p = some (nI t) ∧ d_X8_owes (zM5 μ g) p = some (nI t) := by
  obtain ⟨ha, hb, ⟨c1, c2, c3, c4⟩, hd, he, hf, hg⟩ := h
  obtain ⟨t, h1, h2, h3, h4⟩ := q_owes (zh v 7) g μ p n c1 c2 c3 (fun k hk => (c4 k hk).1) n 0 0 zF zF rfl (Nat.zero_le n) (by unfold zF; omega) (by unfold zF; omega)
  exact ⟨t, by omega, h3, h4⟩
theorem q_earl (e g μ : zHV) (p : Int32) (n : Nat) (hn : n ≤ 8) (he : e 5 0 = nI n) (hg : g 0 17 = nI n) (hk : ∀ k, k < n → g 10 k = e 0 k) : ∀ d i f f', n - i = d → i ≤ n → d < f → d < f' → (lp_X0_earliestOf_2 e p f (nI i) = some (-6) ∧ lp_X8_earliest_2 (zM5 μ g) p f' (nI i) = some (-6)) ∨ ∃ t, t < n ∧ e 0 t = p ∧ lp_X0_earliestOf_2 e p f (nI i) = some (nI t) ∧ lp_X8_earliest_2 (zM5 μ g) p f' (nI i) = some (nI t) := by
  intro d
  induction d with
  | zero =>
    intro i f f' h1 h2 h3 h4
    obtain ⟨f, rfl⟩ := fu h3
    obtain ⟨f', rfl⟩ := fu h4
    obtain rfl : i = n := by omega
    refine Or.inl ⟨?_, ?_⟩
    · show lpB_X0_earliestOf_2 e p (lp_X0_earliestOf_2 e p f) (nI i) = _
      unfold lpB_X0_earliestOf_2
      rw [he, if_pos (nI_le (Nat.le_refl i) (by omega))]
    · show lpB_X8_earliest_2 (zM5 μ g) p (lp_X8_earliest_2 (zM5 μ g) p f') (nI i) = _
      unfold lpB_X8_earliest_2
      rw [L17, hg, if_pos (nI_le (Nat.le_refl i) (by omega))]
  | succ d ih =>
    intro i f f' h1 h2 h3 h4
    obtain ⟨f, rfl⟩ := fu (by omega : 0 < f)
    obtain ⟨f', rfl⟩ := fu (by omega : 0 < f')
    have hin : i < n := by omega
    have e1 : lp_X0_earliestOf_2 e p (f + 1) (nI i) = if e 0 i = p then some (nI i) else lp_X0_earliestOf_2 e p f (nI (i + 1)) := by
      show lpB_X0_earliestOf_2 e p (lp_X0_earliestOf_2 e p f) (nI i) = _
      unfold lpB_X0_earliestOf_2
      rw [he, if_neg (nI_ge hin (by omega)), r_at 8 _ i (by omega) (by decide), zcl_e]
      simp only [zlet_n, nI_p1]
    have e2 : lp_X8_earliest_2 (zM5 μ g) p (f' + 1) (nI i) = if e 0 i = p then some (nI i) else lp_X8_earliest_2 (zM5 μ g) p f' (nI (i + 1)) := by
      show lpB_X8_earliest_2 (zM5 μ g) p (lp_X8_earliest_2 (zM5 μ g) p f') (nI i) = _
      unfold lpB_X8_earliest_2
      rw [L17, hg, if_neg (nI_ge hin (by omega))]
      simp only [zlet_n, nL_mul, nL_add]
      rw [l10a μ g i _ (by omega), hk i hin]
      simp only [nI_p1]
    rw [e1, e2]
    by_cases c : e 0 i = p
    · rw [if_pos c, if_pos c]; exact Or.inr ⟨i, hin, c, rfl, rfl⟩
    · rw [if_neg c, if_neg c]; exact ih (i + 1) f f' (by omega) (by omega) (by omega) (by omega)
theorem b_earl {m A T N n : Nat} {v g μ : zHV} (h : zRel m A T N n v g) (p : Int32) : (d_X0_earliestOf (zh v 7) p = some (-6) ∧ d_X8_earliest (zM5 μ g) p = some (-6)) ∨ ∃ t, t < n ∧ v 7 t = p ∧ d_X0_earliestOf (zh v 7) p = some (nI t) ∧ d_X8_earliest (zM5 μ g) p = some (nI t) := by
  obtain ⟨ha, hb, ⟨c1, c2, c3, c4⟩, hd, he, hf, hg⟩ := h
  exact q_earl (zh v 7) g μ p n c1 c2 c3 (fun k hk => (c4 k hk).1) n 0 zF zF rfl (Nat.zero_le n) (by unfold zF; omega) (by unfold zF; omega)
theorem q_end (p : Int32) (μ : zHV) (x : Int32) : ∀ d i f g, 30 - i = d → i ≤ 30 → d < f → lp_X8_end_74 p f x (nI i) (zM5 μ g) = some (x, zM5 μ (zr g 5 (zfil i 30 0 (g 5)))) := by
  intro d
  induction d with
  | zero =>
    intro i f g h1 h2 h3
    obtain ⟨f, rfl⟩ := fu h3
    obtain rfl : i = 30 := by omega
    show lpB_X8_end_74 p (lp_X8_end_74 p f) x (nI 30) (zM5 μ g) = _
    unfold lpB_X8_end_74
    rw [if_pos (by decide)]
    congr 3
    funext a b
    rw [zr_at]
    by_cases q : a = 5
    · rw [if_pos q, q]; unfold zfil; rw [if_neg (by omega)]
    · rw [if_neg q]
  | succ d ih =>
    intro i f g h1 h2 h3
    obtain ⟨f, rfl⟩ := fu (by omega : 0 < f)
    show lpB_X8_end_74 p (lp_X8_end_74 p f) x (nI i) (zM5 μ g) = _
    unfold lpB_X8_end_74
    rw [if_neg (show ¬ (30 : Int32) ≤ nI i from nI_ge (b := 30) (by omega) (by decide)), T4 μ g i 0 (by omega), zup_e, zlet_n, nI_p1, ih (i + 1) f _ (by omega) (by omega) (by omega)]
    congr 3
    funext a b
    rw [zr_at, zr_at]
    by_cases q : a = 5
    · rw [if_pos q, if_pos q]
      unfold zfil
      rw [zs_at, if_pos rfl]
      by_cases q2 : b = i
      · rw [if_neg (by omega), if_pos q2, if_pos (by omega)]
      · by_cases q3 : i + 1 ≤ b ∧ b < 30
        · rw [if_pos q3, if_pos (by omega)]
        · rw [if_neg q3, if_neg q2, if_neg (by omega)]
    · rw [if_neg q, if_neg q, zs_at, if_neg q]
theorem q_susp (v g μ : zHV) (p : Int32) (hk : ∀ k, k < 30 → g 3 k = v 1 k) : ∀ d i x f f', 30 - i = d → i ≤ 30 → d < f → d < f' → ∃ t, lp_X6_suspected_4 v p f x (nI i) = some t ∧ lp_X8_those_5 (zM5 μ g) 0 p f' x (nI i) = some t := by
  intro d
  induction d with
  | zero =>
    intro i x f f' h1 h2 h3 h4
    obtain ⟨f, rfl⟩ := fu h3
    obtain ⟨f', rfl⟩ := fu h4
    obtain rfl : i = 30 := by omega
    exact ⟨x, rfl, rfl⟩
  | succ d ih =>
    intro i x f f' h1 h2 h3 h4
    obtain ⟨f, rfl⟩ := fu (by omega : 0 < f)
    obtain ⟨f', rfl⟩ := fu (by omega : 0 < f')
    have hin : i < 30 := by omega
    have hc : ¬ (30 : Int32) ≤ nI i := nI_ge (b := 30) hin (by decide)
    have e1 : lp_X6_suspected_4 v p (f + 1) x (nI i) = lp_X6_suspected_4 v p f (if v 1 i < p then x else x ||| (1 <<< (nI i &&& 31))) (nI (i + 1)) := by
      show lpB_X6_suspected_4 v p (lp_X6_suspected_4 v p f) x (nI i) = _
      unfold lpB_X6_suspected_4
      rw [if_neg hc, r_at 30 _ i hin (by decide), zcl_e]
      split <;> simp only [zlet_n, nI_p1]
    have e2 : lp_X8_those_5 (zM5 μ g) 0 p (f' + 1) x (nI i) = lp_X8_those_5 (zM5 μ g) 0 p f' (if v 1 i < p then x else x ||| (1 <<< (nI i &&& 31))) (nI (i + 1)) := by
      show lpB_X8_those_5 (zM5 μ g) 0 p (lp_X8_those_5 (zM5 μ g) 0 p f') x (nI i) = _
      unfold lpB_X8_those_5
      rw [if_neg hc, zjn_e, if_pos rfl, G2 μ g i hin, zcl_e, hk i hin]
      split
      · simp only [zlet_n, nI_p1, Int32.or_zero, eq_self, if_true, show ((1 : Int32) = 0) = False from by decide, if_false]
      · simp only [zlet_n, nI_p1, Int32.or_zero, eq_self, if_true, show ((1 : Int32) = 0) = False from by decide, if_false]
    rw [e1, e2]
    exact ih (i + 1) _ f f' (by omega) (by omega) (by omega) (by omega)
/-- who paid, as a mask built seat by seat -/
theorem q_paid (g μ : zHV) (q : Int32) (y : Nat) (hy : y < 2 ^ 30) (hk : ∀ k, k < 30 → g 2 k = zbt (nI y) k) : ∀ d i x f, 30 - i = d → i ≤ 30 → d < f → (∀ k, k < 32 → x.toBitVec.getLsbD k = (decide (k < i) && (nI y).toBitVec.getLsbD k)) → lp_X8_those_5 (zM5 μ g) 1 q f x (nI i) = some (nI y) := by
  have hhi : ∀ k, 30 ≤ k → (nI y).toBitVec.getLsbD k = false := fun k hk => by
    rw [BitVec.getLsbD, pk_tn (by omega)]
    exact Nat.testBit_lt_two_pow (Nat.lt_of_lt_of_le hy (Nat.pow_le_pow_right (by decide) hk))
  intro d
  induction d with
  | zero =>
    intro i x f h1 h2 h3 hx
    obtain ⟨f, rfl⟩ := fu h3
    obtain rfl : i = 30 := by omega
    have : x = nI y := by
      apply Int32.toBitVec_inj.mp
      apply BitVec.eq_of_getLsbD_eq
      intro k hk
      rw [hx k hk]
      by_cases c : k < 30
      · simp [c]
      · rw [hhi k (by omega)]; simp
    rw [this]
    rfl
  | succ d ih =>
    intro i x f h1 h2 h3 hx
    obtain ⟨f, rfl⟩ := fu (by omega : 0 < f)
    have hin : i < 30 := by omega
    have hc : ¬ (30 : Int32) ≤ nI i := nI_ge (b := 30) hin (by decide)
    show lpB_X8_those_5 (zM5 μ g) 1 q (lp_X8_those_5 (zM5 μ g) 1 q f) x (nI i) = _
    unfold lpB_X8_those_5
    rw [if_neg hc, zjn_e, if_neg (by decide), G1 μ g i hin, zcl_e, hk i hin]
    unfold zbt
    by_cases c : (nI y).toBitVec.getLsbD i = true
    · rw [if_pos c, if_pos rfl]
      simp only [zlet_n, nI_p1, Int32.or_zero, eq_self, if_true, show ((1 : Int32) = 0) = False from by decide, if_false]
      refine ih (i + 1) _ f (by omega) (by omega) (by omega) (fun k hk => ?_)
      rw [zb_shl i hin, Int32.toBitVec_or, BitVec.getLsbD_or, hx k hk, zb_one i k hin hk]
      by_cases c2 : k = i
      · subst c2; simp [c]
      · simp only [c2, decide_false, Bool.or_false]
        congr 1
        simp only [decide_eq_decide]; omega
    · rw [if_neg c, if_neg (by decide)]
      simp only [zlet_n, nI_p1, Int32.or_zero, eq_self, if_true, show ((1 : Int32) = 0) = False from by decide, if_false]
      refine ih (i + 1) _ f (by omega) (by omega) (by omega) (fun k hk => ?_)
      rw [hx k hk]
      by_cases c2 : k = i
      · subst c2
        have : (nI y).toBitVec.getLsbD k = false := by simpa using c
        simp [this]
      · congr 1
        simp only [decide_eq_decide]; omega
theorem b_paid {m A T N n : Nat} {v g μ : zHV} (q : Int32) (h : zRel m A T N n v g) : d_X8_those (zM5 μ g) 1 q = some (v 6 1) := by
  obtain ⟨ha, ⟨b1, ⟨y, hy, ey⟩, b3⟩, hc⟩ := h
  rw [ey]
  refine q_paid g μ q y hy (fun k hk => ?_) 30 0 0 zF rfl (by decide) (by decide) (fun k hk => ?_)
  · rw [(b1 k hk).2.1, ey]
  · rw [show (0 : Int32).toBitVec = 0#32 from rfl, BitVec.getLsbD_zero]; simp
