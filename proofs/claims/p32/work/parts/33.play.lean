/-! ===== who owes, and the earliest that is owed; an encore is played ===== -/
theorem q_owes (e q w : Nat → Nat → Int32) (p : Int32) (n : Nat) (hn : n ≤ 8) (he : e 5 0 = nI n) (hq : q 0 16 = nI n) (hk : ∀ k, k < n → w 0 (2 * k) = e 0 k) : ∀ d i x f f', n - i = d → i ≤ n → d < f → d < f' → ∃ t, x ≤ t ∧ t ≤ x + d ∧ lp_X0_owedBy_4 e p f (nI x) (nI i) = some (nI t) ∧ lp_L_owes_5 (q 0) (w 0) p f' (nI x) (nI i) = some (nI t) := by
  intro d
  induction d with
  | zero =>
    intro i x f f' h1 h2 h3 h4
    obtain ⟨f, rfl⟩ := fu h3
    obtain ⟨f', rfl⟩ := fu h4
    obtain rfl : i = n := by omega
    refine ⟨x, by omega, by omega, ?_, ?_⟩
    · show lpB_X0_owedBy_4 e p (lp_X0_owedBy_4 e p f) (nI x) (nI i) = _
      unfold lpB_X0_owedBy_4
      rw [he, if_pos (nI_le (Nat.le_refl i) (by omega))]
    · show lpB_L_owes_5 (q 0) (w 0) p (lp_L_owes_5 (q 0) (w 0) p f') (nI x) (nI i) = _
      unfold lpB_L_owes_5
      rw [Q16, hq, if_pos (nI_le (Nat.le_refl i) (by omega))]
  | succ d ih =>
    intro i x f f' h1 h2 h3 h4
    obtain ⟨f, rfl⟩ := fu (by omega : 0 < f)
    obtain ⟨f', rfl⟩ := fu (by omega : 0 < f')
    have hin : i < n := by omega
    have e1 : lp_X0_owedBy_4 e p (f + 1) (nI x) (nI i) = lp_X0_owedBy_4 e p f (nI (if e 0 i = p then x + 1 else x)) (nI (i + 1)) := by
      show lpB_X0_owedBy_4 e p (lp_X0_owedBy_4 e p f) (nI x) (nI i) = _
      unfold lpB_X0_owedBy_4
      rw [he, if_neg (nI_ge hin (by omega)), r_at 8 _ i (by omega) (by decide), zcl_e]
      split <;> simp only [zlet_n, nI_p1]
    have e2 : lp_L_owes_5 (q 0) (w 0) p (f' + 1) (nI x) (nI i) = lp_L_owes_5 (q 0) (w 0) p f' (nI (if e 0 i = p then x + 1 else x)) (nI (i + 1)) := by
      show lpB_L_owes_5 (q 0) (w 0) p (lp_L_owes_5 (q 0) (w 0) p f') (nI x) (nI i) = _
      unfold lpB_L_owes_5
      rw [Q16, hq, if_neg (nI_ge hin (by omega)), zlet_n, show (2 : Int32) * nI i = nI (2 * i) from nL_mul 2 i, zld_nI (by omega) (by decide), hk i hin]
      split <;> simp only [zlet_n, nI_p1, nI_1, Int32.add_zero]
    rw [e1, e2]
    obtain ⟨t, g1, g2, g3, g4⟩ := ih (i + 1) (if e 0 i = p then x + 1 else x) f f' (by omega) (by omega) (by omega) (by omega)
    refine ⟨t, ?_, ?_, g3, g4⟩
    · split at g1 <;> omega
    · split at g2 <;> omega
theorem b_owes {n T : Nat} {v : zHV} {q w : Nat → Int32} (h : zRc n T (v 7) (v 8) (v 12 0) (fun k => w (2 * k)) (fun k => w (2 * k + 1)) (q 16)) (p : Int32) : ∃ t, t ≤ 8 ∧ d_X0_owedBy (zh v 7) p = some (nI t) ∧ d_L_owes q w p = some (nI t) := by
  obtain ⟨c1, c2, c3, c4⟩ := h
  obtain ⟨t, h1, h2, h3, h4⟩ := q_owes (zh v 7) (fun _ => q) (fun _ => w) p n c1 c2 c3 (fun k hk => (c4 k hk).1) n 0 0 zF zF rfl (Nat.zero_le n) (by unfold zF; omega) (by unfold zF; omega)
  exact ⟨t, by omega, h3, h4⟩
theorem q_earl7 (e : zHV) (p : Int32) (n : Nat) (hn : n ≤ 8) (he : e 5 0 = nI n) : ∀ d i f, n - i = d → i ≤ n → d < f → (∀ k, k < i → ¬ e 0 k = p) → ((∀ k, k < n → ¬ e 0 k = p) ∧ lp_X0_earliestOf_2 e p f (nI i) = some (-6)) ∨ ∃ t, t < n ∧ e 0 t = p ∧ (∀ k, k < t → ¬ e 0 k = p) ∧ lp_X0_earliestOf_2 e p f (nI i) = some (nI t) := by
  intro d
  induction d with
  | zero =>
    intro i f h1 h2 h3 h4
    obtain ⟨f, rfl⟩ := fu h3
    obtain rfl : i = n := by omega
    refine Or.inl ⟨h4, ?_⟩
    show lpB_X0_earliestOf_2 e p (lp_X0_earliestOf_2 e p f) (nI i) = _
    unfold lpB_X0_earliestOf_2
    rw [he, if_pos (nI_le (Nat.le_refl i) (by omega))]
  | succ d ih =>
    intro i f h1 h2 h3 h4
    obtain ⟨f, rfl⟩ := fu (by omega : 0 < f)
    have hin : i < n := by omega
    have e1 : lp_X0_earliestOf_2 e p (f + 1) (nI i) = if e 0 i = p then some (nI i) else lp_X0_earliestOf_2 e p f (nI (i + 1)) := by
      show lpB_X0_earliestOf_2 e p (lp_X0_earliestOf_2 e p f) (nI i) = _
      unfold lpB_X0_earliestOf_2
      rw [he, if_neg (nI_ge hin (by omega)), r_at 8 _ i (by omega) (by decide), zcl_e]
      simp only [zlet_n, nI_p1]
    rw [e1]
    by_cases c : e 0 i = p
    · rw [if_pos c]; exact Or.inr ⟨i, hin, c, h4, rfl⟩
    · rw [if_neg c]
      exact ih (i + 1) f (by omega) (by omega) (by omega) (fun k hk => by
        by_cases ck : k = i
        · subst ck; exact c
        · exact h4 k (by omega))
theorem q_earlL (q w : Nat → Int32) (p : Int32) (n : Nat) (hn : n ≤ 8) : ∀ i f x, i ≤ n → i < f → ((x = -1 ∧ ∀ k, i ≤ k → k < n → ¬ w (2 * k) = p) ∨ ∃ t, i ≤ t ∧ t < n ∧ w (2 * t) = p ∧ (∀ k, i ≤ k → k < t → ¬ w (2 * k) = p) ∧ x = nI t) → ((∀ k, k < n → ¬ w (2 * k) = p) ∧ lp_L_earliest_10 q w p f x (nI i - 1) = some (-1)) ∨ ∃ t, t < n ∧ w (2 * t) = p ∧ (∀ k, k < t → ¬ w (2 * k) = p) ∧ lp_L_earliest_10 q w p f x (nI i - 1) = some (nI t) := by
  intro i
  induction i with
  | zero =>
    intro f x h1 h2 h3
    obtain ⟨f, rfl⟩ := fu h2
    have e0 : lp_L_earliest_10 q w p (f + 1) x (nI 0 - 1) = some x := rfl
    rw [e0]
    rcases h3 with ⟨rfl, h⟩ | ⟨t, t1, t2, t3, t4, rfl⟩
    · exact Or.inl ⟨fun k hk => h k (Nat.zero_le k) hk, rfl⟩
    · exact Or.inr ⟨t, t2, t3, fun k hk => t4 k (Nat.zero_le k) hk, rfl⟩
  | succ i ih =>
    intro f x h1 h2 h3
    obtain ⟨f, rfl⟩ := fu (by omega : 0 < f)
    have e1 : lp_L_earliest_10 q w p (f + 1) x (nI (i + 1) - 1) = lp_L_earliest_10 q w p f (if w (2 * i) = p then nI i else x) (nI i - 1) := by
      show lpB_L_earliest_10 q w p (lp_L_earliest_10 q w p f) x (nI (i + 1) - 1) = _
      unfold lpB_L_earliest_10
      rw [nI_pred, if_neg (nI_pos (by omega)), zlet_n, show (2 : Int32) * nI i = nI (2 * i) from nL_mul 2 i, zld_nI (by omega) (by decide)]
      simp only [zlet_n, nI_m]
      split <;> rfl
    rw [e1]
    refine ih f _ (by omega) (by omega) ?_
    by_cases c : w (2 * i) = p
    · rw [if_pos c]
      exact Or.inr ⟨i, Nat.le_refl i, by omega, c, fun k k1 k2 => absurd k2 (by omega), rfl⟩
    · rw [if_neg c]
      rcases h3 with ⟨rfl, h⟩ | ⟨t, t1, t2, t3, t4, rfl⟩
      · refine Or.inl ⟨rfl, fun k k1 k2 => ?_⟩
        by_cases ck : k = i
        · subst ck; exact c
        · exact h k (by omega) k2
      · refine Or.inr ⟨t, by omega, t2, t3, fun k k1 k2 => ?_, rfl⟩
        by_cases ck : k = i
        · subst ck; exact c
        · exact t4 k (by omega) k2
theorem b_earl {n T : Nat} {v : zHV} {q w : Nat → Int32} (h : zRc n T (v 7) (v 8) (v 12 0) (fun k => w (2 * k)) (fun k => w (2 * k + 1)) (q 16)) (p : Int32) : (d_X0_earliestOf (zh v 7) p = some (-6) ∧ d_L_earliest q w p = some (-1)) ∨ ∃ t, t < n ∧ v 7 t = p ∧ d_X0_earliestOf (zh v 7) p = some (nI t) ∧ d_L_earliest q w p = some (nI t) := by
  obtain ⟨c1, c2, c3, c4⟩ := h
  have hw : ∀ k, k < n → w (2 * k) = v 7 k := fun k hk => (c4 k hk).1
  have hl : d_L_earliest q w p = lp_L_earliest_10 q w p zF (-1) (nI n - 1) := by
    unfold d_L_earliest
    rw [Q16, c3, zlet_n]
  have g1 := q_earl7 (zh v 7) p n c1 c2 n 0 zF rfl (Nat.zero_le n) (by unfold zF; omega) (fun k hk => absurd hk (by omega))
  have g2 := q_earlL q w p n c1 n zF (-1) (Nat.le_refl n) (by unfold zF; omega) (Or.inl ⟨rfl, fun k k1 k2 => absurd k2 (by omega)⟩)
  rw [hl]
  rcases g1 with ⟨a1, a2⟩ | ⟨t, t1, t2, t3, t4⟩ <;> rcases g2 with ⟨b1, b2⟩ | ⟨u, u1, u2, u3, u4⟩
  · exact Or.inl ⟨a2, b2⟩
  · exact absurd ((hw u u1).symm.trans u2) (a1 u u1)
  · exact absurd ((hw t t1).trans t2) (b1 t t1)
  · have : t = u := by
      rcases Nat.lt_trichotomy t u with q1 | q1 | q1
      · exact absurd ((hw t t1).trans t2) (u3 t q1)
      · exact q1
      · exact absurd ((hw u u1).symm.trans u2) (t3 u q1)
    subst this
    exact Or.inr ⟨t, t1, t2, t4, u4⟩
theorem o_play {m A T N n : Nat} {v : zHV} {q a e nn t p w r c : Nat → Int32} (h : zLR m A T N n v (z9 q a e nn t p w r c)) {k : Nat} (hk : k < 6) : ∃ x v' q' a' p' w', d_X2_playEncore v (nI k) = some (x, v') ∧ d_L_plays q a p w (nI k) = some (x, q', a', p', w') ∧ zOut m T N x v' (z9 q a e nn t p w r c) (z9 q' a' e nn t p' w' r c) := by
  have h0 := h
  obtain ⟨ha, hb, hc, hd, he, hf, hg⟩ := zLR_9.mp h
  unfold d_X2_playEncore d_L_plays d_X0_playEarliestOf
  rw [perf_ok k hk, zcl_e, if_neg (by decide)]
  rcases b_earl hc (nI k) with ⟨f1, f2⟩ | ⟨u, ht, hv, f1, f2⟩
  · rw [f1, f2, zcl_e, zcl_e, if_pos rfl, zup2_e, if_pos rfl, if_neg (by decide)]
    refine ⟨_, _, q, a, p, w, rfl, rfl, ⟨A, T, N, n, zLR_up (by omega) (zLR_cong (fun i k hk => ?_) h0), fun _ => rfl, by omega, by omega⟩⟩
    rw [zq_at]
    split
    · next q1 =>
      split
      · next q2 => rw [zh_at, show 7 + (i - 7) = i by omega]
      · rfl
    · rfl
  · obtain ⟨n, rfl⟩ : ∃ n', n = n' + 1 := ⟨n - 1, by omega⟩
    have hn8 : n < 8 := hc.1
    rw [f1, f2, zcl_e, zcl_e, if_neg (nI_m6 (by omega)), if_pos (nI_pos' (by omega)), zlet_n, nI_1, q_play (nI k) _ n hn8 (n + 1 - (u + 1)) (u + 1) zF _ rfl (by omega) (by omega) (by unfold zF; omega) hc.2.1, r_add 6 _ k _ hk (by decide), zup_e, zup2_e, if_neg (by decide), e_drops hn8 (by omega) hc.2.2.1, zup_e, R1_add _ _ _ (by decide) (by decide), zup_e]
    simp only [zlet_n]
    rw [show (3 : Int32) * nI k = nI (3 * k) from nL_mul 3 k, zld_nI (by omega) (by decide), zst_nI (by omega) (by decide), Q10, V10]
    have hc' := zRc_drop (e := u) hc (by omega)
    have key : zLR m A T N n (zr (zq v 7 6 (zr (zs (zr (zr (zh v 7) 0 (zdr 0 (2 * (u + 1 - 1)) n (zh v 7 0))) 1 (zdr 1 (2 * (u + 1 - 1)) n (zh v 7 1))) 5 0 (nI n)) 2 (upd (zh v 7 2) k (zh v 7 2 k + 1)))) 13 (upd (v 13) 1 (v 13 1 + 1))) (z9 (upd (upd q 16 (nI n)) 10 (q 10 + 1)) a e nn t (upd p (3 * k) (p (3 * k) + 1)) (zsh (2 * u) n w) r c) := by
      refine zLR_9.mpr ⟨zRa_q ha (fun j hj => by rw [pk_un (by omega), pk_un (by omega)]), hb, ?_, zRd_p0 hd, ?_, hf, ?_⟩
      · rw [zsh_0 0, zsh_1 0]
        exact hc'
      · have h4 := he_up (i := 1) (by decide) (q := upd q 16 (nI n)) (v13 := v 13) (fun k hk => by rw [pk_un (by omega)]; exact he k hk) 1
        exact h4
      · exact hg
    obtain ⟨v', q', a', p', k1, k2, k3, k4⟩ := b_begin key hk
    obtain ⟨t', t1, t2, t3⟩ := b_owes (zLR_9.mp k4).2.2.1 (nI k)
    have hA : A ≤ 9999 := hg.1
    refine ⟨nI t', v', q', a', p', zsh (2 * u) n w, ?_, ?_, zOut_of 0 T N n (show m ≤ m + 2 by omega) k4 (nI_pos (by omega)) (by omega) (by omega)⟩
    · refine Eq.trans ?_ (show (zup (some v') (fun u => u) fun v34 => zcl (d_X0_owedBy (zh v34 7) (nI k)) fun t42 => some (t42, v34)) = some (nI t', v') by rw [zup_e, t2, zcl_e])
      rw [← k1]
      rfl
    · rw [show upd q 16 (nI n) 10 = q 10 from pk_un (by decide), k2, zup2_e, if_pos (nI_pos' (by omega))]
      dsimp only
      rw [t3, zcl_e]
