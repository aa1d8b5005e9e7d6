/-! ===== the acts: a piece ends, pay, play, settings, loudness ===== -/
theorem zRd_up {v9 v10 v11 g7 g8 g9 : Nat → Int32} (h : zRd v9 v10 v11 g7 g8 g9) (p : Nat) (x : Int32) : zRd (upd v9 p (v9 p + x)) v10 v11 (if p < 6 then upd g7 p (g7 p + x) else g7) g8 g9 ∧ zRd v9 (upd v10 p (v10 p + x)) v11 g7 (if p < 6 then upd g8 p (g8 p + x) else g8) g9 ∧ zRd v9 v10 (upd v11 p (v11 p + x)) g7 g8 (if p < 6 then upd g9 p (g9 p + x) else g9) := by
  refine ⟨fun k hk => ?_, fun k hk => ?_, fun k hk => ?_⟩ <;>
  · obtain ⟨h1, h2, h3⟩ := h k hk
    by_cases c : p < 6
    · rw [if_pos c]
      have h4 := h p c
      by_cases q : k = p
      · subst q; rw [pk_us, pk_us]; simp only [h1, h2, h3, and_self]
      · rw [pk_un q, pk_un q]; simp only [h1, h2, h3, and_self]
    · rw [if_neg c, pk_un (by omega)]; simp only [h1, h2, h3, and_self]
theorem zRb_piece {m : Nat} {v1 v2 v3 v4 v5 : Nat → Int32} {c y z : Int32} {g1 g2 g3 g4 g5 g6 g12 : Nat → Int32} {gc : Int32} (h : zRb m v1 v2 v3 v4 v5 c y z g1 g2 g3 g4 g5 g6 g12 gc) : zRb m v1 v2 v3 v4 v5 c y 0 g1 g2 g3 g4 (zfil 0 30 0 g5) g6 g12 gc := by
  refine ⟨fun k hk => ?_, h.2⟩
  obtain ⟨q1, q2, q3, q4, q5, q6, q7⟩ := h.1 k hk
  refine ⟨q1, q2, q3, q4, ?_, q6, q7⟩
  unfold zfil
  rw [if_pos (by omega), zb_0]
theorem b_begin {m A T N n : Nat} {v g μ : zHV} (h : zRel m A T N n v g) {p : Nat} (hp : p < 6) : ∃ v' g', d_X2_beginApplause v (nI p) = some v' ∧ d_X8_end (zM5 μ g) (nI p) = some (nI A, zM5 μ g') ∧ zRel m 0 T N n v' g' := by
  obtain ⟨ha, hb, hc, hd, he, hf, hg⟩ := h
  obtain ⟨hA, hT, hN, ea, et, en, hby, hen, ga, gt, gn, gh, ge, gb, go⟩ := hg
  unfold d_X2_beginApplause d_X6_beginPiece d_X8_end
  rw [r_add 6 (v 11) p 1 hp (by decide)]
  simp only [zlet_n, zup_e, L6, S6, S13, L7, S14, S15, S16, zs_at, zr_at, Nat.reduceLT, Nat.reduceEqDiff, if_true, if_false, reduceIte, nL_mul, nL_add, nR_add]
  rw [l7c _ _ p _ hp, s7c _ _ p _ _ hp]
  rw [show lp_X8_end_74 (nI p) zF (g 0 6) 0 = lp_X8_end_74 (nI p) zF (g 0 6) (nI 0) from rfl, q_end _ _ _ 30 0 zF _ rfl (by decide) (by decide), ga]
  refine ⟨_, _, rfl, rfl, ha, zRb_piece hb, hc, ?_, he, hf, ⟨by decide, hT, hN, rfl, et, en, Or.inr ⟨p, hp, rfl⟩, Or.inl rfl, rfl, gt, gn, ?_, ?_, fun _ => rfl, rfl⟩⟩
  · have h9 := (zRd_up hd p 1).2.2
    rw [if_pos hp] at h9
    exact h9
  · show (1 : Int32) = if nI p = -6 then 0 else 1
    rw [if_neg (nI_m6 (by omega))]
  · show g 0 7 = v 15 1
    rw [gt, et]
theorem o_ends (p : Int32) : zOp (fun v => d_X2_endPiece v p) (fun μ => d_X8_doEnds μ p) := by
  intro m A T N n v g μ hm h
  show ∃ (r : Int32) (v' g' : zHV) (A' T' N' n' : Nat), d_X2_endPiece v p = some (r, v') ∧ d_X8_doEnds (zM5 μ g) p = some (r, zM5 μ g') ∧ zRel (m + 2) A' T' N' n' v' g'
  unfold d_X2_endPiece d_X8_doEnds
  rcases perf_case p with ⟨e1, e2⟩ | ⟨k, hk, rfl, e1, e2⟩
  · rw [e1, e2]
    exact ⟨_, v, g, A, T, N, n, rfl, rfl, zRel_up (by omega) h⟩
  · obtain ⟨v', g', q1, q2, q3⟩ := b_begin (μ := μ) h hk
    rw [e1, e2, zcl_e, zcl_e, if_neg (by decide), if_neg (by decide), q1, q2, zup_e, zup2_e]
    obtain ⟨ha, hb, hc, hd, he, hf, hA, hT, hN, ea, hg⟩ := h
    rw [ea]
    exact ⟨_, _, _, _, _, _, _, rfl, rfl, zRel_up (by omega) q3⟩
theorem o_pay (p : Int32) : zOp (fun v => d_X2_switchPay v p) (fun μ => d_X8_doPay μ p) := by
  intro m A T N n v g μ hm h
  show ∃ (r : Int32) (v' g' : zHV) (A' T' N' n' : Nat), d_X2_switchPay v p = some (r, v') ∧ d_X8_doPay (zM5 μ g) p = some (r, zM5 μ g') ∧ zRel (m + 2) A' T' N' n' v' g'
  unfold d_X2_switchPay d_X8_doPay
  rcases seat_case p with ⟨e1, e2⟩ | ⟨k, hk, rfl, e1, e2⟩
  · rw [e1, e2]
    exact ⟨_, v, g, A, T, N, n, rfl, rfl, zRel_up (by omega) h⟩
  · have key : zRel (m + 1) A T N n (zs v 6 1 ((v 6 1) ^^^ (1 <<< (nI k &&& 31)))) (zs g 2 k (1 - g 2 k)) := by
      obtain ⟨ha, ⟨b1, ⟨y, hy, ey⟩, b3⟩, hc, hd, ⟨e1, ⟨x0, y0, z0⟩, ⟨x1, y1, z1⟩, ⟨x2, y2, z2⟩, x3, y3, z3⟩, hf, hg⟩ := zRel_up (show m ≤ m + 1 by omega) h
      refine ⟨ha, ⟨fun i hi => ?_, ?_, b3⟩, hc, hd, ⟨e1, ⟨x0, y0, z0⟩, ⟨x1, y1, z1⟩, ⟨x2, y2, z2⟩, x3, y3, z3⟩, hf, hg⟩
      · obtain ⟨q1, q2, q3⟩ := b1 i hi
        refine ⟨q1, ?_, q3⟩
        show zs g 2 k (1 - g 2 k) 2 i = zbt (zs v 6 1 ((v 6 1) ^^^ (1 <<< (nI k &&& 31))) 6 1) i
        rw [zs_at, if_pos rfl, zs_at, if_pos rfl, if_pos rfl, zb_xor _ _ _ hk hi, (b1 k hk).2.1, q2]
      · obtain ⟨y', hy', ey'⟩ := zb_xorB y k hk hy
        refine ⟨y', hy', ?_⟩
        show (v 6 1) ^^^ (1 <<< (nI k &&& 31)) = nI y'
        rw [ey, ey']
    rw [e1, e2, zcl_e, zcl_e, if_neg (by decide), if_neg (by decide), G1 μ g k hk, zcl_e]
    simp only [zlet_n]
    rw [T1 μ g k _ hk, zup_e, b_paid 0 key]
    exact ⟨_, _, _, _, _, _, _, rfl, rfl, zRel_up (by omega) key⟩
theorem zs_s (g : zHV) (i k : Nat) (x : Int32) : zs g i k x = zr g i (upd (g i) k x) := by
  funext a
  rw [zr_at]
  by_cases c : a = i
  · subst c
    rw [if_pos rfl, up_zs]
  · rw [if_neg c]; funext b; rw [zs_at, if_neg c]
/-- the reference closes up its owed from the place e on -/
def zdr (c j n : Nat) (f : Nat → Int32) : Nat → Int32 := fun k => if j ≤ 2 * k + c ∧ k < n then f (k + 1) else f k
theorem q_drop (μ : zHV) (p : Int32) (n : Nat) (hn : n ≤ 7) : ∀ d j f g, 2 * n - j = d → j ≤ 2 * n → d < f → g 0 17 = nI n → lp_X8_drop_19 p f (nI (218 + j)) (zM5 μ g) = some (zM5 μ (zr (zr g 10 (zdr 0 j n (g 10))) 11 (zdr 1 j n (g 11)))) := by
  intro d
  induction d with
  | zero =>
    intro j f g h1 h2 h3 hg
    obtain ⟨f, rfl⟩ := fu h3
    obtain rfl : j = 2 * n := by omega
    show lpB_X8_drop_19 p (lp_X8_drop_19 p f) (nI (218 + 2 * n)) (zM5 μ g) = _
    unfold lpB_X8_drop_19
    rw [L17, hg]
    simp only [zlet_n, nL_mul, nL_add]
    rw [if_pos (nI_le (Nat.le_refl _) (by omega))]
    have z0 : zdr 0 (2 * n) n (g 10) = g 10 := by funext k; unfold zdr; rw [if_neg (by omega)]
    have z1 : zdr 1 (2 * n) n (g 11) = g 11 := by funext k; unfold zdr; rw [if_neg (by omega)]
    rw [z0, z1]
    congr 2
    funext a
    rw [zr_at, zr_at]
    split
    · next q => rw [q]
    · split
      · next q => rw [q]
      · rfl
  | succ d ih =>
    intro j f g h1 h2 h3 hg
    obtain ⟨f, rfl⟩ := fu (by omega : 0 < f)
    show lpB_X8_drop_19 p (lp_X8_drop_19 p f) (nI (218 + j)) (zM5 μ g) = _
    unfold lpB_X8_drop_19
    rw [L17, hg]
    simp only [zlet_n, nL_mul, nL_add, nR_add, nI_p1]
    rw [if_neg (nI_ge (by omega) (by omega))]
    rcases Nat.mod_two_eq_zero_or_one j with e | e
    · obtain ⟨i, rfl⟩ : ∃ i, j = 2 * i := ⟨j / 2, by omega⟩
      rw [show 218 + 2 * i + 2 = 218 + 2 * (i + 1) by omega, l10a μ g (i + 1) _ (by omega), s10a μ g i _ _ (by omega), show 218 + 2 * i + 1 = 218 + (2 * i + 1) by omega, ih (2 * i + 1) f _ (by omega) (by omega) (by omega) (by rw [zs_at, if_neg (by decide)]; exact hg)]
      congr 2
      funext a b
      simp only [zr_at]
      by_cases q : a = 11
      · simp only [q, if_true]
        unfold zdr
        simp only [zs_at, show ¬ (11 : Nat) = 10 from by decide, if_false]
        by_cases q1 : 2 * i ≤ 2 * b + 1 ∧ b < n
        · rw [if_pos q1, if_pos (by omega)]
        · rw [if_neg q1, if_neg (by omega)]
      · simp only [q, if_false]
        by_cases q2 : a = 10
        · simp only [q2, if_true]
          unfold zdr
          simp only [zs_at, if_true]
          by_cases q1 : b = i
          · subst q1
            rw [if_neg (by omega), if_pos rfl, if_pos (by omega)]
          · by_cases q3 : 2 * i ≤ 2 * b + 0 ∧ b < n
            · rw [if_pos q3, if_pos (by omega), if_neg (by omega)]
            · rw [if_neg q3, if_neg (by omega), if_neg q1]
        · simp only [q2, if_false, zs_at]
    · obtain ⟨i, rfl⟩ : ∃ i, j = 2 * i + 1 := ⟨j / 2, by omega⟩
      rw [show 218 + (2 * i + 1) + 2 = 218 + 2 * (i + 1) + 1 by omega, l10b μ g (i + 1) _ (by omega), show 218 + (2 * i + 1) = 218 + 2 * i + 1 by omega, s10b μ g i _ _ (by omega), show 218 + 2 * i + 1 + 1 = 218 + (2 * (i + 1)) by omega, ih (2 * (i + 1)) f _ (by omega) (by omega) (by omega) (by rw [zs_at, if_neg (by decide)]; exact hg)]
      congr 2
      funext a b
      simp only [zr_at]
      by_cases q : a = 11
      · simp only [q, if_true]
        unfold zdr
        simp only [zs_at, if_true]
        by_cases q1 : b = i
        · subst q1
          rw [if_neg (by omega), if_pos rfl, if_pos (by omega)]
        · by_cases q3 : 2 * i + 1 ≤ 2 * b + 1 ∧ b < n
          · rw [if_pos q3, if_pos (by omega), if_neg (by omega)]
          · rw [if_neg q3, if_neg (by omega), if_neg q1]
      · simp only [q, if_false]
        by_cases q2 : a = 10
        · simp only [q2, if_true]
          unfold zdr
          simp only [zs_at, show ¬ (10 : Nat) = 11 from by decide, if_false]
          by_cases q1 : 2 * i + 1 ≤ 2 * b + 0 ∧ b < n
          · rw [if_pos q1, if_pos (by omega)]
          · rw [if_neg q1, if_neg (by omega)]
        · simp only [q2, q, if_false, zs_at]
theorem b_drop {μ g : zHV} {n e : Nat} (hn : n < 8) (he : e ≤ n) (hg : g 0 17 = nI (n + 1)) : d_X8_drop (zM5 μ g) (nI e) = some (zM5 μ (zr (zr (zs g 0 17 (nI n)) 10 (zdr 0 (2 * e) n (g 10))) 11 (zdr 1 (2 * e) n (g 11)))) := by
  unfold d_X8_drop
  rw [L17, hg]
  rw [zlet_n, nI_pred, S17]
  simp only [zlet_n, nL_mul, nL_add]
  rw [q_drop μ _ n (by omega) (2 * n - 2 * e) (2 * e) zF _ rfl (by omega) (by unfold zF; omega) (by rw [zs_at, if_pos rfl, if_pos rfl])]
  have z : ∀ a, ¬ a = 0 → zs g 0 17 (nI n) a = g a := fun a ha => by funext b; rw [zs_at, if_neg ha]
  rw [z 10 (by decide), z 11 (by decide)]
/-- the class closes up its owed after the place e -/
theorem q_play (p x : Int32) (n : Nat) (hn : n < 8) : ∀ d i f e, n + 1 - i = d → 1 ≤ i → i ≤ n + 1 → d < f → e 5 0 = nI (n + 1) → lp_X0_playEarliestOf_18 p f x (nI i) e = zup (d_X5_add 6 (e 2) p 1) (fun u => zr (zs (zr (zr e 0 (zdr 0 (2 * (i - 1)) n (e 0))) 1 (zdr 1 (2 * (i - 1)) n (e 1))) 5 0 (nI n)) 2 u) (fun z => some (1, z)) := by
  intro d
  induction d with
  | zero =>
    intro i f e h1 h0 h2 h3 he
    obtain ⟨f, rfl⟩ := fu h3
    obtain rfl : i = n + 1 := by omega
    show lpB_X0_playEarliestOf_18 p (lp_X0_playEarliestOf_18 p f) x (nI (n + 1)) e = _
    unfold lpB_X0_playEarliestOf_18
    rw [he, if_pos (nI_le (Nat.le_refl _) (by omega)), zlet_n, zlet_n, nI_pred]
    have z0 : zdr 0 (2 * (n + 1 - 1)) n (e 0) = e 0 := by funext k; unfold zdr; rw [if_neg (by omega)]
    have z1 : zdr 1 (2 * (n + 1 - 1)) n (e 1) = e 1 := by funext k; unfold zdr; rw [if_neg (by omega)]
    rw [z0, z1]
    have z2 : zr (zr e 0 (e 0)) 1 (e 1) = e := by
      funext a
      rw [zr_at, zr_at]
      split
      · next q => rw [q]
      · split
        · next q => rw [q]
        · rfl
    rw [z2]
    rfl
  | succ d ih =>
    intro i f e h1 h0 h2 h3 he
    obtain ⟨f, rfl⟩ := fu (by omega : 0 < f)
    show lpB_X0_playEarliestOf_18 p (lp_X0_playEarliestOf_18 p f) x (nI i) e = _
    unfold lpB_X0_playEarliestOf_18
    have hi : nI i - 1 = nI (i - 1) := pk_sub (b := 1) h0
    rw [he, if_neg (nI_ge (by omega) (by omega)), zlet_n, r_at 8 _ i (by omega) (by decide), zcl_e, hi, r_store 8 _ (i - 1) _ (by omega) (by decide), zup_e, zlet_n, r_at 8 _ i (by omega) (by decide), zcl_e, r_store 8 _ (i - 1) _ (by omega) (by decide), zup_e, zlet_n, nI_p1, ih (i + 1) f _ (by omega) (by omega) (by omega) (by omega) (by rw [zr_at, if_neg (by decide), zr_at, if_neg (by decide)]; exact he)]
    congr 1
    funext u
    congr 2
    funext a b
    simp only [zr_at]
    by_cases q : a = 1
    · simp only [q, if_true, show ¬ (1 : Nat) = 0 from by decide, if_false]
      unfold zdr
      simp only [zu_at]
      by_cases q1 : b = i - 1
      · subst q1
        rw [if_neg (by omega), if_pos rfl, if_pos (by omega), show i - 1 + 1 = i by omega]
      · by_cases q3 : 2 * (i - 1) ≤ 2 * b + 1 ∧ b < n
        · rw [if_pos q3, if_pos (by omega), if_neg (by omega)]
        · rw [if_neg q3, if_neg (by omega), if_neg q1]
    · rw [if_neg q, if_neg q]
      by_cases q2 : a = 0
      · simp only [q2, if_true]
        unfold zdr
        simp only [zu_at, show ¬ (0 : Nat) = 1 from by decide, if_false]
        by_cases q1 : b = i - 1
        · subst q1
          rw [if_neg (by omega), if_pos rfl, if_pos (by omega), show i - 1 + 1 = i by omega]
        · by_cases q3 : 2 * (i - 1) ≤ 2 * b + 0 ∧ b < n
          · rw [if_pos q3, if_pos (by omega), if_neg (by omega)]
          · rw [if_neg q3, if_neg (by omega), if_neg q1]
      · rw [if_neg q2, if_neg q2, if_neg q2, if_neg q]
theorem zRc_drop {n T e : Nat} {v7 v8 : Nat → Int32} {c : Int32} {g10 g11 : Nat → Int32} {gc : Int32} (h : zRc (n + 1) T v7 v8 c g10 g11 gc) (he : e ≤ n) : zRc n T (zdr 0 (2 * e) n v7) (zdr 1 (2 * e) n v8) (nI n) (zdr 0 (2 * e) n g10) (zdr 1 (2 * e) n g11) (nI n) := by
  obtain ⟨h1, h2, h3, h4⟩ := h
  refine ⟨by omega, rfl, rfl, fun k hk => ?_⟩
  unfold zdr
  by_cases q : e ≤ k
  · rw [if_pos (by omega), if_pos (by omega), if_pos (by omega), if_pos (by omega)]
    exact h4 (k + 1) (by omega)
  · rw [if_neg (by omega), if_neg (by omega), if_neg (by omega), if_neg (by omega)]
    exact h4 k (by omega)
theorem zRe_n {m n n' : Nat} {v13 g15 : Nat → Int32} (h : zRe m n v13 g15) (hn : n' ≤ n) : zRe m n' v13 g15 := by
  obtain ⟨h1, h2, h3, ⟨a2, b2, c2⟩, h4⟩ := h
  exact ⟨h1, h2, h3, ⟨a2, by omega, c2⟩, h4⟩
theorem b_tail {m A T N n : Nat} {v g μ : zHV} {k : Nat} (h : zRel m A T N n v g) (hk : k < 6) : ∃ (r : Int32) (v' g' : zHV) (A' T' N' n' : Nat), (zup (d_X2_beginApplause v (nI k)) (fun u => u) fun v34 => zcl (d_X0_owedBy (zh v34 7) (nI k)) fun t42 => some (t42, v34)) = some (r, v') ∧ (zup2 (d_X8_end (zM5 μ g) (nI k)) (fun u => u) fun t60 v60 => if 0 ≤ t60 then zcl (d_X8_owes v60 (nI k)) fun t74 => some (t74, v60) else some (t60, v60)) = some (r, zM5 μ g') ∧ zRel m A' T' N' n' v' g' := by
  obtain ⟨v', g', q1, q2, q3⟩ := b_begin (μ := μ) h hk
  obtain ⟨t, t1, t2, t3⟩ := b_owes (μ := μ) q3 (nI k)
  have hA : A ≤ 9999 := h.2.2.2.2.2.2.1
  rw [q1, q2, zup_e, zup2_e, if_pos (nI_pos' (by omega)), t2, t3, zcl_e, zcl_e]
  exact ⟨_, _, _, _, _, _, _, rfl, rfl, q3⟩
theorem o_play (p : Int32) : zOp (fun v => d_X2_playEncore v p) (fun μ => d_X8_doPlay μ p) := by
  intro m A T N n v g μ hm h
  show ∃ (r : Int32) (v' g' : zHV) (A' T' N' n' : Nat), d_X2_playEncore v p = some (r, v') ∧ d_X8_doPlay (zM5 μ g) p = some (r, zM5 μ g') ∧ zRel (m + 2) A' T' N' n' v' g'
  unfold d_X2_playEncore d_X8_doPlay d_X0_playEarliestOf
  rcases perf_case p with ⟨e1, e2⟩ | ⟨k, hk, rfl, e1, e2⟩
  · rw [e1, e2]
    exact ⟨_, v, g, A, T, N, n, rfl, rfl, zRel_up (by omega) h⟩
  · rw [e1, e2, zcl_e, zcl_e, if_neg (by decide), if_neg (by decide)]
    rcases b_earl (μ := μ) h (nI k) with ⟨f1, f2⟩ | ⟨t, ht, hv, f1, f2⟩
    · rw [f1, f2, zcl_e, zcl_e, if_pos rfl, if_pos rfl, zup2_e, if_pos rfl]
      refine ⟨_, _, g, A, T, N, n, rfl, rfl, zRel_up (by omega) (zRel_cong (fun i k hk => ?_) (fun _ _ _ _ => rfl) h)⟩
      rw [zq_at]
      split
      · next q1 =>
        split
        · next q2 => rw [zh_at, show 7 + (i - 7) = i by omega]
        · rfl
      · rfl
    · obtain ⟨ha, hb, hc, hd, he, hf, hg⟩ := h
      obtain ⟨n, rfl⟩ : ∃ n', n = n' + 1 := ⟨n - 1, by omega⟩
      have hn8 : n < 8 := hc.1
      rw [f1, f2, zcl_e, zcl_e, if_neg (nI_m6 (by omega)), if_neg (nI_m6 (by omega)), zlet_n, nI_1, q_play (nI k) _ n hn8 (n + 1 - (t + 1)) (t + 1) zF _ rfl (by omega) (by omega) (by unfold zF; omega) hc.2.1, r_add 6 _ k _ hk (by decide), zup_e, zup2_e, if_neg (by decide), b_drop hn8 (by omega) hc.2.2.1]
      have hc' := zRc_drop (e := t) hc (by omega)
      have hd' := (zRd_up hd k 1).1
      rw [if_pos hk] at hd'
      have he' := zRe_add 1 (by decide) (zRe_n (n' := n) he (by omega)) (by decide)
      simp only [zup_e, zlet_n, R1_add, L10, S10, Nat.reduceLT, nL_mul, nL_add, nR_add]
      rw [l7z _ _ k _ hk, s7z _ _ k _ _ hk, L10, S10]
      refine b_tail (m := m + 2) (A := A) (T := T) (N := N) (n := n) ?_ hk
      exact zRel_up (show m + 1 ≤ m + 2 by omega) ⟨ha, zRb_up (by omega) hb, hc', hd', he', hf, hg⟩
