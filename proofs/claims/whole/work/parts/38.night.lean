/-! ===== the act: a night ends ===== -/
/-- the reference counts what is owed as lapsed, one after another -/
theorem q_nlap (P : Nat → Bool) (w : Nat → Int32) (n : Nat) (hn : n ≤ 8) (μ g0 : zHV) (hP : ∀ k, k < n → P k = true) (hw : ∀ k, k < n → ∃ p, p < 6 ∧ w k = nI p) (h10 : ∀ k, k < n → g0 10 k = w k) (R : zHV → Option (Int32 × zHV))
    (hR : ∀ g f, lp_X8_doNight_25 (f + 1) (nI n) (nI n) (zM5 μ g) = R g) :
    ∀ d i f g, n - i = d → i ≤ n → d < f → (∀ j, ¬ j = 8 → ¬ j = 15 → g j = g0 j) → g 15 = upd (g0 15) 2 (g0 15 2 + nI i) → (∀ p, p < 6 → g 8 p = g0 8 p + nI (zlp P w p i)) →
    ∃ g', lp_X8_doNight_25 f (nI n) (nI i) (zM5 μ g) = R g' ∧ (∀ j, ¬ j = 8 → ¬ j = 15 → g' j = g0 j) ∧ g' 15 = upd (g0 15) 2 (g0 15 2 + nI n) ∧ (∀ p, p < 6 → g' 8 p = g0 8 p + nI (zlp P w p n)) := by
  intro d
  induction d with
  | zero =>
    intro i f g h1 h2 h3 h4 h5 h6
    obtain ⟨f, rfl⟩ := fu h3
    obtain rfl : i = n := by omega
    exact ⟨g, hR g f, h4, h5, h6⟩
  | succ d ih =>
    intro i f g h1 h2 h3 h4 h5 h6
    obtain ⟨f, rfl⟩ := fu (by omega : 0 < f)
    obtain ⟨p, hp, hwp⟩ := hw i (by omega)
    show ∃ g', lpB_X8_doNight_25 (lp_X8_doNight_25 f) (nI n) (nI i) (zM5 μ g) = _ ∧ _
    unfold lpB_X8_doNight_25
    rw [if_neg (nI_ge (by omega) (by omega))]
    simp only [zlet_n, nL_mul, nL_add, nI_p1]
    rw [l10a μ g i _ (by omega), h4 10 (by decide) (by decide), h10 i (by omega), hwp, b_count hp, zup_e]
    refine ih (i + 1) f _ (by omega) (by omega) (by omega) (fun j j8 j15 => ?_) ?_ (fun p' hp' => ?_)
    · rw [← h4 j j8 j15]
      funext b
      rw [zs_at, if_neg j15, zs_at, if_neg j8]
    · rw [up_zs]
      show upd (g 15) 2 (g 15 2 + 1) = _
      rw [h5]
      funext b
      by_cases c : b = 2
      · subst c
        rw [pk_us, pk_us, pk_us, Int32.add_assoc, nI_1]
      · rw [pk_un c, pk_un c, pk_un c]
    · show zs g 8 p (g 8 p + 1) 8 p' = _
      rw [up_zs]
      by_cases c : p' = p
      · subst c
        rw [pk_us, h6 p' hp', Int32.add_assoc, nI_1, zlp_t ⟨hP i (by omega), hwp⟩]
      · rw [pk_un c, h6 p' hp', zlp_f (fun q => by
          have h9 := q.2
          rw [hwp] at h9
          have := (nI_eq (by omega) (by omega)).mp h9
          omega)]
/-- the records move up by one -/
theorem q_shift (μ : zHV) (R : zHV → Option zHV) (hR : ∀ g f, lp_X8_keepRecord_3 (f + 1) (nI 3) (zM5 μ g) = R g) : ∀ d f g, d ≤ 20 → d < f → lp_X8_keepRecord_3 f (nI (3 + d)) (zM5 μ g) = R (zr g 13 (fun k => if 4 ≤ k ∧ k < 4 + d then g 13 (k - 4) else g 13 k)) := by
  intro d
  induction d with
  | zero =>
    intro f g h1 h2
    obtain ⟨f, rfl⟩ := fu h2
    rw [hR g f]
    congr 1
    funext a b
    rw [zr_at]
    split
    · next q => rw [q]; exact (if_neg (by omega)).symm
    · rfl
  | succ d ih =>
    intro f g h1 h2
    obtain ⟨f, rfl⟩ := fu (by omega : 0 < f)
    show lpB_X8_keepRecord_3 (lp_X8_keepRecord_3 f) (nI (3 + (d + 1))) (zM5 μ g) = _
    unfold lpB_X8_keepRecord_3
    rw [if_neg (show ¬ nI (3 + (d + 1)) ≤ 3 from fun q => by
      have := (nI_leI (a := 3 + (d + 1)) (b := 3) (by omega) (by decide)).mp q
      omega)]
    simp only [zlet_n, nL_add, nI_m]
    rw [show (4 : Int32) = nI 4 from rfl, pk_sub (by omega), show 264 + (3 + (d + 1)) - 4 = 264 + d by omega, l13 μ g d _ (by omega), s13 μ g (3 + (d + 1)) _ _ (by omega), show 3 + (d + 1) = 3 + d + 1 by omega, nI_pred, ih f _ (by omega) (by omega)]
    congr 1
    funext a b
    rw [zr_at, zr_at]
    by_cases q : a = 13
    · rw [if_pos q, if_pos q, up_zs]
      by_cases c : b = 3 + d + 1
      · subst c
        rw [if_neg (by omega), pk_us, if_pos (by omega)]
        congr 1; omega
      · by_cases c2 : 4 ≤ b ∧ b < 4 + d
        · rw [if_pos c2, if_pos (by omega), pk_un (by omega)]
        · rw [if_neg c2, if_neg (by omega), pk_un c]
    · rw [if_neg q, if_neg q, zs_at, if_neg q]
theorem q_keep (μ : zHV) (g : zHV) (f : Nat) : lp_X8_keepRecord_38 (f + 5) (nI 0) (zM5 μ g) = lp_X8_keepRecord_38 (f + 1) (nI 4) (zM5 μ (zr (zr g 13 (fun k => if k < 4 then g 15 k else g 13 k)) 15 (fun k => if k < 4 then 0 else g 15 k))) := by
  have step : ∀ (i f : Nat) (g : zHV), i < 4 → lp_X8_keepRecord_38 (f + 1) (nI i) (zM5 μ g) = lp_X8_keepRecord_38 f (nI (i + 1)) (zM5 μ (zs (zs g 13 i (g 15 i)) 15 i 0)) := by
    intro i f g hi
    show lpB_X8_keepRecord_38 (lp_X8_keepRecord_38 f) (nI i) (zM5 μ g) = _
    unfold lpB_X8_keepRecord_38
    rw [if_neg (show ¬ (4 : Int32) ≤ nI i from nI_ge (b := 4) hi (by decide))]
    simp only [zlet_n, nL_add, nI_p1]
    rw [l15 μ g i _ hi, s13 μ g i _ _ (by omega), s15 μ _ i _ _ hi]
  rw [step 0 _ g (by decide), step 1 _ _ (by decide), step 2 _ _ (by decide), step 3 _ _ (by decide)]
  congr 2
  funext a b
  simp only [zr_at, zs_at]
  by_cases q : a = 15
  · simp only [q, if_true, Nat.reduceEqDiff, if_false]
    by_cases c3 : b = 3
    · simp [c3]
    · by_cases c2 : b = 2
      · simp [c2]
      · by_cases c1 : b = 1
        · simp [c1]
        · by_cases c0 : b = 0
          · simp [c0]
          · simp [c0, c1, c2, c3, show ¬ b < 4 by omega]
  · by_cases q2 : a = 13
    · simp only [q2, if_true, Nat.reduceEqDiff, if_false]
      by_cases c3 : b = 3
      · simp [c3]
      · by_cases c2 : b = 2
        · simp [c2]
        · by_cases c1 : b = 1
          · simp [c1]
          · by_cases c0 : b = 0
            · simp [c0]
            · simp [c0, c1, c2, c3, show ¬ b < 4 by omega]
    · simp only [q, q2, if_false]
theorem b_keep {μ g : zHV} {N : Nat} (hr : g 0 19 = nI (min N 6)) : d_X8_keepRecord (zM5 μ g) = some (zM5 μ (zs (zr (zr g 13 (fun k => if k < 4 then g 15 k else if k < 24 then g 13 (k - 4) else g 13 k)) 15 (fun k => if k < 4 then 0 else g 15 k)) 0 19 (nI (min (N + 1) 6)))) := by
  have hR : ∀ g f, g 0 19 = nI (min N 6) → lp_X8_keepRecord_38 (f + 1) (nI 4) (zM5 μ g) = some (zM5 μ (zs g 0 19 (nI (min (N + 1) 6)))) := by
    intro g f hg
    show lpB_X8_keepRecord_38 (lp_X8_keepRecord_38 f) (nI 4) (zM5 μ g) = _
    unfold lpB_X8_keepRecord_38
    rw [if_pos (by decide), L19, L19, hg]
    by_cases c : 6 ≤ N
    · rw [Nat.min_eq_right c, Nat.min_eq_right (by omega), if_pos (by decide), zlet_n, S19]; rfl
    · rw [Nat.min_eq_left (by omega), Nat.min_eq_left (by omega), if_neg (show ¬ (6 : Int32) ≤ nI N from nI_ge (b := 6) (by omega) (by decide)), zlet_n, S19, nI_1]
  unfold d_X8_keepRecord
  rw [show (23 : Int32) = nI (3 + 20) from rfl, q_shift μ (fun g => lp_X8_keepRecord_38 zF (nI 0) (zM5 μ g)) (fun g f => by
    show lpB_X8_keepRecord_3 (lp_X8_keepRecord_3 f) (nI 3) (zM5 μ g) = _
    unfold lpB_X8_keepRecord_3
    rw [if_pos (by decide)]; rfl) 20 zF g (by decide) (by decide)]
  show lp_X8_keepRecord_38 (99995 + 5) (nI 0) (zM5 μ _) = _
  rw [q_keep]
  refine (hR _ 99995 ?_).trans ?_
  · exact hr
  congr 3
  funext a b
  simp only [zr_at]
  by_cases q : a = 15
  · simp only [q, if_true]; rfl
  · by_cases q2 : a = 13
    · simp only [q2, if_true, if_false, Nat.reduceEqDiff]
      by_cases c : b < 4
      · rw [if_pos c, if_pos c]
      · rw [if_neg c, if_neg c]
        by_cases c2 : b < 24
        · rw [if_pos c2, if_pos (by omega)]
        · rw [if_neg c2, if_neg (by omega)]
    · simp only [q, q2, if_false]
theorem b_rpl {N i : Nat} (hN : N < 2147483648) (hi : i < 4) : d_X2_recordPlace (nI N) (nI i) = some (nI (N % 6 * 4 + i)) := by
  unfold d_X2_recordPlace zrm
  rw [if_neg (by decide), show (6 : Int32) = nI 6 from rfl, pk_rem hN (by decide) (by decide)]
  simp only [zlet_n]
  rw [show (4 : Int32) = nI 4 from rfl, pk_mul, nI_add]
theorem q_rows4 (x : Int32) (N : Nat) (hN : N ≤ 99) (v : zHV) (hn : v 15 2 = nI N) (f : Nat) : lp_X2_endNight_35 (f + 5) x (nI 0) v = lp_X2_endNight_35 (f + 1) x (nI 4) (zr v 14 (fun k => if 4 * (N % 6) ≤ k ∧ k < 4 * (N % 6) + 4 then v 13 (k - 4 * (N % 6)) else v 14 k)) := by
  have step : ∀ (i f : Nat) (v : zHV), i < 4 → v 15 2 = nI N → lp_X2_endNight_35 (f + 1) x (nI i) v = lp_X2_endNight_35 f x (nI (i + 1)) (zr v 14 (upd (v 14) (N % 6 * 4 + i) (v 13 i))) := by
    intro i f v hi hn
    show lpB_X2_endNight_35 (lp_X2_endNight_35 f) x (nI i) v = _
    unfold lpB_X2_endNight_35
    rw [if_neg (show ¬ (4 : Int32) ≤ nI i from nI_ge (b := 4) hi (by decide)), hn, b_rpl (by omega) hi, zcl_e, r_at 4 _ i hi (by decide), zcl_e, r_store 24 _ _ _ (by omega) (by decide), zup_e, zlet_n, nI_p1]
  rw [step 0 _ v (by decide) hn, step 1 _ _ (by decide) (by exact hn), step 2 _ _ (by decide) (by exact hn), step 3 _ _ (by decide) (by exact hn)]
  congr 1
  funext a b
  simp only [zr_at, zu_at]
  by_cases q : a = 14
  · simp only [q, if_true, show ¬ (13 : Nat) = 14 from by decide, if_false, zu_at]
    by_cases c3 : b = N % 6 * 4 + 3
    · rw [if_pos c3, if_pos (by omega), show b - 4 * (N % 6) = 3 by omega]
    · rw [if_neg c3]
      by_cases c2 : b = N % 6 * 4 + 2
      · rw [if_pos c2, if_pos (by omega), show b - 4 * (N % 6) = 2 by omega]
      · rw [if_neg c2]
        by_cases c1 : b = N % 6 * 4 + 1
        · rw [if_pos c1, if_pos (by omega), show b - 4 * (N % 6) = 1 by omega]
        · rw [if_neg c1]
          by_cases c0 : b = N % 6 * 4 + 0
          · rw [if_pos c0, if_pos (by omega), show b - 4 * (N % 6) = 0 by omega]
          · rw [if_neg c0, if_neg (by omega)]
  · simp only [q, if_false]
theorem q_seats0 (μ : zHV) (x : Int32) : ∀ d i f g, 30 - i = d → i ≤ 30 → d < f → lp_X8_doNight_101 f x (nI i) (zM5 μ g) = some (x, zM5 μ (zr (zr g 4 (zfil i 30 0 (g 4))) 5 (zfil i 30 0 (g 5)))) := by
  intro d
  induction d with
  | zero =>
    intro i f g h1 h2 h3
    obtain ⟨f, rfl⟩ := fu h3
    obtain rfl : i = 30 := by omega
    show lpB_X8_doNight_101 (lp_X8_doNight_101 f) x (nI 30) (zM5 μ g) = _
    unfold lpB_X8_doNight_101
    rw [if_pos (by decide)]
    congr 3
    funext a b
    simp only [zr_at]
    unfold zfil
    by_cases q : a = 5
    · rw [if_pos q, q, if_neg (by omega)]
    · rw [if_neg q]
      by_cases q2 : a = 4
      · rw [if_pos q2, q2, if_neg (by omega)]
      · rw [if_neg q2]
  | succ d ih =>
    intro i f g h1 h2 h3
    obtain ⟨f, rfl⟩ := fu (by omega : 0 < f)
    show lpB_X8_doNight_101 (lp_X8_doNight_101 f) x (nI i) (zM5 μ g) = _
    unfold lpB_X8_doNight_101
    rw [if_neg (show ¬ (30 : Int32) ≤ nI i from nI_ge (b := 30) (by omega) (by decide)), T3 μ g i 0 (by omega), zup_e, T4 μ _ i 0 (by omega), zup_e, zlet_n, nI_p1, ih (i + 1) f _ (by omega) (by omega) (by omega)]
    congr 3
    funext a b
    simp only [zr_at]
    unfold zfil
    simp only [zs_at, Nat.reduceEqDiff, if_true, if_false]
    by_cases q : a = 5
    · simp only [q, if_true, Nat.reduceEqDiff, if_false]
      by_cases q2 : b = i
      · rw [if_neg (by omega), if_pos q2, if_pos (by omega)]
      · by_cases q3 : i + 1 ≤ b ∧ b < 30
        · rw [if_pos q3, if_pos (by omega)]
        · rw [if_neg q3, if_neg q2, if_neg (by omega)]
    · simp only [q, if_false]
      by_cases q4 : a = 4
      · simp only [q4, if_true]
        by_cases q2 : b = i
        · rw [if_neg (by omega), if_pos q2, if_pos (by omega)]
        · by_cases q3 : i + 1 ≤ b ∧ b < 30
          · rw [if_pos q3, if_pos (by omega)]
          · rw [if_neg q3, if_neg q2, if_neg (by omega)]
      · simp only [q4, q, if_false, zs_at]
theorem o_night : zOp d_X2_endNight d_X8_doNight := by
  intro m A T N n v g μ hm h
  have h' := h
  obtain ⟨ha, hb, hc, hd, he, hf, hg⟩ := h
  obtain ⟨hA, hT, hN, ea, et, en, hby, hen, ga, gt, gn, gh, ge, gb, go⟩ := hg
  obtain ⟨c1, c2, c3, c4⟩ := hc
  unfold d_X2_endNight d_X8_doNight
  rw [L8, gn, en]
  by_cases hN9 : N = 99
  · subst hN9
    rw [if_neg (by decide), if_pos (by decide)]
    exact ⟨_, v, g, A, T, 99, n, rfl, rfl, zRel_up (by omega) h'⟩
  · rw [if_pos (show nI N < 99 from nI_lt (b := 99) (by omega) (by decide)), if_neg (show ¬ nI N = 99 from fun q => hN9 ((nI_eq (b := 99) (by omega) (by decide)).mp q)), L17, c3, et]
    have hw : ∀ k, k < n → ∃ p, p < 6 ∧ v 7 k = nI p := fun k hk => (c4 k hk).2.2.1
    obtain ⟨e', f1, f2, f3, f4, f5, f6⟩ := q_laps (fun _ => true) (v 7) (v 8) (nI T) n c1 (zh v 7) (fun k hk => by
      obtain ⟨-, -, -, t, ht, e⟩ := c4 k hk
      rw [e]
      exact ⟨fun _ => nI_nlt ht (by omega), fun _ => rfl⟩) hw n 0 zF (zh v 7) rfl (Nat.zero_le n) (by unfold zF; omega) c2 (fun k _ _ => ⟨rfl, rfl⟩) (fun k hk => by omega) rfl rfl (fun p hp => by
      show _ = _ + nI 0
      rw [show nI 0 = 0 from rfl, Int32.add_zero])
    rw [zkc_all n (fun _ _ => rfl), Nat.sub_zero] at f1
    rw [zkc_all n (fun _ _ => rfl)] at f2
    have f1 : d_X0_lapseSince (zh v 7) (nI T) = some (nI n, e') := f1
    obtain ⟨g', r1, r2, r3, r4⟩ := q_nlap (fun _ => true) (v 7) n c1 μ g (fun _ _ => rfl) hw (fun k hk => (c4 k hk).1) (fun g => zsv 288 (zM5 μ g) 0 17 0 fun v59 => zup (d_X8_keepRecord v59) (fun u => u) fun v61 => zsv 288 v61 0 6 0 fun v71 => zsv 288 v71 0 13 0 fun v79 => zsv 288 v79 0 18 0 fun v87 => zld 288 (v87 0) 8 fun t95 => zlet (t95 + 1) fun t97 => zsv 288 v87 0 8 t97 fun v98 => lp_X8_doNight_101 zF (nI n) 0 v98) (fun g f => by
      show lpB_X8_doNight_25 (lp_X8_doNight_25 f) (nI n) (nI n) (zM5 μ g) = _
      unfold lpB_X8_doNight_25
      rw [if_pos (nI_le (Nat.le_refl n) (by omega))]) n 0 zF g rfl (Nat.zero_le n) (by unfold zF; omega) (fun _ _ _ => rfl) (by
      rw [show nI 0 = 0 from rfl, Int32.add_zero]
      funext b
      by_cases c : b = 2
      · rw [c, pk_us]
      · rw [pk_un c]) (fun p hp => by
      show _ = _ + nI 0
      rw [show nI 0 = 0 from rfl, Int32.add_zero])
    rw [show lp_X8_doNight_25 zF (nI n) 0 (zM5 μ g) = lp_X8_doNight_25 zF (nI n) (nI 0) (zM5 μ g) from rfl, r1]
    have z : ∀ (g : zHV) (i k : Nat) (x : Int32) (j : Nat), ¬ j = i → zs g i k x j = g j := fun g i k x j hj => by funext b; rw [zs_at, if_neg hj]
    rw [S17, b_keep (N := N) (by
      show zs g' 0 17 0 0 19 = _
      rw [zs_at, if_pos rfl, if_neg (by decide), r2 0 (by decide) (by decide)]
      exact hf.1), zup_e, S6, S13, S18, L8]
    simp only [zlet_n]
    rw [S8, show lp_X8_doNight_101 zF (nI n) 0 _ = lp_X8_doNight_101 zF (nI n) (nI 0) _ from rfl, q_seats0 μ (nI n) 30 0 zF _ rfl (by decide) (by decide)]
    rw [f1, zup2_e, R2_add _ _ _ (by decide) (by decide), zup_e]
    rw [show lp_X2_endNight_35 zF (nI n) 0 (zr (zq v 7 6 e') 13 (upd (zq v 7 6 e' 13) 2 (zq v 7 6 e' 13 2 + nI n))) = lp_X2_endNight_35 (99995 + 5) (nI n) (nI 0) (zr (zq v 7 6 e') 13 (upd (v 13) 2 (v 13 2 + nI n))) from rfl, q_rows4 (nI n) N hN _ (by exact en)]
    have tail : ∀ (V : zHV) (f : Nat), V 15 2 = nI N → lp_X2_endNight_35 (f + 1) (nI n) (nI 4) V = some (nI n, zs (zs (zq (zr (zs V 15 2 (nI (N + 1))) 13 (zfil 0 4 0 (V 13))) 1 6 (zs (zr (zs (zh (zr (zs V 15 2 (nI (N + 1))) 13 (zfil 0 4 0 (V 13))) 1) 5 2 0) 2 (zfil 0 30 0 (V 3))) 5 0 0)) 15 0 0) 15 3 (-6)) := by
      intro V f hV
      show lpB_X2_endNight_35 (lp_X2_endNight_35 f) (nI n) (nI 4) V = _
      unfold lpB_X2_endNight_35 d_X6_beginNight
      rw [if_pos (by decide), hV]
      simp only [zlet_n]
      rw [nI_1, r_fill 4 _ _ (by decide), zup_e, r_fill 30 _ _ (by decide), zup_e, zup_e]
      rfl
    rw [tail _ _ (by exact en)]
    refine ⟨_, _, _, 0, T, N + 1, 0, rfl, rfl, ?_, ?_, ?_, ?_, ?_, ?_, ?_⟩
    · show zRa (v 0) (g' 14)
      rw [r2 14 (by decide) (by decide)]; exact ha
    · show zRb (m + 2) (v 1) (v 2) (zfil 0 30 0 (v 3)) (v 4) (v 5) 0 (v 6 1) 0 (g' 1) (g' 2) (g' 3) (zfil 0 30 0 (g' 4)) (zfil 0 30 0 (g' 5)) (g' 6) (g' 12) 0
      rw [r2 1 (by decide) (by decide), r2 2 (by decide) (by decide), r2 3 (by decide) (by decide), r2 4 (by decide) (by decide), r2 5 (by decide) (by decide), r2 6 (by decide) (by decide), r2 12 (by decide) (by decide)]
      have hz : zcn (zfil 0 30 0 (v 3)) 30 = 0 := zcn_0 30 (fun k hk => by unfold zfil; rw [if_pos (by omega)])
      refine ⟨fun k hk => ?_, hb.2.1, by rw [hz]; rfl, rfl, fun k hk => by rw [hz] at hk; omega⟩
      obtain ⟨q1, q2, q3, q4, q5, q6, q7, q8⟩ := hb.1 k hk
      refine ⟨q1, q2, q3, ?_, ?_, q6, q7, 0, by omega, ?_⟩
      · unfold zfil; rw [if_pos (by omega), if_pos (by omega)]
      · unfold zfil; rw [if_pos (by omega), zb_0]
      · unfold zfil; rw [if_pos (by omega)]; rfl
    · exact ⟨by decide, f2, rfl, fun k hk => by omega⟩
    · show zRd (e' 2) (e' 3) (e' 4) (g' 7) (g' 8) (g' 9)
      rw [r2 7 (by decide) (by decide), r2 9 (by decide) (by decide)]
      intro k hk
      obtain ⟨d1, d2, d3⟩ := hd k hk
      rw [f4, f5, f6 k hk, r4 k hk]
      exact ⟨d1, by rw [d2]; rfl, d3⟩
    · show zRe (m + 2) 0 (zfil 0 4 0 _) (fun k => if k < 4 then 0 else g' 15 k)
      refine ⟨fun k hk => ?_, ⟨0, by omega, rfl⟩, ⟨0, by omega, rfl⟩, ⟨0, by omega, rfl⟩, 0, by omega, rfl⟩
      unfold zfil
      dsimp only
      rw [if_pos hk, if_pos (by omega)]
    · show zRf (N + 1) (fun k => if 4 * (N % 6) ≤ k ∧ k < 4 * (N % 6) + 4 then upd (v 13) 2 (v 13 2 + nI n) (k - 4 * (N % 6)) else v 14 k) (fun k => if k < 4 then g' 15 k else if k < 24 then g' 13 (k - 4) else g' 13 k) (nI (min (N + 1) 6))
      refine ⟨rfl, fun r i hr hi => ?_⟩
      have e13 : g' 15 i = upd (v 13) 2 (v 13 2 + nI n) i := by
        rw [r3]
        by_cases c : i = 2
        · subst c; rw [pk_us, pk_us, he.1 2 hi]
        · rw [pk_un c, pk_un c, he.1 i hi]
      by_cases c : r = 0
      · subst c
        show (if 4 * 0 + i < 4 then g' 15 (4 * 0 + i) else _) = (if 4 * (N % 6) ≤ 4 * ((N + 1 - 1 - 0) % 6) + i ∧ 4 * ((N + 1 - 1 - 0) % 6) + i < 4 * (N % 6) + 4 then _ else _)
        rw [show N + 1 - 1 - 0 = N by omega, if_pos (by omega), if_pos (by omega), show 4 * 0 + i = i by omega, show 4 * (N % 6) + i - 4 * (N % 6) = i by omega]
        exact e13
      · obtain ⟨r, rfl⟩ : ∃ k, r = k + 1 := ⟨r - 1, by omega⟩
        have h6 := hf.2 r i (by omega) hi
        show (if 4 * (r + 1) + i < 4 then _ else if 4 * (r + 1) + i < 24 then g' 13 (4 * (r + 1) + i - 4) else _) = (if 4 * (N % 6) ≤ 4 * ((N + 1 - 1 - (r + 1)) % 6) + i ∧ 4 * ((N + 1 - 1 - (r + 1)) % 6) + i < 4 * (N % 6) + 4 then _ else v 14 (4 * ((N + 1 - 1 - (r + 1)) % 6) + i))
        rw [if_neg (by omega), if_pos (by omega), if_neg (by omega), r2 13 (by decide) (by decide), show 4 * (r + 1) + i - 4 = 4 * r + i by omega, show N + 1 - 1 - (r + 1) = N - 1 - r by omega]
        exact h6
    · refine ⟨by decide, hT, by omega, rfl, et, rfl, Or.inl rfl, hen, rfl, ?_, ?_, rfl, ?_, fun q => absurd rfl q, ?_⟩
      · show g' 0 7 = nI T
        rw [r2 0 (by decide) (by decide)]; exact gt
      · show g' 0 8 + 1 = nI (N + 1)
        rw [r2 0 (by decide) (by decide), gn, nI_1]
      · show g' 0 14 = v 15 4
        rw [r2 0 (by decide) (by decide)]; exact ge
      · show g' 0 16 = v 15 5
        rw [r2 0 (by decide) (by decide)]; exact go
