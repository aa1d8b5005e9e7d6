/-! ===== the act: the night ends ===== -/
/-- what the law's own numbers are behind a night -/
def zNq (q : Nat → Int32) (x : Int32) : Nat → Int32 := upd (upd (upd (upd (upd (upd q 6 0) 8 (q 8 + 1)) 13 (-1)) 16 0) 17 0) 18 x
theorem n_100 (w : Nat → Int32) (x : Int32) (q p c : Nat → Int32) {K : Nat} (hK : K ≤ 6) (hq : q 18 = nI K) : ∀ d i f a nn, 30 - i = d → i ≤ 30 → d < f → lp_L_nights_100 w f x (nI i) q a nn p c = some (x, zNq q (nI (min (K + 1) 6)), zmk i a, zfil i 30 0 nn, p, c) := by
  intro d
  induction d with
  | zero =>
    intro i f a nn h1 h2 h3
    obtain ⟨f, rfl⟩ := fu h3
    obtain rfl : i = 30 := by omega
    have z : zfil 30 30 0 nn = nn := by funext k; unfold zfil; rw [if_neg (by omega)]
    rw [zmk_30, z]
    show lpB_L_nights_100 w (lp_L_nights_100 w f) x (nI 30) q a nn p c = _
    unfold lpB_L_nights_100
    rw [if_pos (by decide)]
    simp only [V6, Q8, zlet_n, V8, V13, V16, V17, Q18, V18]
    have e18 : upd (upd (upd (upd (upd q 6 0) 8 (upd q 6 0 8 + 1)) 13 (-1)) 16 0) 17 0 18 = nI K := hq
    rw [e18]
    by_cases c6 : K = 6
    · subst c6
      rw [if_pos (by decide)]
      rfl
    · rw [if_neg (show ¬ (6 : Int32) ≤ nI K from nI_ge (b := 6) (by omega) (by decide)), nI_1, Nat.min_eq_left (by omega)]
      rfl
  | succ d ih =>
    intro i f a nn h1 h2 h3
    obtain ⟨f, rfl⟩ := fu (by omega : 0 < f)
    show lpB_L_nights_100 w (lp_L_nights_100 w f) x (nI i) q a nn p c = _
    unfold lpB_L_nights_100
    rw [if_neg (show ¬ (30 : Int32) ≤ nI i from nI_ge (b := 30) (by omega) (by decide)), zst_nI (by omega) (by decide), zld_nI (by omega) (by decide), zlet_n, zst_nI (by omega) (by decide), zlet_n, nI_p1, ih (i + 1) f _ _ (by omega) (by omega) (by omega), zmk_s (by omega)]
    have z2 : zfil (i + 1) 30 0 (upd nn i 0) = zfil i 30 0 nn := by
      funext k
      unfold zfil
      by_cases c : k = i
      · subst c
        rw [if_neg (by omega), pk_us, if_pos (by omega)]
      · rw [pk_un c]
        by_cases c2 : i + 1 ≤ k ∧ k < 30
        · rw [if_pos c2, if_pos (by omega)]
        · rw [if_neg c2, if_neg (by omega)]
    rw [z2]
theorem n_65 (w : Nat → Int32) (x : Int32) (q a nn p c : Nat → Int32) (f : Nat) : lp_L_nights_65 w (f + 5) x (nI 0) q a nn p c = lp_L_nights_100 w zF x 0 (fun k => if 9 ≤ k ∧ k < 13 then 0 else q k) a nn p (fun k => if k < 4 then q (9 + k) else c k) := by
  have step : ∀ (i f : Nat) (q c : Nat → Int32), i < 4 → lp_L_nights_65 w (f + 1) x (nI i) q a nn p c = lp_L_nights_65 w f x (nI (i + 1)) (upd q (9 + i) 0) a nn p (upd c i (q (9 + i))) := by
    intro i f q c hi
    show lpB_L_nights_65 w (lp_L_nights_65 w f) x (nI i) q a nn p c = _
    unfold lpB_L_nights_65
    rw [if_neg (show ¬ (4 : Int32) ≤ nI i from nI_ge (b := 4) hi (by decide)), zlet_n, show (9 : Int32) + nI i = nI (9 + i) from nL_add 9 i, zld_nI (by omega) (by decide), zst_nI (by omega) (by decide), zlet_n, zst_nI (by omega) (by decide), zlet_n, nI_p1]
  rw [step 0 _ _ _ (by decide), step 1 _ _ _ (by decide), step 2 _ _ _ (by decide), step 3 _ _ _ (by decide)]
  show lpB_L_nights_65 w (lp_L_nights_65 w f) x (nI 4) _ a nn p _ = _
  unfold lpB_L_nights_65
  rw [if_pos (by decide)]
  congr 1
  · funext k
    simp only [zu_at]
    by_cases c0 : k = 9
    · subst c0; rfl
    · by_cases c1 : k = 10
      · subst c1; rfl
      · by_cases c2 : k = 11
        · subst c2; rfl
        · by_cases c3 : k = 12
          · subst c3; rfl
          · rw [if_neg (by omega), if_neg (by omega), if_neg (by omega), if_neg (by omega), if_neg (by omega)]
  · funext k
    simp only [zu_at]
    by_cases c0 : k = 0
    · subst c0; rfl
    · by_cases c1 : k = 1
      · subst c1; rfl
      · by_cases c2 : k = 2
        · subst c2; rfl
        · by_cases c3 : k = 3
          · subst c3; rfl
          · rw [if_neg (by omega), if_neg (by omega), if_neg (by omega), if_neg (by omega), if_neg (by omega)]
theorem n_38 (w : Nat → Int32) (x : Int32) (q a nn p : Nat → Int32) : ∀ d f c, d ≤ 20 → d < f → lp_L_nights_38 w f x (nI (3 + d)) q a nn p c = lp_L_nights_65 w zF x 0 q a nn p (fun k => if 4 ≤ k ∧ k < 4 + d then c (k - 4) else c k) := by
  intro d
  induction d with
  | zero =>
    intro f c h1 h2
    obtain ⟨f, rfl⟩ := fu h2
    show lpB_L_nights_38 w (lp_L_nights_38 w f) x (nI 3) q a nn p c = _
    unfold lpB_L_nights_38
    rw [if_pos (by decide)]
    congr 1
    funext k
    rw [if_neg (by omega)]
  | succ d ih =>
    intro f c h1 h2
    obtain ⟨f, rfl⟩ := fu (by omega : 0 < f)
    show lpB_L_nights_38 w (lp_L_nights_38 w f) x (nI (3 + (d + 1))) q a nn p c = _
    unfold lpB_L_nights_38
    rw [if_neg (show ¬ nI (3 + (d + 1)) ≤ 3 from nI_ge (a := 3) (by omega) (by omega)), show nI (3 + (d + 1)) - 4 = nI d from by rw [show (4 : Int32) = nI 4 from rfl, pk_sub (by omega)]; congr 1; omega, zlet_n, zld_nI (by omega) (by decide), zst_nI (by omega) (by decide), zlet_n, nI_m, show 3 + (d + 1) = (3 + d) + 1 by omega, nI_pred, ih f _ (by omega) (by omega)]
    congr 1
    funext k
    by_cases c1 : k = 3 + d + 1
    · subst c1
      rw [if_neg (by omega), pk_us, if_pos (by omega), show 3 + d + 1 - 4 = d by omega]
    · by_cases c2 : 4 ≤ k ∧ k < 4 + d
      · rw [if_pos c2, if_pos (by omega), pk_un (by omega)]
      · rw [if_neg c2, if_neg (by omega), pk_un c1]
theorem n_9 (w a nn c : Nat → Int32) (W : Nat → Int32) (n : Nat) (hn : n ≤ 8) (q0 p0 : Nat → Int32) (hw : ∀ k, k < n → w (2 * k) = W k ∧ ∃ r, r < 6 ∧ W k = nI r) : ∀ d i f q p, n - i = d → i ≤ n → d < f → (∀ j, ¬ j = 11 → q j = q0 j) → q 11 = q0 11 + nI i → (∀ r, r < 6 → p (3 * r) = p0 (3 * r) ∧ p (3 * r + 1) = p0 (3 * r + 1) + nI (zlp (fun _ => true) W r i) ∧ p (3 * r + 2) = p0 (3 * r + 2)) →
    ∃ q' p', lp_L_nights_9 w f (nI n) (nI i) q a nn p c = lp_L_nights_38 w zF (nI n) 23 q' a nn p' c ∧ (∀ j, ¬ j = 11 → q' j = q0 j) ∧ q' 11 = q0 11 + nI n ∧ ∀ r, r < 6 → p' (3 * r) = p0 (3 * r) ∧ p' (3 * r + 1) = p0 (3 * r + 1) + nI (zlp (fun _ => true) W r n) ∧ p' (3 * r + 2) = p0 (3 * r + 2) := by
  intro d
  induction d with
  | zero =>
    intro i f q p h1 h2 h3 h4 h5 h6
    obtain ⟨f, rfl⟩ := fu h3
    obtain rfl : i = n := by omega
    refine ⟨q, p, ?_, h4, h5, h6⟩
    show lpB_L_nights_9 w (lp_L_nights_9 w f) (nI i) (nI i) q a nn p c = _
    unfold lpB_L_nights_9
    rw [if_pos (nI_le (Nat.le_refl _) (by omega))]
  | succ d ih =>
    intro i f q p h1 h2 h3 h4 h5 h6
    obtain ⟨f, rfl⟩ := fu (by omega : 0 < f)
    obtain ⟨hw1, r, hr, hwr⟩ := hw i (by omega)
    show ∃ q' p', lpB_L_nights_9 w (lp_L_nights_9 w f) (nI n) (nI i) q a nn p c = _ ∧ _
    unfold lpB_L_nights_9
    rw [if_neg (nI_ge (by omega) (by omega)), zlet_n, show (2 : Int32) * nI i = nI (2 * i) from nL_mul 2 _, zld_nI (by omega) (by decide), hw1, hwr, e_lapses q p hr, zup_e, zlet_n, nI_p1]
    refine ih (i + 1) f _ _ (by omega) (by omega) (by omega) (fun j hj => ?_) ?_ (fun r' hr' => ?_)
    · exact (pk_un hj).trans (h4 j hj)
    · show upd q 11 (q 11 + 1) 11 = _
      rw [pk_us, h5, Int32.add_assoc, nI_1]
    · obtain ⟨g1, g2, g3⟩ := h6 r' hr'
      refine ⟨(pk_un (by omega)).trans g1, ?_, (pk_un (by omega)).trans g3⟩
      show upd p (3 * r + 1) (p (3 * r + 1) + 1) (3 * r' + 1) = _
      by_cases c : r' = r
      · subst c
        rw [pk_us, g2, zlp_t ⟨rfl, hwr⟩, Int32.add_assoc, nI_1]
      · rw [pk_un (by omega), g2, zlp_f (fun z => by
          have h9 := z.2
          rw [hwr] at h9
          have := (nI_eq (by omega) (by omega)).mp h9
          omega)]
theorem o_night {m A T N n : Nat} {v : zHV} {q a e nn t p w r c : Nat → Int32} (h : zLR m A T N n v (z9 q a e nn t p w r c)) (hN9 : N < 99) : ∃ x v' q' a' nn' p' c', d_X2_endNight v = some (x, v') ∧ d_L_nights q a nn p w c = some (x, q', a', nn', p', c') ∧ zOut m T N x v' (z9 q a e nn t p w r c) (z9 q' a' e nn' t p' w r c') := by
  obtain ⟨ha, hb, hc, hd, he, hf, hg⟩ := zLR_9.mp h
  obtain ⟨hA, hT, hN, ea, et, en, hby, hen, ga, gt, gn, gh, ge, go⟩ := hg
  obtain ⟨c1, c2, c3, c4⟩ := hc
  have hw : ∀ k, k < n → ∃ p, p < 6 ∧ v 7 k = nI p := fun k hk => (c4 k hk).2.2.1
  obtain ⟨e', f1, f2, f3, f4, f5, f6⟩ := q_laps (fun _ => true) (v 7) (v 8) (nI T) n c1 (zh v 7) (fun k hk => by
    obtain ⟨-, -, -, t, ht, e⟩ := c4 k hk
    rw [e]
    exact ⟨fun _ => nI_nlt ht (by omega), fun _ => rfl⟩) hw n 0 zF (zh v 7) rfl (Nat.zero_le n) (by unfold zF; omega) c2 (fun k _ _ => ⟨rfl, rfl⟩) (fun k hk => by omega) rfl rfl (fun p hp => by
    show _ = _ + nI 0
    rw [show nI 0 = 0 from rfl, Int32.add_zero])
  rw [zkc_all n (fun _ _ => rfl), Nat.sub_zero] at f1
  rw [zkc_all n (fun _ _ => rfl)] at f2
  have f1 : d_X0_lapseSince (zh v 7) (nI T) = some (nI n, e') := f1
  obtain ⟨q1, p1, r1, r2, r3, r4⟩ := n_9 w a nn c (v 7) n c1 q p (fun k hk => ⟨(c4 k hk).1, hw k hk⟩) n 0 zF q p rfl (Nat.zero_le n) (by unfold zF; omega) (fun _ _ => rfl) (by rw [show nI 0 = 0 from rfl, Int32.add_zero]) (fun r hr => ⟨rfl, by
    show _ = _ + nI 0
    rw [show nI 0 = 0 from rfl, Int32.add_zero], rfl⟩)
  have hL : d_L_nights q a nn p w c = some (nI n, zNq (fun k => if 9 ≤ k ∧ k < 13 then 0 else q1 k) (nI (min (min N 6 + 1) 6)), zmk 0 a, zfil 0 30 0 nn, p1, fun k => if k < 4 then q1 (9 + k) else if 4 ≤ k ∧ k < 24 then c (k - 4) else c k) := by
    unfold d_L_nights
    rw [Q16, c3]
    rw [show lp_L_nights_9 w zF (nI n) 0 q a nn p c = lp_L_nights_9 w zF (nI n) (nI 0) q a nn p c from rfl, r1]
    rw [show lp_L_nights_38 w zF (nI n) 23 q1 a nn p1 c = lp_L_nights_38 w zF (nI n) (nI (3 + 20)) q1 a nn p1 c from rfl, n_38 w (nI n) q1 a nn p1 20 zF c (Nat.le_refl _) (by decide)]
    rw [show ∀ c, lp_L_nights_65 w zF (nI n) 0 q1 a nn p1 c = lp_L_nights_65 w (99995 + 5) (nI n) (nI 0) q1 a nn p1 c from fun _ => rfl, n_65]
    rw [show ∀ q c, lp_L_nights_100 w zF (nI n) 0 q a nn p1 c = lp_L_nights_100 w zF (nI n) (nI 0) q a nn p1 c from fun _ _ => rfl, n_100 w (nI n) _ p1 _ (K := min N 6) (by omega) (by
      show (if 9 ≤ 18 ∧ 18 < 13 then (0 : Int32) else q1 18) = _
      rw [if_neg (by omega), r2 18 (by decide)]; exact hf.1) 30 0 zF a nn rfl (by decide) (by decide)]
  have tail : ∀ (V : zHV) (f : Nat), V 15 2 = nI N → lp_X2_endNight_35 (f + 1) (nI n) (nI 4) V = some (nI n, zs (zs (zq (zr (zs V 15 2 (nI (N + 1))) 13 (zfil 0 4 0 (V 13))) 1 6 (zs (zr (zs (zh (zr (zs V 15 2 (nI (N + 1))) 13 (zfil 0 4 0 (V 13))) 1) 5 2 0) 2 (zfil 0 30 0 (V 3))) 5 0 0)) 15 0 0) 15 3 (-6)) := by
    intro V f hV
    show lpB_X2_endNight_35 (lp_X2_endNight_35 f) (nI n) (nI 4) V = _
    unfold lpB_X2_endNight_35 d_X6_beginNight
    rw [if_pos (by decide), hV]
    simp only [zlet_n]
    rw [nI_1, r_fill 4 _ _ (by decide), zup_e, r_fill 30 _ _ (by decide), zup_e, zup_e]
    rfl
  have hC : d_X2_endNight v = some (nI n, (fun V : zHV => zs (zs (zq (zr (zs V 15 2 (nI (N + 1))) 13 (zfil 0 4 0 (V 13))) 1 6 (zs (zr (zs (zh (zr (zs V 15 2 (nI (N + 1))) 13 (zfil 0 4 0 (V 13))) 1) 5 2 0) 2 (zfil 0 30 0 (V 3))) 5 0 0)) 15 0 0) 15 3 (-6)) (zr (zr (zq v 7 6 e') 13 (upd (v 13) 2 (v 13 2 + nI n))) 14 (fun k => if 4 * (N % 6) ≤ k ∧ k < 4 * (N % 6) + 4 then upd (v 13) 2 (v 13 2 + nI n) (k - 4 * (N % 6)) else v 14 k))) := by
    unfold d_X2_endNight
    rw [en, if_pos (show nI N < 99 from nI_lt (b := 99) (by omega) (by decide)), et, f1, zup2_e, R2_add _ _ _ (by decide) (by decide), zup_e]
    rw [show lp_X2_endNight_35 zF (nI n) 0 (zr (zq v 7 6 e') 13 (upd (zq v 7 6 e' 13) 2 (zq v 7 6 e' 13 2 + nI n))) = lp_X2_endNight_35 (99995 + 5) (nI n) (nI 0) (zr (zq v 7 6 e') 13 (upd (v 13) 2 (v 13 2 + nI n))) from rfl, q_rows4 (nI n) N hN _ (by exact en)]
    rw [tail _ _ (by exact en)]
    rfl
  refine ⟨nI n, _, _, _, _, _, _, hC, hL, zOut_of 0 T (N + 1) 0 (Nat.le_refl (m + 2)) (zLR_9.mpr ⟨?_, ?_, ?_, ?_, ?_, ?_, ?_⟩) (nI_pos (by omega)) (by omega) (by omega)⟩
  · refine zRa_q ha (fun k hk => ?_)
    unfold zNq
    rw [pk_un (by omega), pk_un (by omega), pk_un (by omega), pk_un (by omega), pk_un (by omega), pk_un (by omega), if_neg (by omega), r2 k (by omega)]
  · show zLb (m + 2) (v 1) (v 2) (zfil 0 30 0 (v 3)) (v 4) (v 5) 0 (v 6 1) 0 (zmk 0 a) e (zfil 0 30 0 nn) t r 0
    have hz : zcn (zfil 0 30 0 (v 3)) 30 = 0 := zcn_0 30 (fun k hk => by unfold zfil; rw [if_pos (by omega)])
    refine ⟨fun k hk => ?_, hb.2.1, by rw [hz]; rfl, rfl, fun k hk => by rw [hz] at hk; omega⟩
    obtain ⟨⟨lo, l1, l2, l3, l4⟩, g3, g4, g5, g6⟩ := hb.1 k hk
    refine ⟨⟨lo, l1, l2, l3, ?_⟩, g3, ?_, g5, 0, by omega, ?_⟩
    · rw [zmk_at hk, l4, ac_31 lo (by omega), bit_0]
    · unfold zfil; rw [if_pos (by omega), if_pos (by omega)]
    · unfold zfil; rw [if_pos (by omega)]; rfl
  · exact ⟨by decide, f2, rfl, fun k hk => by omega⟩
  · intro k hk
    obtain ⟨d1, d2, d3⟩ := hd k hk
    obtain ⟨g1, g2, g3⟩ := r4 k hk
    show p1 (3 * k) = e' 2 k ∧ p1 (3 * k + 1) = e' 3 k ∧ p1 (3 * k + 2) = e' 4 k
    rw [f4, f5, f6 k hk, g1, g2, g3]
    refine ⟨d1, ?_, d3⟩
    show p (3 * k + 1) + _ = v 10 k + _
    exact congrArg (· + nI (zlp (fun _ => true) (v 7) k n)) d2
  · intro k hk
    show zNq _ _ (9 + k) = zfil 0 4 0 _ k
    unfold zNq zfil
    rw [if_pos (show 0 ≤ k ∧ k < 4 by omega)]
    by_cases c4 : k = 3
    · subst c4; rfl
    · rw [pk_un (by omega), pk_un (by omega), pk_un (by omega), pk_un (by omega), pk_un (by omega), pk_un (by omega), if_pos (by omega)]
  · show zRf (N + 1) (fun k => if 4 * (N % 6) ≤ k ∧ k < 4 * (N % 6) + 4 then upd (v 13) 2 (v 13 2 + nI n) (k - 4 * (N % 6)) else v 14 k) (fun k => if k < 4 then q1 (9 + k) else if 4 ≤ k ∧ k < 24 then c (k - 4) else c k) (nI (min (min N 6 + 1) 6))
    refine ⟨by congr 1; omega, fun r i hr hi => ?_⟩
    have e13 : q1 (9 + i) = upd (v 13) 2 (v 13 2 + nI n) i := by
      by_cases c : i = 2
      · subst c; rw [pk_us, r3, ← he 2 hi]
      · rw [pk_un c, r2 _ (by omega), he i hi]
    by_cases cz : r = 0
    · subst cz
      show (if 4 * 0 + i < 4 then q1 (9 + (4 * 0 + i)) else _) = (if 4 * (N % 6) ≤ 4 * ((N + 1 - 1 - 0) % 6) + i ∧ 4 * ((N + 1 - 1 - 0) % 6) + i < 4 * (N % 6) + 4 then _ else _)
      rw [show N + 1 - 1 - 0 = N by omega, if_pos (by omega), if_pos (by omega), show 4 * 0 + i = i by omega, show 4 * (N % 6) + i - 4 * (N % 6) = i by omega]
      exact e13
    · obtain ⟨r, rfl⟩ : ∃ k, r = k + 1 := ⟨r - 1, by omega⟩
      have h6 := hf.2 r i (by omega) hi
      show (if 4 * (r + 1) + i < 4 then _ else if 4 ≤ 4 * (r + 1) + i ∧ 4 * (r + 1) + i < 24 then c (4 * (r + 1) + i - 4) else _) = (if 4 * (N % 6) ≤ 4 * ((N + 1 - 1 - (r + 1)) % 6) + i ∧ 4 * ((N + 1 - 1 - (r + 1)) % 6) + i < 4 * (N % 6) + 4 then _ else v 14 (4 * ((N + 1 - 1 - (r + 1)) % 6) + i))
      rw [if_neg (by omega), if_pos (by omega), if_neg (by omega), show 4 * (r + 1) + i - 4 = 4 * r + i by omega, show N + 1 - 1 - (r + 1) = N - 1 - r by omega]
      exact h6
  · refine ⟨by decide, hT, by omega, rfl, et, rfl, Or.inl rfl, hen, rfl, ?_, ?_, fun _ => rfl, fun z => absurd rfl z, ?_⟩
    · show q1 7 = nI T
      rw [r2 7 (by decide)]; exact gt
    · show q1 8 + 1 = nI (N + 1)
      rw [r2 8 (by decide), gn, nI_1]
    · show q1 15 = v 15 5
      rw [r2 15 (by decide)]; exact go
