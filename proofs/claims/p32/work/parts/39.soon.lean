/-! ===== the forecasts, and what the law says of a seat ===== -/
theorem ring1 (a b c d : Int32) : a - b + c - d = (a + c) - (b + d) := by grind
theorem ring2 (a b c : Int32) : a - (b - c) = a - b + c := by grind
theorem zjn_p {σ γ : Type} {F : σ} {K : σ → Option γ} {r : Option γ} (P : σ → Prop) (hF : P F) (hK : ∀ j, P j → K j = r) : zjn F K = r := (zjn_e F K).trans (hK F hF)
theorem e_low (x : Int32) {m : Nat} (h0 : 0 < m) (hm : m < 2147483648) : ∃ y, y < m ∧ d_L_low x (nI m) = some (nI y) := by
  obtain ⟨z, hz, ez⟩ : ∃ z, z < 2147483648 ∧ x &&& 2147483647 = nI z := by
    have hlt : (x &&& 2147483647).toBitVec.toNat < 2147483648 := by
      rw [Int32.toBitVec_and, BitVec.toNat_and]
      exact Nat.lt_of_le_of_lt Nat.and_le_right (by decide)
    refine ⟨(x &&& 2147483647).toBitVec.toNat, hlt, ?_⟩
    apply Int32.toBitVec_inj.mp
    apply BitVec.eq_of_toNat_eq
    rw [pk_tn (by omega)]
  refine ⟨z % m, Nat.mod_lt _ h0, ?_⟩
  unfold d_L_low
  rw [ez, zlet_n, zrm_nI hz h0 hm]
theorem zdv_ne {γ : Type} {x y : Int32} {K : Int32 → Option γ} (h : ¬ y = 0) : zdv x y K = K (x / y) := by
  unfold zdv
  rw [if_neg h]
/-- a quotient that is not positive -/
theorem div_le0 {a b G : Nat} (ha : a < 100000) (hb : b < 100000) (hG : 0 < G) (hG9 : G < 100000) (h : (a : Int) - b < G) : ¬ 1 ≤ (nI a - nI b) / nI G := by
  intro q
  have e1 : (1 : Int32).toInt ≤ ((nI a - nI b) / nI G).toInt := Int32.le_iff_toInt_le.mp q
  have hne : ¬ nI G = -1 := fun z => by
    have h2 := congrArg Int32.toInt z
    rw [nI_toInt (by omega), show ((-1 : Int32)).toInt = -1 from by decide] at h2
    omega
  rw [Int32.toInt_div_of_ne_right _ _ hne, pk_sub_toInt (by omega) (by omega), nI_toInt (by omega), show (1 : Int32).toInt = 1 from by decide] at e1
  by_cases c : (0 : Int) ≤ (a : Int) - b
  · rw [Int.tdiv_eq_zero_of_lt c h] at e1
    omega
  · have hd : ((a : Int) - b).tdiv G ≤ 0 := by
      have e2 : ((a : Int) - b) = -((b : Int) - a) := by omega
      rw [e2, Int.neg_tdiv]
      have := Int.tdiv_nonneg (a := (b : Int) - a) (b := (G : Int)) (by omega) (by omega)
      omega
    omega
section ZB
variable {m A T N n : Nat} {v w9 : zHV} {u q9 : zHI} {q a e nn t p w r c : Nat → Int32}
theorem k_clapsFor (h : zLR m A T N n v (z9 q a e nn t p w r c)) {k lo : Nat} (hk : k < 30) (l1 : 1 ≤ lo) (l2 : lo ≤ 9) (l3 : v 1 k = nI lo) : d_X7_clapsFor v w9 u q9 (nI k) = some (if q 13 < 0 then -5 else if q 15 = 0 then (if 1 ≤ (q 1 - q 6 + nI (10 * lo) - 1) / nI (10 * lo) then (q 1 - q 6 + nI (10 * lo) - 1) / nI (10 * lo) else 1) else -5) := by
  obtain ⟨ha, hb, hc, hd, he, hf, hg⟩ := zLR_9.mp h
  have h13 := g13 hg
  obtain ⟨hA, hT, hN, ea, et, en, hby, hen, ga, gt, gn, gh, ge, go⟩ := hg
  obtain ⟨q1, s1, m1, u1, e1⟩ := ha 1 (by decide)
  have u1 : s1 ≤ 900 := u1
  unfold d_X7_clapsFor d_X2_clapsUntilEncore
  rw [seat_ok k hk, zcl_e, if_neg (by decide)]
  rcases h13 with ⟨z1, z2⟩ | ⟨z1, z2, z3, z4⟩
  · rw [if_pos z2, if_pos z1, zcl_e]
  · rw [if_neg z2, if_neg z1, go]
    by_cases c5 : v 15 5 = 0
    · rw [if_pos c5, if_pos c5, r_at 30 _ k hk (by decide), zcl_e, l3, zlet_n, R1_at _ _ (by decide) (by decide), zcl_e, e1, ea, show (10 : Int32) * nI lo = nI (10 * lo) from nL_mul 10 lo, zlet_n, if_neg (show ¬ nI (10 * lo) ≤ 0 from nI_nle (by omega) (by omega)), q1, e1, ga]
      by_cases cs : A < s1
      · rw [pk_sub (by omega), if_pos (show 0 < nI (s1 - A) from nI_lt (a := 0) (by omega) (by omega)), zlet_n, zlet_n, nI_add, show (1 : Int32) = nI 1 from rfl, pk_sub (by omega), zdv_nI (by omega) (by omega) (by omega), pk_div (by omega) (by omega) (by omega), zcl_e]
        have hpos : 1 ≤ (s1 - A + 10 * lo - 1) / (10 * lo) := (Nat.one_le_div_iff (by omega)).mpr (by omega)
        have hle : (s1 - A + 10 * lo - 1) / (10 * lo) ≤ s1 - A + 10 * lo - 1 := Nat.div_le_self _ _
        rw [if_pos (nI_le hpos (by omega))]
      · have hneg : ¬ 0 < nI s1 - nI A := by
          rw [show (0 : Int32) = nI 0 from rfl, nI_ltSub (by omega) (by omega) (by decide)]
          omega
        have hx : nI s1 - nI A + nI (10 * lo) - 1 = nI (s1 + 10 * lo) - nI (A + 1) := by
          rw [ring1, nI_add, show nI A + 1 = nI (A + 1) from nI_1 A]
        rw [if_neg hneg, zcl_e, hx, if_neg (div_le0 (by omega) (by omega) (by omega) (by omega) (by omega))]
    · rw [if_neg c5, if_neg c5, zcl_e]
theorem k_lapsesIn (h : zLR m A T N n v (z9 q a e nn t p w r c)) {k : Nat} (hk : k < 6) : (d_L_earliest q w (nI k) = some (-1) ∧ d_X7_lapsesIn v w9 u q9 (nI k) = some (-6)) ∨
    ∃ y, y < 8 ∧ d_L_earliest q w (nI k) = some (nI y) ∧ d_X7_lapsesIn v w9 u q9 (nI k) = some (if 1 ≤ q 2 - q 7 + w (2 * y + 1) then q 2 - q 7 + w (2 * y + 1) else 1) := by
  obtain ⟨ha, hb, hc, hd, he, hf, hg⟩ := zLR_9.mp h
  obtain ⟨hA, hT, hN, ea, et, en, hby, hen, ga, gt, gn, gh, ge, go⟩ := hg
  obtain ⟨q2, -⟩ := ha 2 (by decide)
  unfold d_X7_lapsesIn d_X2_secondsUntilLapse
  rw [perf_ok k hk, zcl_e, if_neg (by decide)]
  rcases b_earl hc (nI k) with ⟨f1, f2⟩ | ⟨y, hy, hv, f1, f2⟩
  · rw [f1, zcl_e, if_pos rfl, zcl_e]
    exact Or.inl ⟨f2, rfl⟩
  · obtain ⟨c1, c2, c3, c4⟩ := hc
    obtain ⟨-, a2, -⟩ := c4 y hy
    have a2 : w (2 * y + 1) = v 8 y := a2
    refine Or.inr ⟨y, by omega, f2, ?_⟩
    rw [f1, zcl_e, if_neg (nI_m6 (by omega)), r_at 8 _ y (by omega) (by decide), zcl_e, zlet_n, R2_at _ _ (by decide) (by decide), zcl_e, zlet_n, zlet_n, zcl_e, ring2, q2, a2, gt, et]
    by_cases c : v 0 2 - nI T + v 8 y < 1
    · rw [if_pos c, if_neg (fun z => absurd c (Int32.not_lt.mpr z))]
    · rw [if_neg c, if_pos (Int32.not_lt.mp c)]
theorem q_quiet (P s : Nat) (hs1 : 1 ≤ s) (hs : s ≤ 50) (hv : v 0 0 = nI s) (hq : q 0 = nI s) (p1 x11 x12 x13 x14 x15 x16 x19 : Int32) : ∀ z i f f', z ≤ 9999 - i → i ≤ 9999 → z < f → z < f' → P ≤ 9999 → ∃ y, lp_X2_secondsUntil_21 v (nI P) f (nI z) (nI i) = some y ∧
    lp_L_isSo_614 q a e nn t p w r c v w9 u q9 p1 f' x11 x12 x13 x14 x15 x16 (nI P) (nI i) x19 (nI z) = lp_L_isSo_641 q a e nn t p w r c v w9 u q9 p1 zF x11 x12 x13 x14 x15 x16 (nI P) y x19 (q 6) := by
  intro z
  induction z using Nat.strongRecOn with
  | _ z ih =>
    intro i f f' h1 h2 h3 h4 h5
    obtain ⟨f, rfl⟩ := fu (by omega : 0 < f)
    obtain ⟨f', rfl⟩ := fu (by omega : 0 < f')
    show ∃ y, lpB_X2_secondsUntil_21 v (nI P) (lp_X2_secondsUntil_21 v (nI P) f) (nI z) (nI i) = some y ∧ lpB_L_isSo_614 q a e nn t p w r c v w9 u q9 p1 (lp_L_isSo_614 q a e nn t p w r c v w9 u q9 p1 f') x11 x12 x13 x14 x15 x16 (nI P) (nI i) x19 (nI z) = _
    unfold lpB_X2_secondsUntil_21 lpB_L_isSo_614
    by_cases cz : z ≤ P
    · rw [if_pos (nI_le cz (by omega)), if_pos (nI_le cz (by omega)), Q6]; exact ⟨_, rfl, rfl⟩
    · rw [if_neg (nI_ge (by omega) (by omega)), if_neg (nI_ge (by omega) (by omega)), if_neg (show ¬ (9999 : Int32) ≤ nI i from nI_ge (b := 9999) (by omega) (by decide))]
      obtain ⟨z', k1, k2, k3, k4⟩ := b_decay (A := z) (by omega) hs1 hs q hq
      rw [R0_at _ _ (by decide) (by decide), zcl_e, hv, k3, zcl_e, zlet_n, zlet_n, k4, zcl_e, nI_p1]
      have := k2 (by omega)
      exact ih z' (by omega) (i + 1) f f' (by omega) (by omega) (by omega) (by omega) h5
theorem q_calls (s : Nat) (hs1 : 1 ≤ s) (hs9 : s < 1000) (hv : v 0 5 = nI s) (hq : q 5 = nI s) (p1 x11 x13 x14 x15 x16 x17 x18 : Int32) : ∀ z (x : Int32) f f', z ≤ 9999 → z < f → z < f' → ∃ y, lp_X2_curtainsLeft_7 v f (nI z) x = some y ∧
    lp_L_isSo_641 q a e nn t p w r c v w9 u q9 p1 f' x11 1 x13 x14 x15 x16 x17 x18 x (nI z) = zcl (d_X7_quietIn v w9 u q9 x17) fun t669 => (if t669 = x18 then zcl (d_X7_calls v w9 u q9) fun t678 => (if t678 = y then zlet (p1 >>> (15 &&& 31)) fun t690 => zcl (d_L_low t690 30) fun t693 => zlet (p1 >>> (20 &&& 31)) fun t699 => zcl (d_L_low t699 12) fun t702 => zcl (d_L_isSeat q a e nn t r v w9 u q9 t693 t702) fun t715 => (if t715 = 0 then some 0 else some 1) else some 0) else some 0) := by
  intro z
  induction z using Nat.strongRecOn with
  | _ z ih =>
    intro x f f' h1 h3 h4
    obtain ⟨f, rfl⟩ := fu (by omega : 0 < f)
    obtain ⟨f', rfl⟩ := fu (by omega : 0 < f')
    show ∃ y, lpB_X2_curtainsLeft_7 v (lp_X2_curtainsLeft_7 v f) (nI z) x = some y ∧ lpB_L_isSo_641 q a e nn t p w r c v w9 u q9 p1 (lp_L_isSo_641 q a e nn t p w r c v w9 u q9 p1 f') x11 1 x13 x14 x15 x16 x17 x18 x (nI z) = _
    unfold lpB_X2_curtainsLeft_7 lpB_L_isSo_641
    rw [Q5, hq]
    by_cases c0 : z = 0
    · subst c0
      rw [if_pos (by decide), if_pos (nI_lt (by omega) (by omega)), if_neg (show ¬ (1 : Int32) = 0 by decide)]; exact ⟨_, rfl, rfl⟩
    · rw [if_neg (show ¬ nI z ≤ 0 from nI_nle (by omega) (by omega)), R5_at _ _ (by decide) (by decide), zcl_e, hv]
      by_cases c : z < s
      · rw [if_pos (nI_lt c (by omega)), if_pos (nI_lt c (by omega)), if_neg (show ¬ (1 : Int32) = 0 by decide)]; exact ⟨_, rfl, rfl⟩
      · rw [if_neg (nI_nlt (by omega) (by omega)), if_neg (nI_nlt (by omega) (by omega)), show zdv (nI z) 2 = zdv (γ := Int32) (nI z) (nI 2) from rfl, zdv_nI (by omega) (by decide) (by decide), zlet_n, zlet_n, zdv_nI (by omega) (by decide) (by decide)]
        exact ih (z / 2) (by omega) _ f f' (by omega) (by omega) (by omega)
theorem zjn_i5 {γ : Type} (F : Int32 → Int32 → Int32 → Int32 → Int32 → Option γ) (cc : Prop) [Decidable cc] (x y z s : Int32) : (zjn F fun j => if cc then j x y z 0 s else j x y z 1 s) = F x y z (if cc then 0 else 1) s := by
  rw [zjn_e]
  split <;> rfl
theorem k_seat (h : zLR m A T N n v (z9 q a e nn t p w r c)) {k rk : Nat} (hk : k < 30) (hr : rk < 30) : d_L_isSeat q a e nn t r v w9 u q9 (nI k) (nI rk) = some 1 := by
  obtain ⟨o0, o1, o2, o3, o4, o5, o6⟩ := k_of (w9 := w9) (u := u) (q9 := q9) h hk
  have o7 := k_clapper (w9 := w9) (u := u) (q9 := q9) h hr
  obtain ⟨⟨lo, l1, l2, l3, l4⟩, -⟩ := (zLR_9.mp h).2.1.1 k hk
  have o8 := k_clapsFor (w9 := w9) (u := u) (q9 := q9) h hk l1 l2 l3
  have hq17 : q 17 = nI (zcn (v 3) 30) := (zLR_9.mp h).2.1.2.2.2.1.trans (zLR_9.mp h).2.1.2.2.1
  have h15 : a k &&& 15 = nI lo := by rw [l4, ac_15 lo (by omega)]
  unfold d_L_isSeat
  rw [zld_nI hk (by decide), zlet_n, h15, show (10 : Int32) * nI lo = nI (10 * lo) from nL_mul 10 lo, zlet_n, Q1, Q6, zlet_n, zlet_n, zlet_n, zdv_ne (nI_ne0 (by omega) (by omega)), Q13]
  obtain ⟨M, eM⟩ : ∃ M, M = (q 1 - q 6 + nI (10 * lo) - 1) / nI (10 * lo) := ⟨_, rfl⟩
  rw [← eM] at o8 ⊢
  refine zjn_p (fun j => ∀ s0, s0 = (if q 13 < 0 then (0 : Int32) else if q 15 = 0 then 1 else 0) → j (nI (10 * lo)) M s0 = some 1) ?_ ?_
  · intro s0 hs0
    rw [o0, zcl_e, zld_nI hk (by decide), zlet_n, h15]
    refine zjn_p (fun j => j (nI (10 * lo)) M s0 1 = some 1) ?_ (fun j hj => ?_)
    · rw [if_neg (by decide), o8, zcl_e]
      refine zjn_p (fun j => ∀ x, j (nI (10 * lo)) M s0 1 x x = some 1) (fun x => ?_) (fun j hj => ?_)
      · rw [if_pos rfl, o7, zcl_e, Q17, hq17, zjn_e]
        by_cases c1 : zcn (v 3) 30 ≤ rk
        · rw [if_pos (nI_le c1 (by omega)), if_pos (nI_le c1 (by omega))]
          dsimp only
          rw [if_pos rfl]
        · have hz := zcn_le (v 3) 30
          rw [if_neg (nI_ge (by omega) (by omega)), if_neg (nI_ge (by omega) (by omega)), zld_nI hr (by decide)]
          dsimp only
          rw [if_pos rfl]
      · by_cases z1 : q 13 < 0
        · rw [if_pos z1] at hs0
          rw [if_pos z1, if_pos hs0]; exact hj _
        · rw [if_neg z1] at hs0
          by_cases z2 : q 15 = 0
          · rw [if_pos z2] at hs0
            rw [if_neg z1, if_pos z2, if_neg (by rw [hs0]; decide)]
            by_cases z3 : 1 ≤ M
            · rw [if_pos z3, if_pos z3]; exact hj _
            · rw [if_neg z3, if_neg z3]; exact hj _
          · rw [if_neg z2] at hs0
            rw [if_neg z1, if_neg z2, if_pos hs0]; exact hj _
    · rw [zjn_e, if_pos rfl, o1, zcl_e, zld_nI hk (by decide), zlet_n, zlet_n, if_pos rfl, o2, zcl_e, zld_nI hk (by decide), Q4, zjn_i5]
      dsimp only
      rw [if_pos rfl, o3, zcl_e, zld_nI hk (by decide), if_pos rfl, o4, zcl_e, zld_nI hk (by decide), if_pos rfl, o5, zcl_e, zld_nI hk (by decide), zlet_n, if_pos rfl, o6, zcl_e, zld_nI hk (by decide), if_pos rfl]
      exact hj
  · intro j hj
    rw [zjn_e]
    by_cases z1 : q 13 < 0
    · rw [if_pos z1]
      exact hj 0 (by rw [if_pos z1])
    · rw [if_neg z1, Q15]
      by_cases z2 : q 15 = 0
      · rw [if_pos z2]; exact hj 1 (by rw [if_neg z1, if_pos z2])
      · rw [if_neg z2]; exact hj 0 (by rw [if_neg z1, if_neg z2])
end ZB
