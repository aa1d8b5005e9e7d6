/-! ===== what the house tells, and what the law's arrays say of it ===== -/
section ZA
variable {m A T N n : Nat} {v w9 : zHV} {u q9 : zHI} {q a e nn t p w r c : Nat → Int32}
theorem k_of (h : zLR m A T N n v (z9 q a e nn t p w r c)) {k : Nat} (hk : k < 30) :
    d_X7_of v w9 u q9 (nI k) 0 = some (a k &&& 15) ∧ d_X7_of v w9 u q9 (nI k) 1 = some ((a k >>> (4 &&& 31)) &&& 1) ∧ d_X7_of v w9 u q9 (nI k) 2 = some (if e k < q 4 then 0 else 1) ∧ d_X7_of v w9 u q9 (nI k) 3 = some (e k) ∧
    d_X7_of v w9 u q9 (nI k) 4 = some (nn k) ∧ d_X7_of v w9 u q9 (nI k) 5 = some (a k >>> (5 &&& 31)) ∧ d_X7_of v w9 u q9 (nI k) 6 = some (t k) := by
  obtain ⟨ha, hb, hc, hd, he, hf, hg⟩ := zLR_9.mp h
  obtain ⟨⟨lo, l1, l2, l3, l4⟩, g1, g2, g3, -⟩ := hb.1 k hk
  obtain ⟨q4, -⟩ := ha 4 (by decide)
  unfold d_X7_of d_X2_aboutSeat
  rw [seat_ok k hk]
  refine ⟨?_, ?_, ?_, ?_, ?_, ?_, ?_⟩ <;> rw [zcl_e, if_neg (by decide)]
  · rw [if_pos rfl, r_at 30 _ k hk (by decide), zcl_e, zcl_e, l3, l4, ac_15 lo (by omega)]
  · rw [if_neg (by decide), if_pos rfl, zlet_n, zlet_n, zb_shr _ k hk, zcl_e, l4, ac_4 lo (by omega)]
    rfl
  · rw [if_neg (by decide), if_neg (by decide), if_pos rfl, r_at 30 _ k hk (by decide), zcl_e, R4_at _ _ (by decide) (by decide), zcl_e, g1, q4]
    split <;> rw [zcl_e]
  · rw [if_neg (by decide), if_neg (by decide), if_neg (by decide), if_pos rfl, r_at 30 _ k hk (by decide), zcl_e, zcl_e, g1]
  · rw [if_neg (by decide), if_neg (by decide), if_neg (by decide), if_neg (by decide), if_pos rfl, r_at 30 _ k hk (by decide), zcl_e, zcl_e, g2]
  · rw [if_neg (by decide), if_neg (by decide), if_neg (by decide), if_neg (by decide), if_neg (by decide), if_pos rfl, q_has _ k hk, zcl_e, l4, ac_5 lo (by omega)]
    show (zcl (if zbt (v 6 2) k = 0 then some 0 else some 1) fun t6 => some t6) = _
    unfold zbt
    cases (v 6 2).toBitVec.getLsbD k <;> rfl
  · rw [if_neg (by decide), if_neg (by decide), if_neg (by decide), if_neg (by decide), if_neg (by decide), if_neg (by decide), if_pos rfl, r_at 30 _ k hk (by decide), zcl_e, zcl_e, g3]
theorem k_clapper (h : zLR m A T N n v (z9 q a e nn t p w r c)) {k : Nat} (hk : k < 30) : d_X7_clapper v w9 u q9 (nI k) = some (if q 17 ≤ nI k then -1 else r k) := by
  obtain ⟨ha, hb, hc, hd, he, hf, hg⟩ := zLR_9.mp h
  obtain ⟨-, -, b3, b4, b5⟩ := hb
  have hz := zcn_le (v 3) 30
  unfold d_X7_clapper d_X6_clapperAt
  rw [if_neg (nI_pos (by omega)), show zh v 1 5 0 = v 6 0 from rfl, b4, b3]
  by_cases c1 : zcn (v 3) 30 ≤ k
  · rw [if_pos (nI_le c1 (by omega)), if_pos (nI_le c1 (by omega)), zcl_e]
  · rw [if_neg (nI_ge (by omega) (by omega)), if_neg (nI_ge (by omega) (by omega)), r_at 30 _ k hk (by decide), zcl_e, zcl_e, b5 k (by omega)]
    rfl
theorem k_perf (h : zLR m A T N n v (z9 q a e nn t p w r c)) {k : Nat} (hk : k < 6) : (∃ x, d_X7_performer v w9 u q9 (nI k) 0 = some x ∧ d_L_owes q w (nI k) = some x) ∧
    d_X7_performer v w9 u q9 (nI k) 1 = some (p (3 * k)) ∧ d_X7_performer v w9 u q9 (nI k) 2 = some (p (3 * k + 1)) ∧ d_X7_performer v w9 u q9 (nI k) 3 = some (p (3 * k + 2)) := by
  obtain ⟨ha, hb, hc, hd, he, hf, hg⟩ := zLR_9.mp h
  obtain ⟨d1, d2, d3⟩ := hd k hk
  obtain ⟨x, -, x1, x2⟩ := b_owes hc (nI k)
  unfold d_X7_performer d_X0_aboutPerformer
  rw [perf_ok k hk]
  refine ⟨⟨nI x, ?_, x2⟩, ?_, ?_, ?_⟩ <;> rw [zcl_e, if_neg (by decide)]
  · rw [if_pos rfl, x1, zcl_e, zcl_e]
  · rw [if_neg (by decide), if_pos rfl, r_at 6 _ k hk (by decide), zcl_e, zcl_e]
    exact congrArg some d1.symm
  · rw [if_neg (by decide), if_neg (by decide), if_pos rfl, r_at 6 _ k hk (by decide), zcl_e, zcl_e]
    exact congrArg some d2.symm
  · rw [if_neg (by decide), if_neg (by decide), if_neg (by decide), if_pos rfl, r_at 6 _ k hk (by decide), zcl_e, zcl_e]
    exact congrArg some d3.symm
theorem k_owed (h : zLR m A T N n v (z9 q a e nn t p w r c)) {k : Nat} (hk : k < 100) : d_X7_owed v w9 u q9 (nI k) 0 = some (if q 16 ≤ nI k then -1 else w (2 * k)) ∧ d_X7_owed v w9 u q9 (nI k) 1 = some (if q 16 ≤ nI k then -1 else q 7 - w (2 * k + 1)) := by
  obtain ⟨ha, hb, hc, hd, he, hf, hg⟩ := zLR_9.mp h
  obtain ⟨c1, c2, c3, c4⟩ := hc
  obtain ⟨hA, hT, hN, ea, et, en, hby, hen, ga, gt, gn, gh, ge, go⟩ := hg
  unfold d_X7_owed d_X0_aboutOwed
  by_cases ck : k < n
  · obtain ⟨f1, f2, -⟩ := c4 k ck
    refine ⟨?_, ?_⟩
    · rw [if_neg (nI_pos (by omega)), show zh v 7 5 0 = nI n from c2, c3, if_pos (nI_lt ck (by omega)), if_neg (nI_ge ck (by omega)), if_pos rfl, r_at 8 _ k (by omega) (by decide), zcl_e, zcl_e]
      exact congrArg some f1.symm
    · rw [if_neg (nI_pos (by omega)), show zh v 7 5 0 = nI n from c2, c3, if_pos (nI_lt ck (by omega)), if_neg (nI_ge ck (by omega)), if_neg (show ¬ (1 : Int32) = 0 by decide), if_pos rfl, r_at 8 _ k (by omega) (by decide), zcl_e, zlet_n, zcl_e, et, gt]
      exact congrArg (fun z => some (nI T - z)) f2.symm
  · refine ⟨?_, ?_⟩ <;> rw [if_neg (nI_pos (by omega)), show zh v 7 5 0 = nI n from c2, c3, if_neg (nI_nlt (by omega) (by omega)), if_pos (nI_le (by omega) (by omega)), zcl_e]
theorem n_min6 {S : Nat} (h : S < 2147483648) : (if 6 < nI S then 6 else nI S) = nI (min S 6) := by
  by_cases c : S ≤ 6
  · rw [if_neg (show ¬ 6 < nI S from nI_nlt (a := 6) c (by decide)), Nat.min_eq_left c]
  · rw [if_pos (show 6 < nI S from nI_lt (a := 6) (by omega) h), Nat.min_eq_right (by omega)]; rfl
theorem k_record (h : zLR m A T N n v (z9 q a e nn t p w r c)) {k i : Nat} (hk : k < 100) (hi : i < 4) : d_X7_record v w9 u q9 (nI k) (nI i) = some (if q 18 ≤ nI k then -1 else c (4 * k + i)) := by
  obtain ⟨ha, hb, hc, hd, he, hf, hg⟩ := zLR_9.mp h
  obtain ⟨hA, hT, hN, ea, et, en, hby, hen, ga, gt, gn, gh, ge, go⟩ := hg
  obtain ⟨f1, f2⟩ := hf
  unfold d_X7_record d_X2_recordOf
  rw [if_neg (nI_pos (by omega)), en, zlet_n, n_min6 (by omega), f1]
  by_cases ck : k < min N 6
  · rw [if_pos (nI_lt ck (by omega)), if_neg (nI_ge ck (by omega)), if_neg (nI_pos (by omega)), if_pos (show nI i < 4 from nI_lt (b := 4) hi (by decide)), zlet_n, zlet_n, show (1 : Int32) = nI 1 from rfl, pk_sub (by omega), pk_sub (by omega), b_rpl (by omega) hi, zcl_e, r_at 24 _ _ (by omega) (by decide), zcl_e, zcl_e, f2 k i ck hi, Nat.mul_comm ((N - 1 - k) % 6) 4]
  · rw [if_neg (nI_nlt (by omega) (by omega)), if_pos (nI_le (by omega) (by omega)), zcl_e]
theorem q_susp (v : zHV) (a e : Nat → Int32) (p : Int32) (hk : ∀ k, k < 30 → e k = v 1 k) : ∀ d i x f f', 30 - i = d → i ≤ 30 → d < f → d < f' → ∃ y, lp_X6_suspected_4 v p f x (nI i) = some y ∧ lp_L_seats_6 a e 0 p f' x (nI i) = some y := by
  intro d
  induction d with
  | zero =>
    intro i x f f' h1 h2 h3 h4
    obtain ⟨f, rfl⟩ := fu h3
    obtain ⟨f', rfl⟩ := fu h4
    obtain rfl : i = 30 := by omega
    exact ⟨x, rfl, rfl⟩
  | succ d ih =>
    intro i x f f' h1 h2 h3 h4
    obtain ⟨f, rfl⟩ := fu (by omega : 0 < f)
    obtain ⟨f', rfl⟩ := fu (by omega : 0 < f')
    have hin : i < 30 := by omega
    have hc : ¬ (30 : Int32) ≤ nI i := nI_ge (b := 30) hin (by decide)
    have e1 : lp_X6_suspected_4 v p (f + 1) x (nI i) = lp_X6_suspected_4 v p f (if v 1 i < p then x else x ||| (1 <<< (nI i &&& 31))) (nI (i + 1)) := by
      show lpB_X6_suspected_4 v p (lp_X6_suspected_4 v p f) x (nI i) = _
      unfold lpB_X6_suspected_4
      rw [if_neg hc, r_at 30 _ i hin (by decide), zcl_e]
      split <;> simp only [zlet_n, nI_p1]
    have e2 : lp_L_seats_6 a e 0 p (f' + 1) x (nI i) = lp_L_seats_6 a e 0 p f' (if v 1 i < p then x else x ||| (1 <<< (nI i &&& 31))) (nI (i + 1)) := by
      show lpB_L_seats_6 a e 0 p (lp_L_seats_6 a e 0 p f') x (nI i) = _
      unfold lpB_L_seats_6
      rw [if_neg hc, if_pos rfl, zld_nI hin (by decide), hk i hin]
      split <;> simp only [zlet_n, nI_p1, Int32.or_zero]
    rw [e1, e2]
    exact ih (i + 1) _ f f' (by omega) (by omega) (by omega) (by omega)
theorem k_susp (h : zLR m A T N n v (z9 q a e nn t p w r c)) (f : Int32) : ∃ x, d_X6_suspected (zh v 1) f = some x ∧ d_L_seats a e 0 f = some x := by
  have hb := (zLR_9.mp h).2.1
  exact q_susp (zh v 1) a e f (fun k hk => (hb.1 k hk).2.1) 30 0 0 zF zF rfl (by decide) (by decide) (by decide)
theorem k_ifFound (h : zLR m A T N n v (z9 q a e nn t p w r c)) {f : Nat} (h1 : 1 ≤ f) (h9 : f ≤ 9) : ∃ x, d_X7_ifFound v w9 u q9 (nI f) = some x ∧ d_L_seats a e 0 (nI f) = some x := by
  obtain ⟨x, x1, x2⟩ := k_susp h (nI f)
  refine ⟨x, ?_, x2⟩
  unfold d_X7_ifFound
  rw [show (4 : Int32) = nI 4 from rfl, zld_nI (by decide) (by decide), zld_nI (by decide) (by decide), if_neg (show ¬ nI f < zLEAST 4 from nI_nlt (b := 1) h1 (by omega)), if_pos (show nI f ≤ zMOST 4 from nI_le (b := 9) h9 (by decide)), x1, zcl_e]
theorem q_sum (g p : Nat → Int32) (cc : Nat) (hc : cc < 3) (hk : ∀ k, k < 6 → p (3 * k + cc) = g k) : ∀ d i x f f', 6 - i = d → i ≤ 6 → d < f → d < f' → ∃ y, lp_X5_sum_4 6 g f x (nI i) = some y ∧ lp_L_sum_4 p (nI cc) f' x (nI (3 * i + cc)) = some y := by
  intro d
  induction d with
  | zero =>
    intro i x f f' h1 h2 h3 h4
    obtain ⟨f, rfl⟩ := fu h3
    obtain ⟨f', rfl⟩ := fu h4
    obtain rfl : i = 6 := by omega
    refine ⟨x, rfl, ?_⟩
    show lpB_L_sum_4 p (nI cc) (lp_L_sum_4 p (nI cc) f') x (nI (3 * 6 + cc)) = _
    unfold lpB_L_sum_4
    rw [if_pos (show (18 : Int32) ≤ nI (3 * 6 + cc) from nI_le (a := 18) (by omega) (by omega))]
  | succ d ih =>
    intro i x f f' h1 h2 h3 h4
    obtain ⟨f, rfl⟩ := fu (by omega : 0 < f)
    obtain ⟨f', rfl⟩ := fu (by omega : 0 < f')
    have e1 : lp_X5_sum_4 6 g (f + 1) x (nI i) = lp_X5_sum_4 6 g f (x + g i) (nI (i + 1)) := by
      show lpB_X5_sum_4 6 g (lp_X5_sum_4 6 g f) x (nI i) = _
      unfold lpB_X5_sum_4
      rw [if_neg (nI_ge (by omega) (by decide)), zld_nI (by omega) (by decide), zlet_n, zlet_n, nI_p1]
    have e2 : lp_L_sum_4 p (nI cc) (f' + 1) x (nI (3 * i + cc)) = lp_L_sum_4 p (nI cc) f' (x + g i) (nI (3 * (i + 1) + cc)) := by
      show lpB_L_sum_4 p (nI cc) (lp_L_sum_4 p (nI cc) f') x (nI (3 * i + cc)) = _
      unfold lpB_L_sum_4
      rw [if_neg (show ¬ (18 : Int32) ≤ nI (3 * i + cc) from nI_ge (b := 18) (by omega) (by decide)), zld_nI (by omega) (by decide), zlet_n, zlet_n, hk i (by omega), show Int32.ofInt 3 = nI 3 from rfl, nI_add, show 3 * i + cc + 3 = 3 * (i + 1) + cc by omega]
    rw [e1, e2]
    exact ih (i + 1) _ f f' (by omega) (by omega) (by omega) (by omega)
/-- the law's words for the numbers of count() -/
def zLC (q a e p : Nat → Int32) (k : Nat) : Option Int32 := match k with
  | 0 => some (q 6)
  | 1 => some (q 7)
  | 2 => some (q 8)
  | 3 => some (q 9)
  | 4 => some (q 16)
  | 5 => d_L_sum p 0
  | 6 => d_L_sum p 1
  | 7 => some (q 12)
  | 8 => some (if q 13 < 0 then -6 else q 7 - q 13)
  | 9 => some (if q 13 < 0 then -6 else q 14)
  | 10 => d_L_seats a e 1 0
  | 11 => d_L_seats a e 0 (q 4)
  | 12 => zcl (d_L_seats a e 1 0) fun x => zcl (d_L_seats a e 0 (q 4)) fun y => some (x &&& y)
  | k => some (q (k - 13))
theorem g13 (hg : zLg A T N (v 15 0) (v 15 1) (v 15 2) (v 15 3) (v 15 4) (v 15 5) q) : (q 13 < 0 ∧ v 15 3 = -6) ∨ (¬ q 13 < 0 ∧ ¬ v 15 3 = -6 ∧ q 13 = v 15 4 ∧ q 14 = v 15 3) := by
  obtain ⟨hA, hT, hN, ea, et, en, hby, hen, ga, gt, gn, gh, ge, go⟩ := hg
  by_cases hq : v 15 3 = -6
  · exact Or.inl ⟨by rw [gh hq]; decide, hq⟩
  · obtain ⟨z1, z2, D, hD, eD⟩ := ge hq
    exact Or.inr ⟨by rw [z1, eD]; exact nI_pos (by omega), hq, z1, z2⟩
theorem k_count (h : zLR m A T N n v (z9 q a e nn t p w r c)) {k : Nat} (hk : k < 19) : ∃ x, d_X7_count v w9 u q9 (nI k) = some x ∧ zLC q a e p k = some x := by
  obtain ⟨ha, hb, hc, hd, he, hf, hg⟩ := zLR_9.mp h
  have h13 := g13 hg
  obtain ⟨hA, hT, hN, ea, et, en, hby, hen, ga, gt, gn, gh, ge, go⟩ := hg
  obtain ⟨q4, -⟩ := ha 4 (by decide)
  have hl : ∀ j : Nat, j < 100 → ¬ k = j → ¬ nI k = nI j := fun j hj hkj z => hkj ((nI_eq (by omega) (by omega)).mp z)
  have hs : ∃ x, d_X2_numberOf v (nI k) = some x ∧ zLC q a e p k = some x := by
    unfold d_X2_numberOf
    match k, hk with
    | 0, _ => rw [if_pos (by decide)]; exact ⟨_, rfl, congrArg some (ga.trans ea.symm)⟩
    | 1, _ => rw [if_neg (by decide), if_pos (by decide)]; exact ⟨_, rfl, congrArg some (gt.trans et.symm)⟩
    | 2, _ => rw [if_neg (by decide), if_neg (by decide), if_pos (by decide)]; exact ⟨_, rfl, congrArg some (gn.trans en.symm)⟩
    | 3, _ => rw [if_neg (by decide), if_neg (by decide), if_neg (by decide), if_pos (by decide), R0_at _ _ (by decide) (by decide), zcl_e]; exact ⟨_, rfl, congrArg some (he 0 (by decide))⟩
    | 4, _ => rw [if_neg (by decide), if_neg (by decide), if_neg (by decide), if_neg (by decide), if_pos (by decide)]; exact ⟨_, rfl, congrArg some (hc.2.2.1.trans hc.2.1.symm)⟩
    | 5, _ =>
      obtain ⟨y, y1, y2⟩ := q_sum (v 9) p 0 (by decide) (fun k hk => (hd k hk).1) 6 0 0 zF zF rfl (by decide) (by decide) (by decide)
      have y1 : d_X5_sum 6 (v 9) = some y := by unfold d_X5_sum; exact y1
      have y3 : d_L_sum p 0 = some y := by unfold d_L_sum; exact y2
      refine ⟨y, ?_, (show zLC q a e p 5 = d_L_sum p 0 from rfl).trans y3⟩
      rw [if_neg (by decide), if_neg (by decide), if_neg (by decide), if_neg (by decide), if_neg (by decide), if_pos (by decide), y1, zcl_e]
    | 6, _ =>
      obtain ⟨y, y1, y2⟩ := q_sum (v 10) p 1 (by decide) (fun k hk => (hd k hk).2.1) 6 0 0 zF zF rfl (by decide) (by decide) (by decide)
      have y1 : d_X5_sum 6 (v 10) = some y := by unfold d_X5_sum; exact y1
      have y3 : d_L_sum p 1 = some y := by unfold d_L_sum; exact y2
      refine ⟨y, ?_, (show zLC q a e p 6 = d_L_sum p 1 from rfl).trans y3⟩
      rw [if_neg (by decide), if_neg (by decide), if_neg (by decide), if_neg (by decide), if_neg (by decide), if_neg (by decide), if_pos (by decide), y1, zcl_e]
    | 7, _ => rw [if_neg (by decide), if_neg (by decide), if_neg (by decide), if_neg (by decide), if_neg (by decide), if_neg (by decide), if_neg (by decide), if_pos (by decide), R3_at _ _ (by decide) (by decide), zcl_e]; exact ⟨_, rfl, congrArg some (he 3 (by decide))⟩
    | 8, _ =>
      rw [if_neg (by decide), if_neg (by decide), if_neg (by decide), if_neg (by decide), if_neg (by decide), if_neg (by decide), if_neg (by decide), if_neg (by decide), if_pos (by decide)]
      rcases h13 with ⟨z1, z2⟩ | ⟨z1, z2, z3, z4⟩
      · rw [if_pos z2]
        exact ⟨-6, rfl, by show some (if q 13 < 0 then (-6 : Int32) else q 7 - q 13) = _; rw [if_pos z1]⟩
      · rw [if_neg z2, zlet_n]
        exact ⟨_, rfl, by show some (if q 13 < 0 then (-6 : Int32) else q 7 - q 13) = _; rw [if_neg z1, gt, et, z3]⟩
    | 9, _ =>
      rw [if_neg (by decide), if_neg (by decide), if_neg (by decide), if_neg (by decide), if_neg (by decide), if_neg (by decide), if_neg (by decide), if_neg (by decide), if_neg (by decide), if_pos (by decide)]
      rcases h13 with ⟨z1, z2⟩ | ⟨z1, z2, z3, z4⟩
      · exact ⟨_, rfl, by show some (if q 13 < 0 then (-6 : Int32) else q 14) = _; rw [if_pos z1, z2]⟩
      · exact ⟨_, rfl, by show some (if q 13 < 0 then (-6 : Int32) else q 14) = _; rw [if_neg z1, z4]⟩
    | 10, _ =>
      rw [if_neg (by decide), if_neg (by decide), if_neg (by decide), if_neg (by decide), if_neg (by decide), if_neg (by decide), if_neg (by decide), if_neg (by decide), if_neg (by decide), if_neg (by decide), if_pos (by decide)]
      exact ⟨_, rfl, b_paid 0 hb e⟩
    | 11, _ =>
      obtain ⟨x, x1, x2⟩ := k_susp h (q 4)
      rw [if_neg (by decide), if_neg (by decide), if_neg (by decide), if_neg (by decide), if_neg (by decide), if_neg (by decide), if_neg (by decide), if_neg (by decide), if_neg (by decide), if_neg (by decide), if_neg (by decide), if_pos (by decide)]
      unfold d_X2_suspectedNow
      rw [R4_at _ _ (by decide) (by decide), zcl_e, ← q4, x1, zcl_e, zcl_e]
      exact ⟨_, rfl, x2⟩
    | 12, _ =>
      obtain ⟨x, x1, x2⟩ := k_susp h (q 4)
      rw [if_neg (by decide), if_neg (by decide), if_neg (by decide), if_neg (by decide), if_neg (by decide), if_neg (by decide), if_neg (by decide), if_neg (by decide), if_neg (by decide), if_neg (by decide), if_neg (by decide), if_neg (by decide), if_pos (by decide)]
      unfold d_X2_suspectedNow
      rw [R4_at _ _ (by decide) (by decide), zcl_e, ← q4, x1, zcl_e, zcl_e, zlet_n]
      refine ⟨_, rfl, ?_⟩
      show (zcl (d_L_seats a e 1 0) fun x => zcl (d_L_seats a e 0 (q 4)) fun y => some (x &&& y)) = _
      rw [b_paid 0 hb e, zcl_e, x2, zcl_e]
    | k + 13, hk =>
      have h3 : ∀ j : Nat, j < 13 → ¬ nI (k + 13) = nI j := fun j hj z => by have := (nI_eq (by omega) (by omega)).mp z; omega
      rw [if_neg (show ¬ nI (k + 13) = 0 from h3 0 (by decide)), if_neg (show ¬ nI (k + 13) = 1 from h3 1 (by decide)), if_neg (show ¬ nI (k + 13) = 2 from h3 2 (by decide)), if_neg (show ¬ nI (k + 13) = 3 from h3 3 (by decide)), if_neg (show ¬ nI (k + 13) = 4 from h3 4 (by decide)), if_neg (show ¬ nI (k + 13) = 5 from h3 5 (by decide)), if_neg (show ¬ nI (k + 13) = 6 from h3 6 (by decide)), if_neg (show ¬ nI (k + 13) = 7 from h3 7 (by decide)), if_neg (show ¬ nI (k + 13) = 8 from h3 8 (by decide)), if_neg (show ¬ nI (k + 13) = 9 from h3 9 (by decide)), if_neg (show ¬ nI (k + 13) = 10 from h3 10 (by decide)), if_neg (show ¬ nI (k + 13) = 11 from h3 11 (by decide)), if_neg (show ¬ nI (k + 13) = 12 from h3 12 (by decide)),
        if_neg (show ¬ nI (k + 13) < 13 from nI_nlt (b := 13) (by omega) (by omega)), if_neg (show ¬ (19 : Int32) ≤ nI (k + 13) from nI_ge (b := 19) (by omega) (by decide)), zlet_n, show (13 : Int32) = nI 13 from rfl, pk_sub (by omega), show k + 13 - 13 = k by omega, r_at 6 _ k (by omega) (by decide), zcl_e]
      exact ⟨_, rfl, congrArg some ((ha k (by omega)).1)⟩
  obtain ⟨x, x1, x2⟩ := hs
  refine ⟨x, ?_, x2⟩
  unfold d_X7_count
  rw [if_neg (show ¬ nI k = 19 from hl 19 (by decide) (by omega)), if_neg (show ¬ nI k = 20 from hl 20 (by decide) (by omega)), x1, zcl_e]
end ZA
