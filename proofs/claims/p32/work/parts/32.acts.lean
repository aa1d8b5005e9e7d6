/-! ===== the acts: a curtain call, a piece ends, pay, settings, loudness, play ===== -/
theorem zLR_9 {m A T N n : Nat} {v : zHV} {q a e nn t p w r c : Nat → Int32} : zLR m A T N n v (z9 q a e nn t p w r c) ↔
  (zRa (v 0) q ∧ zLb m (v 1) (v 2) (v 3) (v 4) (v 5) (v 6 0) (v 6 1) (v 6 2) a e nn t r (q 17) ∧
  zRc n T (v 7) (v 8) (v 12 0) (fun k => w (2 * k)) (fun k => w (2 * k + 1)) (q 16) ∧ zRd (v 9) (v 10) (v 11) (fun k => p (3 * k)) (fun k => p (3 * k + 1)) (fun k => p (3 * k + 2)) ∧
  (∀ k, k < 4 → q (9 + k) = v 13 k) ∧ zRf N (v 14) c (q 18) ∧ zLg A T N (v 15 0) (v 15 1) (v 15 2) (v 15 3) (v 15 4) (v 15 5) q) := Iff.rfl
theorem zRa_q {v0 q q' : Nat → Int32} (h : zRa v0 q) (hq : ∀ k, k < 6 → q' k = q k) : zRa v0 q' := fun k hk => by rw [hq k hk]; exact h k hk
/-- tonight's four, one of them one more -/
theorem he_up {q v13 : Nat → Int32} {i : Nat} (hi : i < 4) (h : ∀ k, k < 4 → q (9 + k) = v13 k) (x : Int32) : ∀ k, k < 4 → upd q (9 + i) (q (9 + i) + x) (9 + k) = upd v13 i (v13 i + x) k := by
  intro k hk
  by_cases c : k = i
  · subst c; rw [pk_us, pk_us, h k hk]
  · rw [pk_un (by omega), pk_un c, h k hk]
theorem he_q {q q' v13 : Nat → Int32} (h : ∀ k, k < 4 → q (9 + k) = v13 k) (hq : ∀ k, 9 ≤ k → k < 13 → q' k = q k) : ∀ k, k < 4 → q' (9 + k) = v13 k := fun k hk => by rw [hq _ (by omega) (by omega)]; exact h k hk
theorem zOut_of {m T N : Nat} {x : Int32} {v' s s' : zHV} (A' T' N' n' : Nat) {m' : Nat} (hm : m' ≤ m + 2) (h : zLR m' A' T' N' n' v' s') (hx : ¬ x < 0) (hT : T' ≤ T + 99) (hN : N' ≤ N + 1) : zOut m T N x v' s s' := ⟨A', T', N', n', zLR_up hm h, fun q => absurd q hx, hT, hN⟩
theorem o_call {m A T N n : Nat} {v : zHV} {q a e nn t p w r c : Nat → Int32} (h : zLR m A T N n v (z9 q a e nn t p w r c)) :
    ∃ x v' q', d_X2_takeCurtain v = some (x, v') ∧ (∀ p1 p2, d_L_ofRest q a e 4 p1 p2 = some (x, q', a)) ∧ zOut m T N x v' (z9 q a e nn t p w r c) (z9 q' a e nn t p w r c) := by
  have h0 := h
  obtain ⟨ha, hb, hc, hd, he, hf, hg⟩ := zLR_9.mp h
  obtain ⟨q5, s5, l5, u5, e5⟩ := ha 5 (by decide)
  obtain ⟨hA, hT, hN, ea, et, en, hby, hen, ga, gt, gn, gh, ge, go⟩ := hg
  have hs5 : s5 ≤ 900 := u5
  by_cases hc5 : s5 ≤ A
  · refine ⟨nI (A / 2), zr (zs v 15 0 (nI (A / 2))) 13 (upd (v 13) 3 (v 13 3 + 1)), upd (upd q 6 (nI (A / 2))) 12 (q 12 + 1), ?_, fun p1 p2 => ?_, ?_⟩
    · unfold d_X2_takeCurtain
      rw [R5_at _ _ (by decide) (by decide), zcl_e, ea, e5, if_pos (nI_le hc5 (by omega)), show (2 : Int32) = nI 2 from rfl, zdv_nI (by omega) (by decide) (by decide)]
      simp only [zlet_n]
      rw [R3_add _ _ _ (by decide) (by decide), zup_e]
      rfl
    · unfold d_L_ofRest
      rw [if_pos rfl, Q6, Q5, ga, q5, e5, if_pos (nI_le hc5 (by omega)), Q6, ga, show (2 : Int32) = nI 2 from rfl, zdv_nI (by omega) (by decide) (by decide), V6, Q12, zlet_n, V12, Q6, pk_un (by decide), pk_us, pk_un (by decide)]
    · refine zOut_of (A / 2) T N n (show m ≤ m + 2 by omega) (zLR_9.mpr ⟨zRa_q ha (fun k hk => by rw [pk_un (by omega), pk_un (by omega)]), ?_, ?_, hd, ?_, ?_, ⟨show A / 2 ≤ 9999 by omega, hT, hN, rfl, et, en, hby, hen, ?_, ?_, ?_, ?_, ?_, ?_⟩⟩) (nI_pos (by omega)) (by omega : T ≤ T + 99) (by omega : N ≤ N + 1)
      · exact hb
      · exact hc
      · have h4 := he_up (i := 3) (by decide) (q := upd q 6 (nI (A / 2))) (v13 := v 13) (fun k hk => by rw [pk_un (by omega)]; exact he k hk) 1
        rw [show upd q 6 (nI (A / 2)) (9 + 3) = q 12 from rfl] at h4
        exact h4
      · exact hf
      · rfl
      · exact gt
      · exact gn
      · exact gh
      · exact ge
      · exact go
  · have h2 : ¬ nI s5 ≤ nI A := nI_ge (by omega) (by omega)
    refine ⟨-5, v, q, ?_, fun p1 p2 => ?_, ⟨A, T, N, n, zLR_up (by omega) h0, fun _ => rfl, by omega, by omega⟩⟩
    · unfold d_X2_takeCurtain
      rw [R5_at _ _ (by decide) (by decide), zcl_e, ea, e5, if_neg h2]
    · unfold d_L_ofRest
      rw [if_pos rfl, Q6, Q5, ga, q5, e5, if_neg h2]
theorem bit_0 (k : Nat) : (0 : Int32).toBitVec.getLsbD k = false := by
  rw [show (0 : Int32).toBitVec = 0#32 from rfl, BitVec.getLsbD_zero]
theorem zLb_piece {m : Nat} {v1 v2 v3 v4 v5 : Nat → Int32} {c y z : Int32} {a e n t r : Nat → Int32} {gc : Int32} (h : zLb m v1 v2 v3 v4 v5 c y z a e n t r gc) : zLb m v1 v2 v3 v4 v5 c y 0 (zmk 0 a) e n t r gc := by
  refine ⟨fun k hk => ?_, h.2⟩
  obtain ⟨⟨lo, l1, l2, l3, l4⟩, q2⟩ := h.1 k hk
  refine ⟨⟨lo, l1, l2, l3, ?_⟩, q2⟩
  rw [zmk_at hk, l4, ac_31 lo (by omega), bit_0]
theorem zRd_p0 {v9 v10 v11 p : Nat → Int32} {k : Nat} (h : zRd v9 v10 v11 (fun k => p (3 * k)) (fun k => p (3 * k + 1)) (fun k => p (3 * k + 2))) : zRd (upd v9 k (v9 k + 1)) v10 v11 (fun j => upd p (3 * k) (p (3 * k) + 1) (3 * j)) (fun j => upd p (3 * k) (p (3 * k) + 1) (3 * j + 1)) (fun j => upd p (3 * k) (p (3 * k) + 1) (3 * j + 2)) := by
  intro j hj
  obtain ⟨h1, h2, h3⟩ := h j hj
  refine ⟨?_, (pk_un (by omega)).trans h2, (pk_un (by omega)).trans h3⟩
  by_cases c : j = k
  · subst c
    show upd p (3 * j) (p (3 * j) + 1) (3 * j) = upd v9 j (v9 j + 1) j
    rw [pk_us, pk_us]; exact congrArg (· + 1) h1
  · rw [pk_un c]; exact (pk_un (by omega)).trans h1
theorem zRd_p1 {v9 v10 v11 p : Nat → Int32} {k : Nat} (x : Int32) (h : zRd v9 v10 v11 (fun k => p (3 * k)) (fun k => p (3 * k + 1)) (fun k => p (3 * k + 2))) : zRd v9 (upd v10 k (v10 k + x)) v11 (fun j => upd p (3 * k + 1) (p (3 * k + 1) + x) (3 * j)) (fun j => upd p (3 * k + 1) (p (3 * k + 1) + x) (3 * j + 1)) (fun j => upd p (3 * k + 1) (p (3 * k + 1) + x) (3 * j + 2)) := by
  intro j hj
  obtain ⟨h1, h2, h3⟩ := h j hj
  refine ⟨(pk_un (by omega)).trans h1, ?_, (pk_un (by omega)).trans h3⟩
  by_cases c : j = k
  · subst c
    show upd p (3 * j + 1) (p (3 * j + 1) + x) (3 * j + 1) = upd v10 j (v10 j + x) j
    rw [pk_us, pk_us]; exact congrArg (· + x) h2
  · rw [pk_un c]; exact (pk_un (by omega)).trans h2
theorem zRd_p2 {v9 v10 v11 p : Nat → Int32} {k : Nat} (h : zRd v9 v10 v11 (fun k => p (3 * k)) (fun k => p (3 * k + 1)) (fun k => p (3 * k + 2))) : zRd v9 v10 (upd v11 k (v11 k + 1)) (fun j => upd p (3 * k + 2) (p (3 * k + 2) + 1) (3 * j)) (fun j => upd p (3 * k + 2) (p (3 * k + 2) + 1) (3 * j + 1)) (fun j => upd p (3 * k + 2) (p (3 * k + 2) + 1) (3 * j + 2)) := by
  intro j hj
  obtain ⟨h1, h2, h3⟩ := h j hj
  refine ⟨(pk_un (by omega)).trans h1, (pk_un (by omega)).trans h2, ?_⟩
  by_cases c : j = k
  · subst c
    show upd p (3 * j + 2) (p (3 * j + 2) + 1) (3 * j + 2) = upd v11 j (v11 j + 1) j
    rw [pk_us, pk_us]; exact congrArg (· + 1) h3
  · rw [pk_un c]; exact (pk_un (by omega)).trans h3
theorem b_begin {m A T N n : Nat} {v : zHV} {q a e nn t p w r c : Nat → Int32} (h : zLR m A T N n v (z9 q a e nn t p w r c)) {k : Nat} (hk : k < 6) : ∃ v' q' a' p', d_X2_beginApplause v (nI k) = some v' ∧ d_L_ends q a p (nI k) = some (nI A, q', a', p') ∧ q' 16 = q 16 ∧ zLR m 0 T N n v' (z9 q' a' e nn t p' w r c) := by
  obtain ⟨ha, hb, hc, hd, he, hf, hg⟩ := zLR_9.mp h
  obtain ⟨hA, hT, hN, ea, et, en, hby, hen, ga, gt, gn, gh, ge, go⟩ := hg
  unfold d_X2_beginApplause d_X6_beginPiece
  rw [e_ends q a p hk, ga, gt, r_add 6 (v 11) k 1 hk (by decide)]
  simp only [zlet_n, zup_e]
  refine ⟨_, _, _, _, rfl, rfl, rfl, zLR_9.mpr ⟨zRa_q ha (fun j hj => by rw [pk_un (by omega), pk_un (by omega), pk_un (by omega), pk_un (by omega)]), zLb_piece hb, hc, zRd_p2 hd, he_q he (fun j h1 h2 => by rw [pk_un (by omega), pk_un (by omega), pk_un (by omega), pk_un (by omega)]), hf, ⟨by decide, hT, hN, rfl, et, en, Or.inr ⟨k, hk, rfl⟩, Or.inl rfl, rfl, gt, gn, fun q1 => absurd q1 (nI_m6 (by omega)), fun _ => ⟨?_, rfl, T, Nat.le_refl T, et⟩, rfl⟩⟩⟩
  exact et.symm
theorem o_ends {m A T N n : Nat} {v : zHV} {q a e nn t p w r c : Nat → Int32} (h : zLR m A T N n v (z9 q a e nn t p w r c)) {k : Nat} (hk : k < 6) : ∃ x v' q' a' p', d_X2_endPiece v (nI k) = some (x, v') ∧ d_L_ends q a p (nI k) = some (x, q', a', p') ∧ zOut m T N x v' (z9 q a e nn t p w r c) (z9 q' a' e nn t p' w r c) := by
  obtain ⟨v', q', a', p', q1, q2, q4, q3⟩ := b_begin h hk
  obtain ⟨hA, hT, hN, ea, hg⟩ := (zLR_9.mp h).2.2.2.2.2.2
  refine ⟨nI A, v', q', a', p', ?_, q2, zOut_of 0 T N n (show m ≤ m + 2 by omega) q3 (nI_pos (by omega)) (by omega) (by omega)⟩
  unfold d_X2_endPiece
  rw [perf_ok k hk, zcl_e, if_neg (by decide), q1, zup_e, ea]
theorem zrm_nI {γ : Type} {a d : Nat} {K : Int32 → Option γ} (ha : a < 2147483648) (h0 : 0 < d) (hd : d < 2147483648) : zrm (nI a) (nI d) K = K (nI (a % d)) := by
  unfold zrm
  rw [if_neg (nI_ne0 h0 hd), pk_div ha h0 hd, pk_mul, pk_sub (Nat.div_mul_le_self a d)]
  congr 2
  have := Nat.div_add_mod a d
  rw [Nat.mul_comm] at this
  omega
/-- who paid, as a mask built seat by seat -/
theorem q_paid (a e : Nat → Int32) (p : Int32) (y : Nat) (hy : y < 2 ^ 30) (hk : ∀ k, k < 30 → (a k >>> (4 &&& 31)) &&& 1 = zbt (nI y) k) : ∀ d i x f, 30 - i = d → i ≤ 30 → d < f → (∀ k, k < 32 → x.toBitVec.getLsbD k = (decide (k < i) && (nI y).toBitVec.getLsbD k)) → lp_L_seats_6 a e 1 p f x (nI i) = some (nI y) := by
  have hhi : ∀ k, 30 ≤ k → (nI y).toBitVec.getLsbD k = false := fun k hk => by
    rw [BitVec.getLsbD, pk_tn (by omega)]
    exact Nat.testBit_lt_two_pow (Nat.lt_of_lt_of_le hy (Nat.pow_le_pow_right (by decide) hk))
  intro d
  induction d with
  | zero =>
    intro i x f h1 h2 h3 hx
    obtain ⟨f, rfl⟩ := fu h3
    obtain rfl : i = 30 := by omega
    have : x = nI y := by
      apply Int32.toBitVec_inj.mp
      apply BitVec.eq_of_getLsbD_eq
      intro k hk
      rw [hx k hk]
      by_cases c : k < 30
      · simp [c]
      · rw [hhi k (by omega)]; simp
    rw [this]
    rfl
  | succ d ih =>
    intro i x f h1 h2 h3 hx
    obtain ⟨f, rfl⟩ := fu (by omega : 0 < f)
    have hin : i < 30 := by omega
    have hc : ¬ (30 : Int32) ≤ nI i := nI_ge (b := 30) hin (by decide)
    show lpB_L_seats_6 a e 1 p (lp_L_seats_6 a e 1 p f) x (nI i) = _
    unfold lpB_L_seats_6
    rw [if_neg hc, if_neg (by decide), zld_nI hin (by decide)]
    simp only [zlet_n]
    rw [hk i hin, nI_p1]
    unfold zbt
    by_cases c : (nI y).toBitVec.getLsbD i = true
    · rw [if_pos c]
      refine ih (i + 1) _ f (by omega) (by omega) (by omega) (fun k hk => ?_)
      rw [zb_shl i hin, Int32.toBitVec_or, BitVec.getLsbD_or, hx k hk, zb_one i k hin hk]
      by_cases c2 : k = i
      · subst c2; simp [c]
      · simp only [c2, decide_false, Bool.or_false]
        congr 1
        simp only [decide_eq_decide]; omega
    · rw [if_neg c]
      have z0 : (0 : Int32) <<< (nI i &&& 31) = 0 := by
        apply Int32.toBitVec_inj.mp
        rw [Int32.toBitVec_shiftLeft, show (0 : Int32).toBitVec = 0#32 from rfl, BitVec.shiftLeft_eq', BitVec.zero_shiftLeft]
      rw [z0, Int32.or_zero]
      refine ih (i + 1) _ f (by omega) (by omega) (by omega) (fun k hk => ?_)
      rw [hx k hk]
      by_cases c2 : k = i
      · subst c2
        have : (nI y).toBitVec.getLsbD k = false := by simpa using c
        simp [this]
      · congr 1
        simp only [decide_eq_decide]; omega
theorem b_paid {m : Nat} {v1 v2 v3 v4 v5 : Nat → Int32} {c y z : Int32} {a e n t r : Nat → Int32} {gc : Int32} (p : Int32) (h : zLb m v1 v2 v3 v4 v5 c y z a e n t r gc) (e' : Nat → Int32) : d_L_seats a e' 1 p = some y := by
  obtain ⟨b1, ⟨x, hx, ey⟩, b3⟩ := h
  rw [ey]
  refine q_paid a e' p x hx (fun k hk => ?_) 30 0 0 zF rfl (by decide) (by decide) (fun k hk => ?_)
  · obtain ⟨⟨lo, l1, l2, l3, l4⟩, q2⟩ := b1 k hk
    rw [l4, ac_4 lo (by omega), ey]; rfl
  · rw [bit_0]; simp
theorem o_pay {m A T N n : Nat} {v : zHV} {q a e nn t p w r c : Nat → Int32} (h : zLR m A T N n v (z9 q a e nn t p w r c)) {k : Nat} (hk : k < 30) : ∃ x v' a', d_X2_switchPay v (nI k) = some (x, v') ∧ (∀ p2, d_L_ofRest q a e 7 (nI k) p2 = some (x, q, a')) ∧ zOut m T N x v' (z9 q a e nn t p w r c) (z9 q a' e nn t p w r c) := by
  obtain ⟨ha, hb, hc, hd, he, hf, hg⟩ := zLR_9.mp h
  obtain ⟨b1, ⟨y, hy, ey⟩, b3, b4⟩ := hb
  obtain ⟨y', hy', ey'⟩ := zb_xorB y k hk hy
  have key : zLb m (v 1) (v 2) (v 3) (v 4) (v 5) (v 6 0) ((v 6 1) ^^^ (1 <<< (nI k &&& 31))) (v 6 2) (upd a k (a k ^^^ 16)) e nn t r (q 17) := by
    refine ⟨fun i hi => ?_, ⟨y', hy', by rw [ey, ey']⟩, b3, b4⟩
    obtain ⟨⟨lo, l1, l2, l3, l4⟩, q2⟩ := b1 i hi
    refine ⟨⟨lo, l1, l2, l3, ?_⟩, q2⟩
    have hbit : ((v 6 1) ^^^ (1 <<< (nI k &&& 31))).toBitVec.getLsbD i = ((v 6 1).toBitVec.getLsbD i).xor (decide (i = k)) := by
      rw [zb_shl k hk, Int32.toBitVec_xor, BitVec.getLsbD_xor, zb_one k i hk (by omega)]
    rw [hbit]
    by_cases c : i = k
    · subst c
      rw [pk_us, l4, ac_xor lo (by omega)]
      simp
    · rw [pk_un c, l4]
      simp [c]
  refine ⟨_, zs v 6 1 ((v 6 1) ^^^ (1 <<< (nI k &&& 31))), upd a k (a k ^^^ 16), ?_, fun p2 => ?_, zOut_of (x := (v 6 1) ^^^ (1 <<< (nI k &&& 31))) A T N n (show m ≤ m + 2 by omega) (zLR_9.mpr ⟨ha, key, hc, hd, he, hf, hg⟩) ?_ (by omega) (by omega)⟩
  · unfold d_X2_switchPay
    rw [seat_ok k hk, zcl_e, if_neg (by decide)]
    simp only [zlet_n]
    rfl
  · unfold d_L_ofRest
    rw [if_neg (by decide), zjn_e, if_neg (by decide), show zrm (nI k) 6 = zrm (γ := Int32 × (Nat → Int32) × (Nat → Int32)) (nI k) (nI 6) from rfl, zrm_nI (by omega) (by decide) (by decide), zld_nI (by omega) (by decide)]
    dsimp only
    rw [if_neg (by decide), if_pos rfl, zld_nI hk (by decide)]
    simp only [zlet_n]
    rw [zst_nI hk (by decide), b_paid 0 key e, zcl_e]
  · rw [ey, ey']
    exact nI_pos (by omega)
theorem set_tab : ∀ k : Nat, k < 6 → zLEAST k = nI (zSlo k) ∧ zMOST k = nI (zShi k) ∧ zSlo k < 1000 ∧ zShi k < 1000 := by decide +kernel
theorem o_set {m A T N n : Nat} {v : zHV} {q a e nn t p w r c : Nat → Int32} (h : zLR m A T N n v (z9 q a e nn t p w r c)) {k y : Nat} (hk : k < 6) (h1 : zSlo k ≤ y) (h2 : y ≤ zShi k) : ∃ x v' q', d_X2_changeSetting v (nI k) (nI y) = some (x, v') ∧ d_L_ofRest q a e 8 (nI k) (nI y) = some (x, q', a) ∧ zOut m T N x v' (z9 q a e nn t p w r c) (z9 q' a e nn t p w r c) := by
  obtain ⟨ha, hb, hc, hd, he, hf, hg⟩ := zLR_9.mp h
  obtain ⟨t1, t2, t3, t4⟩ := set_tab k hk
  obtain ⟨qk, x, x1, x2, ex⟩ := ha k hk
  refine ⟨v 0 k, zr v 0 (upd (v 0) k (nI y)), upd q k (nI y), ?_, ?_, zOut_of A T N n (show m ≤ m + 2 by omega) (zLR_9.mpr ⟨fun j hj => ?_, ?_, ?_, hd, he_q he (fun j h1 h2 => pk_un (by omega)), ?_, ?_⟩) ?_ (by omega : T ≤ T + 99) (by omega : N ≤ N + 1)⟩
  · unfold d_X2_changeSetting
    rw [if_neg (nI_pos (by omega)), if_neg (nI_ge hk (by decide)), if_pos (nI_lt hk (by decide)), zld_nI hk (by decide), t1, if_neg (by rw [nN_lt (by omega) (by omega)]; omega), zld_nI hk (by decide), t2, if_pos (nI_le h2 (by omega)), r_at 6 _ k hk (by decide), zcl_e, r_store 6 _ k _ hk (by decide), zup_e]
  · unfold d_L_ofRest
    rw [if_neg (by decide), zjn_e, if_neg (by decide), show zrm (nI k) 6 = zrm (γ := Int32 × (Nat → Int32) × (Nat → Int32)) (nI k) (nI 6) from rfl, zrm_nI (by omega) (by decide) (by decide), Nat.mod_eq_of_lt hk, zld_nI (by omega) (by decide)]
    dsimp only
    rw [if_neg (by decide), if_neg (by decide), zst_nI (by omega) (by decide), qk]
  · show upd q k (nI y) j = upd (v 0) k (nI y) j ∧ ∃ x, zSlo j ≤ x ∧ x ≤ zShi j ∧ upd (v 0) k (nI y) j = nI x
    by_cases cj : j = k
    · subst cj; rw [pk_us, pk_us]; exact ⟨rfl, y, h1, h2, rfl⟩
    · rw [pk_un cj, pk_un cj]; exact ha j hj
  · rw [show upd q k (nI y) 17 = q 17 from pk_un (by omega)]; exact hb
  · rw [show upd q k (nI y) 16 = q 16 from pk_un (by omega)]; exact hc
  · rw [show upd q k (nI y) 18 = q 18 from pk_un (by omega)]; exact hf
  · obtain ⟨hA, hT, hN, ea, et, en, hby, hen, ga, gt, gn, gh, ge, go⟩ := hg
    refine ⟨hA, hT, hN, ea, et, en, hby, hen, ?_, ?_, ?_, ?_, ?_, ?_⟩
    · rw [pk_un (by omega)]; exact ga
    · rw [pk_un (by omega)]; exact gt
    · rw [pk_un (by omega)]; exact gn
    · rw [pk_un (by omega)]; exact gh
    · rw [pk_un (by omega), pk_un (by omega)]; exact ge
    · rw [pk_un (by omega)]; exact go
  · rw [ex]; exact nI_pos (by omega)
theorem o_loud {m A T N n : Nat} {v : zHV} {q a e nn t p w r c : Nat → Int32} (h : zLR m A T N n v (z9 q a e nn t p w r c)) {k y : Nat} (hk : k < 30) (h1 : 1 ≤ y) (h2 : y ≤ 9) : ∃ x v' a', d_X2_changeLoudness v (nI k) (nI y) = some (x, v') ∧ d_L_ofRest q a e 6 (nI k) (nI y) = some (x, q, a') ∧ zOut m T N x v' (z9 q a e nn t p w r c) (z9 q a' e nn t p w r c) := by
  obtain ⟨ha, hb, hc, hd, he, hf, hg⟩ := zLR_9.mp h
  obtain ⟨b1, b2⟩ := hb
  obtain ⟨⟨lo, l1, l2, l3, l4⟩, q2⟩ := b1 k hk
  refine ⟨nI lo, zr v 1 (upd (v 1) k (nI y)), upd a k (a k - nI lo + nI y), ?_, ?_, zOut_of A T N n (show m ≤ m + 2 by omega) (zLR_9.mpr ⟨ha, ⟨fun j hj => ?_, b2⟩, hc, hd, he, hf, hg⟩) (nI_pos (by omega)) (by omega : T ≤ T + 99) (by omega : N ≤ N + 1)⟩
  · unfold d_X2_changeLoudness
    rw [seat_ok k hk, zcl_e, if_neg (by decide), if_neg (show ¬ nI y < 1 from by rw [nR_lt (by omega) (by decide)]; omega), if_pos (show nI y ≤ 9 from nI_le (b := 9) h2 (by decide)), r_at 30 _ k hk (by decide), zcl_e, r_store 30 _ k _ hk (by decide), zup_e, l3]
  · unfold d_L_ofRest
    rw [if_neg (by decide), zjn_e, if_pos rfl, zld_nI hk (by decide), zlet_n]
    dsimp only
    rw [if_pos rfl, zld_nI hk (by decide)]
    simp only [zlet_n]
    rw [zst_nI hk (by decide), l4, ac_15 lo (by omega)]
  · show (∃ l, 1 ≤ l ∧ l ≤ 9 ∧ upd (v 1) k (nI y) j = nI l ∧ upd a k (a k - nI lo + nI y) j = nI (zAc l ((v 6 1).toBitVec.getLsbD j) ((v 6 2).toBitVec.getLsbD j))) ∧ e j = v 2 j ∧ nn j = v 3 j ∧ t j = v 4 j ∧ ∃ x, x ≤ m ∧ v 3 j = nI x
    by_cases cj : j = k
    · subst cj
      rw [pk_us, pk_us]
      exact ⟨⟨y, h1, h2, rfl, by rw [l4, ac_set lo (by omega) y (by omega)]⟩, q2⟩
    · rw [pk_un cj, pk_un cj]; exact b1 j hj
