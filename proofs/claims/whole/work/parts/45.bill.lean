/-! ===== the pad: signs, numbers, the bill ===== -/
def zPd (L : Nat) (w μ μ0 : zHV) : Prop := w 1 0 = nI L ∧ μ 6 1 = nI L ∧ (∀ k, k < L → w 0 k = μ 5 k) ∧ (∀ i, ¬ i = 5 → ¬ i = 6 → μ i = μ0 i) ∧ ∀ k, ¬ k = 1 → μ 6 k = μ0 6 k
theorem b_sg {L : Nat} {w μ μ0 : zHV} (x : Int32) (h : zPd L w μ μ0) (hL : L < 80) : ∃ w' μ', d_X4_append w x = some w' ∧ d_X8_writeSign μ x = some μ' ∧ zPd (L + 1) w' μ' μ0 := by
  obtain ⟨h1, h2, h3, h4, h5⟩ := h
  unfold d_X4_append d_X8_writeSign
  rw [h1, h2, if_neg (nI_pos (by omega)), if_neg (nI_ge hL (by decide)), zsv_nI hL (by decide), zsv_nI hL (by decide)]
  simp only [zlet_n]
  rw [show zr w 0 (upd (w 0) L x) 1 0 = nI L from h1, show zr μ 5 (upd (μ 5) L x) 6 1 = nI L from h2, nI_1]
  refine ⟨_, _, rfl, rfl, rfl, rfl, fun k hk => ?_, fun i h5 h6 => ?_, fun k hk => ?_⟩
  · show upd (w 0) L x k = upd (μ 5) L x k
    by_cases c : k = L
    · rw [c, pk_us, pk_us]
    · rw [pk_un c, pk_un c]; exact h3 k (by omega)
  · rw [← h4 i h5 h6]
    funext b
    rw [zs_at, if_neg h6, zr_at, if_neg h5]
  · rw [← h5 k hk]
    show zs _ 6 1 _ 6 k = _
    rw [zs_at, if_pos rfl, if_neg hk, zr_at, if_neg (by decide)]
theorem p10 {e : Nat} (h : e ≤ 9) : 1 ≤ 10 ^ e ∧ 10 ^ e ≤ 1000000000 := ⟨Nat.pow_pos (by decide), Nat.le_trans (Nat.pow_le_pow_right (by decide) h) (by decide)⟩
theorem zrm_nI {γ : Type} {a d : Nat} {K : Int32 → Option γ} (ha : a < 2147483648) (h0 : 0 < d) (hd : d < 2147483648) : zrm (nI a) (nI d) K = K (nI (a % d)) := by
  unfold zrm
  rw [if_neg (nI_ne0 h0 hd), pk_rem ha h0 hd]
/-- one digit of the class's loop: left out, or written -/
theorem d7_skip {c : Int32} {n e f : Nat} {w : zHV} (hn : n < 2147483648) (he : e + 1 ≤ 9) (hd : n / 10 ^ (e + 1) = 0) : lp_X4_appendPart_11 c (nI n) (f + 1) 0 (nI (10 ^ (e + 1))) w = lp_X4_appendPart_11 c (nI n) f 0 (nI (10 ^ e)) w := by
  obtain ⟨k1, k2⟩ := p10 he
  have hq : 10 ^ (e + 1) / 10 = 10 ^ e := by rw [Nat.pow_succ]; exact Nat.mul_div_cancel _ (by decide)
  have h10 : 10 ≤ 10 ^ (e + 1) := by rw [Nat.pow_succ]; have := (p10 (show e ≤ 9 by omega)).1; omega
  show lpB_X4_appendPart_11 c (nI n) (lp_X4_appendPart_11 c (nI n) f) 0 (nI (10 ^ (e + 1))) w = _
  unfold lpB_X4_appendPart_11
  rw [if_neg (show ¬ nI (10 ^ (e + 1)) ≤ 0 from nI_nle (by omega) (by omega)), zdv_nI hn (by omega) (by omega), hd, show (10 : Int32) = nI 10 from rfl, zrm_nI (by decide) (by decide) (by decide)]
  simp only [zjn_e]
  rw [if_pos trivial, if_neg (show ¬ 0 < nI (0 % 10) from by decide), if_neg (show ¬ nI (10 ^ (e + 1)) = 1 from fun q => by
    have := (nI_eq (b := 1) (by omega) (by decide)).mp q
    omega), if_pos trivial, zdv_nI (by omega) (by decide) (by decide), hq]
theorem d7_put {c x : Int32} {n e f : Nat} {w : zHV} (hn : n < 2147483648) (he : e ≤ 9) (hx : x = 1 ∨ (x = 0 ∧ (0 < n / 10 ^ e % 10 ∨ e = 0))) : lp_X4_appendPart_11 c (nI n) (f + 1) x (nI (10 ^ e)) w = zup (d_X4_append w (nI (48 + n / 10 ^ e % 10))) (fun u => u) fun v56 => lp_X4_appendPart_11 c (nI n) f 1 (nI (10 ^ e / 10)) v56 := by
  obtain ⟨k1, k2⟩ := p10 he
  have hd := Nat.div_le_self n (10 ^ e)
  have hm := Nat.mod_lt (n / 10 ^ e) (show 0 < 10 by decide)
  show lpB_X4_appendPart_11 c (nI n) (lp_X4_appendPart_11 c (nI n) f) x (nI (10 ^ e)) w = _
  unfold lpB_X4_appendPart_11
  rw [if_neg (show ¬ nI (10 ^ e) ≤ 0 from nI_nle (by omega) (by omega)), zdv_nI hn (by omega) (by omega), show (10 : Int32) = nI 10 from rfl, zrm_nI (by omega) (by decide) (by decide)]
  simp only [zjn_e, zlet_n, nL_add, zdv_nI (show 10 ^ e < 2147483648 by omega) (show 0 < 10 by decide) (show 10 < 2147483648 by decide)]
  have h10 : ¬ (1 : Int32) = 0 := by decide
  rcases hx with rfl | ⟨rfl, hx⟩
  · rw [if_neg h10, if_neg h10]
  · rw [if_pos rfl]
    rcases hx with hx | rfl
    · rw [if_pos (show 0 < nI (n / 10 ^ e % 10) from nI_lt (a := 0) hx (by omega)), if_neg h10]
    · by_cases c0 : 0 < nI (n / 10 ^ 0 % 10)
      · rw [if_pos c0, if_neg h10]
      · rw [if_neg c0, if_pos (show nI (10 ^ 0) = 1 from rfl), if_neg h10]
theorem d8_put {n e f : Nat} {μ : zHV} (hn : n < 2147483648) (he : e ≤ 9) : lp_X8_writeNumber_18 (nI n) (f + 1) (nI (10 ^ e)) μ = zup (d_X8_writeSign μ (nI (48 + n / 10 ^ e % 10))) (fun u => u) fun v32 => lp_X8_writeNumber_18 (nI n) f (nI (10 ^ e / 10)) v32 := by
  obtain ⟨k1, k2⟩ := p10 he
  have hd := Nat.div_le_self n (10 ^ e)
  show lpB_X8_writeNumber_18 (nI n) (lp_X8_writeNumber_18 (nI n) f) (nI (10 ^ e)) μ = _
  unfold lpB_X8_writeNumber_18
  rw [if_neg (show ¬ nI (10 ^ e) ≤ 0 from nI_nle (by omega) (by omega)), zdv_nI hn (by omega) (by omega), show (10 : Int32) = nI 10 from rfl, zrm_nI (by omega) (by decide) (by decide), zlet_n, nL_add]
  simp only [zdv_nI (show 10 ^ e < 2147483648 by omega) (show 0 < 10 by decide) (show 10 < 2147483648 by decide)]
theorem q_digs {c : Int32} {n : Nat} {μ0 : zHV} (hn : n < 2147483648) : ∀ e (x : Int32) f f' L w μ, e ≤ 9 → (x = 1 ∨ (x = 0 ∧ (0 < n / 10 ^ e % 10 ∨ e = 0))) → e + 1 < f → e + 1 < f' → L + e + 1 ≤ 80 → zPd L w μ μ0 → ∃ w' μ', lp_X4_appendPart_11 c (nI n) f x (nI (10 ^ e)) w = some w' ∧ lp_X8_writeNumber_18 (nI n) f' (nI (10 ^ e)) μ = some μ' ∧ zPd (L + e + 1) w' μ' μ0 := by
  intro e
  induction e with
  | zero =>
    intro x f f' L w μ he hx hf hf' hL h
    obtain ⟨f, rfl⟩ : ∃ k, f = k + 2 := ⟨f - 2, by omega⟩
    obtain ⟨f', rfl⟩ : ∃ k, f' = k + 2 := ⟨f' - 2, by omega⟩
    obtain ⟨w1, μ1, k1, k2, k3⟩ := b_sg (nI (48 + n / 10 ^ 0 % 10)) h (by omega)
    rw [d7_put hn he hx, d8_put hn he, k1, k2, zup_e, zup_e]
    exact ⟨w1, μ1, rfl, rfl, k3⟩
  | succ e ih =>
    intro x f f' L w μ he hx hf hf' hL h
    obtain ⟨f, rfl⟩ := fu (by omega : 0 < f)
    obtain ⟨f', rfl⟩ := fu (by omega : 0 < f')
    obtain ⟨w1, μ1, k1, k2, k3⟩ := b_sg (nI (48 + n / 10 ^ (e + 1) % 10)) h (by omega)
    have hq : 10 ^ (e + 1) / 10 = 10 ^ e := by rw [Nat.pow_succ]; exact Nat.mul_div_cancel _ (by decide)
    rw [d7_put hn he hx, d8_put hn he, k1, k2, zup_e, zup_e, hq]
    obtain ⟨w2, μ2, m1, m2, m3⟩ := ih 1 f f' (L + 1) w1 μ1 (by omega) (Or.inl rfl) (by omega) (by omega) (by omega) k3
    refine ⟨w2, μ2, m1, m2, ?_⟩
    rw [show L + (e + 1) + 1 = L + 1 + e + 1 by omega]
    exact m3
/-- a number after a sign -/
theorem b_part {L n : Nat} {w μ μ0 : zHV} (c : Int32) (hn : n < 2147483648) (h : zPd L w μ μ0) (hL : L + 11 ≤ 80) : ∃ L' w' μ', L' ≤ L + 11 ∧ (n ≤ 9 → L' = L + 2) ∧ d_X4_appendPart w c (nI n) = some w' ∧ (zup (d_X8_writeSign μ c) (fun u => u) fun v => d_X8_writeNumber v (nI n)) = some μ' ∧ zPd L' w' μ' μ0 := by
  obtain ⟨w1, μ1, k1, k2, k3⟩ := b_sg c h (by omega)
  obtain ⟨D, hD, hmin⟩ := pk_least (fun e => n / 10 ^ e ≤ 9) ⟨9, by show n / 1000000000 ≤ 9; omega⟩
  have hD9 : D ≤ 9 := Nat.le_of_not_lt (fun q => hmin 9 q (by show n / 1000000000 ≤ 9; omega))
  have hzero : ∀ e, D < e → n / 10 ^ e = 0 := fun e he => by
    obtain ⟨k, rfl⟩ : ∃ k, e = D + 1 + k := ⟨e - (D + 1), by omega⟩
    rw [Nat.pow_add, Nat.pow_succ, ← Nat.div_div_eq_div_mul, ← Nat.div_div_eq_div_mul, Nat.div_eq_of_lt (show n / 10 ^ D < 10 by omega), Nat.zero_div]
  have hbig : ∀ e, e < D → ¬ n / 10 ^ e ≤ 9 := hmin
  have hx : (0 : Int32) = 1 ∨ ((0 : Int32) = 0 ∧ (0 < n / 10 ^ D % 10 ∨ D = 0)) := by
    refine Or.inr ⟨rfl, ?_⟩
    by_cases c0 : D = 0
    · exact Or.inr c0
    · obtain ⟨k, rfl⟩ : ∃ k, D = k + 1 := ⟨D - 1, by omega⟩
      have h1 := hbig k (by omega)
      refine Or.inl ?_
      rw [Nat.mod_eq_of_lt (by omega), Nat.pow_succ, ← Nat.div_div_eq_div_mul]
      omega
  have hskip : ∀ d f w, D + d ≤ 9 → lp_X4_appendPart_11 c (nI n) (f + d) 0 (nI (10 ^ (D + d))) w = lp_X4_appendPart_11 c (nI n) f 0 (nI (10 ^ D)) w := by
    intro d
    induction d with
    | zero => intro f w _; rfl
    | succ d ih =>
      intro f w hd
      rw [← Nat.add_assoc, ← Nat.add_assoc, d7_skip hn (by omega) (hzero _ (by omega))]
      exact ih f w (by omega)
  have hfind : ∀ d e f μ, e + d = D → lp_X8_writeNumber_2 (nI n) (f + d + 1) (nI (10 ^ e)) μ = lp_X8_writeNumber_18 (nI n) zF (nI (10 ^ D)) μ := by
    intro d
    induction d with
    | zero =>
      intro e f μ he
      have he : e = D := he
      subst he
      obtain ⟨k1, k2⟩ := p10 hD9
      show lpB_X8_writeNumber_2 (nI n) (lp_X8_writeNumber_2 (nI n) f) (nI (10 ^ e)) μ = _
      unfold lpB_X8_writeNumber_2
      rw [zdv_nI hn (by omega) (by omega), if_pos (show nI (n / 10 ^ e) ≤ 9 from nI_le (b := 9) hD (by decide))]
    | succ d ih =>
      intro e f μ he
      obtain ⟨k1, k2⟩ := p10 (show e ≤ 9 by omega)
      have hd := Nat.div_le_self n (10 ^ e)
      have h1 := hbig e (by omega)
      show lpB_X8_writeNumber_2 (nI n) (lp_X8_writeNumber_2 (nI n) (f + d + 1)) (nI (10 ^ e)) μ = _
      unfold lpB_X8_writeNumber_2
      rw [zdv_nI hn (by omega) (by omega), if_neg (show ¬ nI (n / 10 ^ e) ≤ 9 from nI_ge (a := 9) (by omega) (by omega)), zlet_n, nR_mul, ← Nat.pow_succ]
      exact ih (e + 1) f μ (by omega)
  obtain ⟨w2, μ2, m1, m2, m3⟩ := q_digs (c := c) hn D 0 (100000 - (9 - D)) zF (L + 1) w1 μ1 hD9 hx (by omega) (by unfold zF; omega) (by omega) k3
  refine ⟨L + 1 + D + 1, w2, μ2, by omega, fun h9 => ?_, ?_, ?_, m3⟩
  · have : D = 0 := by
      refine Nat.eq_zero_of_not_pos (fun q => ?_)
      have := hbig 0 q
      rw [Nat.pow_zero, Nat.div_one] at this
      omega
    omega
  · unfold d_X4_appendPart
    rw [k1, zup_e]
    have := hskip (9 - D) (100000 - (9 - D)) w1 (by omega)
    rw [show 100000 - (9 - D) + (9 - D) = 100000 by omega, show D + (9 - D) = 9 by omega] at this
    exact this.trans m1
  · rw [k2, zup_e]
    unfold d_X8_writeNumber
    have := hfind D 0 (100000 - D - 1) μ1 (by omega)
    rw [show 100000 - D - 1 + D + 1 = 100000 by omega] at this
    exact this.trans m2
theorem zM_row {g μ μ' : zHV} (h : μ' 0 = zM5 μ g 0) : μ' = zM5 μ' g := by
  funext i
  unfold zM5 zr
  split
  · next q => rw [q, h]; rfl
  · rfl
theorem q_bill {m A T N n : Nat} {v g μ0 : zHV} (hR : zRel m A T N n v g) (h0 : μ0 0 = zE5 g) : ∀ d i f f' L w μ, 6 - i = d → i ≤ 6 → d < f → d < f' → L + 4 * d ≤ 69 → zPd L w μ μ0 → ∃ L' w' μ', L' ≤ 80 ∧ lp_X2_writeBill_58 v f (nI i) w = some w' ∧ lp_X8_write_75 f' (nI i) μ = some (nI L', μ') ∧ zPd L' w' μ' μ0 := by
  intro d
  induction d with
  | zero =>
    intro i f f' L w μ h1 h2 h3 h4 h5 h
    obtain ⟨f, rfl⟩ := fu h3
    obtain ⟨f', rfl⟩ := fu h4
    obtain rfl : i = 6 := by omega
    refine ⟨L, w, μ, by omega, rfl, ?_, h⟩
    show lpB_X8_write_75 (lp_X8_write_75 f') (nI 6) μ = _
    unfold lpB_X8_write_75
    rw [if_pos (by decide), h.2.1]
  | succ d ih =>
    intro i f f' L w μ h1 h2 h3 h4 h5 h
    obtain ⟨f, rfl⟩ := fu (by omega : 0 < f)
    obtain ⟨f', rfl⟩ := fu (by omega : 0 < f')
    have hrow : ∀ μ', (∀ i, ¬ i = 5 → ¬ i = 6 → μ' i = μ0 i) → μ' = zM5 μ' g := fun μ' q => zM_row (μ := μ0) (by rw [q 0 (by decide) (by decide), h0]; rfl)
    obtain ⟨t, t8, t1, t2⟩ := b_owes (μ := μ) hR (nI i)
    rw [← hrow μ h.2.2.2.1] at t2
    show ∃ L' w' μ', L' ≤ 80 ∧ lpB_X2_writeBill_58 v (lp_X2_writeBill_58 v f) (nI i) w = some w' ∧ lpB_X8_write_75 (lp_X8_write_75 f') (nI i) μ = some (nI L', μ') ∧ zPd L' w' μ' μ0
    unfold lpB_X2_writeBill_58 lpB_X8_write_75
    have hi : ¬ (6 : Int32) ≤ nI i := nI_ge (b := 6) (by omega) (by decide)
    rw [if_neg hi, if_neg hi, t1, t2, zcl_e, zcl_e]
    by_cases c : t = 0
    · subst c
      rw [if_pos (by decide), if_pos (by decide), zlet_n, zlet_n, nI_p1]
      exact ih (i + 1) f f' L w μ (by omega) (by omega) (by omega) (by omega) (by omega) h
    · rw [if_neg (show ¬ nI t ≤ 0 from nI_nle (by omega) (by omega)), if_neg (show ¬ nI t ≤ 0 from nI_nle (by omega) (by omega))]
      obtain ⟨L1, w1, μ1, -, b2, b3, b4, b5⟩ := b_part 44 (n := i) (by omega) h (by omega)
      have b2 := b2 (by omega)
      obtain ⟨L2, w2, μ2, -, c2, c3, c4, c5⟩ := b_part 58 (n := t) (by omega) b5 (by omega)
      have c2 := c2 (by omega)
      cases hs : d_X8_writeSign μ 44 with
      | none => rw [hs] at b4; cases b4
      | some z1 =>
        rw [hs, zup_e] at b4
        rw [zup_e, b4, zup_e]
        obtain ⟨w9, μ9, -, d2, d3⟩ := b_sg 58 b5 (by omega)
        rw [d2, zup_e] at c4
        obtain ⟨t', -, t3, t4⟩ := b_owes (μ := μ9) hR (nI i)
        rw [← hrow μ9 d3.2.2.2.1] at t4
        have ht : nI t' = nI t := by rw [t1] at t3; exact (Option.some.inj t3).symm
        rw [d2, zup_e, t4, ht, zcl_e, c4, zup_e, b3, zup_e, c3, zup_e, zlet_n, zlet_n, nI_p1]
        exact ih (i + 1) f f' L2 w2 μ2 (by omega) (by omega) (by omega) (by omega) (by omega) c5
theorem zup_zup {α β γ : Type} (d : Option α) (K : α → Option β) (K' : β → Option γ) : (zup d (fun u => u) fun v => zup (K v) (fun u => u) K') = zup (zup d (fun u => u) K) (fun u => u) K' := by
  cases d <;> rfl
theorem zq_pd {L : Nat} {w z μ μ0 : zHV} (h : zPd L z μ μ0) : zPd L (zq w 0 2 z) μ μ0 := h
theorem stp_write : zSt_write zSim := by
  intro j v w u q μ hj h
  have h' := h
  obtain ⟨A, T, N, n, g, eμ, hR⟩ := zm_of h
  obtain ⟨hv, ⟨L, hL, w1, m1, hk⟩, h3, h4⟩ := h
  have hR' := hR
  obtain ⟨ha, hb, hc, hd, ⟨f1, ⟨a0, b0, d0⟩, ⟨a1, b1, d1⟩, ⟨a2, b2, d2⟩, a3, b3, d3⟩, hf⟩ := hR
  have hm0 : μ 0 = zE5 g := by rw [eμ]; rfl
  unfold d_X7_write d_X2_writeBill d_X4_length d_X4_clear d_X8_write
  simp only [zlet_n, zup_e]
  have hP0 : zPd 0 (zq w 0 2 (zs w 1 0 0)) (zs μ 6 1 0) μ := ⟨rfl, rfl, fun k hk => by omega, fun i _ i6 => by funext b; rw [zs_at, if_neg i6], fun k hk => by rw [zs_at, if_pos rfl, if_neg hk]⟩
  have hrow : ∀ {L w μ'}, zPd L w μ' μ → μ' 0 = zM5 μ g 0 := fun q => by rw [q.2.2.2.1 0 (by decide) (by decide), hm0]; rfl
  obtain ⟨L1, x1, y1, e1, -, e2, e3, e4⟩ := b_part 99 (n := a0) (by omega) hP0 (by omega)
  obtain ⟨L2, x2, y2, g1, -, g2, g3, g4⟩ := b_part 101 (n := a1) (by omega) e4 (by omega)
  obtain ⟨L3, x3, y3, i1, -, i2, i3, i4⟩ := b_part 108 (n := a2) (by omega) g4 (by omega)
  obtain ⟨L4, x4, y4, l1, -, l2, l3, l4⟩ := b_part 107 (n := a3) (by omega) i4 (by omega)
  obtain ⟨L5, x5, y5, n1, n2, n3, n4⟩ := q_bill hR' hm0 6 0 zF zF L4 x4 y4 rfl (by decide) (by decide) (by decide) (by omega) l4
  have hz : ∀ (μ' : zHV) (x K : Int32) (Lx : Nat) (wx : zHV), zPd Lx wx μ' μ → Lx < 80 → ∃ z, d_X8_writeSign μ' x = some z ∧ z 0 = zM5 μ g 0 := fun μ' x K Lx wx hp hl => by
    obtain ⟨w9, μ9, -, p2, p3⟩ := b_sg x hp hl
    exact ⟨μ9, p2, hrow p3⟩
  obtain ⟨z1, s1, r1⟩ := hz (zs μ 6 1 0) 99 0 _ _ hP0 (by omega)
  obtain ⟨z2, s2, r2⟩ := hz y1 101 0 _ _ e4 (by omega)
  obtain ⟨z3, s3, r3⟩ := hz y2 108 0 _ _ g4 (by omega)
  obtain ⟨z4, s4, r4⟩ := hz y3 107 0 _ _ i4 (by omega)
  rw [s1, zup_e] at e3
  rw [s2, zup_e] at g3
  rw [s3, zup_e] at i3
  rw [s4, zup_e] at l3
  rw [s1, zup_e, r1, L9, f1 0 (by decide), d0, e3, zup_e, s2, zup_e, r2, L10, f1 1 (by decide), d1, g3, zup_e, s3, zup_e, r3, L11, f1 2 (by decide), d2, i3, zup_e, s4, zup_e, r4, L12, f1 3 (by decide), d3, l3, zup_e]
  rw [show lp_X8_write_75 zF 0 y4 = some (nI L5, y5) from n3]
  rw [R0_at _ _ (by decide) (by decide), zcl_e, d0, e2, zup_e, R1_at _ _ (by decide) (by decide), zcl_e, d1, g2, zup_e, R2_at _ _ (by decide) (by decide), zcl_e, d2, i2, zup_e, R3_at _ _ (by decide) (by decide), zcl_e, d3, l2, zup_e, show lp_X2_writeBill_58 v zF 0 x4 = some x5 from n2, zup_e, zcl_e]
  refine ⟨nI L5, zq (zq w 0 2 (zs w 1 0 0)) 0 2 x5, y5, ?_, rfl, ?_⟩
  · rw [show zq (zq w 0 2 (zs w 1 0 0)) 0 2 x5 1 0 = nI L5 from n4.1]
  · refine ⟨?_, ⟨L5, n1, n4.1, n4.2.1, n4.2.2.1⟩, ?_, ?_⟩
    · rw [n4.2.2.2.1 0 (by decide) (by decide)]; exact zS1_up (by omega) hv
    · rw [n4.2.2.2.1 2 (by decide) (by decide), n4.2.2.2.2 0 (by decide)]; exact zS3_up (by omega) h3
    · rw [n4.2.2.2.1 3 (by decide) (by decide), n4.2.2.2.1 4 (by decide) (by decide)]; exact zS4_up (by omega) h4
