/-! ===== put ===== -/
theorem lsh7 (p : Int64) (s : UInt64) (n : Nat) (hs : (s.toBitVec % 64).toNat = n) : (p.toUInt64 >>> s).toInt64.toBitVec = p.toBitVec >>> n := by
  show (p.toUInt64 >>> s).toBitVec = _
  rw [UInt64.toBitVec_shiftRight, BitVec.ushiftRight_eq', hs]; rfl
theorem lsh8 (p s : Int64) (n : Nat) (hs : (s.toBitVec.smod 64).toNat = n) : (p >>> s).toBitVec = p.toBitVec.sshiftRight n := by
  rw [Int64.toBitVec_shiftRight, BitVec.sshiftRight_eq', hs]
theorem ls_t7 : ∀ i : Nat, i < 8 → ((((8 * nI i : Int32)).toInt64.toUInt64 &&& Int64.toUInt64 63).toBitVec % 64).toNat = 8 * i := by decide +kernel
theorem ls_t8 : ∀ i : Nat, i < 8 → (((8 * nI i : Int32).toInt64 &&& 63).toBitVec.smod 64).toNat = 8 * i := by decide +kernel
theorem ls_255 (k : Nat) (hk : k < 64) : (255#64).getLsbD k = decide (k < 8) := by
  have : ∀ k : Nat, k < 64 → (255#64).getLsbD k = decide (k < 8) := by decide +kernel
  exact this k hk
theorem ls_eq (p : Int64) (i : Nat) (hi : i < 8) : ((p.toUInt64 >>> (((8 * nI i : Int32)).toInt64.toUInt64 &&& Int64.toUInt64 63)).toInt64 &&& 255 : Int64) = (p >>> ((8 * nI i : Int32).toInt64 &&& 63)) &&& 255 := by
  apply Int64.toBitVec_inj.mp
  rw [Int64.toBitVec_and, Int64.toBitVec_and, lsh7 p _ (8 * i) (ls_t7 i hi), lsh8 p _ (8 * i) (ls_t8 i hi)]
  apply BitVec.eq_of_getLsbD_eq
  intro k hk
  rw [BitVec.getLsbD_and, BitVec.getLsbD_and, show (255 : Int64).toBitVec = 255#64 from rfl, ls_255 k hk, BitVec.getLsbD_ushiftRight, BitVec.getLsbD_sshiftRight]
  by_cases c : k < 8
  · rw [if_pos (by omega)]; simp [show ¬ 64 ≤ k by omega]
  · simp [c]
theorem ls_8 (x : Int64) : ((x.toUInt64 >>> ((8 : Int32).toInt64.toUInt64 &&& Int64.toUInt64 63)).toInt64).toBitVec.toNat = x.toBitVec.toNat / 256 := by
  rw [lsh7 x _ 8 (by decide +kernel), BitVec.toNat_ushiftRight, Nat.shiftRight_eq_div_pow]
theorem q_amt (p : Int64) : ∀ d k (x : Int64) f f', 8 - k = d → k ≤ 8 → d < f → d < f' → x.toBitVec.toNat < 256 ^ (8 - k) → (lp_X4_amountOf_4 p f (nI k) x = some (-2) ∧ lp_X8_charactersIn_4 p f' (nI k) x = some 0) ∨ ∃ r, 1 ≤ r ∧ r ≤ 8 ∧ lp_X4_amountOf_4 p f (nI k) x = some (nI r) ∧ lp_X8_charactersIn_4 p f' (nI k) x = some (nI r) := by
  intro d
  induction d with
  | zero =>
    intro k x f f' h1 h2 h3 h4 hx
    obtain ⟨f, rfl⟩ := fu h3
    obtain ⟨f', rfl⟩ := fu h4
    obtain rfl : k = 8 := by omega
    have hx0 : x = 0 := by
      apply Int64.toBitVec_inj.mp
      apply BitVec.eq_of_toNat_eq
      have h5 : x.toBitVec.toNat < 1 := hx
      show x.toBitVec.toNat = 0
      omega
    subst hx0
    exact Or.inr ⟨8, by decide, by decide, rfl, rfl⟩
  | succ d ih =>
    intro k x f f' h1 h2 h3 h4 hx
    obtain ⟨f, rfl⟩ := fu (by omega : 0 < f)
    obtain ⟨f', rfl⟩ := fu (by omega : 0 < f')
    have h8 : ¬ (8 : Int32) ≤ nI k := nI_ge (b := 8) (by omega) (by decide)
    have e7 : lp_X4_amountOf_4 p (f + 1) (nI k) x = if lg_cmp x 0 = 0 then (if nI k = 0 then some (-2) else some (nI k)) else if (x &&& 255 : Int64).toInt32 < 33 then some (-2) else if (x &&& 255 : Int64).toInt32 ≤ 126 then lp_X4_amountOf_4 p f (nI (k + 1)) ((x.toUInt64 >>> ((8 : Int32).toInt64.toUInt64 &&& Int64.toUInt64 63)).toInt64) else some (-2) := by
      show lpB_X4_amountOf_4 p (lp_X4_amountOf_4 p f) (nI k) x = _
      unfold lpB_X4_amountOf_4
      simp only [zjn_e, zlet_n, nI_p1]
      rw [if_neg h8]
    have e8 : lp_X8_charactersIn_4 p (f' + 1) (nI k) x = if lg_cmp (x &&& 255) 0 = 0 then (if lg_cmp x 0 = 0 then some (nI k) else some 0) else zcl (d_X8_isCharacter (x &&& 255 : Int64).toInt32) fun t26 => if t26 = 0 then some 0 else lp_X8_charactersIn_4 p f' (nI (k + 1)) ((x.toUInt64 >>> ((8 : Int32).toInt64.toUInt64 &&& Int64.toUInt64 63)).toInt64) := by
      show lpB_X8_charactersIn_4 p (lp_X8_charactersIn_4 p f') (nI k) x = _
      unfold lpB_X8_charactersIn_4
      simp only [zjn_e, zlet_n, nI_p1]
      rw [if_neg h8]
    rw [e7, e8]
    by_cases c0 : x = 0
    · subst c0
      have z1 : lg_cmp 0 0 = 0 := by decide
      have z2 : lg_cmp (0 &&& 255) 0 = 0 := by decide
      rw [if_pos z1, if_pos z2, if_pos z1]
      by_cases ck : k = 0
      · subst ck; exact Or.inl ⟨rfl, rfl⟩
      · rw [if_neg (nI_ne0 (by omega) (by omega))]
        exact Or.inr ⟨k, by omega, h2, rfl, rfl⟩
    · have n0 : ¬ lg_cmp x 0 = 0 := fun q => c0 ((lg_cmp_eq x 0).mp q)
      rw [if_neg n0]
      by_cases c1 : (x &&& 255 : Int64) = 0
      · rw [c1, if_pos (by decide), if_pos (show lg_cmp 0 0 = 0 by decide), if_neg n0]
        exact Or.inl ⟨rfl, rfl⟩
      · rw [if_neg (fun q => c1 ((lg_cmp_eq (x &&& 255) 0).mp q))]
        unfold d_X8_isCharacter
        rcases w_case (x &&& 255 : Int64).toInt32 33 126 (by decide) with ⟨e, hc⟩ | ⟨e, hc1, hc2⟩
        · rw [show d_X8_within (x &&& 255 : Int64).toInt32 33 126 = some 0 from e, zcl_e, zgb_0, zcl_e, if_pos rfl]
          rcases hc with hc | ⟨hc, hc2⟩
          · rw [if_pos (show (x &&& 255 : Int64).toInt32 < 33 from hc)]; exact Or.inl ⟨rfl, rfl⟩
          · rw [if_neg (show ¬ (x &&& 255 : Int64).toInt32 < 33 from hc), if_neg (show ¬ (x &&& 255 : Int64).toInt32 ≤ 126 from fun q => absurd hc2 (Int32.not_lt.mpr q))]; exact Or.inl ⟨rfl, rfl⟩
        · rw [show d_X8_within (x &&& 255 : Int64).toInt32 33 126 = some 1 from e, zcl_e, zgb_1, zcl_e, if_neg (show ¬ (1 : Int32) = 0 from by decide), if_neg (show ¬ (x &&& 255 : Int64).toInt32 < 33 from hc1), if_pos (show (x &&& 255 : Int64).toInt32 ≤ 126 from Int32.not_lt.mp hc2)]
          refine ih (k + 1) _ f f' (by omega) (by omega) (by omega) (by omega) ?_
          rw [ls_8]
          rw [show 8 - k = (8 - (k + 1)) + 1 by omega, Nat.pow_succ] at hx
          exact Nat.div_lt_of_lt_mul (by rw [Nat.mul_comm]; exact hx)
theorem q_app (p : Int64) (t : Int32) {μ0 : zHV} : ∀ d f f' L w μ, d ≤ 8 → d < f → d < f' → L + d ≤ 80 → zPd L w μ μ0 → ∃ w' μ', lp_X4_appendAll_30 p f t (nI d - 1) w = some (nI (L + d), w') ∧ lp_X8_put_31 p f' t (nI d - 1) μ = some (nI (L + d), μ') ∧ zPd (L + d) w' μ' μ0 := by
  intro d
  induction d with
  | zero =>
    intro f f' L w μ h1 h2 h3 h4 h
    obtain ⟨f, rfl⟩ := fu h2
    obtain ⟨f', rfl⟩ := fu h3
    refine ⟨w, μ, ?_, ?_, h⟩
    · show lpB_X4_appendAll_30 p (lp_X4_appendAll_30 p f) t (nI 0 - 1) w = _
      unfold lpB_X4_appendAll_30
      rw [if_pos (by decide), h.1]; rfl
    · show lpB_X8_put_31 p (lp_X8_put_31 p f') t (nI 0 - 1) μ = _
      unfold lpB_X8_put_31
      rw [if_pos (by decide), h.2.1]; rfl
  | succ d ih =>
    intro f f' L w μ h1 h2 h3 h4 h
    obtain ⟨f, rfl⟩ := fu (by omega : 0 < f)
    obtain ⟨f', rfl⟩ := fu (by omega : 0 < f')
    rw [nI_pred]
    show ∃ w' μ', lpB_X4_appendAll_30 p (lp_X4_appendAll_30 p f) t (nI d) w = _ ∧ lpB_X8_put_31 p (lp_X8_put_31 p f') t (nI d) μ = _ ∧ _
    unfold lpB_X4_appendAll_30 lpB_X8_put_31
    rw [if_neg (nI_pos (by omega)), if_neg (nI_pos (by omega))]
    simp only [zlet_n, nI_m]
    rw [ls_eq p d (by omega)]
    obtain ⟨w1, μ1, k1, k2, k3⟩ := b_sg ((p >>> ((8 * nI d : Int32).toInt64 &&& 63)) &&& 255 : Int64).toInt32 h (by omega)
    rw [k1, k2, zup_e, zup_e]
    obtain ⟨w2, μ2, m1, m2, m3⟩ := ih f f' (L + 1) w1 μ1 (by omega) (by omega) (by omega) (by omega) k3
    rw [show L + (d + 1) = L + 1 + d by omega]
    exact ⟨w2, μ2, m1, m2, m3⟩
theorem zSim_pd {j L : Nat} {v w w' : zHV} {u q : zHI} {μ μ' : zHV} (h : zSim j v w u q μ) (hL : L ≤ 80) (hp : zPd L w' μ' μ) : zSim (j + 1) v w' u q μ' := by
  obtain ⟨h1, h2, h3, h4⟩ := h
  refine ⟨?_, ⟨L, hL, hp.1, hp.2.1, hp.2.2.1⟩, ?_, ?_⟩
  · rw [hp.2.2.2.1 0 (by decide) (by decide)]; exact zS1_up (by omega) h1
  · rw [hp.2.2.2.1 2 (by decide) (by decide), hp.2.2.2.2 0 (by decide)]; exact zS3_up (by omega) h3
  · rw [hp.2.2.2.1 3 (by decide) (by decide), hp.2.2.2.1 4 (by decide) (by decide)]; exact zS4_up (by omega) h4
theorem stp_put : zSt_put zSim := by
  intro j v w u q μ p hj h
  have h' := h
  obtain ⟨h1, ⟨L, hL, w1, m1, hk⟩, h3, h4⟩ := h
  have hpd : zPd L w μ μ := ⟨w1, m1, hk, fun _ _ _ => rfl, fun _ _ => rfl⟩
  unfold d_X7_put d_X4_appendAll d_X8_put
  rcases q_amt p 8 0 p zF zF rfl (by decide) (by decide) (by decide) (by have := p.toBitVec.isLt; exact this) with ⟨e1, e2⟩ | ⟨r, r1, r8, e1, e2⟩
  · rw [show d_X4_amountOf p = some (-2) from e1, show d_X8_charactersIn p = some 0 from e2, zcl_e, zcl_e, if_neg (show ¬ (0 : Int32) ≤ -2 from by decide), if_pos rfl, zup2_e]
    exact ⟨_, _, _, rfl, rfl, zSim_pd h' hL hpd⟩
  · rw [show d_X4_amountOf p = some (nI r) from e1, show d_X8_charactersIn p = some (nI r) from e2, zcl_e, zcl_e, if_pos (nI_pos' (by omega)), if_neg (nI_ne0 (by omega) (by omega)), w1, m1, nI_add]
    simp only [zlet_n]
    by_cases c : L + r ≤ 80
    · rw [if_pos (show nI (L + r) ≤ 80 from nI_le (b := 80) c (by decide)), if_pos (show nI (L + r) ≤ 80 from nI_le (b := 80) c (by decide))]
      obtain ⟨w2, μ2, k1, k2, k3⟩ := q_app p (nI r) r zF zF L w μ (by omega) (by unfold zF; omega) (by unfold zF; omega) c hpd
      rw [k1, k2, zup2_e]
      exact ⟨_, _, _, rfl, rfl, zSim_pd h' c k3⟩
    · rw [if_neg (show ¬ nI (L + r) ≤ 80 from nI_ge (a := 80) (by omega) (by omega)), if_neg (show ¬ nI (L + r) ≤ 80 from nI_ge (a := 80) (by omega) (by omega)), zup2_e]
      exact ⟨_, _, _, rfl, rfl, zSim_pd h' hL hpd⟩
