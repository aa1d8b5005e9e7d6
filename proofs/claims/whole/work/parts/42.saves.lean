/-! ===== undo, save, restore ===== -/
theorem q_undo (μ : zHV) (K : Nat) (hK : K ≤ 5) (hk : μ 6 0 = nI K) : ∀ d i f (F : Nat → Int32), 288 - i = d → i ≤ 288 → d < f → lp_X8_undo_22 f (nI i) (zr μ 0 F) = some (nI K, zr μ 0 (fun k => if i ≤ k ∧ k < 288 then μ 2 (288 * K + k) else F k)) := by
  intro d
  induction d with
  | zero =>
    intro i f F h1 h2 h3
    obtain ⟨f, rfl⟩ := fu h3
    obtain rfl : i = 288 := by omega
    show lpB_X8_undo_22 (lp_X8_undo_22 f) (nI 288) (zr μ 0 F) = _
    unfold lpB_X8_undo_22
    have e : (fun k => if 288 ≤ k ∧ k < 288 then μ 2 (288 * K + k) else F k) = F := by
      funext k
      rw [if_neg (by omega)]
    rw [if_pos (by decide), e, show zr μ 0 F 6 0 = nI K from hk]
  | succ d ih =>
    intro i f F h1 h2 h3
    obtain ⟨f, rfl⟩ := fu (by omega : 0 < f)
    show lpB_X8_undo_22 (lp_X8_undo_22 f) (nI i) (zr μ 0 F) = _
    unfold lpB_X8_undo_22
    rw [if_neg (show ¬ (288 : Int32) ≤ nI i from nI_ge (b := 288) (by omega) (by decide)), show zr μ 0 F 6 0 = nI K from hk]
    simp only [zlet_n]
    rw [nR_mul, nI_add, zld_nI (by omega) (by decide), zsv_nI (by omega) (by decide), nI_p1]
    have e : zr (zr μ 0 F) 0 (upd (zr μ 0 F 0) i (zr μ 0 F 2 (K * 288 + i))) = zr μ 0 (upd F i (μ 2 (K * 288 + i))) := zr_zr _ _ _ _
    rw [e, ih (i + 1) f _ (by omega) (by omega) (by omega)]
    refine congrArg (fun z => some (nI K, zr μ 0 z)) ?_
    funext k
    by_cases c : k = i
    · subst c
      rw [if_neg (by omega), pk_us, if_pos (by omega)]
      exact congrArg (μ 2) (by omega)
    · by_cases c2 : i + 1 ≤ k ∧ k < 288
      · rw [if_pos c2, if_pos (by omega)]
      · rw [if_neg c2, if_neg (by omega), pk_un c]
theorem q_save (μ : zHV) (p : Nat) (hp : p < 2) : ∀ d i f (F : Nat → Int32), 288 - i = d → i ≤ 288 → d < f → lp_X8_save_12 (nI p) f (nI i) (zr μ 3 F) = some (μ 0 8, zr (zr μ 3 (fun k => if 288 * p + i ≤ k ∧ k < 288 * p + 288 then μ 0 (k - 288 * p) else F k)) 4 (upd (μ 4) p 1)) := by
  intro d
  induction d with
  | zero =>
    intro i f F h1 h2 h3
    obtain ⟨f, rfl⟩ := fu h3
    obtain rfl : i = 288 := by omega
    show lpB_X8_save_12 (nI p) (lp_X8_save_12 (nI p) f) (nI 288) (zr μ 3 F) = _
    unfold lpB_X8_save_12
    have e : (fun k => if 288 * p + 288 ≤ k ∧ k < 288 * p + 288 then μ 0 (k - 288 * p) else F k) = F := by
      funext k
      rw [if_neg (by omega)]
    rw [if_pos (by decide), e, zsv_nI hp (by decide), show (8 : Int32) = nI 8 from rfl, zld_nI (by decide) (by decide)]
    rfl
  | succ d ih =>
    intro i f F h1 h2 h3
    obtain ⟨f, rfl⟩ := fu (by omega : 0 < f)
    show lpB_X8_save_12 (nI p) (lp_X8_save_12 (nI p) f) (nI i) (zr μ 3 F) = _
    unfold lpB_X8_save_12
    rw [if_neg (show ¬ (288 : Int32) ≤ nI i from nI_ge (b := 288) (by omega) (by decide))]
    simp only [zlet_n]
    rw [nR_mul, nI_add, zld_nI (by omega) (by decide), zsv_nI (by omega) (by decide), nI_p1]
    have e : zr (zr μ 3 F) 3 (upd (zr μ 3 F 3) (p * 288 + i) (zr μ 3 F 0 i)) = zr μ 3 (upd F (p * 288 + i) (μ 0 i)) := zr_zr _ _ _ _
    rw [e, ih (i + 1) f _ (by omega) (by omega) (by omega)]
    refine congrArg (fun z => some (μ 0 8, zr (zr μ 3 z) 4 (upd (μ 4) p 1))) ?_
    funext k
    by_cases c : k = p * 288 + i
    · subst c
      rw [if_neg (by omega), pk_us, if_pos (by omega)]
      exact congrArg (μ 0) (by omega)
    · by_cases c2 : 288 * p + (i + 1) ≤ k ∧ k < 288 * p + 288
      · rw [if_pos c2, if_pos (by omega)]
      · rw [if_neg c2, if_neg (by omega), pk_un c]
theorem q_rest (μ : zHV) (p : Nat) (hp : p < 2) : ∀ d i f (F : Nat → Int32), 288 - i = d → i ≤ 288 → d < f → (8 < i → F 8 = μ 3 (288 * p + 8)) → lp_X8_restore_32 (nI p) f (nI i) (zr μ 0 F) = some (μ 3 (288 * p + 8), zr μ 0 (fun k => if i ≤ k ∧ k < 288 then μ 3 (288 * p + k) else F k)) := by
  intro d
  induction d with
  | zero =>
    intro i f F h1 h2 h3 h8
    obtain ⟨f, rfl⟩ := fu h3
    obtain rfl : i = 288 := by omega
    show lpB_X8_restore_32 (nI p) (lp_X8_restore_32 (nI p) f) (nI 288) (zr μ 0 F) = _
    unfold lpB_X8_restore_32
    have e : (fun k => if 288 ≤ k ∧ k < 288 then μ 3 (288 * p + k) else F k) = F := by
      funext k
      rw [if_neg (by omega)]
    rw [if_pos (by decide), e, show (8 : Int32) = nI 8 from rfl, zld_nI (by decide) (by decide), show zr μ 0 F 0 8 = F 8 from rfl, h8 (by decide)]
  | succ d ih =>
    intro i f F h1 h2 h3 h8
    obtain ⟨f, rfl⟩ := fu (by omega : 0 < f)
    show lpB_X8_restore_32 (nI p) (lp_X8_restore_32 (nI p) f) (nI i) (zr μ 0 F) = _
    unfold lpB_X8_restore_32
    rw [if_neg (show ¬ (288 : Int32) ≤ nI i from nI_ge (b := 288) (by omega) (by decide))]
    simp only [zlet_n]
    rw [nR_mul, nI_add, zld_nI (by omega) (by decide), zsv_nI (by omega) (by decide), nI_p1]
    have e : zr (zr μ 0 F) 0 (upd (zr μ 0 F 0) i (zr μ 0 F 3 (p * 288 + i))) = zr μ 0 (upd F i (μ 3 (p * 288 + i))) := zr_zr _ _ _ _
    rw [e, ih (i + 1) f _ (by omega) (by omega) (by omega) (fun q => by
      by_cases c : 8 = i
      · rw [← c, pk_us, Nat.mul_comm]
      · rw [pk_un c]; exact h8 (by omega))]
    refine congrArg (fun z => some (μ 3 (288 * p + 8), zr μ 0 z)) ?_
    funext k
    by_cases c : k = i
    · subst c
      rw [if_neg (by omega), pk_us, if_pos (by omega)]
      exact congrArg (μ 3) (by omega)
    · by_cases c2 : i + 1 ≤ k ∧ k < 288
      · rw [if_pos c2, if_pos (by omega)]
      · rw [if_neg c2, if_neg (by omega), pk_un c]
theorem zr_id (μ : zHV) (i : Nat) : zr μ i (μ i) = μ := by
  funext a
  rw [zr_at]
  split
  · next q => rw [q]
  · rfl
theorem stp_undo : zSt_undo zSim := by
  intro j v w u q μ hj h
  have h' := h
  obtain ⟨h1, h2, ⟨K, x, hK, hx, k1, k2, k3, k4⟩, h4⟩ := h
  unfold d_X7_undo d_X8_undo d_X1_takeBack
  rw [k3, k2, k1]
  simp only [zlet_n]
  rw [nR_add, show (1 : Int32) = nI 1 from rfl, pk_sub (by omega)]
  unfold zrm
  rw [if_neg (by decide), show (7 : Int32) = nI 7 from rfl, pk_rem (by omega) (by decide) (by decide)]
  dsimp only
  rw [zk7_nI _ (by omega)]
  by_cases c : K = 0
  · subst c
    rw [if_pos (by decide), if_pos (by decide), zup2_e]
    exact ⟨_, _, _, _, rfl, rfl, zSim_up h'⟩
  · have hidx : ((x + 7 - K + (K - 1)) % 7) = (x + 7 - 1) % 7 := by omega
    have hS := k4 (K - 1) (by omega)
    rw [hidx] at hS
    obtain ⟨hh, e1, e2⟩ := b_copy v (u ((x + 7 - 1) % 7)) (zS1_en hS)
    have hu1 : zsi u 0 (nI ((x + 7 - 1) % 7)) 7 0 1 = nI K := by
      unfold zsi
      rw [if_pos rfl, zs_at, if_pos rfl, if_neg (by decide), k1]
    rw [if_neg (show ¬ nI K ≤ 0 from nI_nle (by omega) (by omega)), if_neg (nI_ne0 (by omega) (by omega)), e1, zup_e, hu1, pk_sub (by omega)]
    have hu2 : zsi (zsi u 0 (nI ((x + 7 - 1) % 7))) 1 (nI (K - 1)) 7 0 1 = nI (K - 1) := by
      unfold zsi
      rw [if_pos rfl, zs_at, if_pos rfl, if_pos rfl]
    rw [hu2, zup2_e]
    have q8 := q_undo (zs μ 6 0 (nI (K - 1))) (K - 1) (by omega) rfl 288 0 zF (zs μ 6 0 (nI (K - 1)) 0) rfl (by decide) (by decide)
    rw [zr_id] at q8
    refine ⟨nI (K - 1), hh, zsi (zsi u 0 (nI ((x + 7 - 1) % 7))) 1 (nI (K - 1)), _, rfl, q8, ?_, h2, ?_, zS4_up (by omega) h4⟩
    · refine zS1_up (m := 20000 * j) (by omega) (zS1_cong e2 (fun k hk => ?_) hS)
      show (if 0 ≤ k ∧ k < 288 then μ 2 (288 * (K - 1) + k) else _) = μ 2 (288 * (K - 1) + k)
      rw [if_pos ⟨Nat.zero_le k, hk⟩]
    · refine ⟨K - 1, (x + 7 - 1) % 7, by omega, by omega, hu2, rfl, ?_, fun i hi => ?_⟩
      · unfold zsi
        rw [if_pos rfl, zs_at, if_pos rfl, if_neg (by decide), if_pos rfl, zs_at, if_pos rfl, if_pos rfl]
      · have hi2 := k4 i (by omega)
        rw [show (x + 7 - K + i) % 7 = ((x + 7 - 1) % 7 + 7 - (K - 1) + i) % 7 by omega] at hi2
        have hj7 : ¬ ((x + 7 - 1) % 7 + 7 - (K - 1) + i) % 7 = 7 := by omega
        have b0 : zsi (zsi u 0 (nI ((x + 7 - 1) % 7))) 1 (nI (K - 1)) (((x + 7 - 1) % 7 + 7 - (K - 1) + i) % 7) = u (((x + 7 - 1) % 7 + 7 - (K - 1) + i) % 7) := by
          unfold zsi
          rw [if_neg hj7, if_neg hj7]
        rw [b0]
        exact zS1_up (m := 20000 * j) (by omega) hi2
theorem slot_case (p : Int32) : (∀ (α : Type) (a b : Option α), (if p < 0 then a else (if p < nI 2 then b else a)) = a) ∧ d_X8_isSlot p = some 0 ∨ ∃ k, k < 2 ∧ p = nI k ∧ d_X8_isSlot p = some 1 ∧ (∀ (α : Type) (a b : Option α), (if p < 0 then a else (if p < nI 2 then b else a)) = b) := by
  unfold d_X8_isSlot
  rcases w_case p 0 1 (by decide) with ⟨e, hc⟩ | ⟨e, hc1, hc2⟩
  · refine Or.inl ⟨fun α a b => ?_, by rw [show d_X8_within p 0 1 = some 0 from e, zcl_e, zgb_0]⟩
    rcases hc with hc | ⟨hc, hc2⟩
    · rw [if_pos (show p < 0 from hc)]
    · rw [if_neg (show ¬ p < 0 from hc), if_neg]
      intro q1
      have h1 := Int32.lt_iff_toInt_lt.mp hc2
      have h2 := Int32.lt_iff_toInt_lt.mp q1
      rw [nI_toInt (by decide)] at h1 h2
      omega
  · obtain ⟨k, -, hk, rfl⟩ := w_get (by decide) (by decide) hc1 hc2
    refine Or.inr ⟨k, by omega, rfl, by rw [show d_X8_within (nI k) 0 1 = some 1 from e, zcl_e, zgb_1], fun α a b => ?_⟩
    rw [if_neg (nI_pos (by omega)), if_pos (nI_lt (by omega) (by decide))]
theorem stp_save : zSt_save zSim := by
  intro j v w u q μ p hj h
  have h' := h
  obtain ⟨h1, h2, h3, h4⟩ := h
  unfold d_X7_save d_X8_save
  rcases slot_case p with ⟨e1, e2⟩ | ⟨k, hk, rfl, e2, e1⟩
  · rw [e1, e2, zcl_e, if_pos rfl]
    exact ⟨_, _, _, rfl, rfl, zSim_up h'⟩
  · rw [e1, e2, zcl_e, if_neg (show ¬ (1 : Int32) = 0 from by decide), nI_cl (by omega)]
    have q8 := q_save μ k hk 288 0 zF (μ 3) rfl (by decide) (by decide)
    rw [zr_id] at q8
    have h8 : μ 0 8 = v 15 2 := by
      obtain ⟨A, T, N, n, hR⟩ := h1
      have a1 : zD5 (μ 0) 0 8 = nI N := hR.2.2.2.2.2.2.2.2.2.2.2.2.2.2.2.2.1
      have a2 : v 15 2 = nI N := hR.2.2.2.2.2.2.2.2.2.2.2.1
      rw [a2, ← a1]; rfl
    have hq4 : ∀ (q' : zHI) (hh : zHV), (∀ i k, k < zN5 i → hh i k = v i k) → (∀ i, i < 2 → q' 2 0 i = if i = k then 1 else q 2 0 i) → (∀ i, i < 2 → q' i = if i = k then hh else q i) → zS4 (20000 * (j + 1)) q' (fun x => if 288 * k + 0 ≤ x ∧ x < 288 * k + 288 then μ 0 (x - 288 * k) else μ 3 x) (upd (μ 4) k 1) := by
      intro q' hh g1 g2 g3 i hi
      rw [g2 i hi, g3 i hi]
      by_cases c : i = k
      · subst c
        rw [if_pos rfl, if_pos rfl, pk_us]
        refine ⟨rfl, Or.inr rfl, fun _ => zS1_up (m := 20000 * j) (by omega) (zS1_cong g1 (fun x hx => ?_) h1)⟩
        show (if 288 * i + 0 ≤ 288 * i + x ∧ 288 * i + x < 288 * i + 288 then μ 0 (288 * i + x - 288 * i) else _) = μ 0 x
        rw [if_pos (by omega)]
        exact congrArg (μ 0) (by omega)
      · rw [if_neg c, if_neg c, pk_un c]
        refine ⟨(h4 i hi).1, (h4 i hi).2.1, fun e => zS1_up (m := 20000 * j) (by omega) (zS1_cong (fun _ _ _ => rfl) (fun x hx => ?_) ((h4 i hi).2.2 e))⟩
        show (if 288 * k + 0 ≤ 288 * i + x ∧ 288 * i + x < 288 * k + 288 then _ else μ 3 (288 * i + x)) = μ 3 (288 * i + x)
        rw [if_neg (by omega)]
    by_cases c : q 2 0 k = 1
    · obtain ⟨hh, c1, c2⟩ := b_copy (q k) v (zS1_en h1)
      rw [if_pos c, c1, zup_e, ← h8]
      refine ⟨_, _, _, rfl, q8, zS1_up (by omega) h1, h2, zS3_up (by omega) h3, ?_⟩
      refine hq4 _ hh c2 (fun i hi => ?_) (fun i hi => ?_)
      · unfold zui
        rw [if_neg (by omega)]
        by_cases c3 : i = k
        · rw [if_pos c3, c3, c]
        · rw [if_neg c3]
      · unfold zui
        rfl
    · obtain ⟨hh, c1, c2⟩ := b_copy zH0 v (zS1_en h1)
      rw [if_neg c, c1, zup_e, ← h8]
      refine ⟨_, _, _, rfl, q8, zS1_up (by omega) h1, h2, zS3_up (by omega) h3, ?_⟩
      refine hq4 _ hh c2 (fun i hi => ?_) (fun i hi => ?_)
      · unfold zsq
        rw [if_neg (by omega), if_pos rfl, zs_at, if_pos rfl]
      · unfold zsq
        by_cases c3 : i = k
        · rw [if_pos c3, if_pos c3]
        · rw [if_neg c3, if_neg c3, if_neg (by omega)]
theorem stp_restore : zSt_restore zSim := by
  intro j v w u q μ p hj h
  have h' := h
  obtain ⟨h1, h2, ⟨K, x, hK, hx, k1, k2, k3, k4⟩, h4⟩ := h
  unfold d_X7_restore d_X8_restore
  rcases slot_case p with ⟨e1, e2⟩ | ⟨k, hk, rfl, e2, e1⟩
  · rw [e1, e2, zcl_e, if_pos rfl]
    exact ⟨_, _, _, _, rfl, rfl, zSim_up h'⟩
  · obtain ⟨g1, g2, g3⟩ := h4 k hk
    rw [e1, e2, zcl_e, if_neg (show ¬ (1 : Int32) = 0 from by decide), nI_cl (by omega), zld_nI hk (by decide), g1]
    rcases g2 with c | c
    · rw [c, if_neg (by decide), if_pos rfl]
      exact ⟨_, _, _, _, rfl, rfl, zSim_up h'⟩
    · rw [c, if_pos rfl, if_neg (by decide)]
      have hS := g3 c
      obtain ⟨hh, a1, a2⟩ := b_aside h1 k3 hx
      obtain ⟨F, f1, f2⟩ := b_put μ
      obtain ⟨hq, c1, c2⟩ := b_copy v (q k) (zS1_en hS)
      obtain ⟨A, T, N, n, hR⟩ := hS
      have a3 : μ 3 (288 * k + 8) = nI N := hR.2.2.2.2.2.2.2.2.2.2.2.2.2.2.2.2.1
      have a4 : q k 15 2 = nI N := hR.2.2.2.2.2.2.2.2.2.2.2.1
      have a5 : hq 15 2 = nI N := by rw [c2 15 2 (by decide), a4]
      have hN : N ≤ 99 := hR.2.2.2.2.2.2.2.2.1
      obtain ⟨G, p1, p2, p3⟩ := b_push (zr μ 1 F) hK (show zr μ 1 F 6 0 = nI K from k2)
      obtain ⟨u', u1, u2⟩ := b_kept (m' := 20000 * (j + 1)) (F := G) (s := μ 0) (p2 := μ 2) (r := nI N) (by omega) h1 a2 hK hx k1 k3 k4 (nI_pos (by omega)) (fun y hy => (p2 y hy).trans (f2 y hy)) p3
      have q8 := q_rest (zs (zr (zr μ 1 F) 2 G) 6 0 (nI (min (K + 1) 6))) k hk 288 0 zF (zs (zr (zr μ 1 F) 2 G) 6 0 (nI (min (K + 1) 6)) 0) rfl (by decide) (by decide) (fun q => by omega)
      rw [zr_id] at q8
      rw [a1, zup_e, c1, zup_e, a5, u1, zup2_e, f1, zup_e, p1, zup_e, ← a3]
      refine ⟨_, _, _, _, rfl, q8, ?_, h2, u2, zS4_up (by omega) h4⟩
      refine zS1_up (m := 20000 * j) (by omega) (zS1_cong c2 (fun y hy => ?_) ⟨A, T, N, n, hR⟩)
      show (if 0 ≤ y ∧ y < 288 then μ 3 (288 * k + y) else _) = μ 3 (288 * k + y)
      rw [if_pos ⟨Nat.zero_le y, hy⟩]
