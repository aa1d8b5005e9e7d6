/-! ===== what lapses: the class goes forward and closes up, the reference goes backward and drops ===== -/
def zkc (P : Nat → Bool) : Nat → Nat
  | 0 => 0
  | i + 1 => zkc P i + (if P i = true then 0 else 1)
def zlp (P : Nat → Bool) (w : Nat → Int32) (p : Nat) : Nat → Nat
  | 0 => 0
  | i + 1 => zlp P w p i + (if P i = true ∧ w i = nI p then 1 else 0)
theorem zkc_le (P : Nat → Bool) : ∀ i, zkc P i ≤ i
  | 0 => Nat.le_refl 0
  | i + 1 => by
    have := zkc_le P i
    show zkc P i + (if P i = true then 0 else 1) ≤ i + 1
    split <;> omega
theorem zkc_up (P : Nat → Bool) {i : Nat} : ∀ j, i ≤ j → zkc P i ≤ zkc P j
  | 0, h => by
    obtain rfl : i = 0 := by omega
    exact Nat.le_refl _
  | j + 1, h => by
    by_cases c : i = j + 1
    · rw [c]; exact Nat.le_refl _
    · have := zkc_up P (i := i) j (by omega)
      show zkc P i ≤ zkc P j + (if P j = true then 0 else 1)
      omega
theorem zkc_d (P : Nat → Bool) {i : Nat} : ∀ j, i ≤ j → zkc P j - zkc P i ≤ j - i
  | 0, h => by
    obtain rfl : i = 0 := by omega
    omega
  | j + 1, h => by
    by_cases c : i = j + 1
    · rw [c]; omega
    · have := zkc_d P (i := i) j (by omega)
      show zkc P j + (if P j = true then 0 else 1) - zkc P i ≤ j + 1 - i
      split <;> omega
theorem zkc_t {P : Nat → Bool} {i : Nat} (h : P i = true) : zkc P (i + 1) = zkc P i := by
  show zkc P i + (if P i = true then 0 else 1) = _
  rw [if_pos h]; rfl
theorem zkc_f {P : Nat → Bool} {i : Nat} (h : P i = false) : zkc P (i + 1) = zkc P i + 1 := by
  show zkc P i + (if P i = true then 0 else 1) = _
  rw [h]; rfl
theorem zkc_s {P : Nat → Bool} {k i : Nat} (h : P k = false) (hk : k < i) : zkc P k < zkc P i := by
  have h1 := zkc_f h
  have h2 := zkc_up P (i := k + 1) i hk
  omega
theorem zkc_j (P : Nat → Bool) : ∀ i j, j < zkc P i → ∃ k, k < i ∧ P k = false ∧ zkc P k = j
  | 0, j, h => by
    have : zkc P 0 = 0 := rfl
    omega
  | i + 1, j, h => by
    cases hP : P i
    · rw [zkc_f hP] at h
      by_cases c : j = zkc P i
      · exact ⟨i, by omega, hP, c.symm⟩
      · obtain ⟨k, h1, h2, h3⟩ := zkc_j P i j (by omega)
        exact ⟨k, by omega, h2, h3⟩
    · rw [zkc_t hP] at h
      obtain ⟨k, h1, h2, h3⟩ := zkc_j P i j h
      exact ⟨k, by omega, h2, h3⟩
theorem zkc_all {P : Nat → Bool} : ∀ i, (∀ k, k < i → P k = true) → zkc P i = 0
  | 0, _ => rfl
  | i + 1, h => by rw [zkc_t (h i (by omega))]; exact zkc_all i (fun k hk => h k (by omega))
theorem zlp_t {P : Nat → Bool} {w : Nat → Int32} {p i : Nat} (h : P i = true ∧ w i = nI p) : zlp P w p (i + 1) = zlp P w p i + 1 := by
  show zlp P w p i + (if P i = true ∧ w i = nI p then 1 else 0) = _
  rw [if_pos h]
theorem zlp_f {P : Nat → Bool} {w : Nat → Int32} {p i : Nat} (h : ¬ (P i = true ∧ w i = nI p)) : zlp P w p (i + 1) = zlp P w p i := by
  show zlp P w p i + (if P i = true ∧ w i = nI p then 1 else 0) = _
  rw [if_neg h]; rfl
theorem zlp_up (P : Nat → Bool) (w : Nat → Int32) (p : Nat) {i : Nat} : ∀ j, i ≤ j → zlp P w p i ≤ zlp P w p j
  | 0, h => by
    obtain rfl : i = 0 := by omega
    exact Nat.le_refl _
  | j + 1, h => by
    by_cases c : i = j + 1
    · rw [c]; exact Nat.le_refl _
    · have := zlp_up P w p (i := i) j (by omega)
      show zlp P w p i ≤ zlp P w p j + (if P j = true ∧ w j = nI p then 1 else 0)
      omega
theorem q_laps (P : Nat → Bool) (w t : Nat → Int32) (l : Int32) (n : Nat) (hn : n ≤ 8) (e0 : zHV) (hP : ∀ k, k < n → (P k = true ↔ ¬ l < t k)) (hw : ∀ k, k < n → ∃ p, p < 6 ∧ w k = nI p) :
    ∀ d i f e, n - i = d → i ≤ n → d < f → e 5 0 = nI n → (∀ k, i ≤ k → k < n → e 0 k = w k ∧ e 1 k = t k) → (∀ k, k < i → P k = false → e 0 (zkc P k) = w k ∧ e 1 (zkc P k) = t k) → e 2 = e0 2 → e 4 = e0 4 → (∀ p, p < 6 → e 3 p = e0 3 p + nI (zlp P w p i)) →
    ∃ e', lp_X0_lapseSince_4 l f (nI (zkc P i)) (nI i) e = some (nI (n - zkc P n), e') ∧ e' 5 0 = nI (zkc P n) ∧ (∀ k, k < n → P k = false → e' 0 (zkc P k) = w k ∧ e' 1 (zkc P k) = t k) ∧ e' 2 = e0 2 ∧ e' 4 = e0 4 ∧ ∀ p, p < 6 → e' 3 p = e0 3 p + nI (zlp P w p n) := by
  intro d
  induction d with
  | zero =>
    intro i f e h1 h2 h3 h5 ha hb h6 h7 h8
    obtain ⟨f, rfl⟩ := fu h3
    obtain rfl : i = n := by omega
    have hle := zkc_le P i
    refine ⟨zs e 5 0 (nI (zkc P i)), ?_, rfl, hb, h6, h7, h8⟩
    show lpB_X0_lapseSince_4 l (lp_X0_lapseSince_4 l f) (nI (zkc P i)) (nI i) e = _
    unfold lpB_X0_lapseSince_4
    rw [h5, if_pos (nI_le (Nat.le_refl _) (by omega)), zlet_n, zlet_n, pk_sub hle]
  | succ d ih =>
    intro i f e h1 h2 h3 h5 ha hb h6 h7 h8
    obtain ⟨f, rfl⟩ := fu (by omega : 0 < f)
    have hle := zkc_le P i
    obtain ⟨ha1, ha2⟩ := ha i (Nat.le_refl i) (by omega)
    obtain ⟨p, hp, hwp⟩ := hw i (by omega)
    show ∃ e', lpB_X0_lapseSince_4 l (lp_X0_lapseSince_4 l f) (nI (zkc P i)) (nI i) e = _ ∧ _
    unfold lpB_X0_lapseSince_4
    rw [h5, if_neg (nI_ge (by omega) (by omega)), r_at 8 _ i (by omega) (by decide), zcl_e, ha2]
    cases hPi : P i
    · have hc : l < t i := by
        by_cases c : l < t i
        · exact c
        · rw [(hP i (by omega)).mpr c] at hPi; cases hPi
      rw [if_pos hc, r_at 8 _ i (by omega) (by decide), zcl_e, r_store 8 _ (zkc P i) _ (by omega) (by decide), zup_e, show zr e 0 (upd (e 0) (zkc P i) (e 0 i)) 1 = e 1 from rfl, r_at 8 _ i (by omega) (by decide), zcl_e, r_store 8 _ (zkc P i) _ (by omega) (by decide), zup_e, zlet_n, zlet_n, nI_p1, nI_p1, ha1, ha2, ← zkc_f hPi]
      refine ih (i + 1) f _ (by omega) (by omega) (by omega) h5 (fun k hk1 hk2 => ?_) (fun k hk1 hk2 => ?_) h6 h7 (fun p hp => ?_)
      · show upd (e 0) (zkc P i) (w i) k = w k ∧ upd (e 1) (zkc P i) (t i) k = t k
        rw [pk_un (by omega), pk_un (by omega)]; exact ha k (by omega) hk2
      · show upd (e 0) (zkc P i) (w i) (zkc P k) = w k ∧ upd (e 1) (zkc P i) (t i) (zkc P k) = t k
        by_cases c : k = i
        · subst c; rw [pk_us, pk_us]; exact ⟨rfl, rfl⟩
        · have := zkc_s hk2 (show k < i by omega)
          rw [pk_un (by omega), pk_un (by omega)]; exact hb k (by omega) hk2
      · show e 3 p = _
        rw [h8 p hp, zlp_f (by rw [hPi]; simp)]
    · have hc : ¬ l < t i := (hP i (by omega)).mp hPi
      rw [if_neg hc, r_at 8 _ i (by omega) (by decide), zcl_e, ha1, hwp, r_add 6 _ p _ hp (by decide), zup_e, zlet_n, nI_p1, ← zkc_t hPi]
      refine ih (i + 1) f _ (by omega) (by omega) (by omega) h5 (fun k hk1 hk2 => ha k (by omega) hk2) (fun k hk1 hk2 => ?_) h6 h7 (fun p' hp' => ?_)
      · have : ¬ k = i := fun q => by rw [q, hPi] at hk2; cases hk2
        exact hb k (by omega) hk2
      · show upd (e 3) p (e 3 p + 1) p' = _
        by_cases c : p' = p
        · subst c
          rw [pk_us, h8 p' hp', zlp_t ⟨hPi, hwp⟩, Int32.add_assoc, nI_1]
        · rw [pk_un c, h8 p' hp', zlp_f (fun q => by
            have h9 := q.2
            rw [hwp] at h9
            have := (nI_eq (by omega) (by omega)).mp h9
            omega)]
theorem b_count {μ g : zHV} {p : Nat} (hp : p < 6) : d_X8_countLapse (zM5 μ g) (nI p) = some (zM5 μ (zs (zs g 8 p (g 8 p + 1)) 15 2 (g 15 2 + 1))) := by
  unfold d_X8_countLapse
  simp only [zlet_n, nL_mul, nL_add, nR_add]
  rw [l7b _ _ p _ hp, s7b _ _ p _ _ hp, L11, S11]
  rfl
theorem nI_m (k : Nat) : nI k + Int32.ofInt (-1) = nI k - 1 := by rw [Int32.sub_eq_add_neg]; rfl
/-- what the reference leaves as it is, while owed lapse -/
def zSa (g g' : zHV) : Prop := (∀ i, ¬ i = 0 → ¬ i = 8 → ¬ i = 10 → ¬ i = 11 → ¬ i = 15 → g' i = g i) ∧ ∀ k, ¬ k = 17 → g' 0 k = g 0 k
theorem q_pass (P : Nat → Bool) (w t : Nat → Int32) (T s : Int32) (n : Nat) (hn : n ≤ 8) (μ g0 : zHV) (hT : g0 0 7 = T) (hs : g0 14 2 = s) (hP : ∀ k, k < n → (P k = true ↔ ¬ T - t k < s)) (hw : ∀ k, k < n → ∃ p, p < 6 ∧ w k = nI p) :
    ∀ i f g, i ≤ n → i < f → zSa g0 g → g 0 17 = nI (i + (zkc P n - zkc P i)) → (∀ k, k < i → g 10 k = w k ∧ g 11 k = t k) → (∀ k, i ≤ k → k < n → P k = false → g 10 (i + (zkc P k - zkc P i)) = w k ∧ g 11 (i + (zkc P k - zkc P i)) = t k) → g 15 = upd (g0 15) 2 (g0 15 2 + nI ((n - i) - (zkc P n - zkc P i))) → (∀ p, p < 6 → g 8 p = g0 8 p + nI (zlp P w p n - zlp P w p i)) →
    ∃ g', lp_X8_passSecond_39 f (nI i - 1) (zM5 μ g) = some (zM5 μ g') ∧ zSa g0 g' ∧ g' 0 17 = nI (zkc P n) ∧ (∀ k, k < n → P k = false → g' 10 (zkc P k) = w k ∧ g' 11 (zkc P k) = t k) ∧ g' 15 = upd (g0 15) 2 (g0 15 2 + nI (n - zkc P n)) ∧ ∀ p, p < 6 → g' 8 p = g0 8 p + nI (zlp P w p n) := by
  intro i
  induction i with
  | zero =>
    intro f g h1 h2 h3 h4 h5 h6 h7 h8
    obtain ⟨f, rfl⟩ := fu h2
    refine ⟨g, rfl, h3, ?_, fun k hk hf => ?_, ?_, fun p hp => ?_⟩
    · rw [h4, show zkc P 0 = 0 from rfl, Nat.zero_add, Nat.sub_zero]
    · have := h6 k (Nat.zero_le k) hk hf
      rw [show zkc P 0 = 0 from rfl, Nat.zero_add, Nat.sub_zero] at this
      exact this
    · rw [h7, show zkc P 0 = 0 from rfl, Nat.sub_zero, Nat.sub_zero]
    · rw [h8 p hp, show zlp P w p 0 = 0 from rfl, Nat.sub_zero]
  | succ i ih =>
    intro f g h1 h2 h3 h4 h5 h6 h7 h8
    obtain ⟨f, rfl⟩ := fu (by omega : 0 < f)
    obtain ⟨hw1, ht1⟩ := h5 i (by omega)
    obtain ⟨p, hp, hwp⟩ := hw i (by omega)
    have hle := zkc_le P i
    have hd := zkc_d P (i := i + 1) n h1
    have hu := zkc_up P (i := i + 1) n h1
    rw [nI_pred]
    show ∃ g', lpB_X8_passSecond_39 (lp_X8_passSecond_39 f) (nI i) (zM5 μ g) = _ ∧ _
    unfold lpB_X8_passSecond_39 d_X8_owedFor
    rw [if_neg (nI_pos (by omega)), L7]
    simp only [zlet_n, nL_mul, nL_add, nR_add, nI_m]
    rw [l10b μ g i _ (by omega), zcl_e, L2, h3.2 7 (by decide), hT, ht1, h3.1 14 (by decide) (by decide) (by decide) (by decide) (by decide), hs]
    cases hPi : P i
    · have hc : T - t i < s := by
        by_cases c : T - t i < s
        · exact c
        · rw [(hP i (by omega)).mpr c] at hPi; cases hPi
      have hz := zkc_f hPi
      rw [if_pos hc]
      refine ih f g (by omega) (by omega) h3 ?_ (fun k hk => h5 k (by omega)) (fun k hk1 hk2 hk3 => ?_) ?_ (fun p' hp' => ?_)
      · rw [h4]; congr 1; omega
      · by_cases c : k = i
        · subst c; rw [Nat.sub_self, Nat.add_zero]; exact ⟨hw1, ht1⟩
        · have h9 := zkc_up P (i := i + 1) k (by omega)
          have := h6 k (by omega) hk2 hk3
          rw [show i + 1 + (zkc P k - zkc P (i + 1)) = i + (zkc P k - zkc P i) by omega] at this
          exact this
      · rw [h7]; congr 3; omega
      · rw [h8 p' hp', zlp_f (by rw [hPi]; simp)]
    · have hc : ¬ T - t i < s := (hP i (by omega)).mp hPi
      have hz := zkc_t hPi
      rw [if_neg hc, l10a μ g i _ (by omega), hw1, hwp, b_count hp, zup_e, b_drop (n := i + (zkc P n - zkc P i)) (e := i) (by omega) (by omega) (by
        show g 0 17 = _
        rw [h4]; congr 1; omega), zup_e]
      refine ih f _ (by omega) (by omega) ⟨fun j j0 j8 j10 j11 j15 => ?_, fun k hk => ?_⟩ rfl (fun k hk => ?_) (fun k hk1 hk2 hk3 => ?_) ?_ (fun p' hp' => ?_)
      · rw [zr_at, if_neg j11, zr_at, if_neg j10]
        rw [← h3.1 j j0 j8 j10 j11 j15]
        funext b
        rw [zs_at, if_neg j0, zs_at, if_neg j15, zs_at, if_neg j8]
      · rw [← h3.2 k hk]
        show zs _ 0 17 _ 0 k = _
        rw [zs_at, if_pos rfl, if_neg hk]; rfl
      · show zdr 0 (2 * i) _ (g 10) k = w k ∧ zdr 1 (2 * i) _ (g 11) k = t k
        unfold zdr
        rw [if_neg (by omega), if_neg (by omega)]
        exact h5 k (by omega)
      · show zdr 0 (2 * i) _ (g 10) _ = w k ∧ zdr 1 (2 * i) _ (g 11) _ = t k
        have hki : ¬ k = i := fun q => by rw [q, hPi] at hk3; cases hk3
        have hs1 := zkc_s hk3 hk2
        have hu2 := zkc_up P (i := i + 1) k (by omega)
        unfold zdr
        rw [if_pos (by omega), if_pos (by omega)]
        have := h6 k (by omega) hk2 hk3
        rw [show i + (zkc P k - zkc P i) + 1 = i + 1 + (zkc P k - zkc P (i + 1)) by omega]
        exact this
      · show zs _ 15 2 (g 15 2 + 1) 15 = _
        rw [up_zs]
        show upd (g 15) 2 (g 15 2 + 1) = _
        rw [h7]
        funext b
        by_cases c : b = 2
        · subst c
          rw [pk_us, pk_us, pk_us, Int32.add_assoc, nI_1]
          congr 2; omega
        · rw [pk_un c, pk_un c, pk_un c]
      · show zs g 8 p (g 8 p + 1) 8 p' = _
        rw [up_zs]
        have hmn := zlp_up P w p' (i := i + 1) n h1
        by_cases c : p' = p
        · subst c
          have hz3 := zlp_t (P := P) (w := w) ⟨hPi, hwp⟩
          rw [pk_us, h8 p' hp', Int32.add_assoc, nI_1]
          congr 2; omega
        · rw [pk_un c, h8 p' hp', zlp_f (fun q => by
            have h9 := q.2
            rw [hwp] at h9
            have := (nI_eq (by omega) (by omega)).mp h9
            omega)]
