/-! ===== reading orders ===== -/
def zcd (w : zHV) (L : Nat) : Nat → Int32 := fun k => if k < L then w 0 k else 0
def zdg (cd : Nat → Int32) (a : Nat) : Bool := decide (48 ≤ cd a ∧ cd a ≤ 57)
def zn1 (cd : Nat → Int32) (a : Nat) : Nat × Bool := if zdg cd a = true then (a + 1, true) else (a, false)
def zn2 (cd : Nat → Int32) (a : Nat) : Nat × Bool := if zdg cd a = true then (if cd a = 48 then (a + 1, true) else if zdg cd (a + 1) = true then (a + 2, true) else (a + 1, true)) else (a, false)
def zO (cd : Nat → Int32) (a : Nat) : Nat × Bool :=
  if cd a = 99 then (if (zn2 cd (a + 1)).2 = true then (if cd (zn2 cd (a + 1)).1 = 42 then zn2 cd ((zn2 cd (a + 1)).1 + 1) else ((zn2 cd (a + 1)).1, true)) else ((zn2 cd (a + 1)).1, false))
  else if cd a = 101 then zn1 cd (a + 1) else if cd a = 104 then zn2 cd (a + 1) else if cd a = 107 then (a + 1, true) else if cd a = 110 then (a + 1, true) else if cd a = 112 then zn1 cd (a + 1) else if cd a = 119 then zn2 cd (a + 1) else (a, false)
/-- the reader at the place a of a pad of L signs,, and the reference at the same -/
def zRR (a L : Nat) (cd : Nat → Int32) (w μ w0 μ0 : zHV) : Prop := L ≤ 80 ∧ w0 1 0 = nI L ∧ μ0 6 1 = nI L ∧ (∀ k, k < L → w0 0 k = cd k ∧ μ0 5 k = cd k) ∧ (∀ k, L ≤ k → cd k = 0) ∧ w 2 0 = nI a ∧ μ 6 2 = nI a ∧ a ≤ L ∧ (∀ i, ¬ i = 2 → w i = w0 i) ∧ (∀ i, ¬ i = 6 → μ i = μ0 i) ∧ μ 6 0 = μ0 6 0 ∧ μ 6 1 = μ0 6 1
theorem rr_set {a b L : Nat} {cd : Nat → Int32} {w μ w0 μ0 w' μ' : zHV} (h : zRR a L cd w μ w0 μ0) (hb : b ≤ L) (h1 : w' 2 0 = nI b) (h2 : μ' 6 2 = nI b) (h3 : ∀ i, ¬ i = 2 → w' i = w i) (h4 : ∀ i, ¬ i = 6 → μ' i = μ i) (h5 : μ' 6 0 = μ 6 0) (h6 : μ' 6 1 = μ 6 1) : zRR b L cd w' μ' w0 μ0 := by
  obtain ⟨k1, k2, k3, k4, k5, k6, k7, k8, k9, k10, k11, k12⟩ := h
  exact ⟨k1, k2, k3, k4, k5, h1, h2, hb, fun i hi => (h3 i hi).trans (k9 i hi), fun i hi => (h4 i hi).trans (k10 i hi), h5.trans k11, h6.trans k12⟩
theorem b_code {a L : Nat} {cd : Nat → Int32} {w μ w0 μ0 : zHV} (h : zRR a L cd w μ w0 μ0) : d_X4_codeAt w (w 2 0) = some (cd a) ∧ d_X8_code μ = some (cd a) := by
  obtain ⟨k1, k2, k3, k4, k5, k6, k7, k8, k9, k10, k11, k12⟩ := h
  unfold d_X4_codeAt d_X8_code
  have e1 : w 1 0 = nI L := by rw [k9 1 (by decide)]; exact k2
  have e2 : μ 6 1 = nI L := by rw [k12]; exact k3
  rw [k6, k7, e1, e2, if_neg (nI_pos (by omega))]
  by_cases c : a < L
  · rw [if_neg (nI_ge c (by omega)), if_neg (nI_ge c (by omega)), if_neg (nI_ge (by omega) (by decide)), zld_nI (by omega) (by decide), zld_nI (by omega) (by decide), k9 0 (by decide), k10 5 (by decide), (k4 a c).1, (k4 a c).2]
    exact ⟨rfl, rfl⟩
  · rw [if_pos (nI_le (by omega) (by omega)), if_pos (nI_le (by omega) (by omega)), k5 a (by omega)]
    exact ⟨rfl, rfl⟩
theorem cd_lt {a L : Nat} {cd : Nat → Int32} {w μ w0 μ0 : zHV} (h : zRR a L cd w μ w0 μ0) {b : Nat} (hc : ¬ cd b = 0) : b < L := by
  obtain ⟨k1, k2, k3, k4, k5, k6⟩ := h
  exact Nat.lt_of_not_le (fun q => hc (k5 b q))
theorem dg_case (cd : Nat → Int32) (a : Nat) : (zdg cd a = true ∧ ∃ d, d ≤ 9 ∧ cd a = nI (48 + d)) ∨ (zdg cd a = false ∧ ∀ d, d ≤ 9 → ¬ cd a = nI (48 + d)) := by
  unfold zdg
  by_cases h : 48 ≤ cd a ∧ cd a ≤ 57
  · refine Or.inl ⟨decide_eq_true h, ?_⟩
    obtain ⟨y, y1, y2, e⟩ := w_get (a := 48) (b := 57) (x := cd a) (by decide) (by decide) (Int32.not_lt.mpr h.1) (Int32.not_lt.mpr h.2)
    exact ⟨y - 48, by omega, by rw [e, show 48 + (y - 48) = y by omega]⟩
  · refine Or.inr ⟨decide_eq_false h, fun d hd e => h ?_⟩
    rw [e]
    exact ⟨nI_le (a := 48) (by omega) (by omega), nI_le (b := 57) (by omega) (by decide)⟩
theorem b_dig {a L : Nat} {cd : Nat → Int32} {w μ w0 μ0 : zHV} (h : zRR a L cd w μ w0 μ0) : (zdg cd a = true ∧ ∃ d, d ≤ 9 ∧ cd a = nI (48 + d) ∧ a < L ∧ d_X3_digitHere w = some (nI d) ∧ d_X8_within (cd a) 48 57 = some 1 ∧ d_X8_takeDigit μ = some (nI d, zs μ 6 2 (nI (a + 1)))) ∨ (zdg cd a = false ∧ d_X3_digitHere w = some (-1) ∧ d_X8_within (cd a) 48 57 = some 0 ∧ d_X8_takeDigit μ = some (-6, zs μ 6 2 (nI a))) := by
  obtain ⟨c1, c2⟩ := b_code h
  have e7 : μ 6 2 = nI a := h.2.2.2.2.2.2.1
  unfold d_X3_digitHere d_X8_takeDigit
  rw [c1, c2, zcl_e, zcl_e]
  rcases dg_case cd a with ⟨hd, d, d9, e⟩ | ⟨hd, hn⟩
  · refine Or.inl ⟨hd, d, d9, e, cd_lt h (by rw [e]; exact nI_ne0 (by omega) (by omega)), ?_, ?_, ?_⟩
    · rw [e, if_neg (show ¬ nI (48 + d) < 48 from nI_nlt (b := 48) (by omega) (by omega)), if_neg (show ¬ 57 < nI (48 + d) from nI_nlt (a := 57) (by omega) (by decide)), zlet_n, show (48 : Int32) = nI 48 from rfl, pk_sub (by omega), Nat.add_sub_cancel_left]
    · rw [e]; exact w_in (a := 48) (b := 57) (by omega) (by omega) (by decide)
    · rw [e, zlet_n, show (48 : Int32) = nI 48 from rfl, pk_sub (by omega), Nat.add_sub_cancel_left, show d_X8_within (nI d) 0 9 = some 1 from w_in (a := 0) (b := 9) (by omega) (by omega) (by decide), zcl_e, zjn_e, if_neg (show ¬ (1 : Int32) = 0 from by decide), e7]
      simp only [zlet_n]
      rw [if_neg (show ¬ (1 : Int32) = 0 from by decide), nI_1]
  · refine Or.inr ⟨hd, ?_, ?_, ?_⟩
    · by_cases q1 : cd a < 48
      · rw [if_pos q1]
      · rw [if_neg q1]
        by_cases q2 : 57 < cd a
        · rw [if_pos q2]
        · exfalso
          obtain ⟨y, y1, y2, e⟩ := w_get (a := 48) (b := 57) (x := cd a) (by decide) (by decide) q1 q2
          exact hn (y - 48) (by omega) (by rw [e, show 48 + (y - 48) = y by omega])
    · rcases w_case (cd a) 48 57 (by decide) with ⟨e, -⟩ | ⟨-, q1, q2⟩
      · exact e
      · exfalso
        obtain ⟨y, y1, y2, e⟩ := w_get (by decide) (by decide) q1 q2
        exact hn (y - 48) (by omega) (by rw [e, show 48 + (y - 48) = y by omega])
    · have hw : d_X8_within (cd a - 48) 0 9 = some 0 := by
        rcases w_case (cd a - 48) 0 9 (by decide) with ⟨e, -⟩ | ⟨-, q1, q2⟩
        · exact e
        · exfalso
          obtain ⟨y, y1, y2, e⟩ := w_get (by decide) (by decide) q1 q2
          refine hn y y2 ?_
          have : cd a = cd a - 48 + 48 := by rw [Int32.sub_add_cancel]
          rw [this, e, nR_add, Nat.add_comm]
      rw [zlet_n, hw, zcl_e, zjn_e, if_pos rfl, e7]
      simp only [zlet_n]
      rw [if_pos trivial, Int32.add_zero]
/-- the other parts of what was read stay -/
def zKp (w w' μ μ' : zHV) : Prop := w' 2 1 = w 2 1 ∧ w' 2 3 = w 2 3 ∧ μ' 6 3 = μ 6 3 ∧ μ' 6 4 = μ 6 4 ∧ μ' 6 5 = μ 6 5
theorem b_n1 {a L : Nat} {cd : Nat → Int32} {w μ w0 μ0 : zHV} (h : zRR a L cd w μ w0 μ0) : ∃ w' μ', zRR (zn1 cd a).1 L cd w' μ' w0 μ0 ∧ zKp w w' μ μ' ∧ (((zn1 cd a).2 = true ∧ ∃ x, x ≤ 99 ∧ d_X3_readNumber w 1 = some (1, w') ∧ w' 2 2 = nI x ∧ d_X8_takeDigit μ = some (nI x, μ')) ∨ ((zn1 cd a).2 = false ∧ d_X3_readNumber w 1 = some (0, w') ∧ d_X8_takeDigit μ = some (-6, μ'))) := by
  have e6 : w 2 0 = nI a := h.2.2.2.2.2.1
  have hL : L ≤ 80 := h.1
  unfold zn1 d_X3_readNumber
  rcases b_dig h with ⟨hd, d, d9, e, haL, k1, k2, k3⟩ | ⟨hd, k1, k2, k3⟩
  · rw [if_pos hd, k1, k3, zcl_e]
    simp only [zlet_n]
    rw [show zs w 2 2 (nI d) 2 2 = nI d from rfl, if_pos (nI_pos' (by omega)), show zs w 2 2 (nI d) 2 0 = nI a from e6, nI_1]
    have h' : zRR (a + 1) L cd (zs (zs w 2 2 (nI d)) 2 0 (nI (a + 1))) (zs μ 6 2 (nI (a + 1))) w0 μ0 := rr_set h haL rfl rfl (fun i hi => by funext b; rw [zs_at, if_neg hi, zs_at, if_neg hi]) (fun i hi => by funext b; rw [zs_at, if_neg hi]) rfl rfl
    refine ⟨_, _, h', ⟨rfl, rfl, rfl, rfl, rfl⟩, Or.inl ⟨(by first | rfl | trivial), d, by omega, ?_, rfl, rfl⟩⟩
    rcases b_dig h' with ⟨-, d', -, -, -, k4, -⟩ | ⟨-, k4, -⟩
    · rw [k4, zcl_e, if_pos (by decide)]
    · rw [k4, zcl_e, if_pos (by decide)]
  · rw [if_neg (by rw [hd]; decide), k1, k3, zcl_e]
    simp only [zlet_n]
    rw [if_neg (show ¬ 0 ≤ zs w 2 2 (-1) 2 2 from by show ¬ (0 : Int32) ≤ -1; decide)]
    refine ⟨zs w 2 2 (-1), zs μ 6 2 (nI a), ?_, ?_, Or.inr ⟨(by first | rfl | trivial), rfl, rfl⟩⟩
    · exact rr_set h h.2.2.2.2.2.2.2.1 e6 rfl (fun i hi => by funext b; rw [zs_at, if_neg hi]) (fun i hi => by funext b; rw [zs_at, if_neg hi]) rfl rfl
    · exact ⟨rfl, rfl, rfl, rfl, rfl⟩
theorem b_n2 {a L : Nat} {cd : Nat → Int32} {w μ w0 μ0 : zHV} (h : zRR a L cd w μ w0 μ0) : ∃ w' μ', zRR (zn2 cd a).1 L cd w' μ' w0 μ0 ∧ zKp w w' μ μ' ∧ (((zn2 cd a).2 = true ∧ ∃ x, x ≤ 99 ∧ d_X3_readNumber w 2 = some (1, w') ∧ w' 2 2 = nI x ∧ d_X8_readNumber μ = some (nI x, μ')) ∨ ((zn2 cd a).2 = false ∧ d_X3_readNumber w 2 = some (0, w') ∧ d_X8_readNumber μ = some (-6, μ'))) := by
  have e6 : w 2 0 = nI a := h.2.2.2.2.2.1
  have hL : L ≤ 80 := h.1
  unfold zn2 d_X3_readNumber d_X8_readNumber
  rcases b_dig h with ⟨hd, d, d9, e, haL, k1, k2, k3⟩ | ⟨hd, k1, k2, k3⟩
  · rw [if_pos hd, k1, k3, zcl_e, zup2_e]
    simp only [zlet_n]
    rw [show zs w 2 2 (nI d) 2 2 = nI d from rfl, if_pos (nI_pos' (by omega)), show zs w 2 2 (nI d) 2 0 = nI a from e6, nI_1]
    have h' : zRR (a + 1) L cd (zs (zs w 2 2 (nI d)) 2 0 (nI (a + 1))) (zs μ 6 2 (nI (a + 1))) w0 μ0 := rr_set h haL rfl rfl (fun i hi => by funext b; rw [zs_at, if_neg hi, zs_at, if_neg hi]) (fun i hi => by funext b; rw [zs_at, if_neg hi]) rfl rfl
    obtain ⟨-, c2⟩ := b_code h'
    by_cases cd0 : d = 0
    · subst cd0
      rw [if_pos (show cd a = 48 from e), if_pos (show nI 0 ≤ 0 from by decide)]
      refine ⟨_, _, h', ⟨rfl, rfl, rfl, rfl, rfl⟩, Or.inl ⟨(by first | rfl | trivial), 0, by omega, ?_, rfl, rfl⟩⟩
      rcases b_dig h' with ⟨-, d', -, -, -, k4, -⟩ | ⟨-, k4, -⟩
      · rw [k4, zcl_e, if_neg (by decide), if_pos (by show nI 0 ≤ 0; decide)]
      · rw [k4, zcl_e, if_neg (by decide), if_pos (by show nI 0 ≤ 0; decide)]
    · rw [if_neg (show ¬ cd a = 48 from fun q => by
        rw [e] at q
        have := (nI_eq (b := 48) (by omega) (by decide)).mp q
        omega), if_neg (show ¬ nI d ≤ 0 from nI_nle (by omega) (by omega)), c2, zcl_e]
      have hd0 : ¬ zs (zs w 2 2 (nI d)) 2 0 (nI (a + 1)) 2 2 ≤ 0 := nI_nle (show 0 < d by omega) (by omega)
      rcases b_dig h' with ⟨hd', d', d9', e', haL', k4, k5, k6⟩ | ⟨hd', k4, k5, k6⟩
      · rw [if_pos hd', k4, k5, k6, zcl_e, zcl_e, if_neg (by decide), if_neg hd0, if_neg (nI_pos (by omega)), if_neg (show ¬ (1 : Int32) = 0 from by decide), zup2_e]
        rw [show zs (zs w 2 2 (nI d)) 2 0 (nI (a + 1)) 2 2 = nI d from rfl, nR_mul, nL_mul, nI_add, nI_add]
        rw [show zs (zs (zs w 2 2 (nI d)) 2 0 (nI (a + 1))) 2 2 (nI (d * 10 + d')) 2 0 = nI (a + 1) from rfl, nI_1, show 10 * d + d' = d * 10 + d' by omega]
        refine ⟨zs (zs (zs (zs w 2 2 (nI d)) 2 0 (nI (a + 1))) 2 2 (nI (d * 10 + d'))) 2 0 (nI (a + 1 + 1)), zs (zs μ 6 2 (nI (a + 1))) 6 2 (nI (a + 1 + 1)), ?_, ⟨rfl, rfl, rfl, rfl, rfl⟩, Or.inl ⟨(by first | rfl | trivial), d * 10 + d', by omega, rfl, rfl, rfl⟩⟩
        exact rr_set h' (show a + 2 ≤ L by omega) rfl rfl (fun i hi => by funext b; rw [zs_at, if_neg hi, zs_at, if_neg hi]) (fun i hi => by funext b; rw [zs_at, if_neg hi]) rfl rfl
      · rw [if_neg (by rw [hd']; decide), k4, k5, zcl_e, zcl_e, if_neg (by decide), if_neg hd0, if_pos (by decide), if_pos rfl]
        exact ⟨_, _, h', ⟨rfl, rfl, rfl, rfl, rfl⟩, Or.inl ⟨(by first | rfl | trivial), d, by omega, rfl, rfl, rfl⟩⟩
  · rw [if_neg (by rw [hd]; decide), k1, k3, zcl_e, zup2_e]
    simp only [zlet_n]
    rw [if_neg (show ¬ 0 ≤ zs w 2 2 (-1) 2 2 from by show ¬ (0 : Int32) ≤ -1; decide), if_pos (show (-6 : Int32) ≤ 0 from by decide)]
    refine ⟨zs w 2 2 (-1), zs μ 6 2 (nI a), ?_, ?_, Or.inr ⟨(by first | rfl | trivial), rfl, rfl⟩⟩
    · exact rr_set h h.2.2.2.2.2.2.2.1 e6 rfl (fun i hi => by funext b; rw [zs_at, if_neg hi]) (fun i hi => by funext b; rw [zs_at, if_neg hi]) rfl rfl
    · exact ⟨rfl, rfl, rfl, rfl, rfl⟩
theorem b_sgn {a L : Nat} {cd : Nat → Int32} {w μ w0 μ0 : zHV} (s : Int32) (hs : ¬ s = 0) (h : zRR a L cd w μ w0 μ0) : (cd a = s ∧ ∃ w' μ', zRR (a + 1) L cd w' μ' w0 μ0 ∧ zKp w w' μ μ' ∧ w' 2 2 = w 2 2 ∧ d_X3_readSign w s = some (1, w') ∧ d_X8_takes μ s = some (1, μ')) ∨ (¬ cd a = s ∧ d_X3_readSign w s = some (0, w) ∧ ∃ μ', zRR a L cd w μ' w0 μ0 ∧ zKp w w μ μ' ∧ d_X8_takes μ s = some (0, μ')) := by
  obtain ⟨c1, c2⟩ := b_code h
  have e6 : w 2 0 = nI a := h.2.2.2.2.2.1
  have e7 : μ 6 2 = nI a := h.2.2.2.2.2.2.1
  unfold d_X3_readSign d_X8_takes
  rw [c1, c2, zcl_e, zcl_e, e6]
  simp only [zjn_e, zlet_n, zgb_0, zgb_1]
  by_cases c : cd a = s
  · have haL := cd_lt h (b := a) (by rw [c]; exact hs)
    rw [if_pos c, if_pos c, if_neg (show ¬ (1 : Int32) = 0 from by decide), e7, nI_1]
    refine Or.inl ⟨c, zs w 2 0 (nI (a + 1)), zs μ 6 2 (nI (a + 1)), ?_, ?_, rfl, rfl, rfl⟩
    · exact rr_set h haL rfl rfl (fun i hi => by funext b; rw [zs_at, if_neg hi]) (fun i hi => by funext b; rw [zs_at, if_neg hi]) rfl rfl
    · exact ⟨rfl, rfl, rfl, rfl, rfl⟩
  · rw [if_neg c, if_neg c, if_pos trivial, e7, Int32.add_zero]
    refine Or.inr ⟨c, rfl, zs μ 6 2 (nI a), ?_, ?_, rfl⟩
    · exact rr_set h h.2.2.2.2.2.2.2.1 e6 rfl (fun i hi => rfl) (fun i hi => by funext b; rw [zs_at, if_neg hi]) rfl rfl
    · exact ⟨rfl, rfl, rfl, rfl, rfl⟩
theorem ch7 {α : Type} (c : Int32) (A B C D X : Option α) : (if c = 99 then A else if c = 100 then X else if c = 101 then B else if c = 102 then X else if c = 103 then X else if c = 104 then C else if c = 105 then X else if c = 106 then X else if c = 107 then D else if c = 108 then X else if c = 109 then X else if c = 110 then D else if c = 111 then X else if c = 112 then B else if c = 113 then X else if c = 114 then X else if c = 115 then X else if c = 116 then X else if c = 117 then X else if c = 118 then X else if c = 119 then C else X) = if c = 99 then A else if c = 101 then B else if c = 104 then C else if c = 107 then D else if c = 110 then D else if c = 112 then B else if c = 119 then C else X := by
  by_cases h1 : c = 99
  · rw [if_pos h1, if_pos h1]
  · by_cases h2 : c = 101
    · subst h2; rfl
    · by_cases h3 : c = 104
      · subst h3; rfl
      · by_cases h4 : c = 107
        · subst h4; rfl
        · by_cases h5 : c = 110
          · subst h5; rfl
          · by_cases h6 : c = 112
            · subst h6; rfl
            · by_cases h7 : c = 119
              · subst h7; rfl
              · simp only [h1, h2, h3, h4, h5, h6, h7, if_false, ite_self]
