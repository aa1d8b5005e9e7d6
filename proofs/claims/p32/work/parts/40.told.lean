/-! ===== what is told of a house is told of the arrays ===== -/
theorem told_step (i : Nat) (hi : i < 30) (x : Int64) (A0 A3 A4 A5 A6 cl pf ow rc : Int32) : ∃ x', ∀ (v w : zHV) (u q : zHI) (f : Nat), d_X7_of v w u q (nI i) 0 = some A0 → d_X7_of v w u q (nI i) 3 = some A3 → d_X7_of v w u q (nI i) 4 = some A4 → d_X7_of v w u q (nI i) 5 = some A5 → d_X7_of v w u q (nI i) 6 = some A6 → d_X7_clapper v w u q (nI i) = some cl →
    d_X7_performer v w u q (nI (i % 6)) (nI (i / 6 % 4)) = some pf → d_X7_owed v w u q (nI (i / 2)) (nI (i % 2)) = some ow → d_X7_record v w u q (nI (i / 4)) (nI (i % 4)) = some rc → lp_L_told_33 v w u q (f + 1) x (nI i) = lp_L_told_33 v w u q f x' (nI (i + 1)) := by
  apply Exists.intro
  intro v w u q f h0 h3 h4 h5 h6 hcl hpf how hrc
  show lpB_L_told_33 v w u q (lp_L_told_33 v w u q f) x (nI i) = _
  unfold lpB_L_told_33
  rw [if_neg (show ¬ (30 : Int32) ≤ nI i from nI_ge (b := 30) hi (by decide))]
  simp only [zlet_n]
  rw [h0, zcl_e, h3, zcl_e, h4, zcl_e, h5, zcl_e, h6, zcl_e, hcl, zcl_e]
  rw [show zrm (nI i) 6 = zrm (γ := Int64) (nI i) (nI 6) from rfl, zrm_nI (by omega) (by decide) (by decide), show zdv (nI i) 6 = zdv (γ := Int64) (nI i) (nI 6) from rfl, zdv_nI (by omega) (by decide) (by decide), show zrm (nI (i / 6)) 4 = zrm (γ := Int64) (nI (i / 6)) (nI 4) from rfl, zrm_nI (by omega) (by decide) (by decide), hpf, zcl_e]
  rw [show zdv (nI i) 2 = zdv (γ := Int64) (nI i) (nI 2) from rfl, zdv_nI (by omega) (by decide) (by decide), show zrm (nI i) 2 = zrm (γ := Int64) (nI i) (nI 2) from rfl, zrm_nI (by omega) (by decide) (by decide), how, zcl_e]
  rw [show zdv (nI i) 4 = zdv (γ := Int64) (nI i) (nI 4) from rfl, zdv_nI (by omega) (by decide) (by decide), show zrm (nI i) 4 = zrm (γ := Int64) (nI i) (nI 4) from rfl, zrm_nI (by omega) (by decide) (by decide), hrc, zcl_e, nI_p1]
theorem told_count (i : Nat) (hi : i < 19) (x : Int64) (C : Int32) : ∃ x', ∀ (v w : zHV) (u q : zHI) (f : Nat), d_X7_count v w u q (nI i) = some C → lp_L_told_6 v w u q (f + 1) x (nI i) = lp_L_told_6 v w u q f x' (nI (i + 1)) := by
  apply Exists.intro
  intro v w u q f h0
  show lpB_L_told_6 v w u q (lp_L_told_6 v w u q f) x (nI i) = _
  unfold lpB_L_told_6
  rw [if_neg (show ¬ (19 : Int32) ≤ nI i from nI_ge (b := 19) hi (by decide))]
  simp only [zlet_n]
  rw [h0, zcl_e, nI_p1]
section ZT
variable {m A T N n m2 A2 T2 N2 n2 : Nat} {v w9 v2 w2 : zHV} {u q9 u2 q2 : zHI} {q a e nn t p w r c : Nat → Int32}
theorem perf2 (h : zLR m A T N n v (z9 q a e nn t p w r c)) (h2 : zLR m2 A2 T2 N2 n2 v2 (z9 q a e nn t p w r c)) {k i : Nat} (hk : k < 6) (hi : i < 4) : ∃ x, d_X7_performer v w9 u q9 (nI k) (nI i) = some x ∧ d_X7_performer v2 w2 u2 q2 (nI k) (nI i) = some x := by
  obtain ⟨⟨x, x1, x2⟩, a1, a2, a3⟩ := k_perf (w9 := w9) (u := u) (q9 := q9) h hk
  obtain ⟨⟨y, y1, y2⟩, b1, b2, b3⟩ := k_perf (w9 := w2) (u := u2) (q9 := q2) h2 hk
  match i, hi with
  | 0, _ =>
    have : x = y := Option.some.inj (x2.symm.trans y2)
    exact ⟨x, x1, by rw [this]; exact y1⟩
  | 1, _ => exact ⟨_, a1, b1⟩
  | 2, _ => exact ⟨_, a2, b2⟩
  | 3, _ => exact ⟨_, a3, b3⟩
theorem owed2 (h : zLR m A T N n v (z9 q a e nn t p w r c)) (h2 : zLR m2 A2 T2 N2 n2 v2 (z9 q a e nn t p w r c)) {k i : Nat} (hk : k < 100) (hi : i < 2) : ∃ x, d_X7_owed v w9 u q9 (nI k) (nI i) = some x ∧ d_X7_owed v2 w2 u2 q2 (nI k) (nI i) = some x := by
  obtain ⟨a1, a2⟩ := k_owed (w9 := w9) (u := u) (q9 := q9) h hk
  obtain ⟨b1, b2⟩ := k_owed (w9 := w2) (u := u2) (q9 := q2) h2 hk
  match i, hi with
  | 0, _ => exact ⟨_, a1, b1⟩
  | 1, _ => exact ⟨_, a2, b2⟩
theorem q_told33 (h : zLR m A T N n v (z9 q a e nn t p w r c)) (h2 : zLR m2 A2 T2 N2 n2 v2 (z9 q a e nn t p w r c)) : ∀ d i f x, 30 - i = d → i ≤ 30 → d < f → ∃ y, lp_L_told_33 v w9 u q9 f x (nI i) = some y ∧ lp_L_told_33 v2 w2 u2 q2 f x (nI i) = some y := by
  intro d
  induction d with
  | zero =>
    intro i f x h1 h3 h4
    obtain ⟨f, rfl⟩ := fu h4
    obtain rfl : i = 30 := by omega
    exact ⟨x, rfl, rfl⟩
  | succ d ih =>
    intro i f x h1 h3 h4
    obtain ⟨f, rfl⟩ := fu (by omega : 0 < f)
    have hi : i < 30 := by omega
    obtain ⟨o0, o1, o2, o3, o4, o5, o6⟩ := k_of (w9 := w9) (u := u) (q9 := q9) h hi
    obtain ⟨p0, p1, p2, p3, p4, p5, p6⟩ := k_of (w9 := w2) (u := u2) (q9 := q2) h2 hi
    have o7 := k_clapper (w9 := w9) (u := u) (q9 := q9) h hi
    have p7 := k_clapper (w9 := w2) (u := u2) (q9 := q2) h2 hi
    obtain ⟨pf, o8, p8⟩ := perf2 (w9 := w9) (u := u) (q9 := q9) (w2 := w2) (u2 := u2) (q2 := q2) h h2 (k := i % 6) (i := i / 6 % 4) (by omega) (by omega)
    obtain ⟨ow, o9, p9⟩ := owed2 (w9 := w9) (u := u) (q9 := q9) (w2 := w2) (u2 := u2) (q2 := q2) h h2 (k := i / 2) (i := i % 2) (by omega) (by omega)
    have oA := k_record (w9 := w9) (u := u) (q9 := q9) h (k := i / 4) (i := i % 4) (by omega) (by omega)
    have pA := k_record (w9 := w2) (u := u2) (q9 := q2) h2 (k := i / 4) (i := i % 4) (by omega) (by omega)
    obtain ⟨x', hx⟩ := told_step i hi x _ _ _ _ _ _ pf ow _
    rw [hx v w9 u q9 f o0 o3 o4 o5 o6 o7 o8 o9 oA, hx v2 w2 u2 q2 f p0 p3 p4 p5 p6 p7 p8 p9 pA]
    exact ih (i + 1) f x' (by omega) (by omega) (by omega)
theorem q_told6 (h : zLR m A T N n v (z9 q a e nn t p w r c)) (h2 : zLR m2 A2 T2 N2 n2 v2 (z9 q a e nn t p w r c)) : ∀ d i f x, 19 - i = d → i ≤ 19 → d < f → ∃ y, lp_L_told_6 v w9 u q9 f x (nI i) = some y ∧ lp_L_told_6 v2 w2 u2 q2 f x (nI i) = some y := by
  intro d
  induction d with
  | zero =>
    intro i f x h1 h3 h4
    obtain ⟨f, rfl⟩ := fu h4
    obtain rfl : i = 19 := by omega
    show ∃ y, lpB_L_told_6 v w9 u q9 (lp_L_told_6 v w9 u q9 f) x (nI 19) = some y ∧ lpB_L_told_6 v2 w2 u2 q2 (lp_L_told_6 v2 w2 u2 q2 f) x (nI 19) = some y
    unfold lpB_L_told_6
    rw [if_pos (by decide), if_pos (by decide)]
    exact q_told33 h h2 30 0 zF x rfl (by decide) (by decide)
  | succ d ih =>
    intro i f x h1 h3 h4
    obtain ⟨f, rfl⟩ := fu (by omega : 0 < f)
    have hi : i < 19 := by omega
    obtain ⟨C, c1, c2⟩ := k_count (w9 := w9) (u := u) (q9 := q9) h hi
    obtain ⟨D, d1, d2⟩ := k_count (w9 := w2) (u := u2) (q9 := q2) h2 hi
    have : C = D := Option.some.inj (c2.symm.trans d2)
    subst this
    obtain ⟨x', hx⟩ := told_count i hi x C
    rw [hx v w9 u q9 f c1, hx v2 w2 u2 q2 f d1]
    exact ih (i + 1) f x' (by omega) (by omega) (by omega)
theorem k_told (h : zLR m A T N n v (z9 q a e nn t p w r c)) (h2 : zLR m2 A2 T2 N2 n2 v2 (z9 q a e nn t p w r c)) : ∃ y, d_L_told v w9 u q9 = some y ∧ d_L_told v2 w2 u2 q2 = some y := by
  unfold d_L_told
  exact q_told6 h h2 19 0 zF 229 rfl (by decide) (by decide)
end ZT
