/-! ===== fault, and carrying the orders out ===== -/
/-- from the place a on the orders are without fault (in at most n orders) -/
def zFl (cd : Nat → Int32) (L : Nat) : Nat → Nat → Prop
  | 0, _ => False
  | n + 1, a => (zO cd a).2 = true ∧ ((zO cd a).1 = L ∨ ((zO cd a).1 < L ∧ cd (zO cd a).1 = 59 ∧ zFl cd L n ((zO cd a).1 + 1)))
theorem zFl_up {cd : Nat → Int32} {L : Nat} : ∀ n m a, n ≤ m → zFl cd L n a → zFl cd L m a
  | 0, _, _, _, h => h.elim
  | n + 1, 0, _, hm, _ => by omega
  | n + 1, m + 1, a, hm, h => by
    obtain ⟨h1, h2⟩ := h
    refine ⟨h1, ?_⟩
    rcases h2 with h2 | ⟨h2, h3, h4⟩
    · exact Or.inl h2
    · exact Or.inr ⟨h2, h3, zFl_up n m _ (by omega) h4⟩
theorem q_fault {L : Nat} {cd : Nat → Int32} {w0 μ0 : zHV} : ∀ d a i f f' w μ, L - a = d → i ≤ a → d < f → d < f' → zRR a L cd w μ w0 μ0 → ∃ r b w' μ', lp_X3_faultPlace_7 f (nI i) w = some (r, w') ∧ lp_X8_findFault_5 f' μ = some (r, μ') ∧ zRR b L cd w' μ' w0 μ0 ∧ (r = -6 → zFl cd L (d + 1) a) ∧ (r = -6 ∨ ∃ k, k ≤ 80 ∧ r = nI k) := by
  intro d
  induction d using Nat.strongRecOn with
  | _ d ih =>
    intro a i f f' w μ h1 h2 h3 h4 h
    obtain ⟨f, rfl⟩ := fu (by omega : 0 < f)
    obtain ⟨f', rfl⟩ := fu (by omega : 0 < f')
    have hL : L ≤ 80 := h.1
    have ha : a ≤ L := h.2.2.2.2.2.2.2.1
    have h10 : ¬ (1 : Int32) = 0 := by decide
    show ∃ r b w' μ', lpB_X3_faultPlace_7 (lp_X3_faultPlace_7 f) (nI i) w = some (r, w') ∧ lpB_X8_findFault_5 (lp_X8_findFault_5 f') μ = some (r, μ') ∧ _
    unfold lpB_X3_faultPlace_7 lpB_X8_findFault_5 d_X4_length
    rw [if_neg (show ¬ 80 < nI i from nI_nlt (a := 80) (by omega) (by decide))]
    obtain ⟨w1, μ1, r1, r2⟩ := b_order h
    have g1 : w1 2 0 = nI (zO cd a).1 := r1.2.2.2.2.2.1
    have g2 : μ1 6 2 = nI (zO cd a).1 := r1.2.2.2.2.2.2.1
    have g3 : (zO cd a).1 ≤ L := r1.2.2.2.2.2.2.2.1
    have g4 : w1 1 0 = nI L := by rw [r1.2.2.2.2.2.2.2.2.1 1 (by decide)]; exact r1.2.1
    have g5 : μ1 6 1 = nI L := by rw [r1.2.2.2.2.2.2.2.2.2.2.2]; exact r1.2.2.1
    rcases r2 with ⟨o, s1, s2, -, -, -, hlt, -⟩ | ⟨o, s1, s2⟩
    · rw [s1, s2, zup2_e, zup2_e, if_neg h10, if_neg h10, zcl_e, g1, g2, g4, g5]
      by_cases c : (zO cd a).1 = L
      · rw [if_neg (nI_nlt (by omega) (by omega)), if_pos (by rw [c])]
        exact ⟨_, _, _, _, rfl, rfl, r1, fun _ => ⟨o, Or.inl c⟩, Or.inl rfl⟩
      · rw [if_pos (nI_lt (by omega) (by omega)), if_neg (fun q => c ((nI_eq (by omega) (by omega)).mp q))]
        rcases b_sgn 59 (by decide) r1 with ⟨m1, w2, μ2, t1, -, -, t3, t4⟩ | ⟨m1, t3, μ2, t1, -, t4⟩
        · rw [t3, t4, zup2_e, zup2_e, if_neg h10, if_neg h10, zlet_n, nI_p1]
          obtain ⟨r, b, w3, μ3, e1, e2, e3, e4, e5⟩ := ih (L - ((zO cd a).1 + 1)) (by omega) ((zO cd a).1 + 1) (i + 1) f f' w2 μ2 rfl (by omega) (by omega) (by omega) t1
          refine ⟨r, b, w3, μ3, e1, e2, e3, fun q => ⟨o, Or.inr ⟨by omega, m1, zFl_up _ _ _ (by omega) (e4 q)⟩⟩, e5⟩
        · have g1' : w1 2 0 = nI (zO cd a).1 := g1
          have g6 : μ2 6 2 = nI (zO cd a).1 := t1.2.2.2.2.2.2.1
          rw [t3, t4, zup2_e, zup2_e, if_pos rfl, if_pos rfl, g1', g6]
          exact ⟨_, _, _, _, rfl, rfl, t1, fun q => absurd q (nI_m6 (by omega)), Or.inr ⟨_, by omega, rfl⟩⟩
    · rw [s1, s2, zup2_e, zup2_e, if_pos rfl, if_pos rfl, g1, g2]
      exact ⟨_, _, _, _, rfl, rfl, r1, fun q => absurd q (nI_m6 (by omega)), Or.inr ⟨_, by omega, rfl⟩⟩
/-- the start of reading, out of the whole relation -/
theorem rr_start {j : Nat} {v w : zHV} {u q : zHI} {μ : zHV} (h : zSim j v w u q μ) : ∃ L, zRR 0 L (zcd w L) (zs w 2 0 0) (zs μ 6 2 0) w μ := by
  obtain ⟨-, ⟨L, hL, w1, m1, hk⟩, -⟩ := h
  refine ⟨L, hL, w1, m1, fun k hkL => ?_, fun k hkL => ?_, rfl, rfl, Nat.zero_le L, fun i hi => by funext b; rw [zs_at, if_neg hi], fun i hi => by funext b; rw [zs_at, if_neg hi], rfl, rfl⟩
  · unfold zcd
    rw [if_pos hkL]; exact ⟨rfl, (hk k hkL).symm⟩
  · unfold zcd
    rw [if_neg (by omega)]
theorem rr_sim {j a L : Nat} {cd : Nat → Int32} {v w w' : zHV} {u q : zHI} {μ μ' : zHV} (h : zSim j v w u q μ) (hr : zRR a L cd w' μ' w μ) : zSim (j + 1) v w' u q μ' := by
  obtain ⟨h1, h2, h3, h4⟩ := zSim_up h
  obtain ⟨k1, k2, k3, k4, k5, k6, k7, k8, k9, k10, k11, k12⟩ := hr
  refine ⟨?_, ?_, ?_, ?_⟩
  · rw [k10 0 (by decide)]; exact h1
  · rw [k9 0 (by decide), k9 1 (by decide), k10 5 (by decide), k12]; exact h2
  · rw [k10 2 (by decide), k11]; exact h3
  · rw [k10 3 (by decide), k10 4 (by decide)]; exact h4
theorem stp_fault : zSt_fault zSim := by
  intro j v w u q μ hj h
  obtain ⟨L, hR⟩ := rr_start h
  obtain ⟨r, b, w', μ', e1, e2, e3, -, -⟩ := q_fault (L - 0) 0 0 zF zF _ _ rfl (by omega) (by have := hR.1; unfold zF; omega) (by have := hR.1; unfold zF; omega) hR
  have e1 : d_X3_faultPlace w = some (r, w') := e1
  have e2 : d_X8_findFault μ = some (r, μ') := e2
  unfold d_X7_fault d_X8_fault
  rw [e1, e2, zup2_e, zup2_e]
  exact ⟨_, _, _, rfl, rfl, rr_sim h e3⟩
/-- an order carried out -/
theorem b_does {m A T N n : Nat} {v g μ w : zHV} (hm : m < 100000000) (h : zRel m A T N n v g) (h1 : μ 6 3 = w 2 1) (h2 : ¬ w 2 1 = 107 → ¬ w 2 1 = 110 → μ 6 4 = w 2 2) : ∃ (r : Int32) (v' g' : zHV) (A' T' N' n' : Nat), d_X3_carryOrderOutIn v w = some (r, v') ∧ d_X8_doesOrder (zM5 μ g) = some (r, zM5 μ g') ∧ zRel (m + 2) A' T' N' n' v' g' := by
  unfold d_X3_carryOrderOutIn d_X8_doesOrder
  rw [show zM5 μ g 6 3 = w 2 1 from h1]
  by_cases q99 : w 2 1 = 99
  · obtain ⟨r, v', g', A', T', N', n', e1, e2, e3⟩ := o_clap (w 2 2) m A T N n v g μ hm h
    have e1 : d_X2_takeClap v (w 2 2) = some (r, v') := e1
    have e2 : d_X8_doClap (zM5 μ g) (w 2 2) = some (r, zM5 μ g') := e2
    rw [if_pos q99, if_pos q99, show zM5 μ g 6 4 = w 2 2 from h2 (by rw [q99]; decide) (by rw [q99]; decide), e1, e2, zup2_e, zup2_e]
    exact ⟨_, _, _, _, _, _, _, rfl, rfl, e3⟩
  rw [if_neg q99, if_neg q99]
  by_cases q101 : w 2 1 = 101
  · obtain ⟨r, v', g', A', T', N', n', e1, e2, e3⟩ := o_ends (w 2 2) m A T N n v g μ hm h
    have e1 : d_X2_endPiece v (w 2 2) = some (r, v') := e1
    have e2 : d_X8_doEnds (zM5 μ g) (w 2 2) = some (r, zM5 μ g') := e2
    rw [if_pos q101, if_pos q101, show zM5 μ g 6 4 = w 2 2 from h2 (by rw [q101]; decide) (by rw [q101]; decide), e1, e2, zup2_e, zup2_e]
    exact ⟨_, _, _, _, _, _, _, rfl, rfl, e3⟩
  rw [if_neg q101, if_neg q101]
  by_cases q107 : w 2 1 = 107
  · obtain ⟨r, v', g', A', T', N', n', e1, e2, e3⟩ := o_call m A T N n v g μ hm h
    rw [if_pos q107, if_pos q107, e1, e2, zup2_e, zup2_e]
    exact ⟨_, _, _, _, _, _, _, rfl, rfl, e3⟩
  rw [if_neg q107, if_neg q107]
  by_cases q110 : w 2 1 = 110
  · obtain ⟨r, v', g', A', T', N', n', e1, e2, e3⟩ := o_night m A T N n v g μ hm h
    rw [if_pos q110, if_pos q110, e1, e2, zup2_e, zup2_e]
    exact ⟨_, _, _, _, _, _, _, rfl, rfl, e3⟩
  rw [if_neg q110, if_neg q110, show zM5 μ g 6 4 = w 2 2 from h2 q107 q110]
  by_cases q112 : w 2 1 = 112
  · obtain ⟨r, v', g', A', T', N', n', e1, e2, e3⟩ := o_play (w 2 2) m A T N n v g μ hm h
    have e1 : d_X2_playEncore v (w 2 2) = some (r, v') := e1
    have e2 : d_X8_doPlay (zM5 μ g) (w 2 2) = some (r, zM5 μ g') := e2
    rw [if_pos q112, if_pos q112, e1, e2, zup2_e, zup2_e]
    exact ⟨_, _, _, _, _, _, _, rfl, rfl, e3⟩
  rw [if_neg q112, if_neg q112]
  by_cases q119 : w 2 1 = 119
  · obtain ⟨r, v', g', A', T', N', n', e1, e2, e3⟩ := o_pass (w 2 2) m A T N n v g μ hm h
    have e1 : d_X2_letPass v (w 2 2) = some (r, v') := e1
    have e2 : d_X8_doPass (zM5 μ g) (w 2 2) = some (r, zM5 μ g') := e2
    rw [if_pos q119, if_pos q119, e1, e2, zup2_e, zup2_e]
    exact ⟨_, _, _, _, _, _, _, rfl, rfl, e3⟩
  rw [if_neg q119, if_neg q119]
  obtain ⟨r, v', g', A', T', N', n', e1, e2, e3⟩ := o_pay (w 2 2) m A T N n v g μ hm h
  have e1 : d_X2_switchPay v (w 2 2) = some (r, v') := e1
  have e2 : d_X8_doPay (zM5 μ g) (w 2 2) = some (r, zM5 μ g') := e2
  rw [e1, e2, zup2_e, zup2_e]
  exact ⟨_, _, _, _, _, _, _, rfl, rfl, e3⟩
/-- an order so many times: it goes well each time, or stops -/
theorem q_times {w μ : zHV} {tm : Nat} (ht : tm ≤ 99) (hw : w 2 3 = nI tm) (hμ : μ 6 5 = nI tm) (h1 : μ 6 3 = w 2 1) (h2 : ¬ w 2 1 = 107 → ¬ w 2 1 = 110 → μ 6 4 = w 2 2) (k9 : Int32 → Int32 → zHV → zHV → Option (Int32 × zHV × zHV)) (k29 j107 : Int32 → Int32 → zHV → Option (Int32 × zHV)) (x3 : Int32) :
    ∀ d i f f' x m A T N n v g, tm - i = d → i ≤ tm → d < f → d + 1 < f' → m + 2 * d < 100000000 → zRel m A T N n v g → ∃ x' v' g' A' T' N' n', x ≤ x' ∧ x' ≤ x + d ∧ zRel (m + 2 * d) A' T' N' n' v' g' ∧
      ((lp_X3_carryOutIn_25 k9 f (nI x) x3 (nI i) v w = (zup2 (d_X3_readSign w 59) (fun u => u) fun t56 w56 => k9 (nI x') (x3 + Int32.ofInt 1) v' w56) ∧ lp_X8_carryOut_51 k29 j107 f' (nI x) 1 (nI i) (zM5 μ g) = k29 (nI x') 1 (zs (zM5 μ g') 6 2 (μ 6 2 + 1))) ∨
      (lp_X3_carryOutIn_25 k9 f (nI x) x3 (nI i) v w = some (nI x', v', w) ∧ lp_X8_carryOut_51 k29 j107 f' (nI x) 1 (nI i) (zM5 μ g) = k29 (nI x') 0 (zs (zM5 μ g') 6 2 (μ 6 2 + 1)))) := by
  have h10 : ¬ (1 : Int32) = 0 := by decide
  intro d
  induction d with
  | zero =>
    intro i f f' x m A T N n v g e1 e2 e3 e4 e5 h
    obtain ⟨f, rfl⟩ := fu e3
    obtain ⟨f', rfl⟩ := fu (by omega : 0 < f')
    obtain rfl : i = tm := by omega
    refine ⟨x, v, g, A, T, N, n, by omega, by omega, h, Or.inl ⟨?_, ?_⟩⟩
    · show lpB_X3_carryOutIn_25 k9 (lp_X3_carryOutIn_25 k9 f) (nI x) x3 (nI i) v w = _
      unfold lpB_X3_carryOutIn_25
      rw [hw, if_pos (nI_le (Nat.le_refl _) (by omega))]
      simp only [zlet_n]
    · show lpB_X8_carryOut_51 k29 j107 (lp_X8_carryOut_51 k29 j107 f') (nI x) 1 (nI i) (zM5 μ g) = _
      unfold lpB_X8_carryOut_51
      simp only [zjn_e, zlet_n]
      rw [show zM5 μ g 6 5 = nI i from hμ, if_pos (nI_le (Nat.le_refl _) (by omega))]
      rfl
  | succ d ih =>
    intro i f f' x m A T N n v g e1 e2 e3 e4 e5 h
    obtain ⟨f, rfl⟩ := fu (by omega : 0 < f)
    obtain ⟨f', rfl⟩ := fu (by omega : 0 < f')
    obtain ⟨r, v1, g1, A1, T1, N1, n1, r1, r2, r3⟩ := b_does (μ := μ) (w := w) (by omega) h h1 h2
    have hlt : ¬ nI tm ≤ nI i := nI_ge (by omega) (by omega)
    have q1 : lp_X3_carryOutIn_25 k9 (f + 1) (nI x) x3 (nI i) v w = if 0 ≤ r then lp_X3_carryOutIn_25 k9 f (nI (x + 1)) x3 (nI (i + 1)) v1 w else some (nI x, v1, w) := by
      show lpB_X3_carryOutIn_25 k9 (lp_X3_carryOutIn_25 k9 f) (nI x) x3 (nI i) v w = _
      unfold lpB_X3_carryOutIn_25
      rw [hw, if_neg hlt, r1, zup2_e]
      simp only [zlet_n, nI_p1]
    have q2 : lp_X8_carryOut_51 k29 j107 (f' + 1) (nI x) 1 (nI i) (zM5 μ g) = if r < 0 then lp_X8_carryOut_51 k29 j107 f' (nI x) 0 (nI (i + 1)) (zM5 μ g1) else lp_X8_carryOut_51 k29 j107 f' (nI (x + 1)) 1 (nI (i + 1)) (zM5 μ g1) := by
      show lpB_X8_carryOut_51 k29 j107 (lp_X8_carryOut_51 k29 j107 f') (nI x) 1 (nI i) (zM5 μ g) = _
      unfold lpB_X8_carryOut_51
      simp only [zjn_e, zlet_n]
      rw [show zM5 μ g 6 5 = nI tm from hμ, if_neg hlt, if_neg h10, r2, zup2_e]
      simp only [nI_p1, nI_1, Int32.add_zero, eq_self, if_true, h10, if_false]
    rw [q1, q2]
    by_cases c : r < 0
    · rw [if_neg (fun q => absurd c (Int32.not_lt.mpr q)), if_pos c]
      refine ⟨x, v1, g1, A1, T1, N1, n1, by omega, by omega, zRel_up (by omega) r3, Or.inr ⟨rfl, ?_⟩⟩
      obtain ⟨f', rfl⟩ := fu (by omega : 0 < f')
      show lpB_X8_carryOut_51 k29 j107 (lp_X8_carryOut_51 k29 j107 f') (nI x) 0 (nI (i + 1)) (zM5 μ g1) = _
      unfold lpB_X8_carryOut_51
      simp only [zjn_e, zlet_n]
      by_cases c2 : zM5 μ g1 6 5 ≤ nI (i + 1)
      · rw [if_pos c2]; rfl
      · rw [if_neg c2, if_pos trivial]; rfl
    · rw [if_pos (Int32.not_lt.mp c), if_neg c]
      obtain ⟨x', v', g', A', T', N', n', a1, a2, a3, a4⟩ := ih (i + 1) f f' (x + 1) (m + 2) A1 T1 N1 n1 v1 g1 (by omega) (by omega) (by omega) (by omega) (by omega) r3
      exact ⟨x', v', g', A', T', N', n', by omega, by omega, by rw [show m + 2 * (d + 1) = m + 2 + 2 * d by omega]; exact a3, a4⟩
