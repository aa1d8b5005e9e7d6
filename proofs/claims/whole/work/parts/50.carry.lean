theorem zM_eq {g μ : zHV} (h : μ 0 = zE5 g) : μ = zM5 μ g := by
  funext i
  unfold zM5 zr
  split
  · next q => rw [q, h]
  · rfl
theorem zO_end {cd : Nat → Int32} {a : Nat} (h : cd a = 0) : zO cd a = (a, false) := by
  unfold zO
  rw [h]; rfl
/-- all the orders of a pad without fault -/
theorem q_carry {L : Nat} {cd : Nat → Int32} {w0 : zHV} : ∀ n a i f f' x m A T N nn v g w μ μ0, zFl cd L n a → zRR a L cd w μ w0 μ0 → μ 0 = zE5 g → zRel m A T N nn v g → i ≤ a → n + 1 < f → n + 1 < f' → m + 198 * n < 100000000 →
    ∃ x' v' g' A' T' N' n' w' μ', lp_X3_carryOutIn_9 f (nI x) (nI i) v w = some (nI x', v', w') ∧ lp_X8_carryOut_29 f' (nI x) 1 μ = some (nI x', μ') ∧ x ≤ x' ∧ x' ≤ x + 99 * n ∧ zRel (m + 198 * n) A' T' N' n' v' g' ∧ (∀ i, ¬ i = 2 → w' i = w0 i) ∧ μ' 0 = zE5 g' ∧ (∀ i, ¬ i = 0 → ¬ i = 6 → μ' i = μ0 i) ∧ μ' 6 0 = μ0 6 0 ∧ μ' 6 1 = 0 := by
  have h10 : ¬ (1 : Int32) = 0 := by decide
  intro n
  induction n with
  | zero => intro a i f f' x m A T N nn v g w μ μ0 h; exact h.elim
  | succ n ih =>
    intro a i f f' x m A T N nn v g w μ μ0 hF h h0 hR hi hf hf' hm
    obtain ⟨f, rfl⟩ := fu (by omega : 0 < f)
    obtain ⟨f', rfl⟩ := fu (by omega : 0 < f')
    obtain ⟨ho, hF2⟩ := hF
    have hL : L ≤ 80 := h.1
    have haL : a ≤ L := h.2.2.2.2.2.2.2.1
    obtain ⟨w1, μ1, r1, r2⟩ := b_order h
    rcases r2 with ⟨o, s1, s2, k1, k2, k3, hlt, t, t99, k4, k5⟩ | ⟨o, -, -⟩
    · have g3 : (zO cd a).1 ≤ L := r1.2.2.2.2.2.2.2.1
      have e7 : μ 6 2 = nI a := h.2.2.2.2.2.2.1
      have e8 : μ 6 1 = nI L := by rw [h.2.2.2.2.2.2.2.2.2.2.2]; exact h.2.2.1
      have e9 : μ1 6 2 = nI (zO cd a).1 := r1.2.2.2.2.2.2.1
      have hμ1 : μ1 0 = zE5 g := by rw [r1.2.2.2.2.2.2.2.2.2.1 0 (by decide), ← h.2.2.2.2.2.2.2.2.2.1 0 (by decide)]; exact h0
      have hrow : ∀ j, ¬ j = 6 → μ1 j = μ0 j := r1.2.2.2.2.2.2.2.2.2.1
      have h60 : μ1 6 0 = μ0 6 0 := r1.2.2.2.2.2.2.2.2.2.2.1
      have h61 : μ1 6 1 = μ0 6 1 := r1.2.2.2.2.2.2.2.2.2.2.2
      have u1 : lp_X3_carryOutIn_9 (f + 1) (nI x) (nI i) v w = lp_X3_carryOutIn_25 (lp_X3_carryOutIn_9 f) zF (nI x) (nI i) (nI 0) v w1 := by
        show lpB_X3_carryOutIn_9 (lp_X3_carryOutIn_9 f) (nI x) (nI i) v w = _
        unfold lpB_X3_carryOutIn_9
        rw [if_neg (show ¬ 80 < nI i from nI_nlt (a := 80) (by omega) (by decide)), s1, zup2_e, if_neg h10]; rfl
      have u2 : lp_X8_carryOut_29 (f' + 1) (nI x) 1 μ = lp_X8_carryOut_51 (lp_X8_carryOut_29 f') (fun x1 x2 v => zlet (zs v 6 1 0) fun v109 => some (x1, v109)) zF (nI x) 1 (nI 0) (zM5 μ1 g) := by
        rw [← zM_eq hμ1]
        show lpB_X8_carryOut_29 (lp_X8_carryOut_29 f') (nI x) 1 μ = _
        unfold lpB_X8_carryOut_29
        rw [zjn_e, if_neg h10, e8, e7, if_neg (nI_ge (by omega) (by omega)), s2, zup2_e]; rfl
      rw [u1, u2]
      obtain ⟨x', v', g', A', T', N', n', a1, a2, a3, a4⟩ := q_times (w := w1) (μ := μ1) t99 k4 k5 (k2.trans k1.symm) (fun q1 q2 => (k3 (fun q => q1 (k1.trans q)) (fun q => q2 (k1.trans q))).symm) (lp_X3_carryOutIn_9 f) (lp_X8_carryOut_29 f') (fun x1 x2 v => zlet (zs v 6 1 0) fun v109 => some (x1, v109)) (nI i) t 0 zF zF x m A T N nn v g rfl (Nat.zero_le t) (by unfold zF; omega) (by unfold zF; omega) (by omega) hR
      have hend : ∀ (c : Int32) (f' : Nat), lp_X8_carryOut_29 (f' + 1) (nI x') 0 (zs (zM5 μ1 g') 6 2 c) = some (nI x', zs (zs (zM5 μ1 g') 6 2 c) 6 1 0) := fun c f' => by
        show lpB_X8_carryOut_29 (lp_X8_carryOut_29 f') (nI x') 0 (zs (zM5 μ1 g') 6 2 c) = _
        unfold lpB_X8_carryOut_29
        rw [zjn_e, if_pos rfl]
        dsimp only
        rw [zlet_n]
      have hfin : ∀ c : Int32, (zs (zs (zM5 μ1 g') 6 2 c) 6 1 0) 0 = zE5 g' ∧ (∀ i, ¬ i = 0 → ¬ i = 6 → (zs (zs (zM5 μ1 g') 6 2 c) 6 1 0) i = μ0 i) ∧ (zs (zs (zM5 μ1 g') 6 2 c) 6 1 0) 6 0 = μ0 6 0 ∧ (zs (zs (zM5 μ1 g') 6 2 c) 6 1 0) 6 1 = 0 := fun c => by
        refine ⟨rfl, fun j j0 j6 => ?_, h60, rfl⟩
        rw [← hrow j j6]
        funext b
        rw [zs_at, if_neg j6, zs_at, if_neg j6, zM5_ne _ _ j0]
      rcases a4 with ⟨b1, b2⟩ | ⟨b1, b2⟩
      · rw [b1, b2, e9, nI_1, nI_p1]
        rcases hF2 with c | ⟨c, c59, hF3⟩
        · obtain ⟨f, rfl⟩ := fu (by omega : 0 < f)
          obtain ⟨f', rfl⟩ := fu (by omega : 0 < f')
          have hcd : cd (zO cd a).1 = 0 := r1.2.2.2.2.1 _ (by omega)
          rcases b_sgn 59 (by decide) r1 with ⟨m1, -⟩ | ⟨-, m2, -⟩
          · rw [hcd] at m1; exact absurd m1 (by decide)
          · rw [m2, zup2_e]
            obtain ⟨w2, μ2, y1, y2⟩ := b_order r1
            rw [zO_end hcd] at y1 y2
            rcases y2 with ⟨y2, -⟩ | ⟨-, y2, -⟩
            · cases y2
            · refine ⟨x', v', g', A', T', N', n', w2, zs (zs (zM5 μ1 g') 6 2 (nI ((zO cd a).1 + 1))) 6 1 0, ?_, ?_, a1, by omega, zRel_up (by omega) a3, y1.2.2.2.2.2.2.2.2.1, hfin _⟩
              · show lpB_X3_carryOutIn_9 (lp_X3_carryOutIn_9 f) (nI x') (nI (i + 1)) v' w1 = _
                unfold lpB_X3_carryOutIn_9
                rw [if_neg (show ¬ 80 < nI (i + 1) from nI_nlt (a := 80) (by omega) (by decide)), y2, zup2_e, if_pos rfl]
              · show lpB_X8_carryOut_29 (lp_X8_carryOut_29 f') (nI x') 1 (zs (zM5 μ1 g') 6 2 (nI ((zO cd a).1 + 1))) = _
                unfold lpB_X8_carryOut_29
                rw [zjn_e, if_neg h10, show zs (zM5 μ1 g') 6 2 (nI ((zO cd a).1 + 1)) 6 1 = nI L from h61.trans h.2.2.1, show zs (zM5 μ1 g') 6 2 (nI ((zO cd a).1 + 1)) 6 2 = nI ((zO cd a).1 + 1) from rfl, if_pos (nI_le (by omega) (by omega))]
                dsimp only
                rw [zlet_n]
        · rcases b_sgn 59 (by decide) r1 with ⟨-, w2, μ2, y1, -, -, y4, -⟩ | ⟨m1, -⟩
          · rw [y4, zup2_e]
            have hrr : zRR ((zO cd a).1 + 1) L cd w2 (zs (zM5 μ1 g') 6 2 (nI ((zO cd a).1 + 1))) w0 (zM5 μ0 g') := by
              obtain ⟨z1, z2, z3, z4, z5, z6, z7, z8, z9, z10, z11, z12⟩ := y1
              refine ⟨z1, z2, z3, z4, z5, z6, rfl, z8, z9, fun j j6 => ?_, h60, h61⟩
              funext b
              rw [zs_at, if_neg j6]
              by_cases j0 : j = 0
              · subst j0; rfl
              · rw [zM5_ne _ _ j0, zM5_ne _ _ j0, hrow j j6]
            obtain ⟨x2, v2, g2, A2, T2, N2, n2, w3, μ3, d1, d2, d3, d4, d5, d6, d7, d8, d9, d10⟩ := ih ((zO cd a).1 + 1) (i + 1) f f' x' (m + 2 * t) A' T' N' n' v' g' w2 _ (zM5 μ0 g') hF3 hrr rfl a3 (by omega) (by omega) (by omega) (by omega)
            refine ⟨x2, v2, g2, A2, T2, N2, n2, w3, μ3, d1, d2, by omega, by omega, zRel_up (by omega) d5, d6, d7, fun j j0 j6 => ?_, d9, d10⟩
            rw [d8 j j0 j6, zM5_ne _ _ j0]
          · exact absurd c59 m1
      · rw [b1, b2]
        obtain ⟨f', rfl⟩ := fu (by omega : 0 < f')
        rw [hend]
        exact ⟨x', v', g', A', T', N', n', w1, _, rfl, rfl, a1, by omega, zRel_up (by omega) a3, r1.2.2.2.2.2.2.2.2.1, hfin _⟩
    · rw [ho] at o; cases o
theorem stp_carryOut : zSt_carryOut zSim := by
  intro j v w u q μ hj h
  obtain ⟨L, hRR⟩ := rr_start h
  have hL : L ≤ 80 := hRR.1
  obtain ⟨r, b, w4, μ4, e1, e2, e3, e4, -⟩ := q_fault (L - 0) 0 0 zF zF _ _ rfl (by omega) (by unfold zF; omega) (by unfold zF; omega) hRR
  have e1 : d_X3_faultPlace w = some (r, w4) := e1
  have e2 : d_X8_findFault μ = some (r, μ4) := e2
  unfold d_X7_carryOut d_X8_carryOut
  rw [e1, e2, zup2_e, zup2_e]
  by_cases c : r = -6
  · obtain ⟨h1, h2, ⟨K, x, hK, hx, k1, k2, k3, k4⟩, h4⟩ := h
    obtain ⟨z1, z2, z3, z4, z5, z6, z7, z8, z9, z10, z11, z12⟩ := e3
    obtain ⟨hh, a1, a2⟩ := b_aside h1 k3 hx
    obtain ⟨F, f1, f2⟩ := b_put μ4
    obtain ⟨G, g1, g2, g3⟩ := b_push (zr μ4 1 F) hK (show zr μ4 1 F 6 0 = nI K from z11.trans k2)
    have hp2 : zr μ4 1 F 2 = μ 2 := z10 2 (by decide)
    have h0 : μ4 0 = μ 0 := z10 0 (by decide)
    have h1' := h1
    obtain ⟨A, T, N, n, hR⟩ := h1
    have hrr : zRR 0 L (zcd w L) (zs w4 2 0 0) (zs (zs (zr (zr μ4 1 F) 2 G) 6 0 (nI (min (K + 1) 6))) 6 2 0) w (zs (zr (zr μ4 1 F) 2 G) 6 0 (nI (min (K + 1) 6))) := by
      refine ⟨z1, z2, z12.trans z3, fun k hk => ⟨(z4 k hk).1, ?_⟩, z5, rfl, rfl, Nat.zero_le L, fun i hi => ?_, fun i hi => ?_, rfl, rfl⟩
      · show μ4 5 k = _
        rw [z10 5 (by decide)]; exact (z4 k hk).2
      · rw [← z9 i hi]; funext b; rw [zs_at, if_neg hi]
      · funext b; rw [zs_at, if_neg hi]
    obtain ⟨x', v', g', A', T', N', n', w', μ', d1, d2, d3, d4, d5, d6, d7, d8, d9, d10⟩ := q_carry (L - 0 + 1) 0 0 zF zF 0 (20000 * j) A T N n v (zD5 (μ 0)) _ _ _ (e4 c) hrr (by
      show μ4 0 = _
      rw [h0, zE5_D5]) hR (Nat.le_refl 0) (by unfold zF; omega) (by unfold zF; omega) (by omega)
    obtain ⟨u', u1, u2⟩ := b_kept (m' := 20000 * (j + 1)) (F := G) (s := μ 0) (p2 := μ 2) (r := nI x') (by omega) h1' a2 hK hx k1 k3 k4 (nI_pos (by omega)) (fun y hy => (g2 y hy).trans ((f2 y hy).trans (by rw [h0]))) (fun i y hi hy => (g3 i y hi hy).trans (by rw [hp2]))
    have d1 : d_X3_carryOutIn v w4 = some (nI x', v', w') := d1
    rw [if_pos c, if_pos c, a1, zup_e, d1, zup2_e, f1, zup_e, g1, zup_e, zlet_n]
    unfold d_X4_clear
    rw [zlet_n, zup_e, u1, zup2_e]
    have d2 : lp_X8_carryOut_29 zF 0 1 (zs (zs (zr (zr μ4 1 F) 2 G) 6 0 (nI (min (K + 1) 6))) 6 2 0) = some (nI x', μ') := d2
    rw [d2]
    refine ⟨_, _, _, _, _, rfl, rfl, ?_, ⟨0, by decide, rfl, d10, fun k hk => by omega⟩, ?_, ?_⟩
    · refine ⟨A', T', N', n', zRel_up (m := 20000 * j + 198 * (L - 0 + 1)) (by omega) (zRel_cong (fun _ _ _ => rfl) (fun i k hk h9 => ?_) d5)⟩
      rw [d7]
      exact zD5_E5 g' i k hk h9
    · rw [d8 2 (by decide) (by decide), d9]
      exact u2
    · rw [d8 3 (by decide) (by decide), d8 4 (by decide) (by decide)]
      show zS4 _ q (μ4 3) (μ4 4)
      rw [z10 3 (by decide), z10 4 (by decide)]
      exact zS4_up (by omega) h4
  · rw [if_neg c, if_neg c]
    exact ⟨_, _, _, _, _, rfl, rfl, rr_sim h e3⟩
theorem zsteps : zSteps zSim := ⟨stp_skip, stp_set, stp_loud, stp_pay, stp_ends, stp_clap, stp_pass, stp_play, stp_call, stp_night, stp_write, stp_of, stp_performer, stp_owed, stp_clapper, stp_record, stp_sign, stp_count, stp_quietIn, stp_clapsFor, stp_lapsesIn, stp_calls, stp_ifFound, stp_put, stp_wipe, stp_fault, stp_carryOut, stp_undo, stp_save, stp_restore⟩
theorem zsim0 : zSim 0 zH0 (fun _ _ => 0) zU0 (fun _ _ _ => 0) zM0 := by
  refine ⟨⟨0, 0, 0, 0, ?_⟩, ⟨0, by decide, rfl, rfl, fun k hk => by omega⟩, ⟨0, 0, by decide, by decide, rfl, rfl, rfl, fun i hi => by omega⟩, fun k hk => ⟨rfl, Or.inl rfl, fun e => absurd (show (0 : Int32) = 1 from e) (by decide)⟩⟩
  refine ⟨?_, ⟨fun k hk => ?_, ⟨0, by decide, rfl⟩, by decide +kernel, rfl, fun k hk => ?_⟩, ⟨by decide, rfl, rfl, fun k hk => by omega⟩, ?_, ⟨?_, ⟨0, by decide, rfl⟩, ⟨0, by decide, rfl⟩, ⟨0, by decide, rfl⟩, 0, by decide, rfl⟩, ⟨rfl, fun r i hr hi => absurd hr (by simp)⟩, ⟨by decide, by decide, by decide, rfl, rfl, rfl, Or.inl rfl, Or.inl rfl, rfl, rfl, rfl, rfl, rfl, fun q => absurd rfl q, rfl⟩⟩
  · intro k hk
    have h1 : ∀ k : Nat, k < 6 → zD5 (zM0 0) 14 k = zH0 0 k ∧ zSlo k ≤ (zH0 0 k).toNatClampNeg ∧ (zH0 0 k).toNatClampNeg ≤ zShi k ∧ zH0 0 k = nI (zH0 0 k).toNatClampNeg := by decide +kernel
    obtain ⟨a1, a2, a3, a4⟩ := h1 k hk
    exact ⟨a1, _, a2, a3, a4⟩
  · have h1 : ∀ k : Nat, k < 30 → zD5 (zM0 0) 1 k = 3 ∧ zD5 (zM0 0) 2 k = 0 ∧ zD5 (zM0 0) 3 k = 0 ∧ zD5 (zM0 0) 4 k = 0 ∧ zD5 (zM0 0) 5 k = 0 ∧ zD5 (zM0 0) 6 k = 0 := by decide +kernel
    obtain ⟨a1, a2, a3, a4, a5, a6⟩ := h1 k hk
    rw [a1, a2, a3, a4, a5, a6]
    exact ⟨rfl, (zb_0 k).symm, rfl, rfl, (zb_0 k).symm, rfl, ⟨3, by decide, by decide, rfl⟩, 0, Nat.le_refl _, rfl⟩
  · have hz : zcn (zH0 3) 30 = 0 := by decide +kernel
    rw [hz] at hk; omega
  · intro k hk
    have h1 : ∀ k : Nat, k < 6 → zD5 (zM0 0) 7 k = zH0 9 k ∧ zD5 (zM0 0) 8 k = zH0 10 k ∧ zD5 (zM0 0) 9 k = zH0 11 k := by decide +kernel
    exact h1 k hk
  · intro k hk
    have h1 : ∀ k : Nat, k < 4 → zD5 (zM0 0) 15 k = zH0 13 k := by decide +kernel
    exact h1 k hk
