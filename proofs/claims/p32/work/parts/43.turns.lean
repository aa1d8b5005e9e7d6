/-! ===== the law's turns ===== -/
theorem cmp_self (y : Int64) : lg_cmp y y = 0 := by
  unfold lg_cmp
  rw [if_neg (by rw [gt_iff_lt, Int64.lt_iff_toInt_lt]; omega), if_pos rfl]
theorem e_cell (E : zE) (hL : E.2.2.2.2.1 ≤ 260) {k : Nat} (hk : k < 1000) : ∃ x, d_L_cell E (nI k) = some x := by
  unfold d_L_cell
  by_cases c : E.2.2.2.2.1 ≤ k
  · rw [if_pos (nI_le c (by omega))]
    exact ⟨_, rfl⟩
  · rw [if_neg (nI_ge (by omega) (by omega)), zld_nI (by omega) (by omega)]
    exact ⟨_, rfl⟩
/-- what may stand second -/
def zOk2 (kd : Nat) (p2 : Int32) : Prop := if kd = 0 ∨ kd = 6 ∨ kd = 7 then ∃ k, k < 30 ∧ p2 = nI k else if kd = 2 then ∃ k, 1 ≤ k ∧ k ≤ 99 ∧ p2 = nI k else ∃ k, k < 6 ∧ p2 = nI k
theorem zOk_of {kd : Nat} (hkd : kd < 9) {p2 p3 : Int32} (h : zOk2 kd p2) (h6 : ¬ kd = 6) (h8 : ¬ kd = 8) : zOk kd p2 p3 := by
  unfold zOk2 at h
  match kd, hkd with
  | 0, _ => exact h
  | 1, _ => exact h
  | 2, _ => exact h
  | 3, _ => exact h
  | 4, _ => exact True.intro
  | 5, _ => exact True.intro
  | 6, _ => exact absurd rfl h6
  | 7, _ => exact h
  | 8, _ => exact absurd rfl h8
theorem zOk_6 {p2 : Int32} (h : zOk2 6 p2) {y : Nat} (h1 : 1 ≤ y) (h9 : y ≤ 9) : zOk 6 p2 (nI y) := ⟨h, y, h1, h9, rfl⟩
theorem zOk_8 {k : Nat} (hk : k < 6) {y : Nat} (h1 : zSlo k ≤ y) (h9 : y ≤ zShi k) : zOk 8 (nI k) (nI y) := ⟨k, hk, rfl, y, h1, h9, rfl⟩
theorem zOk2_8 {p2 : Int32} (h : zOk2 8 p2) : ∃ k, k < 6 ∧ p2 = nI k := h
set_option maxHeartbeats 1000000 in
theorem turns (E : zE) (hL : E.2.2.2.2.1 ≤ 260) (w9 : zHV) (q9 : zHI) : ∀ d j f A T N n v u q a e nn t p w r c, 60 - j = d → j ≤ 60 → d < f → T ≤ 99 * j → N ≤ j → zHk u → zLR (2 * j) A T N n v (z9 q a e nn t p w r c) → lp_L_law_118 E w9 q9 f (nI j) q a e nn t p w r c v u = some 1 := by
  intro d
  induction d with
  | zero =>
    intro j f A T N n v u q a e nn t p w r c h1 h2 h3 hT hN hu h
    obtain ⟨f, rfl⟩ := fu h3
    obtain rfl : j = 60 := by omega
    rfl
  | succ d ih =>
    intro j f A T N n v u q a e nn t p w r c h1 h2 h3 hT hN hu h
    obtain ⟨f, rfl⟩ := fu (by omega : 0 < f)
    show lpB_L_law_118 E w9 q9 (lp_L_law_118 E w9 q9 f) (nI j) q a e nn t p w r c v u = _
    unfold lpB_L_law_118
    obtain ⟨x, ex⟩ := e_cell E hL (k := 2 * j) (by omega)
    obtain ⟨y, ey⟩ := e_cell E hL (k := 2 * j + 1) (by omega)
    obtain ⟨l, hl, el⟩ := e_low x (m := 32) (by decide) (by decide)
    rw [if_neg (show ¬ (60 : Int32) ≤ nI j from nI_ge (b := 60) (by omega) (by decide)), zlet_n, show (2 : Int32) * nI j = nI (2 * j) from nL_mul 2 j, ex, zcl_e, zlet_n, zlet_n, nI_1, ey, zcl_e, show d_L_low x 32 = some (nI l) from el, zcl_e]
    refine zjn_p (fun jj => ∀ kd, kd < 9 → jj (nI j) x y (nI l) (nI kd) q a e nn t p w r c v u = some 1) (fun kd hkd => ?_) (fun jj hj => ?_)
    · refine zjn_p (fun jj => ∀ p2, zOk2 kd p2 → jj (nI j) x y (nI kd) p2 q a e nn t p w r c v u = some 1) (fun p2 hp2 => ?_) (fun jj hj => ?_)
      · refine zjn_p (fun jj => ∀ p3, zOk kd p2 p3 → jj (nI j) x y (nI kd) p2 p3 q a e nn t p w r c v u = some 1) (fun p3 hok => ?_) (fun jj hj => ?_)
        · -- the turn itself
          have hm : 2 * j < 100000000 := by omega
          have hen : v 15 5 = 0 ∨ v 15 5 = 1 := (zLR_9.mp h).2.2.2.2.2.2.2.2.2.2.2.2.2.1
          obtain ⟨z, v', q', a', e', nn', t', p', w', r', c', hact, hout, hdue⟩ := o_due hm h (by omega) (by omega) hkd hok
          obtain ⟨u', hcl, hk', hund⟩ := b_rec (v := v) (v' := v') (u := u) (x := z) hen hu
          have hcall : d_L_call v w9 u q9 (nI kd) p2 p3 = some (z, v', u') := e_call v w9 u q9 hkd p2 p3 (by rw [hact]; exact hcl)
          obtain ⟨was, ht1, -⟩ := k_told (w9 := w9) (u := u) (q9 := q9) (w2 := w9) (u2 := u) (q2 := q9) h h
          rw [ht1, zcl_e, hcall, zup2_e]
          refine zjn_p (fun jj => ∀ (vv : zHV) (uu : zHI) (q1 a1 e1 n1 t1 p1 w1 r1 c1 : Nat → Int32), zHk uu → zOut (2 * j) T N z vv (z9 q a e nn t p w r c) (z9 q1 a1 e1 n1 t1 p1 w1 r1 c1) →
            (∀ (E : zE) (w9 : zHV) (q9 : zHI) (k118 : Int32 → zTA) (j686 : Int32 → Int32 → Int32 → Int32 → Int32 → Int32 → Int64 → Int32 → Int32 → zTA) (x11 x12 x13 : Int32) (x17 : Int64) (x19 : Int32) (vv : zHV) (uu : zHI),
              zDue E w9 q9 k118 j686 x11 x12 x13 (nI kd) p2 p3 x17 x19 q a e nn t p w r c vv uu = j686 x11 x12 x13 (nI kd) p2 p3 x17 x19 z q1 a1 e1 n1 t1 p1 w1 r1 c1 vv uu) →
            jj (nI j) x y (nI kd) p2 p3 was z q a e nn t p w r c vv uu = some 1) (fun vv uu q1 a1 e1 n1 t1 p1 w1 r1 c1 hku ho hd => ?_) (fun jj hj => ?_)
          · refine zjn_p (fun jj => jj (nI j) x y (nI kd) p2 p3 was z z q1 a1 e1 n1 t1 p1 w1 r1 c1 vv uu = some 1) ?_ (fun jj hj => ?_)
            · obtain ⟨A', T', N', n', hR, -, hT', hN'⟩ := ho
              rw [if_pos rfl, zlet_n, k_so hR, zcl_e, if_neg (by decide), zlet_n, nI_p1]
              exact ih (j + 1) f A' T' N' n' vv uu q1 a1 e1 n1 t1 p1 w1 r1 c1 (by omega) (by omega) (by omega) (by omega) (by omega) hku (by rw [show 2 * (j + 1) = 2 * j + 2 by omega]; exact hR)
            · exact (hd E w9 q9 (lp_L_law_118 E w9 q9 f) jj (nI j) x y was z vv uu).trans hj
          · by_cases hz : z < 0
            · obtain ⟨A', T', N', n', hR, hsame, hT', hN'⟩ := hout
              have hs := hsame hz
              have hR2 : zLR (2 * j + 2) A' T' N' n' v' (z9 q a e nn t p w r c) := by rw [← hs]; exact hR
              obtain ⟨was2, hu1, hu2⟩ := k_told (w9 := w9) (u := u) (q9 := q9) (w2 := w9) (u2 := u') (q2 := q9) h hR2
              have hw2 : was2 = was := Option.some.inj (hu1.symm.trans ht1)
              subst hw2
              rw [if_neg (fun hc => absurd hz (Int32.not_lt.mpr hc))]
              dsimp only
              rw [hu2, zcl_e, cmp_self, zlet_n, if_pos rfl]
              exact hj v' u' _ _ _ _ _ _ _ _ _ hk' ⟨A', T', N', n', hR, hsame, hT', hN'⟩ hdue
            · rw [if_pos (Int32.not_lt.mp hz), zlet_n, zlet_n]
              by_cases hc : (x >>> (24 &&& 31)) &&& 3 = 0
              · rw [if_pos hc]
                obtain ⟨y2, v2, u2, htb, hy2, hsame, hk2⟩ := hund hz
                have hundo : d_X7_undo v' w9 u' q9 = some (y2, v2, u2) := by
                  unfold d_X7_undo
                  rw [htb, zup2_e]
                dsimp only
                rw [hundo, zup2_e, if_neg hy2]
                have h2' : zLR (2 * j) A T N n v2 (z9 q a e nn t p w r c) := zLR_cong hsame h
                obtain ⟨was2, hu1, hu2⟩ := k_told (w9 := w9) (u := u) (q9 := q9) (w2 := w9) (u2 := u2) (q2 := q9) h h2'
                have hw2 : was2 = was := Option.some.inj (hu1.symm.trans ht1)
                subst hw2
                dsimp only
                rw [hu2, zcl_e, cmp_self, zlet_n, if_pos rfl]
                have hen2 : v2 15 5 = 0 ∨ v2 15 5 = 1 := (zLR_9.mp h2').2.2.2.2.2.2.2.2.2.2.2.2.2.1
                obtain ⟨z2, v3, qb, ab, eb, nb, tb, pb, wb, rb, cb, hact2, hout2, hdue2⟩ := o_due hm h2' (by omega) (by omega) hkd hok
                obtain ⟨u3, hcl3, hk3, -⟩ := b_rec (v := v2) (v' := v3) (u := u2) (x := z2) hen2 hk2
                have hcall2 : d_L_call v2 w9 u2 q9 (nI kd) p2 p3 = some (z2, v3, u3) := e_call v2 w9 u2 q9 hkd p2 p3 (by rw [hact2]; exact hcl3)
                have hzz : z2 = z := by
                  have g1 := hdue E w9 q9 (fun _ _ _ _ _ _ _ _ _ _ _ _ => none) (fun _ _ _ _ _ _ _ _ x20 _ _ _ _ _ _ _ _ _ _ _ => some x20) 0 0 0 0 0 v u
                  have g2 := hdue2 E w9 q9 (fun _ _ _ _ _ _ _ _ _ _ _ _ => none) (fun _ _ _ _ _ _ _ _ x20 _ _ _ _ _ _ _ _ _ _ _ => some x20) 0 0 0 0 0 v u
                  exact Option.some.inj (g2.symm.trans g1)
                subst hzz
                rw [hcall2, zup2_e, if_pos rfl]
                exact hj v3 u3 _ _ _ _ _ _ _ _ _ hk3 hout2 hdue2
              · rw [if_neg hc]
                exact hj v' u' _ _ _ _ _ _ _ _ _ hk' hout hdue
        · -- what the third number is
          by_cases k6 : kd = 6
          · subst k6
            obtain ⟨z, hz, ez⟩ := e_low (y >>> (5 &&& 31)) (m := 9) (by decide) (by decide)
            rw [if_pos (by decide), zlet_n, show d_L_low (y >>> (5 &&& 31)) 9 = some (nI z) from ez, zcl_e, zlet_n, show (1 : Int32) + nI z = nI (1 + z) from nL_add 1 z]
            exact hj _ (zOk_6 hp2 (by omega) (by omega))
          · rw [if_neg (show ¬ nI kd = 6 from fun hc => k6 ((nI_eq (b := 6) (by omega) (by decide)).mp hc))]
            by_cases k8 : kd = 8
            · subst k8
              obtain ⟨k, hk, rfl⟩ := zOk2_8 hp2
              match k, hk with
              | 0, _ =>
                obtain ⟨z, hz, ez⟩ := e_low (y >>> (5 &&& 31)) (m := 50) (by decide) (by decide)
                rw [if_pos (by decide), zlet_n, show d_L_low (y >>> (5 &&& 31)) 50 = some (nI z) from ez, zcl_e, zlet_n, show (1 : Int32) + nI z = nI (1 + z) from nL_add 1 z]
                exact hj _ (zOk_8 (by decide) (by show 1 ≤ 1 + z; omega) (by show 1 + z ≤ 50; omega))
              | 1, _ =>
                obtain ⟨z, hz, ez⟩ := e_low (y >>> (5 &&& 31)) (m := 100) (by decide) (by decide)
                rw [if_neg (by decide), if_pos (by decide), zlet_n, show d_L_low (y >>> (5 &&& 31)) 100 = some (nI z) from ez, zcl_e, zlet_n, show (20 : Int32) + nI z = nI (20 + z) from nL_add 20 z]
                exact hj _ (zOk_8 (by decide) (by show 20 ≤ 20 + z; omega) (by show 20 + z ≤ 900; omega))
              | 2, _ =>
                obtain ⟨z, hz, ez⟩ := e_low (y >>> (5 &&& 31)) (m := 60) (by decide) (by decide)
                rw [if_neg (by decide), if_neg (by decide), if_pos (by decide), zlet_n, show d_L_low (y >>> (5 &&& 31)) 60 = some (nI z) from ez, zcl_e, zlet_n, show (1 : Int32) + nI z = nI (1 + z) from nL_add 1 z]
                exact hj _ (zOk_8 (by decide) (by show 1 ≤ 1 + z; omega) (by show 1 + z ≤ 300; omega))
              | 3, _ =>
                obtain ⟨z, hz, ez⟩ := e_low (y >>> (5 &&& 31)) (m := 10) (by decide) (by decide)
                rw [if_neg (by decide), if_neg (by decide), if_neg (by decide), if_pos (by decide), zlet_n, show d_L_low (y >>> (5 &&& 31)) 10 = some (nI z) from ez, zcl_e]
                exact hj _ (zOk_8 (by decide) (by show 0 ≤ z; omega) (by show z ≤ 9; omega))
              | 4, _ =>
                obtain ⟨z, hz, ez⟩ := e_low (y >>> (5 &&& 31)) (m := 9) (by decide) (by decide)
                rw [if_neg (by decide), if_neg (by decide), if_neg (by decide), if_neg (by decide), if_pos (by decide), zlet_n, show d_L_low (y >>> (5 &&& 31)) 9 = some (nI z) from ez, zcl_e, zlet_n, show (1 : Int32) + nI z = nI (1 + z) from nL_add 1 z]
                exact hj _ (zOk_8 (by decide) (by show 1 ≤ 1 + z; omega) (by show 1 + z ≤ 9; omega))
              | 5, _ =>
                obtain ⟨z, hz, ez⟩ := e_low (y >>> (5 &&& 31)) (m := 100) (by decide) (by decide)
                rw [if_neg (by decide), if_neg (by decide), if_neg (by decide), if_neg (by decide), if_neg (by decide), zlet_n, show d_L_low (y >>> (5 &&& 31)) 100 = some (nI z) from ez, zcl_e, zlet_n, show (1 : Int32) + nI z = nI (1 + z) from nL_add 1 z]
                exact hj _ (zOk_8 (by decide) (by show 1 ≤ 1 + z; omega) (by show 1 + z ≤ 900; omega))
            · have hgo : ∀ p3, jj (nI j) x y (nI kd) p2 p3 q a e nn t p w r c v u = some 1 := fun p3 => hj p3 (zOk_of hkd hp2 k6 k8)
              obtain ⟨z1, -, f1⟩ := e_low (y >>> (5 &&& 31)) (m := 50) (by decide) (by decide)
              obtain ⟨z2, -, f2⟩ := e_low (y >>> (5 &&& 31)) (m := 100) (by decide) (by decide)
              obtain ⟨z3, -, f3⟩ := e_low (y >>> (5 &&& 31)) (m := 60) (by decide) (by decide)
              obtain ⟨z4, -, f4⟩ := e_low (y >>> (5 &&& 31)) (m := 10) (by decide) (by decide)
              obtain ⟨z5, -, f5⟩ := e_low (y >>> (5 &&& 31)) (m := 9) (by decide) (by decide)
              by_cases b0 : p2 = 0
              · rw [if_pos b0, zlet_n, show d_L_low (y >>> (5 &&& 31)) 50 = some (nI z1) from f1, zcl_e, zlet_n]; exact hgo _
              · rw [if_neg b0]
                by_cases b1 : p2 = 1
                · rw [if_pos b1, zlet_n, show d_L_low (y >>> (5 &&& 31)) 100 = some (nI z2) from f2, zcl_e, zlet_n]; exact hgo _
                · rw [if_neg b1]
                  by_cases b2 : p2 = 2
                  · rw [if_pos b2, zlet_n, show d_L_low (y >>> (5 &&& 31)) 60 = some (nI z3) from f3, zcl_e, zlet_n]; exact hgo _
                  · rw [if_neg b2]
                    by_cases b3 : p2 = 3
                    · rw [if_pos b3, zlet_n, show d_L_low (y >>> (5 &&& 31)) 10 = some (nI z4) from f4, zcl_e]; exact hgo _
                    · rw [if_neg b3]
                      by_cases b4 : p2 = 4
                      · rw [if_pos b4, zlet_n, show d_L_low (y >>> (5 &&& 31)) 9 = some (nI z5) from f5, zcl_e, zlet_n]; exact hgo _
                      · rw [if_neg b4, zlet_n, show d_L_low (y >>> (5 &&& 31)) 100 = some (nI z2) from f2, zcl_e, zlet_n]; exact hgo _
      · -- what the second number is
        obtain ⟨s, hs, es⟩ := e_low y (m := 30) (by decide) (by decide)
        obtain ⟨g, hg, eg⟩ := e_low y (m := 6) (by decide) (by decide)
        have hseat : (kd = 0 ∨ kd = 6 ∨ kd = 7) → jj (nI j) x y (nI kd) (nI s) q a e nn t p w r c v u = some 1 := fun hk => hj _ (by unfold zOk2; rw [if_pos hk]; exact ⟨s, hs, rfl⟩)
        have hperf : ¬ (kd = 0 ∨ kd = 6 ∨ kd = 7) → ¬ kd = 2 → jj (nI j) x y (nI kd) (nI g) q a e nn t p w r c v u = some 1 := fun hk hk2 => hj _ (by unfold zOk2; rw [if_neg hk, if_neg hk2]; exact ⟨g, hg, rfl⟩)
        refine zjn_p (fun ji => (kd = 0 ∨ kd = 6 ∨ kd = 7) → ji (nI j) x y (nI kd) q a e nn t p w r c v u = some 1) (fun hk => ?_) (fun ji hi => ?_)
        · rw [show d_L_low y 30 = some (nI s) from es, zcl_e]
          exact hseat hk
        · have hne : ∀ b : Nat, b < 100 → ¬ kd = b → ¬ nI kd = nI b := fun b hb hkb hc => hkb ((nI_eq (by omega) (by omega)).mp hc)
          by_cases k0 : kd = 0
          · subst k0
            rw [if_pos (by decide)]; exact hi (Or.inl rfl)
          · rw [if_neg (show ¬ nI kd = 0 from hne 0 (by decide) k0)]
            by_cases k6 : kd = 6
            · subst k6
              rw [if_pos (by decide)]; exact hi (Or.inr (Or.inl rfl))
            · rw [if_neg (show ¬ nI kd = 6 from hne 6 (by decide) k6)]
              by_cases k7 : kd = 7
              · subst k7
                rw [if_pos (by decide)]; exact hi (Or.inr (Or.inr rfl))
              · rw [if_neg (show ¬ nI kd = 7 from hne 7 (by decide) k7)]
                by_cases k2 : kd = 2
                · subst k2
                  obtain ⟨o, ho, eo⟩ := e_low (y >>> (20 &&& 31)) (m := 4) (by decide) (by decide)
                  obtain ⟨s1, hs1, es1⟩ := e_low y (m := 99) (by decide) (by decide)
                  obtain ⟨s2, hs2, es2⟩ := e_low y (m := 4) (by decide) (by decide)
                  rw [if_pos (by decide), zlet_n, show d_L_low (y >>> (20 &&& 31)) 4 = some (nI o) from eo, zcl_e, zjn_e]
                  split
                  · dsimp only
                    rw [show d_L_low y 99 = some (nI s1) from es1, zcl_e, zlet_n, show (1 : Int32) + nI s1 = nI (1 + s1) from nL_add 1 s1]
                    exact hj _ ⟨1 + s1, by omega, by omega, rfl⟩
                  · dsimp only
                    rw [show d_L_low y 4 = some (nI s2) from es2, zcl_e, zlet_n, show (1 : Int32) + nI s2 = nI (1 + s2) from nL_add 1 s2]
                    exact hj _ ⟨1 + s2, by omega, by omega, rfl⟩
                · rw [if_neg (show ¬ nI kd = 2 from hne 2 (by decide) k2), show d_L_low y 6 = some (nI g) from eg, zcl_e]
                  exact hperf (by omega) k2
    · repeat' split
      all_goals first | exact hj 0 (by decide) | exact hj 1 (by decide) | exact hj 2 (by decide) | exact hj 3 (by decide) | exact hj 4 (by decide) | exact hj 5 (by decide) | exact hj 6 (by decide) | exact hj 7 (by decide) | exact hj 8 (by decide)
