/-! ===== the law's question: is it so? It is ===== -/
section ZI
variable {m A T N n : Nat} {v w9 : zHV} {u q9 : zHI} {q a e nn t p w r c : Nat → Int32}
theorem so_fin (h : zLR m A T N n v (z9 q a e nn t p w r c)) (p1 x11 x13 x14 x15 x16 : Int32) {P : Nat} (hP : P < 300) : lp_L_isSo_614 q a e nn t p w r c v w9 u q9 p1 zF x11 1 x13 x14 x15 x16 (nI P) 0 0 (q 6) = some 1 := by
  obtain ⟨ha, hb, hc, hd, he, hf, hg⟩ := zLR_9.mp h
  obtain ⟨hA, hT, hN, ea, et, en, hby, hen, ga, gt, gn, gh, ge, go⟩ := hg
  obtain ⟨q0, s0, l0, u0, e0⟩ := ha 0 (by decide)
  obtain ⟨q5, s5, l5, u5, e5⟩ := ha 5 (by decide)
  have u5 : s5 ≤ 900 := u5
  obtain ⟨y, y1, y2⟩ := q_quiet (v := v) (w9 := w9) (u := u) (q9 := q9) (q := q) (a := a) (e := e) (nn := nn) (t := t) (p := p) (w := w) (r := r) (c := c) P s0 l0 u0 e0 (by rw [q0, e0]) p1 x11 1 x13 x14 x15 x16 0 A 0 zF zF (by omega) (by omega) (by unfold zF; omega) (by unfold zF; omega) (by omega)
  obtain ⟨z, z1, z2⟩ := q_calls (v := v) (w9 := w9) (u := u) (q9 := q9) (q := q) (a := a) (e := e) (nn := nn) (t := t) (p := p) (w := w) (r := r) (c := c) s5 l5 (by omega) e5 (by rw [q5, e5]) p1 x11 x13 x14 x15 x16 (nI P) y A 0 zF zF hA (by unfold zF; omega) (by unfold zF; omega)
  have hq : d_X7_quietIn v w9 u q9 (nI P) = some y := by
    unfold d_X7_quietIn d_X2_secondsUntil
    rw [if_neg (nI_pos (by omega)), if_pos (show nI P ≤ 9999 from nI_le (b := 9999) (by omega) (by decide)), ea]
    rw [show lp_X2_secondsUntil_21 v (nI P) zF (nI A) 0 = some y from y1, zcl_e]
  have hcl : d_X7_calls v w9 u q9 = some z := by
    unfold d_X7_calls d_X2_curtainsLeft
    rw [ea, z1, zcl_e]
  rw [ga]
  rw [show lp_L_isSo_614 q a e nn t p w r c v w9 u q9 p1 zF x11 1 x13 x14 x15 x16 (nI P) 0 0 (nI A) = _ from y2, ga, z2, hq, zcl_e, if_pos rfl, hcl, zcl_e, if_pos rfl, zlet_n]
  obtain ⟨k, hk, ek⟩ := e_low (p1 >>> (15 &&& 31)) (m := 30) (by decide) (by decide)
  obtain ⟨rk, hr, er⟩ := e_low (p1 >>> (20 &&& 31)) (m := 12) (by decide) (by decide)
  rw [show d_L_low (p1 >>> (15 &&& 31)) 30 = some (nI k) from ek, zcl_e, zlet_n, show d_L_low (p1 >>> (20 &&& 31)) 12 = some (nI rk) from er, zcl_e, k_seat h hk (by omega), zcl_e, if_neg (by decide)]
theorem so_tail (h : zLR m A T N n v (z9 q a e nn t p w r c)) (p1 x11 : Int32) (f : Nat) : lp_L_isSo_236 q a e nn t p w r c v w9 u q9 p1 (f + 1) x11 1 (nI 6) = some 1 := by
  show lpB_L_isSo_236 q a e nn t p w r c v w9 u q9 p1 (lp_L_isSo_236 q a e nn t p w r c v w9 u q9 p1 f) x11 1 (nI 6) = _
  unfold lpB_L_isSo_236
  obtain ⟨k, hk, ek⟩ := e_low p1 (m := 6) (by decide) (by decide)
  obtain ⟨rk, hr, er⟩ := e_low (p1 >>> (3 &&& 31)) (m := 9) (by decide) (by decide)
  have hl := k_lapsesIn (w9 := w9) (u := u) (q9 := q9) h hk
  obtain ⟨⟨pf, pf1, pf2⟩, pg1, pg2, pg3⟩ := k_perf (w9 := w9) (u := u) (q9 := q9) h hk
  obtain ⟨ow1, ow2⟩ := k_owed (w9 := w9) (u := u) (q9 := q9) h (k := rk) (by omega)
  have rec1 := k_record (w9 := w9) (u := u) (q9 := q9) h (k := rk) (i := k % 4) (by omega) (by omega)
  obtain ⟨fo, fo1, fo2⟩ := k_ifFound (w9 := w9) (u := u) (q9 := q9) h (f := 1 + rk) (by omega) (by omega)
  have hn8 : n ≤ 8 := (zLR_9.mp h).2.2.1.1
  have h16 : q 16 = nI n := (zLR_9.mp h).2.2.1.2.2.1
  have h18 : q 18 = nI (min N 6) := (zLR_9.mp h).2.2.2.2.2.1.1
  rw [if_pos (by decide), show d_L_low p1 6 = some (nI k) from ek, zcl_e, zlet_n, show d_L_low (p1 >>> (3 &&& 31)) 9 = some (nI rk) from er, zcl_e]
  obtain ⟨E, eE⟩ : ∃ E, d_L_earliest q w (nI k) = some E := by
    rcases hl with ⟨z1, z2⟩ | ⟨y, hy, z1, z2⟩
    · exact ⟨_, z1⟩
    · exact ⟨_, z1⟩
  rw [eE, zcl_e]
  refine zjn_p (fun j => ∀ L, (0 ≤ E → d_X7_lapsesIn v w9 u q9 (nI k) = some (if 1 ≤ L then L else 1)) → (¬ 0 ≤ E → d_X7_lapsesIn v w9 u q9 (nI k) = some (-6)) → (¬ 0 ≤ E → L = -6) → j x11 1 (nI k) (nI rk) E L = some 1) (fun L hL1 hL2 hL3 => ?_) (fun j hj => ?_)
  · refine zjn_p (fun j => ∀ x16, j x11 1 (nI k) (nI rk) E x16 1 = some 1) (fun x16 => ?_) (fun j hj => ?_)
    · refine zjn_p (fun j => j x11 1 (nI k) (nI rk) E x16 1 = some 1) ?_ (fun j hj => ?_)
      · obtain ⟨P, hP, eP⟩ := e_low (p1 >>> (7 &&& 31)) (m := 300) (by decide) (by decide)
        rw [zlet_n, show d_L_low (p1 >>> (7 &&& 31)) 300 = some (nI P) from eP, zcl_e, Q6]
        exact so_fin h p1 x11 _ _ _ _ hP
      · rw [zjn_e, if_neg (by decide), ow1, zcl_e, Q16]
        refine zjn_p (fun j => ∀ x, j x11 1 (nI k) (nI rk) E x16 x x = some 1) (fun x => ?_) (fun j hj => ?_)
        · rw [if_pos rfl, ow2, zcl_e, Q16]
          refine zjn_p (fun j => ∀ x, j x11 1 (nI k) (nI rk) E x16 x x = some 1) (fun x => ?_) (fun j hj => ?_)
          · rw [if_pos rfl, show zrm (nI k) 4 = zrm (γ := Int32) (nI k) (nI 4) from rfl, zrm_nI (by omega) (by decide) (by decide), rec1, zcl_e, Q18]
            refine zjn_p (fun j => ∀ x, j x11 1 (nI k) (nI rk) E x16 x x = some 1) (fun x => ?_) (fun j hj => ?_)
            · rw [if_pos rfl, show (1 : Int32) + nI rk = nI (1 + rk) from nL_add 1 rk, zlet_n, fo1, zcl_e, zlet_n, fo2, zcl_e, if_pos rfl]
              exact hj
            · by_cases cr : rk < min N 6
              · have z : ¬ q 18 ≤ nI rk := by rw [h18]; exact nI_ge cr (by omega)
                rw [if_neg z, if_neg z, zlet_n, show (4 : Int32) * nI rk = nI (4 * rk) from nL_mul 4 rk, zrm_nI (by omega) (by decide) (by decide), zlet_n, nI_add, zld_nI (by omega) (by decide)]
                exact hj _
              · have z : q 18 ≤ nI rk := by rw [h18]; exact nI_le (by omega) (by omega)
                rw [if_pos z, if_pos z]
                exact hj _
          · by_cases cr : rk < n
            · have z : ¬ q 16 ≤ nI rk := by rw [h16]; exact nI_ge cr (by omega)
              rw [if_neg z, if_neg z, Q7, zlet_n, show (2 : Int32) * nI rk = nI (2 * rk) from nL_mul 2 rk, zlet_n, nI_1, zld_nI (by omega) (by decide), zlet_n]
              exact hj _
            · have z : q 16 ≤ nI rk := by rw [h16]; exact nI_le (by omega) (by omega)
              rw [if_pos z, if_pos z]
              exact hj _
        · by_cases cr : rk < n
          · have z : ¬ q 16 ≤ nI rk := by rw [h16]; exact nI_ge cr (by omega)
            rw [if_neg z, if_neg z, zlet_n, show (2 : Int32) * nI rk = nI (2 * rk) from nL_mul 2 rk, zld_nI (by omega) (by decide)]
            exact hj _
          · have z : q 16 ≤ nI rk := by rw [h16]; exact nI_le (by omega) (by omega)
            rw [if_pos z, if_pos z]
            exact hj _
    · rw [zjn_e, if_neg (by decide), pf1, zcl_e, pf2, zcl_e, if_pos rfl, pg1, zcl_e, zlet_n, show (3 : Int32) * nI k = nI (3 * k) from nL_mul 3 k, zld_nI (by omega) (by decide), if_pos rfl, pg2, zcl_e, zlet_n, zlet_n, nI_1, zld_nI (by omega) (by decide), if_pos rfl, pg3, zcl_e, zlet_n, zlet_n, show nI (3 * k) + (2 : Int32) = nI (3 * k + 2) from nR_add 2 (3 * k), zld_nI (by omega) (by decide), if_pos rfl]
      by_cases cE : 0 ≤ E
      · rw [hL1 cE, zcl_e, zjn_e, if_pos cE]
        by_cases cL : 1 ≤ L
        · rw [if_pos cL, if_pos cL]
          dsimp only
          rw [if_pos rfl]
          exact hj _
        · rw [if_neg cL, if_neg cL]
          dsimp only
          rw [if_pos rfl]
          exact hj _
      · rw [hL2 cE, zcl_e, zjn_e, if_neg cE, hL3 cE]
        dsimp only
        rw [if_pos rfl]
        exact hj _
  · rcases hl with ⟨z1, z2⟩ | ⟨y, hy, z1, z2⟩
    · have : E = -1 := Option.some.inj (eE.symm.trans z1)
      subst this
      rw [if_neg (by decide)]
      exact hj _ (fun z => absurd z (by decide)) (fun _ => z2) (fun _ => rfl)
    · have : E = nI y := Option.some.inj (eE.symm.trans z1)
      subst this
      rw [if_pos (nI_pos' (by omega)), Q2, Q7, zlet_n, zlet_n, show (2 : Int32) * nI y = nI (2 * y) from nL_mul 2 y, zlet_n, nI_1, zld_nI (by omega) (by decide), zlet_n]
      exact hj _ (fun _ => z2) (fun z => absurd (nI_pos' (by omega)) z) (fun z => absurd (nI_pos' (by omega)) z)
theorem so_236 (h : zLR m A T N n v (z9 q a e nn t p w r c)) (p1 x11 : Int32) : ∀ d i f, 6 - i = d → i ≤ 6 → d < f → lp_L_isSo_236 q a e nn t p w r c v w9 u q9 p1 f x11 1 (nI i) = some 1 := by
  intro d
  induction d with
  | zero =>
    intro i f h1 h2 h3
    obtain ⟨f, rfl⟩ := fu h3
    obtain rfl : i = 6 := by omega
    exact so_tail h p1 x11 f
  | succ d ih =>
    intro i f h1 h2 h3
    obtain ⟨f, rfl⟩ := fu (by omega : 0 < f)
    obtain ⟨x, c1, c2⟩ := k_count (w9 := w9) (u := u) (q9 := q9) h (k := i + 13) (by omega)
    have c2 : some (q (i + 13 - 13)) = some x := c2
    rw [Nat.add_sub_cancel] at c2
    show lpB_L_isSo_236 q a e nn t p w r c v w9 u q9 p1 (lp_L_isSo_236 q a e nn t p w r c v w9 u q9 p1 f) x11 1 (nI i) = _
    unfold lpB_L_isSo_236
    rw [if_neg (show ¬ (6 : Int32) ≤ nI i from nI_ge (b := 6) (by omega) (by decide)), zjn_e, zjn_e, if_neg (by decide), zlet_n, show (13 : Int32) + nI i = nI (i + 13) from (nL_add 13 i).trans (congrArg nI (Nat.add_comm 13 i)), c1, zcl_e, zld_nI (by omega) (by decide), if_pos (Option.some.inj c2.symm)]
    dsimp only
    rw [zlet_n, nI_p1]
    exact ih (i + 1) f (by omega) (by omega) (by omega)
theorem so_193 (h : zLR m A T N n v (z9 q a e nn t p w r c)) (p1 x11 : Int32) : ∀ d i f, 4 - i = d → i ≤ 4 → d < f → lp_L_isSo_193 q a e nn t p w r c v w9 u q9 p1 f x11 1 (nI i) = some 1 := by
  intro d
  induction d with
  | zero =>
    intro i f h1 h2 h3
    obtain ⟨f, rfl⟩ := fu h3
    obtain rfl : i = 4 := by omega
    show lpB_L_isSo_193 q a e nn t p w r c v w9 u q9 p1 (lp_L_isSo_193 q a e nn t p w r c v w9 u q9 p1 f) x11 1 (nI 4) = _
    unfold lpB_L_isSo_193
    rw [if_pos (by decide)]
    exact so_236 h p1 x11 6 0 zF rfl (by decide) (by decide)
  | succ d ih =>
    intro i f h1 h2 h3
    obtain ⟨f, rfl⟩ := fu (by omega : 0 < f)
    have hcnt : d_X7_count v w9 u q9 (nI i) = some (q (6 + i)) := by
      obtain ⟨x, c1, c2⟩ := k_count (w9 := w9) (u := u) (q9 := q9) h (k := i) (by omega)
      rw [c1, ← c2]
      match i, (show i < 4 by omega) with
      | 0, _ => rfl
      | 1, _ => rfl
      | 2, _ => rfl
      | 3, _ => rfl
    show lpB_L_isSo_193 q a e nn t p w r c v w9 u q9 p1 (lp_L_isSo_193 q a e nn t p w r c v w9 u q9 p1 f) x11 1 (nI i) = _
    unfold lpB_L_isSo_193
    rw [if_neg (show ¬ (4 : Int32) ≤ nI i from nI_ge (b := 4) (by omega) (by decide)), zjn_e, zjn_e, if_neg (by decide), hcnt, zcl_e, zlet_n, show (6 : Int32) + nI i = nI (6 + i) from nL_add 6 i, zld_nI (by omega) (by decide), if_pos rfl]
    dsimp only
    rw [zlet_n, nI_p1]
    exact ih (i + 1) f (by omega) (by omega) (by omega)
theorem k_so (h : zLR m A T N n v (z9 q a e nn t p w r c)) (p1 : Int32) : d_L_isSo q a e nn t p w r c v w9 u q9 p1 = some 1 := by
  obtain ⟨x4, a4, b4⟩ := k_count (w9 := w9) (u := u) (q9 := q9) h (k := 4) (by decide)
  obtain ⟨x5, a5, b5⟩ := k_count (w9 := w9) (u := u) (q9 := q9) h (k := 5) (by decide)
  obtain ⟨x6, a6, b6⟩ := k_count (w9 := w9) (u := u) (q9 := q9) h (k := 6) (by decide)
  obtain ⟨x7, a7, b7⟩ := k_count (w9 := w9) (u := u) (q9 := q9) h (k := 7) (by decide)
  obtain ⟨x8, a8, b8⟩ := k_count (w9 := w9) (u := u) (q9 := q9) h (k := 8) (by decide)
  obtain ⟨x9, a9, b9⟩ := k_count (w9 := w9) (u := u) (q9 := q9) h (k := 9) (by decide)
  obtain ⟨x10, a10, b10⟩ := k_count (w9 := w9) (u := u) (q9 := q9) h (k := 10) (by decide)
  obtain ⟨x11, a11, b11⟩ := k_count (w9 := w9) (u := u) (q9 := q9) h (k := 11) (by decide)
  obtain ⟨x12, a12, b12⟩ := k_count (w9 := w9) (u := u) (q9 := q9) h (k := 12) (by decide)
  have a4 : d_X7_count v w9 u q9 4 = some (q 16) := a4.trans b4.symm
  have a5 : d_X7_count v w9 u q9 5 = some x5 := a5
  have b5 : d_L_sum p 0 = some x5 := b5
  have a6 : d_X7_count v w9 u q9 6 = some x6 := a6
  have b6 : d_L_sum p 1 = some x6 := b6
  have a7 : d_X7_count v w9 u q9 7 = some (q 12) := a7.trans b7.symm
  have a8 : d_X7_count v w9 u q9 8 = some (if q 13 < 0 then -6 else q 7 - q 13) := a8.trans b8.symm
  have a9 : d_X7_count v w9 u q9 9 = some (if q 13 < 0 then -6 else q 14) := a9.trans b9.symm
  have a10 : d_X7_count v w9 u q9 10 = some x10 := a10
  have b10 : d_L_seats a e 1 0 = some x10 := b10
  have a11 : d_X7_count v w9 u q9 11 = some x11 := a11
  have b11 : d_L_seats a e 0 (q 4) = some x11 := b11
  have b12 : (zcl (d_L_seats a e 1 0) fun x => zcl (d_L_seats a e 0 (q 4)) fun y => some (x &&& y)) = some x12 := b12
  rw [b10, zcl_e, b11, zcl_e] at b12
  have a12 : d_X7_count v w9 u q9 12 = some (x10 &&& x11) := a12.trans b12.symm
  unfold d_L_isSo
  rw [Q13]
  refine zjn_p (fun j => ∀ s0, (q 13 < 0 → s0 = 0) → (¬ q 13 < 0 → s0 = 1) → j s0 = some 1) (fun s0 hs1 hs2 => ?_) (fun j hj => ?_)
  · rw [a4, zcl_e, Q16]
    refine zjn_p (fun j => j s0 1 = some 1) ?_ (fun j hj => ?_)
    · exact so_193 h p1 s0 4 0 zF rfl (by decide) (by decide)
    · rw [zjn_e, if_pos rfl, a5, zcl_e, b5, zcl_e, if_pos rfl, a6, zcl_e, b6, zcl_e, if_pos rfl, a7, zcl_e, Q12, if_pos rfl, a8, zcl_e]
      refine zjn_p (fun j => ∀ x, j s0 x x = some 1) (fun x => ?_) (fun j hj => ?_)
      · rw [if_pos rfl, a9, zcl_e]
        refine zjn_p (fun j => ∀ x, j s0 x x = some 1) (fun x => ?_) (fun j hj => ?_)
        · rw [if_pos rfl, a10, zcl_e, b10, zcl_e, if_pos rfl, a11, zcl_e, Q4, b11, zcl_e, if_pos rfl, a12, zcl_e, zcl_e, Q4, b11, zcl_e, zlet_n, if_pos rfl]
          exact hj
        · by_cases c13 : q 13 < 0
          · rw [if_pos c13, if_pos (hs1 c13)]; exact hj _
          · rw [if_neg c13, if_neg (by rw [hs2 c13]; decide), Q14]; exact hj _
      · by_cases c13 : q 13 < 0
        · rw [if_pos c13, if_pos (hs1 c13)]; exact hj _
        · rw [if_neg c13, if_neg (by rw [hs2 c13]; decide), Q7, Q13, zlet_n]; exact hj _
  · by_cases c13 : q 13 < 0
    · rw [if_pos c13]; exact hj 0 (fun _ => rfl) (fun z => absurd c13 z)
    · rw [if_neg c13]; exact hj 1 (fun z => absurd z c13) (fun _ => rfl)
end ZI
