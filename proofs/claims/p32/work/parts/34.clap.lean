/-! ===== the act: a clap ===== -/
theorem b_fin {m A T N n : Nat} {v : zHV} {q a e nn t p w r c : Nat → Int32} (h : zLR m A T N n v (z9 q a e nn t p w r c)) (hp : ¬ v 15 3 = -6) : ∃ x v' q' p' w' n',
    (zcl (d_X5_at 6 (v 0) 1) fun t101 => (if (v 15 0) < t101 then some ((v 15 0), v) else (if (v 15 5) = 0 then zup (d_X2_bringEncore v) (fun u => u) fun v115 => some ((v115 15 0), v115) else some ((v 15 0), v)))) = some (x, v') ∧
    (zld 19 q 6 fun t138 => zld 19 q 1 fun t141 => (if t138 < t141 then zld 19 q 6 fun t218 => some (t218, q, a, e, nn, t, p, w, r) else zld 19 q 15 fun t148 => (if t148 = 0 then zst 19 q 15 1 fun fq156 => zld 19 fq156 16 fun t160 => (if t160 = 8 then zld 19 fq156 14 fun t169 => zup (d_L_lapses fq156 p t169) (fun z9 => (z9.1, z9.2)) fun u173 => zld 19 u173.1 6 fun t218 => some (t218, u173.1, a, e, nn, t, u173.2, w, r) else zld 19 fq156 16 fun t185 => zlet (2 * t185) fun t186 => zld 19 fq156 14 fun t190 => zst 16 w t186 t190 fun fw191 => zld 19 fq156 16 fun t198 => zlet (2 * t198) fun t199 => zlet (t199 + 1) fun t201 => zld 19 fq156 7 fun t205 => zst 16 fw191 t201 t205 fun fw206 => zld 19 fq156 16 fun t211 => zlet (t211 + 1) fun t213 => zst 19 fq156 16 t213 fun fq214 => zld 19 fq214 6 fun t218 => some (t218, fq214, a, e, nn, t, p, fw206, r)) else zld 19 q 6 fun t218 => some (t218, q, a, e, nn, t, p, w, r)))) = some (x, q', a, e, nn, t, p', w', r) ∧
    zLR m A T N n' v' (z9 q' a e nn t p' w' r c) ∧ ¬ x < 0 := by
  have h0 := h
  obtain ⟨ha, hb, hc, hd, he, hf, hg⟩ := zLR_9.mp h
  obtain ⟨hA, hT, hN, ea, et, en, hby, hen, ga, gt, gn, gh, ge, go⟩ := hg
  obtain ⟨gd, gb, D, hD, eD⟩ := ge hp
  obtain ⟨q1, s1, l1, u1, e1⟩ := ha 1 (by decide)
  have hx : ¬ nI A < 0 := nI_pos (by omega)
  rw [R1_at _ _ (by decide) (by decide), zcl_e, Q6, Q1, ga, ea, q1]
  by_cases c1 : nI A < v 0 1
  · rw [if_pos c1, if_pos c1]
    exact ⟨_, v, q, p, w, n, rfl, by rw [Q6, ga], h0, hx⟩
  · rw [if_neg c1, if_neg c1, Q15, go]
    by_cases c2 : v 15 5 = 0
    · rw [if_pos c2, if_pos c2, V15, Q16]
      obtain ⟨h1, h2, h3, h4⟩ := hc
      obtain ⟨k, hk6, hke⟩ : ∃ p, p < 6 ∧ v 15 3 = nI p := by
        rcases hby with q | q
        · exact absurd q hp
        · exact q
      have h3' : upd q 15 1 16 = nI n := h3
      rw [h3']
      unfold d_X2_bringEncore d_X0_owe
      rw [zlet_n]
      simp only [zh_at, Nat.reduceAdd]
      simp only [show zs v 15 5 1 12 0 = nI n from h2]
      by_cases c3 : n < 8
      · rw [if_pos (show nI n < 8 from nI_lt (b := 8) c3 (by decide)), if_neg (show ¬ nI n = 8 from fun q => by have q := (nI_eq (b := 8) (by omega) (by decide)).mp q; omega)]
        rw [r_store 8 _ n _ (by omega) (by decide), zup_e]
        simp only [zr_at, Nat.reduceEqDiff, if_false, if_true, zh_at, Nat.reduceAdd]
        rw [show zs v 15 5 1 12 0 = nI n from h2, r_store 8 _ n _ (by omega) (by decide), zup_e]
        simp only [zr_at, Nat.reduceEqDiff, if_false, if_true, zh_at, Nat.reduceAdd]
        rw [show zs v 15 5 1 12 0 = nI n from h2]
        simp only [zlet_n, zup2_e, show ¬ (1 : Int32) = 0 from by decide, if_false, zup_e]
        rw [Q16, h3', Q14, show (2 : Int32) * nI n = nI (2 * n) from nL_mul 2 n, zst_nI (by omega) (by decide), Q16, h3', show (2 : Int32) * nI n = nI (2 * n) from nL_mul 2 n, nI_1, Q7, show nI (2 * n) + 1 = nI (2 * n + 1) from nI_1 _, zst_nI (by omega) (by decide), Q16, h3', V16, Q6]
        refine ⟨_, _, _, _, _, n + 1, rfl, congrArg some (Prod.ext ?_ rfl), zLR_9.mpr ⟨zRa_q ha (fun j hj => by rw [pk_un (by omega), pk_un (by omega)]), hb, ⟨c3, rfl, nI_1 n, fun j hj => ?_⟩, hd, he_q he (fun j j1 j2 => by rw [pk_un (by omega), pk_un (by omega)]), hf, ⟨hA, hT, hN, ea, et, en, hby, Or.inr rfl, ga, gt, gn, gh, ge, rfl⟩⟩, ?_⟩
        · show q 6 = v 15 0
          rw [ga, ea]
        · show upd (upd w (2 * n) (q 14)) (2 * n + 1) (q 7) (2 * j) = upd (v 7) n (v 15 3) j ∧ upd (upd w (2 * n) (q 14)) (2 * n + 1) (q 7) (2 * j + 1) = upd (v 8) n (v 15 1) j ∧ (∃ p, p < 6 ∧ upd (v 7) n (v 15 3) j = nI p) ∧ ∃ t, t ≤ T ∧ upd (v 8) n (v 15 1) j = nI t
          by_cases cj : j = n
          · subst cj
            rw [pk_un (by omega), pk_us, pk_us, pk_us, pk_us, gb, gt, et]
            exact ⟨rfl, rfl, ⟨k, hk6, hke⟩, T, Nat.le_refl T, rfl⟩
          · rw [pk_un (by omega), pk_un (by omega), pk_un (by omega), pk_un (by omega), pk_un (by omega), pk_un (by omega)]
            exact h4 j (by omega)
        · show ¬ v 15 0 < 0
          rw [ea]; exact hx
      · obtain rfl : n = 8 := by omega
        rw [if_neg (show ¬ nI 8 < 8 from by decide), if_pos (show nI 8 = 8 from rfl), Q14, show upd q 15 1 14 = nI k from gb.trans hke, e_lapses _ _ hk6]
        rw [show zs v 15 5 1 10 = v 10 from rfl, show zs v 15 5 1 15 3 = nI k from hke, r_add 6 _ k _ hk6 (by decide), zup_e]
        simp only [zup2_e, if_true, zup_e]
        rw [R2_add _ _ _ (by decide) (by decide)]
        simp only [zup_e]
        rw [Q6]
        refine ⟨_, _, _, _, w, 8, rfl, congrArg some (Prod.ext ?_ rfl), zLR_9.mpr ⟨zRa_q ha (fun j hj => by rw [pk_un (by omega), pk_un (by omega)]), hb, ⟨h1, h2, h3, h4⟩, zRd_p1 1 hd, he_up (i := 2) (by decide) (q := upd q 15 1) (v13 := v 13) (fun j hj => by rw [pk_un (by omega)]; exact he j hj) 1, hf, ⟨hA, hT, hN, ea, et, en, hby, Or.inr rfl, ga, gt, gn, gh, ge, rfl⟩⟩, ?_⟩
        · show q 6 = v 15 0
          rw [ga, ea]
        · show ¬ v 15 0 < 0
          rw [ea]; exact hx
    · rw [if_neg c2, if_neg c2]
      exact ⟨_, v, q, p, w, n, rfl, by rw [Q6, ga], h0, hx⟩
/-- the seats' side of a clap -/
theorem zLb_cl {m : Nat} {v1 v2 v3 v4 v5 : Nat → Int32} {c y z : Int32} {a e n t r : Nat → Int32} {gc : Int32} {p : Nat} (hm : m < 100000000) (hp : p < 30) (h : zLb m v1 v2 v3 v4 v5 c y z a e n t r gc) :
    (v3 p = 0 → zLb (m + 1) v1 v2 (upd v3 p (v3 p + 1)) (upd v4 p (v4 p + 1)) (upd v5 (zcn v3 30) (nI p)) (c + 1) y (z ||| (1 <<< (nI p &&& 31))) (upd a p (a p ||| 32)) e (upd n p (n p + 1)) (upd t p (t p + 1)) (upd r (zcn v3 30) (nI p)) (gc + 1)) ∧
    (¬ v3 p = 0 → zLb (m + 1) v1 v2 (upd v3 p (v3 p + 1)) (upd v4 p (v4 p + 1)) v5 c y (z ||| (1 <<< (nI p &&& 31))) (upd a p (a p ||| 32)) e (upd n p (n p + 1)) (upd t p (t p + 1)) r gc) := by
  obtain ⟨b1, b2, b3, b4, b5⟩ := h
  obtain ⟨x, hx, ex⟩ := (b1 p hp).2.2.2.2
  have hne : ¬ v3 p + 1 = 0 := by rw [ex]; exact nI_s (by omega)
  have hcn := zcn_up (f := v3) hne 30 hp
  have main : ∀ k, k < 30 → (∃ lo, 1 ≤ lo ∧ lo ≤ 9 ∧ v1 k = nI lo ∧ upd a p (a p ||| 32) k = nI (zAc lo (y.toBitVec.getLsbD k) ((z ||| (1 <<< (nI p &&& 31))).toBitVec.getLsbD k))) ∧ e k = v2 k ∧ upd n p (n p + 1) k = upd v3 p (v3 p + 1) k ∧ upd t p (t p + 1) k = upd v4 p (v4 p + 1) k ∧ ∃ x, x ≤ m + 1 ∧ upd v3 p (v3 p + 1) k = nI x := by
    intro k hk
    obtain ⟨⟨lo, l1, l2, l3, l4⟩, q3, q4, q6, x', hx', ex'⟩ := b1 k hk
    have hbit : (z ||| (1 <<< (nI p &&& 31))).toBitVec.getLsbD k = (z.toBitVec.getLsbD k || decide (k = p)) := by
      rw [zb_shl p hp, Int32.toBitVec_or, BitVec.getLsbD_or, zb_one p k hp (by omega)]
    rw [hbit]
    by_cases c : k = p
    · subst c
      rw [pk_us, pk_us, pk_us, pk_us, pk_us, q4, q6]
      exact ⟨⟨lo, l1, l2, l3, by rw [l4, ac_or lo (by omega)]; simp⟩, q3, rfl, rfl, x' + 1, by omega, by rw [ex', nI_1]⟩
    · rw [pk_un c, pk_un c, pk_un c, pk_un c, pk_un c]
      exact ⟨⟨lo, l1, l2, l3, by rw [l4]; simp [c]⟩, q3, q4, q6, x', by omega, ex'⟩
  constructor
  · intro h0
    rw [if_pos h0] at hcn
    refine ⟨main, b2, by rw [hcn, b3, nI_1], by rw [b4], fun k hk => ?_⟩
    rw [hcn] at hk
    by_cases c : k = zcn v3 30
    · rw [c, pk_us, pk_us]
    · rw [pk_un c, pk_un c]; exact b5 k (by omega)
  · intro h0
    rw [if_neg h0, Nat.add_zero] at hcn
    refine ⟨main, b2, by rw [hcn, b3], b4, fun k hk => ?_⟩
    rw [hcn] at hk
    exact b5 k hk
theorem zLb_ea {m : Nat} {v1 v2 v3 v4 v5 : Nat → Int32} {c y z : Int32} {a e n t r : Nat → Int32} {gc : Int32} (p : Nat) (x : Int32) (h : zLb m v1 v2 v3 v4 v5 c y z a e n t r gc) : zLb m v1 (upd v2 p (v2 p + x)) v3 v4 v5 c y z a (upd e p (e p + x)) n t r gc := by
  refine ⟨fun k hk => ?_, h.2⟩
  obtain ⟨q1, q3, q4⟩ := h.1 k hk
  refine ⟨q1, ?_, q4⟩
  by_cases c : k = p
  · subst c; rw [pk_us, pk_us, q3]
  · rw [pk_un c, pk_un c, q3]
theorem upd_id (f : Nat → Int32) (k : Nat) : upd f k (f k + 0) = f := by
  funext j
  by_cases c : j = k
  · subst c; rw [pk_us, Int32.add_zero]
  · rw [pk_un c]
/-- the class: what a clap does to the seats -/
def zClap (e : zHV) (k c : Nat) (B Z : Bool) : zHV :=
  let e1 := if B = true then zr e 1 (upd (e 1) k (e 1 k + 1)) else e
  let e2 := if Z = true then zs (zr e1 4 (upd (e1 4) c (nI k))) 5 0 (nI c + 1) else e1
  zr (zr (zs e2 5 2 ((e2 5 2) ||| (1 <<< (nI k &&& 31)))) 2 (upd (e2 2) k (e2 2 k + 1))) 3 (upd (e2 3) k (e2 3 k + 1))
theorem e_clap7 {e : zHV} {k c : Nat} {f : Int32} (hk : k < 30) (hf : f = 0 ∨ f = 1) (hc : e 5 0 = nI c) (hc3 : e 2 k = 0 → c < 30) : d_X6_addClap e (nI k) f = some (zClap e k c (decide (f = 1 ∧ zbt (e 5 2) k = 0)) (decide (e 2 k = 0))) := by
  unfold d_X6_addClap
  rw [f_E7 hk (decide (f = 1 ∧ zbt (e 5 2) k = 0)) hf (by simp)]
  rw [f_C7 (c := c) hk (by split <;> exact hc) (fun h => hc3 (by split at h <;> exact h))]
  rw [f_M7 _ k hk]
  unfold zClap
  by_cases c1 : f = 1 ∧ zbt (e 5 2) k = 0
  · simp only [c1, and_self, decide_true, if_true]
    by_cases c2 : e 2 k = 0
    · rw [if_pos (show zr e 1 (upd (e 1) k (e 1 k + 1)) 2 k = 0 from c2)]; simp only [c2, decide_true, if_true]
    · rw [if_neg (show ¬ zr e 1 (upd (e 1) k (e 1 k + 1)) 2 k = 0 from c2)]; simp only [c2, decide_false, Bool.false_eq_true, if_false]
  · simp only [c1, decide_false, Bool.false_eq_true, if_false]
    by_cases c2 : e 2 k = 0
    · rw [if_pos c2]; simp only [c2, decide_true, if_true]
    · rw [if_neg c2]; simp only [c2, decide_false, Bool.false_eq_true, if_false]
theorem zjn_i9 {γ : Type} (F : Int32 → Int32 → Int32 → (Nat → Int32) → (Nat → Int32) → (Nat → Int32) → (Nat → Int32) → (Nat → Int32) → (Nat → Int32) → (Nat → Int32) → (Nat → Int32) → Option γ) (c : Prop) [Decidable c] (x y z i : Int32) (q a e n t p w r : Nat → Int32) : (zjn F fun j => if c then j x y i q a e n t p w r else j x z i q a e n t p w r) = F x (if c then y else z) i q a e n t p w r := by
  rw [zjn_e]
  split <;> rfl
theorem zjn_ea {γ : Type} (F : Int32 → Int32 → Int32 → Int32 → (Nat → Int32) → (Nat → Int32) → (Nat → Int32) → (Nat → Int32) → (Nat → Int32) → (Nat → Int32) → (Nat → Int32) → (Nat → Int32) → Option γ) (x y z ap : Int32) (q a e n t p w r : Nat → Int32) :
    (zjn F fun j_78 => zjn (fun (x9 : Int32) (s0 : Int32) (s1 : Int32) (fq : Nat → Int32) (fa : Nat → Int32) (fe : Nat → Int32) (fn : Nat → Int32) (ft : Nat → Int32) (fp : Nat → Int32) (fw : Nat → Int32) (fr : Nat → Int32) => j_78 x9 0 s0 s1 fq fa fe fn ft fp fw fr) fun j_77 => (if 32 ≤ ap then j_77 x y z q a e n t p w r else zld 19 q 7 fun t61 => zld 19 q 13 fun t65 => zlet (t61 - t65) fun t66 => zld 19 q 3 fun t69 => (if t69 < t66 then j_77 x y z q a e n t p w r else j_78 x 1 y z q a e n t p w r))) = F x (if ¬ (32 ≤ ap) ∧ ¬ q 3 < q 7 - q 13 then 1 else 0) y z q a e n t p w r := by
  rw [zjn_e, zjn_e]
  by_cases c1 : 32 ≤ ap
  · rw [if_pos c1, if_neg (fun h => h.1 c1)]
  · rw [if_neg c1, Q7, Q13, zlet_n, Q3]
    by_cases c2 : q 3 < q 7 - q 13
    · rw [if_pos c2, if_neg (fun h => h.2 c2)]
    · rw [if_neg c2, if_pos ⟨c1, c2⟩]
theorem zjn_cl {γ : Type} (F : Int32 → (Nat → Int32) → (Nat → Int32) → (Nat → Int32) → (Nat → Int32) → (Nat → Int32) → (Nat → Int32) → (Nat → Int32) → (Nat → Int32) → Option γ) (x np : Int32) {k cn : Nat} (q a e n t p w r : Nat → Int32) (hq : q 17 = nI cn) (hc : np = 0 → cn < 30) :
    (zjn F fun j_111 => (if np = 0 then zld 19 q 17 fun t100 => zst 30 r t100 (nI k) fun fr102 => zld 19 q 17 fun t107 => zlet (t107 + 1) fun t109 => zst 19 q 17 t109 fun fq110 => j_111 x fq110 a e n t p w fr102 else j_111 x q a e n t p w r)) = F x (if np = 0 then upd q 17 (nI cn + 1) else q) a e n t p w (if np = 0 then upd r cn (nI k) else r) := by
  rw [zjn_e]
  by_cases c : np = 0
  · rw [if_pos c, if_pos c, if_pos c, Q17, hq, zst_nI (hc c) (by decide), Q17, hq, zlet_n, V17]
  · rw [if_neg c, if_neg c, if_neg c]
theorem zClap_0 (e : zHV) (k c : Nat) (B Z : Bool) : zClap e k c B Z 0 = e 0 := by cases B <;> cases Z <;> rfl
theorem o_clap {m A T N n : Nat} {v : zHV} {q a e nn t p w r c : Nat → Int32} (hm : m < 100000000) (h : zLR m A T N n v (z9 q a e nn t p w r c)) {k : Nat} (hk : k < 30) : ∃ x v' q' a' e' nn' t' p' w' r', d_X2_takeClap v (nI k) = some (x, v') ∧ d_L_claps q a e nn t p w r (nI k) = some (x, q', a', e', nn', t', p', w', r') ∧ zOut m T N x v' (z9 q a e nn t p w r c) (z9 q' a' e' nn' t' p' w' r' c) := by
  have h0 := h
  obtain ⟨ha, hb, hc, hd, he, hf, hg⟩ := zLR_9.mp h
  obtain ⟨hA, hT, hN, ea, et, en, hby, hen, ga, gt, gn, gh, ge, go⟩ := hg
  by_cases hq : v 15 3 = -6
  · refine ⟨-5, v, q, a, e, nn, t, p, w, r, ?_, ?_, ⟨A, T, N, n, zLR_up (by omega) h0, fun _ => rfl, by omega, by omega⟩⟩
    · unfold d_X2_takeClap
      rw [seat_ok k hk, zcl_e, if_neg (by decide), if_pos hq]
    · unfold d_L_claps
      rw [Q13, gh hq, if_neg (by decide)]
  · obtain ⟨gd, gb, D, hD, eD⟩ := ge hq
    obtain ⟨q3, s3, l3, u3, e3⟩ := ha 3 (by decide)
    have hb1 := hb.1
    have hb3 : v 6 0 = nI (zcn (v 3) 30) := hb.2.2.1
    have hb4 : q 17 = v 6 0 := hb.2.2.2.1
    obtain ⟨⟨lo, l1, l2, elo, ela⟩, p3, p4, p6, x, hx, ex⟩ := hb1 k hk
    have hcl : v 3 k = 0 → zcn (v 3) 30 < 30 := fun z => zcn_lt (f := v 3) (p := k) z 30 hk
    have hS : A + 10 * lo < 2147483648 := by omega
    obtain ⟨A', eA'⟩ : ∃ A', A' = min (A + 10 * lo) 9999 := ⟨_, rfl⟩
    have hA' : A' ≤ 9999 := by omega
    obtain ⟨F, eF⟩ : ∃ F : Int32, F = if v 0 3 < v 15 1 - v 15 4 then 0 else 1 := ⟨_, rfl⟩
    have hF : F = 0 ∨ F = 1 := by rw [eF]; split <;> simp
    obtain ⟨B, eB⟩ : ∃ B : Bool, B = decide (F = 1 ∧ zbt (v 6 2) k = 0) := ⟨_, rfl⟩
    have hC : d_X2_takeClap v (nI k) = (fun v : zHV => zcl (d_X5_at 6 (v 0) 1) fun t101 => (if (v 15 0) < t101 then some ((v 15 0), v) else (if (v 15 5) = 0 then zup (d_X2_bringEncore v) (fun u => u) fun v115 => some ((v115 15 0), v115) else some ((v 15 0), v)))) (zs (zr (zq v 1 6 (zClap (zh v 1) k (zcn (v 3) 30) B (decide (v 3 k = 0)))) 13 (upd (v 13) 0 (v 13 0 + 1))) 15 0 (nI A')) := by
      unfold d_X2_takeClap
      rw [seat_ok k hk, zcl_e, if_neg (by decide), if_neg hq, zlet_n, R3_at _ _ (by decide) (by decide), zcl_e, zjn_i7, ← eF, e_clap7 (c := zcn (v 3) 30) hk hF hb3 hcl, zup_e]
      rw [show (zq v 1 6 (zClap (zh v 1) k (zcn (v 3) 30) (decide (F = 1 ∧ zbt (zh v 1 5 2) k = 0)) (decide (zh v 1 2 k = 0)))) 13 = v 13 from rfl, R0_add _ _ _ (by decide) (by decide), zup_e]
      rw [show (zr (zq v 1 6 (zClap (zh v 1) k (zcn (v 3) 30) (decide (F = 1 ∧ zbt (zh v 1 5 2) k = 0)) (decide (zh v 1 2 k = 0)))) 13 (upd (v 13) 0 (v 13 0 + 1))) 1 = v 1 from zClap_0 _ _ _ _ _, r_at 30 _ k hk (by decide), zcl_e, elo, zlet_n, zlet_n, zlet_n, zlet_n, show (10 : Int32) * nI lo = nI (10 * lo) from nL_mul 10 lo]
      rw [show (zr (zq v 1 6 (zClap (zh v 1) k (zcn (v 3) 30) (decide (F = 1 ∧ zbt (zh v 1 5 2) k = 0)) (decide (zh v 1 2 k = 0)))) 13 (upd (v 13) 0 (v 13 0 + 1))) 15 0 = nI A from ea, nI_add, n_min2 hS, ← eA', eB]
      rfl
    obtain ⟨E, eE⟩ : ∃ E : Int32, E = if ¬ (32 ≤ a k) ∧ ¬ upd q 6 (nI A') 3 < upd q 6 (nI A') 7 - upd q 6 (nI A') 13 then 1 else 0 := ⟨_, rfl⟩
    have hL : d_L_claps q a e nn t p w r (nI k) = (fun (q a e nn t p w r : Nat → Int32) => zld 19 q 6 fun t138 => zld 19 q 1 fun t141 => (if t138 < t141 then zld 19 q 6 fun t218 => some (t218, q, a, e, nn, t, p, w, r) else zld 19 q 15 fun t148 => (if t148 = 0 then zst 19 q 15 1 fun fq156 => zld 19 fq156 16 fun t160 => (if t160 = 8 then zld 19 fq156 14 fun t169 => zup (d_L_lapses fq156 p t169) (fun z9 => (z9.1, z9.2)) fun u173 => zld 19 u173.1 6 fun t218 => some (t218, u173.1, a, e, nn, t, u173.2, w, r) else zld 19 fq156 16 fun t185 => zlet (2 * t185) fun t186 => zld 19 fq156 14 fun t190 => zst 16 w t186 t190 fun fw191 => zld 19 fq156 16 fun t198 => zlet (2 * t198) fun t199 => zlet (t199 + 1) fun t201 => zld 19 fq156 7 fun t205 => zst 16 fw191 t201 t205 fun fw206 => zld 19 fq156 16 fun t211 => zlet (t211 + 1) fun t213 => zst 19 fq156 16 t213 fun fq214 => zld 19 fq214 6 fun t218 => some (t218, fq214, a, e, nn, t, p, fw206, r)) else zld 19 q 6 fun t218 => some (t218, q, a, e, nn, t, p, w, r))))
        (upd (if v 3 k = 0 then upd (upd q 6 (nI A')) 17 (nI (zcn (v 3) 30) + 1) else upd q 6 (nI A')) 9 ((if v 3 k = 0 then upd (upd q 6 (nI A')) 17 (nI (zcn (v 3) 30) + 1) else upd q 6 (nI A')) 9 + 1)) (upd a k (a k ||| 32)) (upd e k (e k + E)) (upd nn k (nn k + 1)) (upd t k (t k + 1)) p w (if v 3 k = 0 then upd r (zcn (v 3) 30) (nI k) else r) := by
      unfold d_L_claps
      rw [Q13, gd, eD, if_pos (nI_pos' (by omega)), Q6, zld_nI hk (by decide), zlet_n, zlet_n, zlet_n, zjn_i9, ga, ela, ac_15 lo (by omega), show (10 : Int32) * nI lo = nI (10 * lo) from nL_mul 10 lo, nI_add, n_min1 hS, ← eA', ← ela]
      dsimp only
      rw [V6, zld_nI hk (by decide), zld_nI hk (by decide), zjn_ea]
      rw [← eE, zlet_n, zst_nI hk (by decide), zld_nI hk (by decide), zlet_n, zst_nI hk (by decide), zld_nI hk (by decide), p4, zjn_cl (cn := zcn (v 3) 30) _ _ _ _ _ _ _ _ _ _ _ (show upd q 6 (nI A') 17 = nI (zcn (v 3) 30) from hb4.trans hb3) hcl]
      rw [zld_nI hk (by decide), zlet_n, zst_nI hk (by decide), zld_nI hk (by decide), zlet_n, zst_nI hk (by decide), Q9, zlet_n, V9, p4]
    have hEB : E = if B = true then 1 else 0 := by
      have g1 : (¬ (32 ≤ a k) ∧ ¬ upd q 6 (nI A') 3 < upd q 6 (nI A') 7 - upd q 6 (nI A') 13) ↔ (F = 1 ∧ zbt (v 6 2) k = 0) := by
        rw [show upd q 6 (nI A') 3 = v 0 3 from q3, show upd q 6 (nI A') 7 = v 15 1 from gt.trans et.symm, show upd q 6 (nI A') 13 = v 15 4 from gd, ela, ac_32 lo (by omega)]
        unfold zbt
        rw [eF]
        by_cases c1 : v 0 3 < v 15 1 - v 15 4 <;> cases c2 : (v 6 2).toBitVec.getLsbD k <;> simp [c1]
      rw [eE, eB]
      by_cases c : F = 1 ∧ zbt (v 6 2) k = 0
      · rw [if_pos (g1.mpr c)]; simp [c]
      · rw [if_neg (fun h => c (g1.mp h))]; simp [c]
    have key : zLR (m + 1) A' T N n (zs (zr (zq v 1 6 (zClap (zh v 1) k (zcn (v 3) 30) B (decide (v 3 k = 0)))) 13 (upd (v 13) 0 (v 13 0 + 1))) 15 0 (nI A')) (z9 (upd (if v 3 k = 0 then upd (upd q 6 (nI A')) 17 (nI (zcn (v 3) 30) + 1) else upd q 6 (nI A')) 9 ((if v 3 k = 0 then upd (upd q 6 (nI A')) 17 (nI (zcn (v 3) 30) + 1) else upd q 6 (nI A')) 9 + 1)) (upd a k (a k ||| 32)) (upd e k (e k + E)) (upd nn k (nn k + 1)) (upd t k (t k + 1)) p w (if v 3 k = 0 then upd r (zcn (v 3) 30) (nI k) else r) c) := by
      obtain ⟨qB, eqB⟩ : ∃ qB, qB = if v 3 k = 0 then upd (upd q 6 (nI A')) 17 (nI (zcn (v 3) 30) + 1) else upd q 6 (nI A') := ⟨_, rfl⟩
      rw [← eqB]
      have hqB : ∀ j, ¬ j = 6 → ¬ j = 17 → qB j = q j := fun j j1 j2 => by
        rw [eqB]
        split
        · rw [pk_un j2, pk_un j1]
        · rw [pk_un j1]
      have hq6 : qB 6 = nI A' := by
        rw [eqB]
        split <;> rfl
      have hbb : zLb (m + 1) (v 1) (if B = true then upd (v 2) k (v 2 k + 1) else v 2) (upd (v 3) k (v 3 k + 1)) (upd (v 4) k (v 4 k + 1)) (if v 3 k = 0 then upd (v 5) (zcn (v 3) 30) (nI k) else v 5) (if v 3 k = 0 then v 6 0 + 1 else v 6 0) (v 6 1) ((v 6 2) ||| (1 <<< (nI k &&& 31))) (upd a k (a k ||| 32)) (upd e k (e k + E)) (upd nn k (nn k + 1)) (upd t k (t k + 1)) (if v 3 k = 0 then upd r (zcn (v 3) 30) (nI k) else r) (qB 17) := by
        have hb2 : zLb m (v 1) (if B = true then upd (v 2) k (v 2 k + 1) else v 2) (v 3) (v 4) (v 5) (v 6 0) (v 6 1) (v 6 2) a (upd e k (e k + E)) nn t r (q 17) := by
          rw [hEB]
          cases B
          · rw [if_neg (by decide), if_neg (by decide), upd_id]; exact hb
          · rw [if_pos rfl, if_pos rfl]; exact zLb_ea k 1 hb
        obtain ⟨g1, g2⟩ := zLb_cl hm hk hb2
        by_cases hz : v 3 k = 0
        · have g1 := g1 hz
          rw [if_pos hz, if_pos hz, if_pos hz, eqB, if_pos hz]
          rw [hb4, hb3] at g1
          rw [hb3]
          exact g1
        · have g2 := g2 hz
          rw [if_neg hz, if_neg hz, if_neg hz, eqB, if_neg hz]
          exact g2
      refine zLR_9.mpr ⟨zRa_q ha (fun j hj => by rw [pk_un (by omega)]; exact hqB j (by omega) (by omega)), ?_, ?_, hd, ?_, ?_, ?_⟩
      · have e17 : upd qB 9 (qB 9 + 1) 17 = qB 17 := rfl
        rw [e17]
        have e2 : ∀ (v' : zHV), v' = (zs (zr (zq v 1 6 (zClap (zh v 1) k (zcn (v 3) 30) B (decide (v 3 k = 0)))) 13 (upd (v 13) 0 (v 13 0 + 1))) 15 0 (nI A')) → v' 1 = v 1 ∧ v' 2 = (if B = true then upd (v 2) k (v 2 k + 1) else v 2) ∧ v' 3 = upd (v 3) k (v 3 k + 1) ∧ v' 4 = upd (v 4) k (v 4 k + 1) ∧ v' 5 = (if v 3 k = 0 then upd (v 5) (zcn (v 3) 30) (nI k) else v 5) ∧ v' 6 0 = (if v 3 k = 0 then v 6 0 + 1 else v 6 0) ∧ v' 6 1 = v 6 1 ∧ v' 6 2 = ((v 6 2) ||| (1 <<< (nI k &&& 31))) := by
          intro v' hv'
          rw [hv']
          by_cases hz : v 3 k = 0
          · rw [decide_eq_true hz, if_pos hz, if_pos hz, hb3]
            cases B <;> exact ⟨rfl, rfl, rfl, rfl, rfl, rfl, rfl, rfl⟩
          · rw [decide_eq_false hz, if_neg hz, if_neg hz]
            cases B <;> exact ⟨rfl, rfl, rfl, rfl, rfl, rfl, rfl, rfl⟩
        obtain ⟨f1, f2, f3, f4, f5, f6, f7, f8⟩ := e2 _ rfl
        rw [f1, f2, f3, f4, f5, f6, f7, f8]
        exact hbb
      · rw [show upd qB 9 (qB 9 + 1) 16 = qB 16 from rfl, hqB 16 (by decide) (by decide)]
        exact hc
      · exact he_up (i := 0) (by decide) (q := qB) (v13 := v 13) (fun j hj => by rw [hqB _ (by omega) (by omega)]; exact he j hj) 1
      · rw [show upd qB 9 (qB 9 + 1) 18 = qB 18 from rfl, hqB 18 (by decide) (by decide)]
        exact hf
      · refine ⟨hA', hT, hN, rfl, et, en, hby, hen, hq6, ?_, ?_, ?_, ?_, ?_⟩
        · rw [pk_un (by decide), hqB 7 (by decide) (by decide)]; exact gt
        · rw [pk_un (by decide), hqB 8 (by decide) (by decide)]; exact gn
        · rw [pk_un (by decide), hqB 13 (by decide) (by decide)]; exact gh
        · rw [pk_un (by decide), pk_un (by decide), hqB 13 (by decide) (by decide), hqB 14 (by decide) (by decide)]; exact ge
        · rw [pk_un (by decide), hqB 15 (by decide) (by decide)]; exact go
    obtain ⟨x, v', q', p', w', n', g1, g2, g3, g4⟩ := b_fin key hq
    exact ⟨x, v', q', _, _, _, _, p', w', _, hC.trans g1, hL.trans g2, zOut_of A' T N n' (show m + 1 ≤ m + 2 by omega) g3 g4 (by omega) (by omega)⟩
