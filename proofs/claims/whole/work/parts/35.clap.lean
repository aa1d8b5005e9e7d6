/-! ===== the act: a clap ===== -/
theorem nI_s {a : Nat} (ha : a + 1 < 2147483648) : ¬ nI a + 1 = 0 := by
  rw [nI_1]; exact nI_ne0 (by omega) ha
theorem zRb_cl {m : Nat} {v1 v2 v3 v4 v5 : Nat → Int32} {c y z : Int32} {g1 g2 g3 g4 g5 g6 g12 : Nat → Int32} {gc : Int32} {p : Nat} (hm : m < 100000000) (hp : p < 30) (h : zRb m v1 v2 v3 v4 v5 c y z g1 g2 g3 g4 g5 g6 g12 gc) :
    (v3 p = 0 → zRb (m + 1) v1 v2 (upd v3 p (v3 p + 1)) (upd v4 p (v4 p + 1)) (upd v5 (zcn v3 30) (nI p)) (c + 1) y (z ||| (1 <<< (nI p &&& 31))) g1 g2 g3 (upd g4 p (g4 p + 1)) (upd g5 p 1) (upd g6 p (g6 p + 1)) (upd g12 (zcn v3 30) (nI p)) (gc + 1)) ∧
    (¬ v3 p = 0 → zRb (m + 1) v1 v2 (upd v3 p (v3 p + 1)) (upd v4 p (v4 p + 1)) v5 c y (z ||| (1 <<< (nI p &&& 31))) g1 g2 g3 (upd g4 p (g4 p + 1)) (upd g5 p 1) (upd g6 p (g6 p + 1)) g12 gc) := by
  obtain ⟨b1, b2, b3, b4, b5⟩ := h
  obtain ⟨x, hx, ex⟩ := (b1 p hp).2.2.2.2.2.2.2
  have hne : ¬ v3 p + 1 = 0 := by rw [ex]; exact nI_s (by omega)
  have hc := zcn_up (f := v3) hne 30 hp
  have main : ∀ k, k < 30 → g1 k = v1 k ∧ g2 k = zbt y k ∧ g3 k = v2 k ∧ upd g4 p (g4 p + 1) k = upd v3 p (v3 p + 1) k ∧ upd g5 p 1 k = zbt (z ||| (1 <<< (nI p &&& 31))) k ∧ upd g6 p (g6 p + 1) k = upd v4 p (v4 p + 1) k ∧ (∃ x, 1 ≤ x ∧ x ≤ 9 ∧ v1 k = nI x) ∧ ∃ x, x ≤ m + 1 ∧ upd v3 p (v3 p + 1) k = nI x := by
    intro k hk
    obtain ⟨q1, q2, q3, q4, q5, q6, q7, x', hx', ex'⟩ := b1 k hk
    rw [zb_or z p k hp hk]
    by_cases c : k = p
    · subst c
      rw [pk_us, pk_us, pk_us, pk_us, pk_us, if_pos rfl, q4, q6]
      exact ⟨q1, q2, q3, rfl, rfl, rfl, q7, x' + 1, by omega, by rw [ex', nI_1]⟩
    · rw [pk_un c, pk_un c, pk_un c, pk_un c, pk_un c, if_neg c]
      exact ⟨q1, q2, q3, q4, q5, q6, q7, x', by omega, ex'⟩
  constructor
  · intro h0
    rw [if_pos h0] at hc
    refine ⟨main, b2, by rw [hc, b3, nI_1], by rw [b4], fun k hk => ?_⟩
    rw [hc] at hk
    by_cases c : k = zcn v3 30
    · rw [c, pk_us, pk_us]
    · rw [pk_un c, pk_un c]; exact b5 k (by omega)
  · intro h0
    rw [if_neg h0, Nat.add_zero] at hc
    refine ⟨main, b2, by rw [hc, b3], b4, fun k hk => ?_⟩
    rw [hc] at hk
    exact b5 k hk
theorem zRb_ea {m : Nat} {v1 v2 v3 v4 v5 : Nat → Int32} {c y z : Int32} {g1 g2 g3 g4 g5 g6 g12 : Nat → Int32} {gc : Int32} (p : Nat) (hp : p < 30) (h : zRb m v1 v2 v3 v4 v5 c y z g1 g2 g3 g4 g5 g6 g12 gc) : zRb m v1 (upd v2 p (v2 p + 1)) v3 v4 v5 c y z g1 g2 (upd g3 p (g3 p + 1)) g4 g5 g6 g12 gc := by
  refine ⟨fun k hk => ?_, h.2⟩
  obtain ⟨q1, q2, q3, q4⟩ := h.1 k hk
  refine ⟨q1, q2, ?_, q4⟩
  by_cases c : k = p
  · subst c; rw [pk_us, pk_us, q3]
  · rw [pk_un c, pk_un c, q3]
theorem q_has (e : zHV) (p : Nat) (hp : p < 30) : d_X6_hasClapped e (nI p) = some (zbt (e 5 2) p) := by
  unfold d_X6_hasClapped
  rw [zlet_n, zlet_n, zb_shr _ p hp]
  rcases zb_01 (e 5 2) p with h | h <;> rw [h] <;> rfl
/-- the last of a clap: the encore, when it is due -/
theorem b_fin {m A T N n : Nat} {v g μ : zHV} (x : Int32) (h : zRel m A T N n v g) (hp : ¬ v 15 3 = -6) : ∃ (r : Int32) (v' g' : zHV) (A' T' N' n' : Nat),
    (zcl (d_X5_at 6 (v 0) 1) fun t101 => (if (v 15 0) < t101 then some ((v 15 0), v) else (if (v 15 5) = 0 then zup (d_X2_bringEncore v) (fun u => u) fun v115 => some ((v115 15 0), v115) else some ((v 15 0), v)))) = some (r, v') ∧
    (zld 288 (zM5 μ g 0) 6 fun t72 => zld 288 (zM5 μ g 0) 1 fun t78 => zjn (fun (x2 : Int32) (v : zHV) => zld 288 (v 0) 6 fun t109 => some (t109, v)) fun j_103 => (if t72 < t78 then j_103 x (zM5 μ g) else zld 288 (zM5 μ g 0) 16 fun t88 => if t88 = 0 then zld 288 (zM5 μ g 0) 15 fun t99 => zup (d_X8_owe (zM5 μ g) t99) (fun u => u) fun v100 => j_103 x v100 else j_103 x (zM5 μ g))) = some (r, zM5 μ g') ∧ zRel (m + 1) A' T' N' n' v' g' := by
  obtain ⟨ha, hb, hc, hd, he, hf, hg⟩ := h
  obtain ⟨hA, hT, hN, ea, et, en, hby, hen, ga, gt, gn, gh, ge, gb, go⟩ := hg
  have gb := gb hp
  obtain ⟨q1, s1, l1, u1, e1⟩ := ha 1 (by decide)
  rw [R1_at _ _ (by decide) (by decide), zcl_e, L6, L1, zjn_e, ga, ea, q1]
  by_cases c1 : nI A < v 0 1
  · rw [if_pos c1, if_pos c1]
    dsimp only
    rw [L6, ga]
    exact ⟨_, _, _, A, T, N, n, rfl, rfl, zRel_up (by omega) ⟨ha, hb, hc, hd, he, hf, ⟨hA, hT, hN, ea, et, en, hby, hen, ga, gt, gn, gh, ge, fun _ => gb, go⟩⟩⟩
  · rw [if_neg c1, if_neg c1, L16, go]
    by_cases c2 : v 15 5 = 0
    · rw [if_pos c2, if_pos c2, L15, gb]
      unfold d_X2_bringEncore d_X0_owe d_X8_owe
      obtain ⟨h1, h2, h3, h4⟩ := hc
      have ge' : ∀ k, ¬ k = 5 → zs v 15 5 1 15 k = v 15 k := fun k hk => by rw [zs_at, if_pos rfl, if_neg hk]
      rw [zlet_n, S16, L17]
      simp only [zh_at, Nat.reduceAdd]
      simp only [show zs v 15 5 1 12 0 = nI n from h2, show zs g 0 16 1 0 17 = nI n from h3]
      obtain ⟨p, hp6, hpe⟩ : ∃ p, p < 6 ∧ v 15 3 = nI p := by
        rcases hby with q | q
        · exact absurd q hp
        · exact q
      by_cases c3 : n < 8
      · rw [if_pos (show nI n < 8 from nI_lt (b := 8) c3 (by decide)), if_neg (show ¬ nI n = 8 from fun q => by have q := (nI_eq (b := 8) (by omega) (by decide)).mp q; omega)]
        rw [r_store 8 _ n _ (by omega) (by decide), zup_e]
        simp only [zr_at, Nat.reduceEqDiff, if_false, if_true, zh_at, Nat.reduceAdd]
        rw [show zs v 15 5 1 12 0 = nI n from h2, r_store 8 _ n _ (by omega) (by decide), zup_e]
        simp only [zr_at, Nat.reduceEqDiff, if_false, if_true, zh_at, Nat.reduceAdd]
        rw [show zs v 15 5 1 12 0 = nI n from h2]
        simp only [zlet_n, zup2_e, show ¬ (1 : Int32) = 0 from by decide, if_false, zup_e]
        rw [L17, show zs g 0 16 1 0 17 = nI n from h3]
        simp only [zlet_n, nL_mul, nL_add, nR_add]
        rw [s10a _ _ n _ _ c3, L17, show zs (zs g 0 16 1) 10 n (v 15 3) 0 17 = nI n from h3]
        simp only [zlet_n, nL_mul, nL_add, nR_add, L7]
        rw [s10b _ _ n _ _ c3, L17]
        rw [S17]
        simp only [zup_e]
        rw [L6]
        refine ⟨_, _, _, A, T, N, n + 1, rfl, congrArg some (Prod.ext ?_ rfl), ?_⟩
        · show g 0 6 = v 15 0
          rw [ga, ea]
        · refine ⟨ha, zRb_up (by omega) hb, ⟨c3, ?_, ?_, fun k hk => ?_⟩, hd, ?_, hf, ⟨hA, hT, hN, ea, et, en, hby, Or.inr rfl, ga, gt, gn, gh, ge, fun _ => gb, rfl⟩⟩
          · rfl
          · show g 0 17 + 1 = nI (n + 1)
            rw [h3, nI_1]
          · show zs g 10 n (v 15 3) 10 k = upd (v 7) n (v 15 3) k ∧ zs g 11 n (g 0 7) 11 k = upd (v 8) n (v 15 1) k ∧ (∃ p, p < 6 ∧ upd (v 7) n (v 15 3) k = nI p) ∧ ∃ t, t ≤ T ∧ upd (v 8) n (v 15 1) k = nI t
            rw [up_zs, up_zs]
            by_cases ck : k = n
            · subst ck
              rw [pk_us, pk_us, pk_us, pk_us, gt, et]
              exact ⟨rfl, rfl, ⟨p, hp6, hpe⟩, T, Nat.le_refl T, rfl⟩
            · rw [pk_un ck, pk_un ck, pk_un ck, pk_un ck]
              exact h4 k (by omega)
          · obtain ⟨k1, ⟨a0, b0, d0⟩, ⟨a1, b1, d1⟩, ⟨a2, b2, d2⟩, a3, b3, d3⟩ := he
            exact ⟨k1, ⟨a0, by omega, d0⟩, ⟨a1, by omega, d1⟩, ⟨a2, by omega, d2⟩, a3, by omega, d3⟩
      · obtain rfl : n = 8 := by omega
        rw [if_neg (show ¬ nI 8 < 8 from by decide), if_pos (show nI 8 = 8 from rfl), hpe]
        unfold d_X8_countLapse
        rw [show zs v 15 5 1 10 = v 10 from rfl, show zs v 15 5 1 15 3 = nI p from hpe, r_add 6 _ p _ hp6 (by decide), zup_e]
        simp only [zlet_n, zup2_e, if_true, zup_e, nL_mul, nL_add, nR_add]
        rw [l7b _ _ p _ hp6, s7b _ _ p _ _ hp6, L11, S11]
        rw [R2_add _ _ _ (by decide) (by decide)]
        simp only [zup_e]
        rw [L6]
        refine ⟨_, _, _, A, T, N, 8, rfl, congrArg some (Prod.ext ?_ rfl), ?_⟩
        · show g 0 6 = v 15 0
          rw [ga, ea]
        · have hd' := (zRd_up hd p 1).2.1
          rw [if_pos hp6] at hd'
          refine ⟨ha, zRb_up (by omega) hb, ⟨h1, h2, h3, h4⟩, hd', ?_, hf, ⟨hA, hT, hN, ea, et, en, hby, Or.inr rfl, ga, gt, gn, gh, ge, fun _ => gb, rfl⟩⟩
          obtain ⟨k1, ⟨a0, b0, d0⟩, ⟨a1, b1, d1⟩, ⟨a2, b2, d2⟩, a3, b3, d3⟩ := he
          show zRe (m + 1) 8 (upd (v 13) 2 (v 13 2 + 1)) (upd (g 15) 2 (g 15 2 + 1))
          refine ⟨fun k hk => ?_, ⟨a0, by omega, ?_⟩, ⟨a1, by omega, ?_⟩, ⟨a2 + 1, by omega, ?_⟩, a3, by omega, ?_⟩
          · by_cases ck : k = 2
            · subst ck; rw [pk_us, pk_us, k1 2 hk]
            · rw [pk_un ck, pk_un ck, k1 k hk]
          · rw [pk_un (by decide), d0]
          · rw [pk_un (by decide), d1]
          · rw [pk_us, d2, nI_1]
          · rw [pk_un (by decide), d3]
    · rw [if_neg c2, if_neg c2]
      dsimp only
      rw [L6, ga]
      exact ⟨_, _, _, A, T, N, n, rfl, rfl, zRel_up (by omega) ⟨ha, hb, hc, hd, he, hf, ⟨hA, hT, hN, ea, et, en, hby, hen, ga, gt, gn, gh, ge, fun _ => gb, go⟩⟩⟩
theorem f_E7 {e : zHV} {p : Nat} {f : Int32} (hp : p < 30) (B : Bool) (hf : f = 0 ∨ f = 1) (hB : B = true ↔ (f = 1 ∧ zbt (e 5 2) p = 0)) (F : zHV → Option zHV) :
    (zjn F fun j_21 => (if f = 0 then j_21 e else zcl (d_X6_hasClapped e (nI p)) fun t6 => (if t6 = 0 then zup (d_X5_add 30 (e 1) (nI p) 1) (fun u => (zr e 1 u)) fun v18 => j_21 v18 else j_21 e))) = F (if B = true then zr e 1 (upd (e 1) p (e 1 p + 1)) else e) := by
  rw [zjn_e]
  rcases hf with rfl | rfl
  · rw [if_pos rfl, if_neg (fun q => absurd (hB.mp q).1 (by decide))]
  · rw [if_neg (by decide), q_has e p hp, zcl_e, r_add 30 _ p _ hp (by decide), zup_e]
    by_cases c : zbt (e 5 2) p = 0
    · rw [if_pos c, if_pos (hB.mpr ⟨rfl, c⟩)]
    · rw [if_neg c, if_neg (fun q => c (hB.mp q).2)]
theorem f_C7 {e : zHV} {p c : Nat} (hp : p < 30) (hc : e 5 0 = nI c) (hc3 : e 2 p = 0 → c < 30) (F : zHV → Option zHV) :
    (zcl (d_X5_at 30 (e 2) (nI p)) fun t26 => zjn F fun j_54 => (if t26 = 0 then zup (d_X5_store 30 (e 4) (e 5 0) (nI p)) (fun u => (zr e 4 u)) fun v41 => zlet ((v41 5 0) + 1) fun t50 => zlet (zs v41 5 0 t50) fun v51 => j_54 v51 else j_54 e)) = F (if e 2 p = 0 then zs (zr e 4 (upd (e 4) c (nI p))) 5 0 (nI c + 1) else e) := by
  rw [r_at 30 _ p hp (by decide), zcl_e, zjn_e]
  by_cases h : e 2 p = 0
  · rw [if_pos h, if_pos h, hc, r_store 30 _ c _ (hc3 h) (by decide), zup_e]
    simp only [zlet_n]
    rw [show zr e 4 (upd (e 4) c (nI p)) 5 0 = e 5 0 from rfl, hc]
  · rw [if_neg h, if_neg h]
theorem f_C8 {g μ : zHV} {p c : Nat} (hc : g 0 18 = nI c) (t : Int32) (hc3 : t = 0 → c < 30) (F : zHV → Option zHV) :
    (zjn F fun j_37 => (if t = 0 then zld 288 (zM5 μ g 0) 18 fun t22 => zlet (234 + t22) fun t23 => zsv 288 (zM5 μ g) 0 t23 (nI p) fun v25 => zld 288 (v25 0) 18 fun t33 => zlet (t33 + 1) fun t35 => zsv 288 v25 0 18 t35 fun v36 => j_37 v36 else j_37 (zM5 μ g))) = F (zM5 μ (if t = 0 then zs (zs g 12 c (nI p)) 0 18 (nI c + 1) else g)) := by
  rw [zjn_e]
  by_cases h : t = 0
  · rw [if_pos h, if_pos h, L18, hc, zlet_n, nL_add, s12 μ g c _ _ (hc3 h), L18, show zs g 12 c (nI p) 0 18 = g 0 18 from rfl, hc, zlet_n, S18]
  · rw [if_neg h, if_neg h]
theorem f_E8 {g μ : zHV} {p : Nat} {f : Int32} (hp : p < 30) (B : Bool) (t : Int32) (hB : B = true ↔ (f = 1 ∧ t = 0)) (hf : (f = 0 ∧ g 14 3 < g 0 7 - g 0 14) ∨ (f = 1 ∧ ¬ g 14 3 < g 0 7 - g 0 14)) (F : zHV → Option zHV) :
    (zjn F fun j_84 => (if t = 0 then zld 288 (zM5 μ g 0) 7 fun t52 => zld 288 (zM5 μ g 0) 14 fun t59 => zlet (t52 - t59) fun t60 => zld 288 (zM5 μ g 0) 3 fun t66 => (if t66 < t60 then j_84 (zM5 μ g) else zcl (d_X8_seat (zM5 μ g) (nI p) 2) fun t76 => zlet (t76 + 1) fun t80 => zup (d_X8_setSeat (zM5 μ g) (nI p) 2 t80) (fun u => u) fun v81 => j_84 v81) else j_84 (zM5 μ g))) = F (zM5 μ (if B = true then zs g 3 p (g 3 p + 1) else g)) := by
  rw [zjn_e]
  by_cases h : t = 0
  · rw [if_pos h, L7, L14, zlet_n, L3]
    rcases hf with ⟨rfl, hc⟩ | ⟨rfl, hc⟩
    · rw [if_pos hc, if_neg (fun q => absurd (hB.mp q).1 (by decide))]
    · rw [if_neg hc, if_pos (hB.mpr ⟨rfl, h⟩), G2 μ g p hp, zcl_e, zlet_n, T2 μ g p _ hp, zup_e]
  · rw [if_neg h, if_neg (fun q => h (hB.mp q).2)]
theorem f_M7 (e : zHV) (p : Nat) (hp : p < 30) : (zlet (1 <<< (nI p &&& 31)) fun t61 => zlet ((e 5 2) ||| t61) fun t62 => zlet (zs e 5 2 t62) fun v63 => zup (d_X5_add 30 (v63 2) (nI p) 1) (fun u => (zr v63 2 u)) fun v72 => zup (d_X5_add 30 (v72 3) (nI p) 1) (fun u => (zr v72 3 u)) fun v81 => some v81) = some (zr (zr (zs e 5 2 ((e 5 2) ||| (1 <<< (nI p &&& 31)))) 2 (upd (e 2) p (e 2 p + 1))) 3 (upd (e 3) p (e 3 p + 1))) := by
  simp only [zlet_n]
  rw [r_add 30 _ p _ hp (by decide), zup_e, r_add 30 _ p _ hp (by decide), zup_e]
  rfl
theorem f_M8 (μ g : zHV) (p : Nat) (hp : p < 30) : (zcl (d_X8_seat (zM5 μ g) (nI p) 3) fun t90 => zlet (t90 + 1) fun t94 => zup (d_X8_setSeat (zM5 μ g) (nI p) 3 t94) (fun u => u) fun v95 => zup (d_X8_setSeat v95 (nI p) 4 1) (fun u => u) fun v102 => zcl (d_X8_seat v102 (nI p) 5) fun t111 => zlet (t111 + 1) fun t115 => zup (d_X8_setSeat v102 (nI p) 5 t115) (fun u => u) fun v116 => zld 288 (v116 0) 9 fun t126 => zlet (t126 + 1) fun t128 => zsv 288 v116 0 9 t128 fun v129 => some v129) = some (zM5 μ (zs (zs (zs (zs g 4 p (g 4 p + 1)) 5 p 1) 6 p (g 6 p + 1)) 15 0 (g 15 0 + 1))) := by
  rw [G3 μ g p hp, zcl_e, zlet_n, T3 μ g p _ hp, zup_e, T4 μ _ p _ hp, zup_e, G5 μ _ p hp, zcl_e, zlet_n, T5 μ _ p _ hp, zup_e, L9, zlet_n, S9]
  rfl
theorem b_claps {m : Nat} {e g μ : zHV} {p : Nat} {f : Int32} (hm : m < 100000000) (hp : p < 30) (hb : zRb m (e 0) (e 1) (e 2) (e 3) (e 4) (e 5 0) (e 5 1) (e 5 2) (g 1) (g 2) (g 3) (g 4) (g 5) (g 6) (g 12) (g 0 18)) (hf : (f = 0 ∧ g 14 3 < g 0 7 - g 0 14) ∨ (f = 1 ∧ ¬ g 14 3 < g 0 7 - g 0 14)) :
    ∃ e' g', d_X6_addClap e (nI p) f = some e' ∧ d_X8_countClap (zM5 μ g) (nI p) = some (zM5 μ g') ∧ e' 0 = e 0 ∧ zRb (m + 1) (e' 0) (e' 1) (e' 2) (e' 3) (e' 4) (e' 5 0) (e' 5 1) (e' 5 2) (g' 1) (g' 2) (g' 3) (g' 4) (g' 5) (g' 6) (g' 12) (g' 0 18) ∧ g' 7 = g 7 ∧ g' 8 = g 8 ∧ g' 9 = g 9 ∧ g' 10 = g 10 ∧ g' 11 = g 11 ∧ g' 13 = g 13 ∧ g' 14 = g 14 ∧ g' 15 = upd (g 15) 0 (g 15 0 + 1) ∧ ∀ k, ¬ k = 18 → g' 0 k = g 0 k := by
  obtain ⟨p1, p2, p3, p4, p5, p6, p7, p8⟩ := hb.1 p hp
  have hcl := zcn_lt (f := e 2) (p := p)
  have b3 := hb.2.2.1
  have b4 := hb.2.2.2.1
  unfold d_X6_addClap d_X8_countClap
  rw [f_E7 hp (decide (f = 1 ∧ zbt (e 5 2) p = 0)) (by rcases hf with ⟨q, _⟩ | ⟨q, _⟩ <;> simp [q]) (by simp)]
  rw [f_C7 (c := zcn (e 2) 30) hp (by split <;> exact b3) (fun h => hcl (by split at h <;> exact h) 30 hp)]
  rw [G3 μ g p hp, zcl_e, f_C8 (c := zcn (e 2) 30) (by rw [b4, b3]) _ (fun h => hcl (by rw [← p4]; exact h) 30 hp)]
  rw [G4 μ _ p hp, zcl_e, f_E8 (f := f) hp (decide (f = 1 ∧ zbt (e 5 2) p = 0)) _ (by rw [decide_eq_true_iff, ← p5]; split <;> exact Iff.rfl) (by split <;> exact hf)]
  rw [f_M7 _ p hp, f_M8 μ _ p hp]
  have z : ∀ (g : zHV) (i k : Nat) (x : Int32) (j : Nat), ¬ j = i → zs g i k x j = g j := fun g i k x j hj => by funext b; rw [zs_at, if_neg hj]
  cases hB : decide (f = 1 ∧ zbt (e 5 2) p = 0)
  · simp only [Bool.false_eq_true, if_false]
    have hk := zRb_cl hm hp hb
    by_cases hz : e 2 p = 0
    · have hz' : g 4 p = 0 := by rw [p4]; exact hz
      have hk := hk.1 hz
      rw [b4, b3] at hk
      simp only [if_pos hz, if_pos hz']
      refine ⟨_, _, rfl, rfl, rfl, hk, rfl, rfl, rfl, rfl, rfl, rfl, rfl, ?_, fun k hk => ?_⟩
      · rw [up_zs]; rfl
      · simp only [zs_at, hk, if_true, if_false, Nat.reduceEqDiff]
    · have hz' : ¬ g 4 p = 0 := by rw [p4]; exact hz
      have hk := hk.2 hz
      simp only [if_neg hz, if_neg hz']
      refine ⟨_, _, rfl, rfl, rfl, hk, rfl, rfl, rfl, rfl, rfl, rfl, rfl, ?_, fun k hk => ?_⟩
      · rw [up_zs]; rfl
      · simp only [zs_at, hk, if_true, if_false, Nat.reduceEqDiff]
  · simp only [if_true]
    have hk := zRb_cl hm hp (zRb_ea p hp hb)
    by_cases hz : zr e 1 (upd (e 1) p (e 1 p + 1)) 2 p = 0
    · have hz' : g 4 p = 0 := by rw [p4]; exact hz
      have hk := hk.1 hz
      rw [b4, b3] at hk
      simp only [if_pos hz, if_pos hz']
      refine ⟨_, _, rfl, rfl, rfl, hk, rfl, rfl, rfl, rfl, rfl, rfl, rfl, ?_, fun k hk => ?_⟩
      · rw [up_zs]; rfl
      · simp only [zs_at, hk, if_true, if_false, Nat.reduceEqDiff]
    · have hz' : ¬ g 4 p = 0 := by rw [p4]; exact hz
      have hk := hk.2 hz
      simp only [if_neg hz, if_neg hz']
      refine ⟨_, _, rfl, rfl, rfl, hk, rfl, rfl, rfl, rfl, rfl, rfl, rfl, ?_, fun k hk => ?_⟩
      · rw [up_zs]; rfl
      · simp only [zs_at, hk, if_true, if_false, Nat.reduceEqDiff]
theorem zjn_if {γ : Type} (F : Int32 → Int32 → Int32 → zHV → Option γ) (c : Prop) [Decidable c] (x y z : Int32) (μ : zHV) (a : Int32) : (zjn F fun j => if c then j a x z μ else j a y z μ) = F a (if c then x else y) z μ := by
  rw [zjn_e]
  split <;> rfl
theorem zjn_i7 {γ : Type} (F : Int32 → Int32 → zHV → Option γ) (c : Prop) [Decidable c] (x y : Int32) (v : zHV) (a : Int32) : (zjn F fun j => if c then j x a v else j y a v) = F (if c then x else y) a v := by
  rw [zjn_e]
  split <;> rfl
theorem n_min1 {S : Nat} (h : S < 2147483648) : (if nI S ≤ 9999 then nI S else 9999) = nI (min S 9999) := by
  by_cases c : S ≤ 9999
  · rw [if_pos (show nI S ≤ 9999 from nI_le (b := 9999) c (by decide)), Nat.min_eq_left c]
  · rw [if_neg (show ¬ nI S ≤ 9999 from nI_ge (a := 9999) (by omega) h), Nat.min_eq_right (by omega)]; rfl
theorem n_min2 {S : Nat} (h : S < 2147483648) : (if 9999 < nI S then 9999 else nI S) = nI (min S 9999) := by
  by_cases c : S ≤ 9999
  · rw [if_neg (show ¬ 9999 < nI S from nI_nlt (a := 9999) c (by decide)), Nat.min_eq_left c]
  · rw [if_pos (show 9999 < nI S from nI_lt (a := 9999) (by omega) h), Nat.min_eq_right (by omega)]; rfl
theorem o_clap (p : Int32) : zOp (fun v => d_X2_takeClap v p) (fun μ => d_X8_doClap μ p) := by
  intro m A T N n v g μ hm h
  show ∃ (r : Int32) (v' g' : zHV) (A' T' N' n' : Nat), d_X2_takeClap v p = some (r, v') ∧ d_X8_doClap (zM5 μ g) p = some (r, zM5 μ g') ∧ zRel (m + 2) A' T' N' n' v' g'
  unfold d_X2_takeClap d_X8_doClap
  rcases seat_case p with ⟨e1, e2⟩ | ⟨p, hp, rfl, e1, e2⟩
  · rw [e1, e2]
    exact ⟨_, v, g, A, T, N, n, rfl, rfl, zRel_up (by omega) h⟩
  · have h' := h
    obtain ⟨ha, hb, hc, hd, he, hf, hg⟩ := h
    obtain ⟨hA, hT, hN, ea, et, en, hby, hen, ga, gt, gn, gh, ge, gb, go⟩ := hg
    have h10 : ¬ (1 : Int32) = 0 := by decide
    rw [e1, e2, zcl_e, zcl_e, if_neg h10, if_neg h10, L13, gh]
    by_cases hq : v 15 3 = -6
    · rw [if_pos hq, if_pos hq, if_pos rfl]
      exact ⟨_, v, g, A, T, N, n, rfl, rfl, zRel_up (by omega) h'⟩
    · rw [if_neg hq, if_neg hq, if_neg h10, L6, G0 μ g p hp, zcl_e]
      have gb := gb hq
      obtain ⟨q3, s3, l3, u3, e3⟩ := ha 3 (by decide)
      obtain ⟨b1, b2, b3, b4, b5⟩ := hb
      obtain ⟨p1, p2, p3, p4, p5, p6, ⟨lo, lo1, lo2, elo⟩, x, hx, ex⟩ := b1 p hp
      have hcl := zcn_lt (f := v 3) (p := p) (n := 30)
      have hb : zRb m (v 1) (v 2) (v 3) (v 4) (v 5) (v 6 0) (v 6 1) (v 6 2) (g 1) (g 2) (g 3) (g 4) (g 5) (g 6) (g 12) (g 0 18) := ⟨b1, b2, b3, b4, b5⟩
      have hS : A + 10 * lo < 2147483648 := by omega
      rw [zlet_n, R3_at _ _ (by decide) (by decide), zcl_e, zlet_n, zlet_n, zjn_if, zjn_i7, ga, p1, elo, nL_mul, nI_add, n_min1 hS]
      rw [S6]
      obtain ⟨e', g', k1, k2, k3, k4, k7, k8, k9, k10, k11, k13, k14, k15, k0⟩ := b_claps (e := zh v 1) (g := zs g 0 6 (nI (min (A + 10 * lo) 9999))) (μ := μ) (p := p) (f := if v 0 3 < v 15 1 - v 15 4 then 0 else 1) hm hp hb (by
        show _ ∧ g 14 3 < g 0 7 - g 0 14 ∨ _ ∧ ¬ g 14 3 < g 0 7 - g 0 14
        rw [q3, gt, ge, et]
        by_cases c : v 0 3 < nI T - v 15 4
        · exact Or.inl ⟨if_pos c, c⟩
        · exact Or.inr ⟨if_neg c, c⟩)
      rw [k1, k2, zup_e, zup_e]
      simp only [zq_at, Nat.reduceLeDiff, Nat.reduceLT, Nat.reduceAdd, Nat.reduceSub, if_true, if_false]
      rw [R0_add _ _ _ (by decide) (by decide), zup_e, show zr (zq v 1 6 e') 13 (upd (v 13) 0 (v 13 0 + 1)) 1 = e' 0 from rfl, k3, show zh v 1 0 = v 1 from rfl, r_at 30 _ p hp (by decide), zcl_e, elo]
      simp only [zlet_n]
      rw [nL_mul, show zr (zq v 1 6 e') 13 (upd (v 13) 0 (v 13 0 + 1)) 15 0 = v 15 0 from rfl, ea, nI_add, n_min2 hS]
      refine b_fin (m := m + 1) (A := min (A + 10 * lo) 9999) (T := T) (N := N) (n := n) _ ?_ hq
      have h0 : ∀ k, ¬ k = 6 → zs g 0 6 (nI (min (A + 10 * lo) 9999)) 0 k = g 0 k := fun k hk => by rw [zs_at, if_pos rfl, if_neg hk]
      have he' := zRe_add 0 (by decide) he (by decide)
      refine ⟨?_, ?_, ?_, ?_, ?_, ?_, ?_⟩
      · rw [k14]; exact ha
      · exact k4
      · rw [k10, k11, k0 17 (by decide), h0 17 (by decide)]; exact hc
      · rw [k7, k8, k9]; exact hd
      · rw [k15]; exact he'
      · rw [k13, k0 19 (by decide), h0 19 (by decide)]; exact hf
      · rw [k0 6 (by decide), k0 7 (by decide), k0 8 (by decide), k0 13 (by decide), k0 14 (by decide), k0 15 (by decide), k0 16 (by decide), h0 7 (by decide), h0 8 (by decide), h0 13 (by decide), h0 14 (by decide), h0 15 (by decide), h0 16 (by decide)]
        exact ⟨by omega, hT, hN, rfl, et, en, hby, hen, rfl, gt, gn, gh, ge, fun _ => gb, go⟩
