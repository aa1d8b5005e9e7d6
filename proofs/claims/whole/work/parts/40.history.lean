/-! ===== a recorded call: the class keeps what it put aside, the reference pushes ===== -/
theorem mod_lem {x K K' i : Nat} (hx : x ≤ 6) (hK : K ≤ 6) (hK' : K' = min (K + 1) 6) (hi : i < K' - 1) : ((x + 1) % 7 + 7 - K' + i) % 7 = (x + 7 - K + (i + (K + 1 - K'))) % 7 ∧ ¬ ((x + 1) % 7 + 7 - K' + i) % 7 = x ∧ i + (K + 1 - K') < K := by omega
theorem mod_lem2 {x K' : Nat} (hx : x ≤ 6) (h1 : 1 ≤ K') (hK' : K' ≤ 6) : ((x + 1) % 7 + 7 - K' + (K' - 1)) % 7 = x := by omega
/-- what was put aside is kept: one more state of history on both sides -/
theorem b_kept {m m' : Nat} {v hh : zHV} {u : zHI} {s p2 F : Nat → Int32} {r : Int32} {K x : Nat} (hm : m ≤ m') (hS : zS1 m v s) (hh1 : ∀ i k, k < zN5 i → hh i k = v i k) (hK : K ≤ 6) (hx : x ≤ 6) (hu1 : u 7 0 1 = nI K) (hu0 : u 7 0 0 = nI x)
    (h6 : ∀ i, i < K → zS1 m (u ((x + 7 - K + i) % 7)) (fun k => p2 (288 * i + k))) (hr : ¬ r < 0)
    (hF1 : ∀ x, x < 288 → F (288 * (min (K + 1) 6 - 1) + x) = s x) (hF2 : ∀ i x, i < min (K + 1) 6 - 1 → x < 288 → F (288 * i + x) = p2 (288 * (i + (K + 1 - min (K + 1) 6)) + x)) :
    ∃ u', d_X1_keepUnlessError (zui u x hh) r = some (r, u') ∧ zS3 m' u' F (nI (min (K + 1) 6)) := by
  unfold d_X1_keepUnlessError
  have a0 : zui u x hh 7 = u 7 := by
    unfold zui
    rw [if_neg (by omega)]
  rw [if_neg hr, a0, hu0, nI_1, zlet_n]
  unfold zrm
  rw [if_neg (by decide), show (7 : Int32) = nI 7 from rfl, pk_rem (by omega) (by decide) (by decide)]
  simp only [zlet_n]
  have a1 : zsi (zui u x hh) 0 (nI ((x + 1) % 7)) 7 0 1 = nI K := by
    unfold zsi
    rw [if_pos rfl, zs_at, if_pos rfl, if_neg (by decide), a0, hu1]
  rw [a1, nI_1]
  have a2 : (if 6 < nI (K + 1) then 6 else nI (K + 1)) = nI (min (K + 1) 6) := by
    by_cases c : K + 1 ≤ 6
    · rw [if_neg (show ¬ 6 < nI (K + 1) from nI_nlt (a := 6) c (by decide)), Nat.min_eq_left c]
    · rw [if_pos (show 6 < nI (K + 1) from nI_lt (a := 6) (by omega) (by omega)), Nat.min_eq_right (by omega)]; rfl
  rw [a2]
  refine ⟨_, rfl, min (K + 1) 6, (x + 1) % 7, by omega, by omega, ?_, rfl, ?_, fun i hi => ?_⟩
  · unfold zsi
    rw [if_pos rfl, zs_at, if_pos rfl, if_pos rfl]
  · unfold zsi
    rw [if_pos rfl, zs_at, if_pos rfl, if_neg (by decide), if_pos rfl, zs_at, if_pos rfl, if_pos rfl]
  · have b0 : ∀ j, ¬ j = 7 → zsi (zsi (zui u x hh) 0 (nI ((x + 1) % 7))) 1 (nI (min (K + 1) 6)) j = zui u x hh j := fun j hj => by
      unfold zsi
      rw [if_neg hj, if_neg hj]
    have hj7 : ¬ ((x + 1) % 7 + 7 - min (K + 1) 6 + i) % 7 = 7 := by omega
    rw [b0 _ hj7]
    unfold zui
    by_cases c : i = min (K + 1) 6 - 1
    · subst c
      rw [mod_lem2 hx (by omega) (by omega), if_pos rfl]
      exact zS1_up hm (zS1_cong hh1 (fun k hk => hF1 k hk) hS)
    · obtain ⟨e1, e2, e3⟩ := mod_lem (i := i) hx hK rfl (by omega)
      rw [if_neg e2, e1]
      exact zS1_up hm (zS1_cong (fun _ _ _ => rfl) (fun k hk => hF2 i k (by omega) hk) (h6 _ e3))
theorem zr_ne (v : zHV) {i a : Nat} (f : Nat → Int32) (h : ¬ a = i) : zr v i f a = v a := if_neg h
/-- an act, recorded on both sides -/
theorem b_rec {j : Nat} {v w : zHV} {u q : zHI} {μ : zHV} {d7 d8 : zHV → Option (Int32 × zHV)} (hj : j < 512) (hd : zOp d7 d8) (h : zSim j v w u q μ) : ∃ (r : Int32) (v1 : zHV) (u1 : zHI) (μ1 : zHV),
    (zup (d_X1_setAside v u) (fun z9 => z9) fun u8 => zup2 (d7 v) (fun z9 => z9) fun t21 v21 => zup2 (d_X1_keepUnlessError u8 t21) (fun z9 => z9) fun t24 u24 => some (t24, v21, u24)) = some (r, v1, u1) ∧
    (zup (d_X8_putAside μ) (fun u => u) fun v1 => zup2 (d8 v1) (fun u => u) fun t7 v7 => zup2 (d_X8_recorded v7 t7) (fun u => u) fun t10 v10 => some (t10, v10)) = some (r, μ1) ∧ zSim (j + 1) v1 w u1 q μ1 := by
  obtain ⟨h1, h2, ⟨K, x, hK, hx, k1, k2, k3, k4⟩, h4⟩ := h
  obtain ⟨hh, a1, a2⟩ := b_aside h1 k3 hx
  obtain ⟨F, f1, f2⟩ := b_put μ
  have h1' := h1
  obtain ⟨A, T, N, n, hR⟩ := h1
  obtain ⟨r, v', g', A', T', N', n', e7, e8, hR'⟩ := hd (20000 * j) A T N n v (zD5 (μ 0)) (zr μ 1 F) (by omega) hR
  have e0 : zM5 (zr μ 1 F) (zD5 (μ 0)) = zr μ 1 F := zM5_self (zr μ 1 F)
  rw [e0] at e8
  rw [a1, f1, zup_e, zup_e, e7, e8, zup2_e, zup2_e]
  unfold d_X8_recorded
  have hS1 : zS1 (20000 * (j + 1)) v' (zE5 g') := by
    refine ⟨A', T', N', n', zRel_up (m := 20000 * j + 2) (by omega) (zRel_cong (fun _ _ _ => rfl) ?_ hR')⟩
    intro i k hk h0
    exact zD5_E5 g' i k hk h0
  by_cases hr : r < 0
  · rw [if_pos hr, zup2_e]
    unfold d_X1_keepUnlessError
    rw [if_pos hr, zup2_e]
    refine ⟨_, _, _, _, rfl, rfl, hS1, h2, ?_, zS4_up (by omega) h4⟩
    refine ⟨K, x, hK, hx, ?_, k2, ?_, fun i hi => ?_⟩
    · unfold zui; rw [if_neg (by omega)]; exact k1
    · unfold zui; rw [if_neg (by omega)]; exact k3
    · unfold zui
      rw [if_neg (by omega)]
      exact zS1_up (by omega) (k4 i hi)
  · rw [if_neg hr]
    obtain ⟨G, g1, g2, g3⟩ := b_push (zM5 (zr μ 1 F) g') hK (show zM5 (zr μ 1 F) g' 6 0 = nI K from k2)
    obtain ⟨u', u1, u2⟩ := b_kept (m' := 20000 * (j + 1)) (F := G) (s := μ 0) (p2 := μ 2) (r := r) (by omega) h1' a2 hK hx k1 k3 k4 hr (fun y hy => (g2 y hy).trans (f2 y hy)) g3
    rw [g1, zup_e, u1, zup2_e, zup2_e]
    exact ⟨_, _, _, _, rfl, rfl, hS1, h2, u2, zS4_up (by omega) h4⟩
