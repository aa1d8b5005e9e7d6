theorem zs_at (v : zHV) (i k : Nat) (x : Int32) (a b : Nat) : zs v i k x a b = if a = i then (if b = k then x else v a b) else v a b := rfl
theorem zr_at (v : zHV) (i : Nat) (f : Nat → Int32) (a : Nat) : zr v i f a = if a = i then f else v a := rfl
theorem zq_at (v : zHV) (i n : Nat) (w : zHV) (a : Nat) : zq v i n w a = if i ≤ a then (if a < i + n then w (a - i) else v a) else v a := rfl
theorem zh_at (v : zHV) (i a : Nat) : zh v i a = v (i + a) := rfl
theorem zu_at (f : Nat → Int32) (k : Nat) (x : Int32) (j : Nat) : upd f k x j = if j = k then x else f j := rfl
/-- an act of the house and the same act of the reference: the same answer, and related after -/
def zOp (d7 d8 : zHV → Option (Int32 × zHV)) : Prop := ∀ (m A T N n : Nat) (v g μ : zHV), m < 100000000 → zRel m A T N n v g → ∃ (r : Int32) (v' g' : zHV) (A' T' N' n' : Nat), d7 v = some (r, v') ∧ d8 (zM5 μ g) = some (r, zM5 μ g') ∧ zRel (m + 2) A' T' N' n' v' g'
theorem zRe_add {m n : Nat} {v13 g15 : Nat → Int32} (k : Nat) (hk : k < 4) (h : zRe m n v13 g15) (hk2 : k ≠ 2) : zRe (m + 1) n (upd v13 k (v13 k + 1)) (upd g15 k (g15 k + 1)) := by
  obtain ⟨h1, ⟨a0, b0, c0⟩, ⟨a1, b1, c1⟩, ⟨a2, b2, c2⟩, a3, b3, c3⟩ := h
  have key : ∀ j a, a ≤ m → v13 j = nI a → ∃ a', a' ≤ m + 1 ∧ upd v13 k (v13 k + 1) j = nI a' := fun j a ha e => by
    by_cases q : j = k
    · subst q
      rw [pk_us, e, nI_1]; exact ⟨a + 1, by omega, rfl⟩
    · rw [pk_un q, e]; exact ⟨a, by omega, rfl⟩
  refine ⟨fun j hj => ?_, key 0 a0 b0 c0, key 1 a1 b1 c1, ⟨a2, by omega, ?_⟩, key 3 a3 b3 c3⟩
  · by_cases q : j = k
    · subst q
      rw [pk_us, pk_us, h1 _ hj]
    · rw [pk_un q, pk_un q, h1 j hj]
  · rw [pk_un (by omega), c2]
theorem up_zs (g : zHV) (i k : Nat) (x : Int32) : zs g i k x i = upd (g i) k x := by
  funext j
  rw [zs_at, if_pos rfl]; rfl
theorem zRb_up {m m' : Nat} {v1 v2 v3 v4 v5 : Nat → Int32} {c y z : Int32} {g1 g2 g3 g4 g5 g6 g12 : Nat → Int32} {gc : Int32} (hm : m ≤ m') (h : zRb m v1 v2 v3 v4 v5 c y z g1 g2 g3 g4 g5 g6 g12 gc) : zRb m' v1 v2 v3 v4 v5 c y z g1 g2 g3 g4 g5 g6 g12 gc := by
  refine ⟨fun k hk => ?_, h.2⟩
  obtain ⟨q1, q2, q3, q4, q5, q6, q7, x, hx, q8⟩ := h.1 k hk
  exact ⟨q1, q2, q3, q4, q5, q6, q7, x, by omega, q8⟩
theorem zdv_nI {γ : Type} {a d : Nat} {K : Int32 → Option γ} (ha : a < 2147483648) (h0 : 0 < d) (hd : d < 2147483648) : zdv (nI a) (nI d) K = K (nI (a / d)) := by
  unfold zdv
  rw [if_neg (nI_ne0 h0 hd), pk_div ha h0 hd]
theorem o_call : zOp d_X2_takeCurtain d_X8_doCall := by
  intro m A T N n v g μ hm ⟨ha, hb, hc, hd, he, hf, hg⟩
  obtain ⟨q5, s5, l5, u5, e5⟩ := ha 5 (by decide)
  obtain ⟨hA, hT, hN, ea, et, en, hby, hen, ga, gt, gn, gh, ge, gb, go⟩ := hg
  have hs5 : s5 ≤ 900 := u5
  unfold d_X2_takeCurtain d_X8_doCall
  simp only [zcl_e, zlet_n, zup_e, R5_at, R3_add, L5, L6, S6, L12, S12, zs_at, zr_at, Nat.reduceLT, Nat.reduceEqDiff, if_true, if_false, reduceIte, ea, ga, q5, e5]
  by_cases h : s5 ≤ A
  · have h2 : nI s5 ≤ nI A := nI_le h (by omega)
    rw [if_pos h2, if_pos h2]
    rw [show (2 : Int32) = nI 2 from rfl, zdv_nI (by omega) (by decide) (by decide), zdv_nI (by omega) (by decide) (by decide)]
    exact ⟨_, _, _, A / 2, T, N, n, rfl, rfl, zRel_up (show m + 1 ≤ m + 2 by omega) ⟨ha, zRb_up (by omega) hb, hc, hd, zRe_add 3 (by decide) he (by decide), hf, ⟨by omega, hT, hN, rfl, et, en, hby, hen, rfl, gt, gn, gh, ge, gb, go⟩⟩⟩
  · have h2 : ¬ nI s5 ≤ nI A := nI_ge (by omega) (by omega)
    rw [if_neg h2, if_neg h2]
    exact ⟨_, v, g, A, T, N, n, rfl, rfl, zRel_up (by omega) ⟨ha, hb, hc, hd, he, hf, ⟨hA, hT, hN, ea, et, en, hby, hen, ga, gt, gn, gh, ge, gb, go⟩⟩⟩
theorem l10a {γ : Type} (μ g : zHV) (k : Nat) (K : Int32 → Option γ) (h : k < 8) : zld 288 (zM5 μ g 0) (nI (218 + 2 * k)) K = K (g 10 k) := l10 μ g k 0 K h (by decide)
theorem l10b {γ : Type} (μ g : zHV) (k : Nat) (K : Int32 → Option γ) (h : k < 8) : zld 288 (zM5 μ g 0) (nI (218 + 2 * k + 1)) K = K (g 11 k) := l10 μ g k 1 K h (by decide)
theorem s10a {γ : Type} (μ g : zHV) (k : Nat) (x : Int32) (K : zHV → Option γ) (h : k < 8) : zsv 288 (zM5 μ g) 0 (nI (218 + 2 * k)) x K = K (zM5 μ (zs g 10 k x)) := s10 μ g k 0 x K h (by decide)
theorem s10b {γ : Type} (μ g : zHV) (k : Nat) (x : Int32) (K : zHV → Option γ) (h : k < 8) : zsv 288 (zM5 μ g) 0 (nI (218 + 2 * k + 1)) x K = K (zM5 μ (zs g 11 k x)) := s10 μ g k 1 x K h (by decide)
theorem l7a {γ : Type} (μ g : zHV) (k : Nat) (K : Int32 → Option γ) (h : k < 6) : zld 288 (zM5 μ g 0) (nI (200 + 3 * k)) K = K (g 7 k) := l7 μ g k 0 K h (by decide)
theorem l7z {γ : Type} (μ g : zHV) (k : Nat) (K : Int32 → Option γ) (h : k < 6) : zld 288 (zM5 μ g 0) (nI (200 + 3 * k + 0)) K = K (g 7 k) := l7 μ g k 0 K h (by decide)
theorem l7b {γ : Type} (μ g : zHV) (k : Nat) (K : Int32 → Option γ) (h : k < 6) : zld 288 (zM5 μ g 0) (nI (200 + 3 * k + 1)) K = K (g 8 k) := l7 μ g k 1 K h (by decide)
theorem l7c {γ : Type} (μ g : zHV) (k : Nat) (K : Int32 → Option γ) (h : k < 6) : zld 288 (zM5 μ g 0) (nI (200 + 3 * k + 2)) K = K (g 9 k) := l7 μ g k 2 K h (by decide)
theorem s7a {γ : Type} (μ g : zHV) (k : Nat) (x : Int32) (K : zHV → Option γ) (h : k < 6) : zsv 288 (zM5 μ g) 0 (nI (200 + 3 * k)) x K = K (zM5 μ (zs g 7 k x)) := s7 μ g k 0 x K h (by decide)
theorem s7z {γ : Type} (μ g : zHV) (k : Nat) (x : Int32) (K : zHV → Option γ) (h : k < 6) : zsv 288 (zM5 μ g) 0 (nI (200 + 3 * k + 0)) x K = K (zM5 μ (zs g 7 k x)) := s7 μ g k 0 x K h (by decide)
theorem s7b {γ : Type} (μ g : zHV) (k : Nat) (x : Int32) (K : zHV → Option γ) (h : k < 6) : zsv 288 (zM5 μ g) 0 (nI (200 + 3 * k + 1)) x K = K (zM5 μ (zs g 8 k x)) := s7 μ g k 1 x K h (by decide)
theorem s7c {γ : Type} (μ g : zHV) (k : Nat) (x : Int32) (K : zHV → Option γ) (h : k < 6) : zsv 288 (zM5 μ g) 0 (nI (200 + 3 * k + 2)) x K = K (zM5 μ (zs g 9 k x)) := s7 μ g k 2 x K h (by decide)
theorem nI_m6 {a : Nat} (ha : a < 2147483648) : ¬ nI a = -6 := fun h => by have h2 := nI_n6 ha; rw [h2] at h; exact h
