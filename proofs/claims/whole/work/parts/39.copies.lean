/-! ===== the whole relation; history: put aside, keep, push ===== -/
def zS1 (m : Nat) (v : zHV) (s : Nat → Int32) : Prop := ∃ A T N n, zRel m A T N n v (zD5 s)
def zS2 (w0 : Nat → Int32) (wl : Int32) (p5 : Nat → Int32) (pl : Int32) : Prop := ∃ L, L ≤ 80 ∧ wl = nI L ∧ pl = nI L ∧ ∀ k, k < L → w0 k = p5 k
def zS3 (m : Nat) (u : zHI) (p2 : Nat → Int32) (pk : Int32) : Prop := ∃ K x, K ≤ 6 ∧ x ≤ 6 ∧ u 7 0 1 = nI K ∧ pk = nI K ∧ u 7 0 0 = nI x ∧ ∀ i, i < K → zS1 m (u ((x + 7 - K + i) % 7)) (fun k => p2 (288 * i + k))
def zS4 (m : Nat) (q : zHI) (p3 p4 : Nat → Int32) : Prop := ∀ k, k < 2 → q 2 0 k = p4 k ∧ (p4 k = 0 ∨ p4 k = 1) ∧ (p4 k = 1 → zS1 m (q k) (fun i => p3 (288 * k + i)))
def zSim : Nat → zHV → zHV → zHI → zHI → zHV → Prop := fun j v w u q μ => zS1 (20000 * j) v (μ 0) ∧ zS2 (w 0) (w 1 0) (μ 5) (μ 6 1) ∧ zS3 (20000 * j) u (μ 2) (μ 6 0) ∧ zS4 (20000 * j) q (μ 3) (μ 4)
theorem zS1_up {m m' : Nat} {v : zHV} {s : Nat → Int32} (hm : m ≤ m') (h : zS1 m v s) : zS1 m' v s := by
  obtain ⟨A, T, N, n, h⟩ := h
  exact ⟨A, T, N, n, zRel_up hm h⟩
theorem zS3_up {m m' : Nat} {u : zHI} {p2 : Nat → Int32} {pk : Int32} (hm : m ≤ m') (h : zS3 m u p2 pk) : zS3 m' u p2 pk := by
  obtain ⟨K, x, h1, h2, h3, h4, h5, h6⟩ := h
  exact ⟨K, x, h1, h2, h3, h4, h5, fun i hi => zS1_up hm (h6 i hi)⟩
theorem zS4_up {m m' : Nat} {q : zHI} {p3 p4 : Nat → Int32} (hm : m ≤ m') (h : zS4 m q p3 p4) : zS4 m' q p3 p4 := fun k hk => ⟨(h k hk).1, (h k hk).2.1, fun e => zS1_up hm ((h k hk).2.2 e)⟩
theorem zSim_up {j : Nat} {v w : zHV} {u q : zHI} {μ : zHV} (h : zSim j v w u q μ) : zSim (j + 1) v w u q μ := ⟨zS1_up (by omega) h.1, h.2.1, zS3_up (by omega) h.2.2.1, zS4_up (by omega) h.2.2.2⟩
theorem zD5_cong {s s' : Nat → Int32} (h : ∀ k, k < 288 → s k = s' k) : ∀ i k, k < zQ5 i → zD5 s i k = zD5 s' i k := by
  intro i k hk
  unfold zQ5 at hk
  unfold zD5
  by_cases c14 : i = 14
  · subst c14; rw [if_pos rfl, if_pos rfl]; exact h _ (by simp at hk; omega)
  · rw [if_neg c14, if_neg c14]
    by_cases c15 : i = 15
    · subst c15; rw [if_pos rfl, if_pos rfl]; exact h _ (by simp at hk; omega)
    · rw [if_neg c15, if_neg c15]
      by_cases c0 : i = 0
      · rw [if_pos c0] at hk; rw [if_pos c0, if_pos c0]; exact h _ (by omega)
      · rw [if_neg c0] at hk; rw [if_neg c0, if_neg c0]
        by_cases c7 : i < 7
        · rw [if_pos c7] at hk; rw [if_pos c7, if_pos c7]; exact h _ (by omega)
        · rw [if_neg c7] at hk; rw [if_neg c7, if_neg c7]
          by_cases c10 : i < 10
          · rw [if_pos c10] at hk; rw [if_pos c10, if_pos c10]; exact h _ (by omega)
          · rw [if_neg c10] at hk; rw [if_neg c10, if_neg c10]
            by_cases c12 : i < 12
            · rw [if_pos c12] at hk; rw [if_pos c12, if_pos c12]; exact h _ (by omega)
            · rw [if_neg c12] at hk; rw [if_neg c12, if_neg c12]
              by_cases d12 : i = 12
              · rw [if_pos d12] at hk; rw [if_pos d12, if_pos d12]; exact h _ (by omega)
              · rw [if_neg d12] at hk; rw [if_neg d12, if_neg d12]
                by_cases d13 : i = 13
                · rw [if_pos d13] at hk; exact h _ (by omega)
                · rw [if_neg d13, if_neg c14, if_neg c15] at hk; omega
theorem zS1_cong {m : Nat} {v v' : zHV} {s s' : Nat → Int32} (hv : ∀ i k, k < zN5 i → v' i k = v i k) (hs : ∀ k, k < 288 → s' k = s k) (h : zS1 m v s) : zS1 m v' s' := by
  obtain ⟨A, T, N, n, h⟩ := h
  exact ⟨A, T, N, n, zRel_cong hv (fun i k hk _ => zD5_cong hs i k hk) h⟩
theorem zS1_en {m : Nat} {v : zHV} {s : Nat → Int32} (h : zS1 m v s) : v 15 5 = 0 ∨ v 15 5 = 1 := by
  obtain ⟨A, T, N, n, h⟩ := h
  exact h.2.2.2.2.2.2.2.2.2.2.2.2.2.1
theorem r_copy (n : Nat) (f g : Nat → Int32) (hn : n < 2147483648) : d_X5_copyFrom n f n g = some (va_cpy g f 0 0 n) := by
  unfold d_X5_copyFrom zcp
  rw [if_neg (nI_nlt (Nat.le_refl n) hn), zlet_n, if_pos ⟨by decide, by decide, nI_pos hn, by rw [nI_cl hn]; exact Nat.le_of_eq (Nat.zero_add n), by rw [nI_cl hn]; exact Nat.le_of_eq (Nat.zero_add n)⟩, nI_cl hn]
  rfl
theorem cpy_at {n k : Nat} {f g : Nat → Int32} (hk : k < n) : va_cpy g f 0 0 n k = g k := by
  rw [pk_cpy_in (Nat.zero_le k) (by omega), Nat.zero_add, Nat.sub_zero]
theorem b_copy (a b : zHV) (hb : b 15 5 = 0 ∨ b 15 5 = 1) : ∃ h, d_X2_copyFrom a b = some h ∧ ∀ i k, k < zN5 i → h i k = b i k := by
  unfold d_X2_copyFrom d_X6_copyFrom d_X0_copyFrom
  simp only [r_copy _ _ _ (show (6 : Nat) < 2147483648 from by decide), r_copy _ _ _ (show (30 : Nat) < 2147483648 from by decide), r_copy _ _ _ (show (8 : Nat) < 2147483648 from by decide), r_copy _ _ _ (show (4 : Nat) < 2147483648 from by decide), r_copy _ _ _ (show (24 : Nat) < 2147483648 from by decide), zup_e, zlet_n]
  unfold zgb
  rw [if_pos hb]
  refine ⟨_, rfl, fun i k hk => ?_⟩
  match i, hk with
  | 0, hk => exact cpy_at hk
  | 1, hk => exact cpy_at hk
  | 2, hk => exact cpy_at hk
  | 3, hk => exact cpy_at hk
  | 4, hk => exact cpy_at hk
  | 5, hk => exact cpy_at hk
  | 6, hk =>
    match k, hk with
    | 0, _ => rfl
    | 1, _ => rfl
    | 2, _ => rfl
    | k + 3, hk => exact absurd hk (by show ¬ k + 3 < 3; omega)
  | 7, hk => exact cpy_at hk
  | 8, hk => exact cpy_at hk
  | 9, hk => exact cpy_at hk
  | 10, hk => exact cpy_at hk
  | 11, hk => exact cpy_at hk
  | 12, hk =>
    match k, hk with
    | 0, _ => rfl
    | k + 1, hk => exact absurd hk (by show ¬ k + 1 < 1; omega)
  | 13, hk => exact cpy_at hk
  | 14, hk => exact cpy_at hk
  | 15, hk =>
    match k, hk with
    | 0, _ => rfl
    | 1, _ => rfl
    | 2, _ => rfl
    | 3, _ => rfl
    | 4, _ => rfl
    | 5, _ => rfl
    | k + 6, hk => exact absurd hk (by show ¬ k + 6 < 6; omega)
  | i + 16, hk =>
    have : zN5 (i + 16) = 0 := by
      unfold zN5
      simp only [show ¬ i + 16 = 0 by omega, show ¬ i + 16 < 6 by omega, show ¬ i + 16 = 6 by omega, show ¬ i + 16 < 9 by omega, show ¬ i + 16 < 12 by omega, show ¬ i + 16 = 12 by omega, show ¬ i + 16 = 13 by omega, show ¬ i + 16 = 14 by omega, show ¬ i + 16 = 15 by omega, if_false]
    rw [this] at hk
    exact absurd hk (by omega)
theorem zr_zr (v : zHV) (i : Nat) (f g : Nat → Int32) : zr (zr v i f) i g = zr v i g := by
  funext a
  unfold zr
  split <;> rfl
theorem zk7_nI {γ : Type} {k : Nat} (K : Nat → Option γ) (h : k < 7) : zk7 (nI k) K = K k := by
  unfold zk7
  rw [nI_toInt (by omega), if_pos ⟨by omega, by omega⟩, nI_cl (by omega)]
/-- the class puts its house aside -/
theorem b_aside {m : Nat} {v : zHV} {s : Nat → Int32} {u : zHI} {x : Nat} (h : zS1 m v s) (hx : u 7 0 0 = nI x) (hx6 : x ≤ 6) : ∃ hh, d_X1_setAside v u = some (zui u x hh) ∧ ∀ i k, k < zN5 i → hh i k = v i k := by
  obtain ⟨hh, h1, h2⟩ := b_copy (u x) v (zS1_en h)
  refine ⟨hh, ?_, h2⟩
  unfold d_X1_setAside
  rw [hx, zk7_nI _ (by omega), h1, zcl_e]
theorem q_put (μ : zHV) : ∀ d i f (F : Nat → Int32), 288 - i = d → i ≤ 288 → d < f → lp_X8_putAside_2 f (nI i) (zr μ 1 F) = some (zr μ 1 (fun k => if i ≤ k ∧ k < 288 then μ 0 k else F k)) := by
  intro d
  induction d with
  | zero =>
    intro i f F h1 h2 h3
    obtain ⟨f, rfl⟩ := fu h3
    obtain rfl : i = 288 := by omega
    show lpB_X8_putAside_2 (lp_X8_putAside_2 f) (nI 288) (zr μ 1 F) = _
    unfold lpB_X8_putAside_2
    rw [if_pos (by decide)]
    congr 2
    funext k
    rw [if_neg (by omega)]
  | succ d ih =>
    intro i f F h1 h2 h3
    obtain ⟨f, rfl⟩ := fu (by omega : 0 < f)
    show lpB_X8_putAside_2 (lp_X8_putAside_2 f) (nI i) (zr μ 1 F) = _
    unfold lpB_X8_putAside_2
    rw [if_neg (show ¬ (288 : Int32) ≤ nI i from nI_ge (b := 288) (by omega) (by decide)), zld_nI (by omega) (by decide), zsv_nI (by omega) (by decide), zlet_n, nI_p1]
    have e : zr (zr μ 1 F) 1 (upd (zr μ 1 F 1) i (zr μ 1 F 0 i)) = zr μ 1 (upd F i (μ 0 i)) := zr_zr _ _ _ _
    rw [e, ih (i + 1) f _ (by omega) (by omega) (by omega)]
    congr 2
    funext k
    by_cases c : k = i
    · subst c
      rw [if_neg (by omega), pk_us, if_pos (by omega)]
    · by_cases c2 : i + 1 ≤ k ∧ k < 288
      · rw [if_pos c2, if_pos (by omega)]
      · rw [if_neg c2, if_neg (by omega), pk_un c]
theorem b_put (μ : zHV) : ∃ F, d_X8_putAside μ = some (zr μ 1 F) ∧ ∀ k, k < 288 → F k = μ 0 k := by
  refine ⟨fun k => if 0 ≤ k ∧ k < 288 then μ 0 k else μ 1 k, ?_, fun k hk => if_pos ⟨Nat.zero_le k, hk⟩⟩
  have e : zr μ 1 (μ 1) = μ := by
    funext a
    rw [zr_at]
    split
    · next q => rw [q]
    · rfl
  have := q_put μ 288 0 zF (μ 1) rfl (by decide) (by decide)
  rw [e] at this
  exact this
theorem q_psh (μ : zHV) (J : zHV → Option zHV) : ∀ d i f (F : Nat → Int32), 1440 - i = d → i ≤ 1440 → d < f → lp_X8_push_11 J f (nI i) (zr μ 2 F) = J (zs (zr μ 2 (fun k => if i ≤ k ∧ k < 1440 then F (k + 288) else F k)) 6 0 (μ 6 0 - 1)) := by
  intro d
  induction d with
  | zero =>
    intro i f F h1 h2 h3
    obtain ⟨f, rfl⟩ := fu h3
    obtain rfl : i = 1440 := by omega
    show lpB_X8_push_11 J (lp_X8_push_11 J f) (nI 1440) (zr μ 2 F) = _
    unfold lpB_X8_push_11
    rw [if_pos (by decide), zlet_n, zlet_n]
    have e : (fun k => if 1440 ≤ k ∧ k < 1440 then F (k + 288) else F k) = F := by
      funext k
      rw [if_neg (by omega)]
    rw [e]
    rfl
  | succ d ih =>
    intro i f F h1 h2 h3
    obtain ⟨f, rfl⟩ := fu (by omega : 0 < f)
    show lpB_X8_push_11 J (lp_X8_push_11 J f) (nI i) (zr μ 2 F) = _
    unfold lpB_X8_push_11
    rw [if_neg (show ¬ (1440 : Int32) ≤ nI i from nI_ge (b := 1440) (by omega) (by decide)), zlet_n, nR_add, zld_nI (by omega) (by decide), zsv_nI (by omega) (by decide), zlet_n, nI_p1]
    have e : zr (zr μ 2 F) 2 (upd (zr μ 2 F 2) i (zr μ 2 F 2 (i + 288))) = zr μ 2 (upd F i (F (i + 288))) := zr_zr _ _ _ _
    rw [e, ih (i + 1) f _ (by omega) (by omega) (by omega)]
    congr 3
    funext k
    by_cases c : k = i
    · subst c
      rw [if_neg (by omega), pk_us, if_pos (by omega)]
    · by_cases c2 : i + 1 ≤ k ∧ k < 1440
      · rw [if_pos c2, if_pos (by omega), pk_un (by omega)]
      · rw [if_neg c2, if_neg (by omega), pk_un c]
theorem q_psc (μ : zHV) (K : Nat) (hK : K ≤ 5) (hk : μ 6 0 = nI K) : ∀ d i f (F : Nat → Int32), 288 - i = d → i ≤ 288 → d < f → lp_X8_push_52 f (nI i) (zr μ 2 F) = some (zs (zr μ 2 (fun k => if 288 * K + i ≤ k ∧ k < 288 * K + 288 then μ 1 (k - 288 * K) else F k)) 6 0 (nI (K + 1))) := by
  intro d
  induction d with
  | zero =>
    intro i f F h1 h2 h3
    obtain ⟨f, rfl⟩ := fu h3
    obtain rfl : i = 288 := by omega
    show lpB_X8_push_52 (lp_X8_push_52 f) (nI 288) (zr μ 2 F) = _
    unfold lpB_X8_push_52
    rw [if_pos (by decide), zlet_n, zlet_n]
    have e : (fun k => if 288 * K + 288 ≤ k ∧ k < 288 * K + 288 then μ 1 (k - 288 * K) else F k) = F := by
      funext k
      rw [if_neg (by omega)]
    rw [e, show zr μ 2 F 6 0 = nI K from hk, nI_1]
  | succ d ih =>
    intro i f F h1 h2 h3
    obtain ⟨f, rfl⟩ := fu (by omega : 0 < f)
    show lpB_X8_push_52 (lp_X8_push_52 f) (nI i) (zr μ 2 F) = _
    unfold lpB_X8_push_52
    rw [if_neg (show ¬ (288 : Int32) ≤ nI i from nI_ge (b := 288) (by omega) (by decide)), show zr μ 2 F 6 0 = nI K from hk]
    simp only [zlet_n]
    rw [nR_mul, nI_add, zld_nI (by omega) (by decide), zsv_nI (by omega) (by decide), nI_p1]
    have e : zr (zr μ 2 F) 2 (upd (zr μ 2 F 2) (K * 288 + i) (zr μ 2 F 1 i)) = zr μ 2 (upd F (K * 288 + i) (μ 1 i)) := zr_zr _ _ _ _
    rw [e, ih (i + 1) f _ (by omega) (by omega) (by omega)]
    congr 3
    funext k
    by_cases c : k = K * 288 + i
    · subst c
      rw [if_neg (by omega), pk_us, if_pos (by omega)]
      congr 1; omega
    · by_cases c2 : 288 * K + (i + 1) ≤ k ∧ k < 288 * K + 288
      · rw [if_pos c2, if_pos (by omega)]
      · rw [if_neg c2, if_neg (by omega), pk_un c]
theorem b_push (μ : zHV) {K : Nat} (hK : K ≤ 6) (hk : μ 6 0 = nI K) : ∃ F, d_X8_push μ = some (zs (zr μ 2 F) 6 0 (nI (min (K + 1) 6))) ∧ (∀ x, x < 288 → F (288 * (min (K + 1) 6 - 1) + x) = μ 1 x) ∧ ∀ i x, i < min (K + 1) 6 - 1 → x < 288 → F (288 * i + x) = μ 2 (288 * (i + (K + 1 - min (K + 1) 6)) + x) := by
  unfold d_X8_push
  rw [zjn_e, hk]
  have e2 : ∀ μ : zHV, zr μ 2 (μ 2) = μ := fun μ => by
    funext a
    rw [zr_at]
    split
    · next q => rw [q]
    · rfl
  by_cases c : K = 6
  · subst c
    rw [if_pos (by decide)]
    have h1 := q_psh μ (fun v => lp_X8_push_52 zF 0 v) 1440 0 zF (μ 2) rfl (by decide) (by decide)
    rw [e2] at h1
    rw [show lp_X8_push_11 (fun v => lp_X8_push_52 zF 0 v) zF 0 μ = lp_X8_push_11 (fun v => lp_X8_push_52 zF 0 v) zF (nI 0) μ from rfl, h1]
    have h2 := q_psc (zs (zr μ 2 (fun k => if 0 ≤ k ∧ k < 1440 then μ 2 (k + 288) else μ 2 k)) 6 0 (μ 6 0 - 1)) 5 (by decide) (by
      rw [zs_at, if_pos rfl, if_pos rfl, hk]; decide) 288 0 zF (zs (zr μ 2 (fun k => if 0 ≤ k ∧ k < 1440 then μ 2 (k + 288) else μ 2 k)) 6 0 (μ 6 0 - 1) 2) rfl (by decide) (by decide)
    rw [e2] at h2
    refine ⟨fun k => if 288 * 5 + 0 ≤ k ∧ k < 288 * 5 + 288 then μ 1 (k - 288 * 5) else (if 0 ≤ k ∧ k < 1440 then μ 2 (k + 288) else μ 2 k), ?_, fun x hx => ?_, fun i x hi hx => ?_⟩
    · refine Eq.trans h2 (congrArg some ?_)
      funext a b
      rw [zs_at, zs_at]
      by_cases q : a = 6
      · rw [if_pos q, if_pos q]
        by_cases q2 : b = 0
        · rw [if_pos q2, if_pos q2]; rfl
        · rw [if_neg q2, if_neg q2, q, zr_at, if_neg (by decide), zr_at, if_neg (by decide), zs_at, if_pos rfl, if_neg q2, zr_at, if_neg (by decide)]
      · rw [if_neg q, if_neg q, zr_at, zr_at]
        by_cases q2 : a = 2
        · rw [if_pos q2, if_pos q2]; rfl
        · rw [if_neg q2, if_neg q2, zs_at, if_neg q, zr_at, if_neg q2]
    · show (if 288 * 5 + 0 ≤ 288 * (6 - 1) + x ∧ 288 * (6 - 1) + x < 288 * 5 + 288 then μ 1 (288 * (6 - 1) + x - 288 * 5) else _) = _
      rw [if_pos (by omega)]
      exact congrArg (μ 1) (by omega)
    · have hi : i < 5 := hi
      show (if 288 * 5 + 0 ≤ 288 * i + x ∧ 288 * i + x < 288 * 5 + 288 then _ else (if 0 ≤ 288 * i + x ∧ 288 * i + x < 1440 then μ 2 (288 * i + x + 288) else _)) = _
      rw [if_neg (by omega), if_pos (by omega)]
      exact congrArg (μ 2) (show 288 * i + x + 288 = 288 * (i + (6 + 1 - 6)) + x by omega)
  · rw [if_neg (show ¬ nI K = 6 from fun q => c ((nI_eq (b := 6) (by omega) (by decide)).mp q))]
    have h2 := q_psc μ K (by omega) hk 288 0 zF (μ 2) rfl (by decide) (by decide)
    rw [e2] at h2
    rw [show min (K + 1) 6 = K + 1 by omega]
    refine ⟨_, h2, fun x hx => ?_, fun i x hi hx => ?_⟩
    · show (if 288 * K + 0 ≤ 288 * (K + 1 - 1) + x ∧ 288 * (K + 1 - 1) + x < 288 * K + 288 then μ 1 (288 * (K + 1 - 1) + x - 288 * K) else _) = _
      rw [if_pos (by omega)]
      congr 1; omega
    · show (if 288 * K + 0 ≤ 288 * i + x ∧ 288 * i + x < 288 * K + 288 then _ else μ 2 (288 * i + x)) = _
      rw [if_neg (by omega)]
      congr 1; omega
theorem zD5_E5 (g : zHV) : ∀ i k, k < zQ5 i → (i = 0 → 6 ≤ k ∧ (k < 9 ∨ 13 ≤ k)) → zD5 (zE5 g) i k = g i k := by
  intro i k hk h0
  unfold zQ5 at hk
  unfold zD5
  by_cases c14 : i = 14
  · subst c14; rw [if_pos rfl]; exact zE5_14 g k (by simp at hk; omega)
  · rw [if_neg c14]
    by_cases c15 : i = 15
    · subst c15; rw [if_pos rfl]; exact zE5_15 g k (by simp at hk; omega)
    · rw [if_neg c15]
      by_cases c0 : i = 0
      · rw [if_pos c0] at hk; rw [if_pos c0, c0]; exact zE5_0 g k (by omega) (h0 c0).1 (h0 c0).2
      · rw [if_neg c0] at hk; rw [if_neg c0]
        by_cases c7 : i < 7
        · rw [if_pos c7] at hk; rw [if_pos c7, zE5_1 g k (i - 1) (by omega) (by omega), show 1 + (i - 1) = i by omega]
        · rw [if_neg c7] at hk; rw [if_neg c7]
          by_cases c10 : i < 10
          · rw [if_pos c10] at hk; rw [if_pos c10, zE5_7 g k (i - 7) (by omega) (by omega), show 7 + (i - 7) = i by omega]
          · rw [if_neg c10] at hk; rw [if_neg c10]
            by_cases c12 : i < 12
            · rw [if_pos c12] at hk; rw [if_pos c12, zE5_10 g k (i - 10) (by omega) (by omega), show 10 + (i - 10) = i by omega]
            · rw [if_neg c12] at hk; rw [if_neg c12]
              by_cases d12 : i = 12
              · rw [if_pos d12] at hk; rw [if_pos d12, zE5_12 g k (by omega), d12]
              · rw [if_neg d12] at hk; rw [if_neg d12]
                by_cases d13 : i = 13
                · rw [zE5_13, d13]
                · rw [if_neg d13, if_neg c14, if_neg c15] at hk; omega
