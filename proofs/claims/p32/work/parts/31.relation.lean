/-! ===== the law's arrays: reads and writes at their places ===== -/
theorem Q0 {γ : Type} (q : Nat → Int32) (K : Int32 → Option γ) : zld 19 q 0 K = K (q 0) := zld_nI (k := 0) (by decide) (by decide)
theorem V0 {γ : Type} (q : Nat → Int32) (x : Int32) (K : (Nat → Int32) → Option γ) : zst 19 q 0 x K = K (upd q 0 x) := zst_nI (k := 0) (by decide) (by decide)
theorem Q1 {γ : Type} (q : Nat → Int32) (K : Int32 → Option γ) : zld 19 q 1 K = K (q 1) := zld_nI (k := 1) (by decide) (by decide)
theorem V1 {γ : Type} (q : Nat → Int32) (x : Int32) (K : (Nat → Int32) → Option γ) : zst 19 q 1 x K = K (upd q 1 x) := zst_nI (k := 1) (by decide) (by decide)
theorem Q2 {γ : Type} (q : Nat → Int32) (K : Int32 → Option γ) : zld 19 q 2 K = K (q 2) := zld_nI (k := 2) (by decide) (by decide)
theorem V2 {γ : Type} (q : Nat → Int32) (x : Int32) (K : (Nat → Int32) → Option γ) : zst 19 q 2 x K = K (upd q 2 x) := zst_nI (k := 2) (by decide) (by decide)
theorem Q3 {γ : Type} (q : Nat → Int32) (K : Int32 → Option γ) : zld 19 q 3 K = K (q 3) := zld_nI (k := 3) (by decide) (by decide)
theorem V3 {γ : Type} (q : Nat → Int32) (x : Int32) (K : (Nat → Int32) → Option γ) : zst 19 q 3 x K = K (upd q 3 x) := zst_nI (k := 3) (by decide) (by decide)
theorem Q4 {γ : Type} (q : Nat → Int32) (K : Int32 → Option γ) : zld 19 q 4 K = K (q 4) := zld_nI (k := 4) (by decide) (by decide)
theorem V4 {γ : Type} (q : Nat → Int32) (x : Int32) (K : (Nat → Int32) → Option γ) : zst 19 q 4 x K = K (upd q 4 x) := zst_nI (k := 4) (by decide) (by decide)
theorem Q5 {γ : Type} (q : Nat → Int32) (K : Int32 → Option γ) : zld 19 q 5 K = K (q 5) := zld_nI (k := 5) (by decide) (by decide)
theorem V5 {γ : Type} (q : Nat → Int32) (x : Int32) (K : (Nat → Int32) → Option γ) : zst 19 q 5 x K = K (upd q 5 x) := zst_nI (k := 5) (by decide) (by decide)
theorem Q6 {γ : Type} (q : Nat → Int32) (K : Int32 → Option γ) : zld 19 q 6 K = K (q 6) := zld_nI (k := 6) (by decide) (by decide)
theorem V6 {γ : Type} (q : Nat → Int32) (x : Int32) (K : (Nat → Int32) → Option γ) : zst 19 q 6 x K = K (upd q 6 x) := zst_nI (k := 6) (by decide) (by decide)
theorem Q7 {γ : Type} (q : Nat → Int32) (K : Int32 → Option γ) : zld 19 q 7 K = K (q 7) := zld_nI (k := 7) (by decide) (by decide)
theorem V7 {γ : Type} (q : Nat → Int32) (x : Int32) (K : (Nat → Int32) → Option γ) : zst 19 q 7 x K = K (upd q 7 x) := zst_nI (k := 7) (by decide) (by decide)
theorem Q8 {γ : Type} (q : Nat → Int32) (K : Int32 → Option γ) : zld 19 q 8 K = K (q 8) := zld_nI (k := 8) (by decide) (by decide)
theorem V8 {γ : Type} (q : Nat → Int32) (x : Int32) (K : (Nat → Int32) → Option γ) : zst 19 q 8 x K = K (upd q 8 x) := zst_nI (k := 8) (by decide) (by decide)
theorem Q9 {γ : Type} (q : Nat → Int32) (K : Int32 → Option γ) : zld 19 q 9 K = K (q 9) := zld_nI (k := 9) (by decide) (by decide)
theorem V9 {γ : Type} (q : Nat → Int32) (x : Int32) (K : (Nat → Int32) → Option γ) : zst 19 q 9 x K = K (upd q 9 x) := zst_nI (k := 9) (by decide) (by decide)
theorem Q10 {γ : Type} (q : Nat → Int32) (K : Int32 → Option γ) : zld 19 q 10 K = K (q 10) := zld_nI (k := 10) (by decide) (by decide)
theorem V10 {γ : Type} (q : Nat → Int32) (x : Int32) (K : (Nat → Int32) → Option γ) : zst 19 q 10 x K = K (upd q 10 x) := zst_nI (k := 10) (by decide) (by decide)
theorem Q11 {γ : Type} (q : Nat → Int32) (K : Int32 → Option γ) : zld 19 q 11 K = K (q 11) := zld_nI (k := 11) (by decide) (by decide)
theorem V11 {γ : Type} (q : Nat → Int32) (x : Int32) (K : (Nat → Int32) → Option γ) : zst 19 q 11 x K = K (upd q 11 x) := zst_nI (k := 11) (by decide) (by decide)
theorem Q12 {γ : Type} (q : Nat → Int32) (K : Int32 → Option γ) : zld 19 q 12 K = K (q 12) := zld_nI (k := 12) (by decide) (by decide)
theorem V12 {γ : Type} (q : Nat → Int32) (x : Int32) (K : (Nat → Int32) → Option γ) : zst 19 q 12 x K = K (upd q 12 x) := zst_nI (k := 12) (by decide) (by decide)
theorem Q13 {γ : Type} (q : Nat → Int32) (K : Int32 → Option γ) : zld 19 q 13 K = K (q 13) := zld_nI (k := 13) (by decide) (by decide)
theorem V13 {γ : Type} (q : Nat → Int32) (x : Int32) (K : (Nat → Int32) → Option γ) : zst 19 q 13 x K = K (upd q 13 x) := zst_nI (k := 13) (by decide) (by decide)
theorem Q14 {γ : Type} (q : Nat → Int32) (K : Int32 → Option γ) : zld 19 q 14 K = K (q 14) := zld_nI (k := 14) (by decide) (by decide)
theorem V14 {γ : Type} (q : Nat → Int32) (x : Int32) (K : (Nat → Int32) → Option γ) : zst 19 q 14 x K = K (upd q 14 x) := zst_nI (k := 14) (by decide) (by decide)
theorem Q15 {γ : Type} (q : Nat → Int32) (K : Int32 → Option γ) : zld 19 q 15 K = K (q 15) := zld_nI (k := 15) (by decide) (by decide)
theorem V15 {γ : Type} (q : Nat → Int32) (x : Int32) (K : (Nat → Int32) → Option γ) : zst 19 q 15 x K = K (upd q 15 x) := zst_nI (k := 15) (by decide) (by decide)
theorem Q16 {γ : Type} (q : Nat → Int32) (K : Int32 → Option γ) : zld 19 q 16 K = K (q 16) := zld_nI (k := 16) (by decide) (by decide)
theorem V16 {γ : Type} (q : Nat → Int32) (x : Int32) (K : (Nat → Int32) → Option γ) : zst 19 q 16 x K = K (upd q 16 x) := zst_nI (k := 16) (by decide) (by decide)
theorem Q17 {γ : Type} (q : Nat → Int32) (K : Int32 → Option γ) : zld 19 q 17 K = K (q 17) := zld_nI (k := 17) (by decide) (by decide)
theorem V17 {γ : Type} (q : Nat → Int32) (x : Int32) (K : (Nat → Int32) → Option γ) : zst 19 q 17 x K = K (upd q 17 x) := zst_nI (k := 17) (by decide) (by decide)
theorem Q18 {γ : Type} (q : Nat → Int32) (K : Int32 → Option γ) : zld 19 q 18 K = K (q 18) := zld_nI (k := 18) (by decide) (by decide)
theorem V18 {γ : Type} (q : Nat → Int32) (x : Int32) (K : (Nat → Int32) → Option γ) : zst 19 q 18 x K = K (upd q 18 x) := zst_nI (k := 18) (by decide) (by decide)
theorem nI_lit0 : (0 : Int32) = nI 0 := rfl
theorem e_lapses (q p : Nat → Int32) {k : Nat} (hk : k < 6) : d_L_lapses q p (nI k) = some (upd q 11 (q 11 + 1), upd p (3 * k + 1) (p (3 * k + 1) + 1)) := by
  unfold d_L_lapses
  simp only [zlet_n, nL_mul, nR_add]
  rw [zld_nI (by omega) (by decide), zst_nI (by omega) (by decide), Q11, V11]
/-- the masks' bits of clapping taken away from the place i on -/
def zmk (i : Nat) (a : Nat → Int32) : Nat → Int32 := fun k => if i ≤ k ∧ k < 30 then a k &&& 31 else a k
theorem zmk_30 (a : Nat → Int32) : zmk 30 a = a := by
  funext k
  unfold zmk
  rw [if_neg (by omega)]
theorem zmk_s {i : Nat} (hi : i < 30) (a : Nat → Int32) : zmk (i + 1) (upd a i (a i &&& 31)) = zmk i a := by
  funext k
  unfold zmk
  by_cases c : k = i
  · subst c
    rw [if_neg (by omega), pk_us, if_pos (by omega)]
  · rw [pk_un c]
    by_cases c2 : i + 1 ≤ k ∧ k < 30
    · rw [if_pos c2, if_pos (by omega)]
    · rw [if_neg c2, if_neg (by omega)]
theorem zmk_at {a : Nat → Int32} {k : Nat} (hk : k < 30) : zmk 0 a k = a k &&& 31 := by
  unfold zmk
  rw [if_pos (by omega)]
theorem e_mask (p x : Int32) (q pp : Nat → Int32) : ∀ d i f a, 30 - i = d → i ≤ 30 → d < f → lp_L_ends_43 p f x (nI i) q a pp = some (x, q, zmk i a, pp) := by
  intro d
  induction d with
  | zero =>
    intro i f a h1 h2 h3
    obtain ⟨f, rfl⟩ := fu h3
    obtain rfl : i = 30 := by omega
    show lpB_L_ends_43 p (lp_L_ends_43 p f) x (nI 30) q a pp = _
    unfold lpB_L_ends_43
    rw [if_pos (by decide), zmk_30]
  | succ d ih =>
    intro i f a h1 h2 h3
    obtain ⟨f, rfl⟩ := fu (by omega : 0 < f)
    show lpB_L_ends_43 p (lp_L_ends_43 p f) x (nI i) q a pp = _
    unfold lpB_L_ends_43
    rw [if_neg (show ¬ (30 : Int32) ≤ nI i from nI_ge (b := 30) (by omega) (by decide)), zld_nI (by omega) (by decide), zlet_n, zst_nI (by omega) (by decide), zlet_n, nI_p1, ih (i + 1) f _ (by omega) (by omega) (by omega), zmk_s (by omega)]
theorem e_ends (q a p : Nat → Int32) {k : Nat} (hk : k < 6) : d_L_ends q a p (nI k) = some (q 6, upd (upd (upd (upd q 6 0) 13 (q 7)) 14 (nI k)) 15 0, zmk 0 a, upd p (3 * k + 2) (p (3 * k + 2) + 1)) := by
  unfold d_L_ends
  simp only [Q6, V6, Q7, V13, V14, V15, zlet_n, nL_mul, nR_add]
  rw [zld_nI (by omega) (by decide), zst_nI (by omega) (by decide), show upd q 6 0 7 = q 7 from pk_un (by decide)]
  exact e_mask _ _ _ _ 30 0 zF _ rfl (by decide) (by decide)
/-- w closed up by a pair from the place j on -/
def zsh (j n : Nat) (w : Nat → Int32) : Nat → Int32 := fun k => if j ≤ k ∧ k < 2 * n then w (k + 2) else w k
theorem zsh_0 (j n e : Nat) (w : Nat → Int32) : (fun k => zsh (2 * e) n w (2 * k)) = zdr 0 (2 * e) n (fun k => w (2 * k)) := by
  funext k
  unfold zsh zdr
  by_cases c : 2 * e ≤ 2 * k + 0 ∧ k < n
  · rw [if_pos c, if_pos (by omega)]
    show w (2 * k + 2) = w (2 * (k + 1))
    rw [show 2 * (k + 1) = 2 * k + 2 by omega]
  · rw [if_neg c, if_neg (by omega)]
theorem zsh_1 (j n e : Nat) (w : Nat → Int32) : (fun k => zsh (2 * e) n w (2 * k + 1)) = zdr 1 (2 * e) n (fun k => w (2 * k + 1)) := by
  funext k
  unfold zsh zdr
  by_cases c : 2 * e ≤ 2 * k + 1 ∧ k < n
  · rw [if_pos c, if_pos (by omega)]
    show w (2 * k + 1 + 2) = w (2 * (k + 1) + 1)
    rw [show 2 * (k + 1) + 1 = 2 * k + 1 + 2 by omega]
  · rw [if_neg c, if_neg (by omega)]
theorem e_drop (p : Int32) (q : Nat → Int32) (n : Nat) (hn : n ≤ 7) (hq : q 16 = nI n) : ∀ d j f w, 2 * n - j = d → j ≤ 2 * n → d < f → lp_L_drops_12 p f (nI j) q w = some (q, zsh j n w) := by
  intro d
  induction d with
  | zero =>
    intro j f w h1 h2 h3
    obtain ⟨f, rfl⟩ := fu h3
    obtain rfl : j = 2 * n := by omega
    show lpB_L_drops_12 p (lp_L_drops_12 p f) (nI (2 * n)) q w = _
    unfold lpB_L_drops_12
    rw [Q16, hq, zlet_n, show (2 : Int32) * nI n = nI (2 * n) from nL_mul 2 n, if_pos (nI_le (Nat.le_refl _) (by omega))]
    congr 2
    funext k
    unfold zsh
    rw [if_neg (by omega)]
  | succ d ih =>
    intro j f w h1 h2 h3
    obtain ⟨f, rfl⟩ := fu (by omega : 0 < f)
    show lpB_L_drops_12 p (lp_L_drops_12 p f) (nI j) q w = _
    unfold lpB_L_drops_12
    rw [Q16, hq, zlet_n, show (2 : Int32) * nI n = nI (2 * n) from nL_mul 2 n, if_neg (nI_ge (by omega) (by omega)), zlet_n, show nI j + (2 : Int32) = nI (j + 2) from nR_add 2 j, zld_nI (by omega) (by decide), zst_nI (by omega) (by decide), zlet_n, nI_p1, ih (j + 1) f _ (by omega) (by omega) (by omega)]
    congr 2
    funext k
    unfold zsh
    by_cases c : k = j
    · subst c
      rw [if_neg (by omega), pk_us, if_pos (by omega)]
    · by_cases c2 : j + 1 ≤ k ∧ k < 2 * n
      · rw [if_pos c2, if_pos (by omega), pk_un (by omega)]
      · rw [if_neg c2, if_neg (by omega), pk_un c]
theorem e_drops {q w : Nat → Int32} {n e : Nat} (hn : n < 8) (he : e ≤ n) (hq : q 16 = nI (n + 1)) : d_L_drops q w (nI e) = some (upd q 16 (nI n), zsh (2 * e) n w) := by
  unfold d_L_drops
  rw [Q16, hq, zlet_n, nI_pred, V16, zlet_n, show (2 : Int32) * nI e = nI (2 * e) from nL_mul 2 e]
  exact e_drop _ _ n (by omega) (pk_us ..) (2 * n - 2 * e) (2 * e) zF _ rfl (by omega) (by unfold zF; omega)
/-! ===== the seats' masks ===== -/
def zAc (lo : Nat) (x z : Bool) : Nat := lo + (if x = true then 16 else 0) + (if z = true then 32 else 0)
theorem ac_15 : ∀ lo, lo < 10 → ∀ x z : Bool, nI (zAc lo x z) &&& 15 = nI lo := by decide +kernel
theorem ac_4 : ∀ lo, lo < 10 → ∀ x z : Bool, (nI (zAc lo x z) >>> (4 &&& 31)) &&& 1 = if x = true then 1 else 0 := by decide +kernel
theorem ac_5 : ∀ lo, lo < 10 → ∀ x z : Bool, nI (zAc lo x z) >>> (5 &&& 31) = if z = true then 1 else 0 := by decide +kernel
theorem ac_31 : ∀ lo, lo < 10 → ∀ x z : Bool, nI (zAc lo x z) &&& 31 = nI (zAc lo x false) := by decide +kernel
theorem ac_or : ∀ lo, lo < 10 → ∀ x z : Bool, nI (zAc lo x z) ||| 32 = nI (zAc lo x true) := by decide +kernel
theorem ac_xor : ∀ lo, lo < 10 → ∀ x z : Bool, nI (zAc lo x z) ^^^ 16 = nI (zAc lo (!x) z) := by decide +kernel
theorem ac_32 : ∀ lo, lo < 10 → ∀ x z : Bool, (32 ≤ nI (zAc lo x z)) ↔ z = true := by decide +kernel
theorem ac_set : ∀ lo, lo < 10 → ∀ y, y < 10 → ∀ x z : Bool, nI (zAc lo x z) - nI lo + nI y = nI (zAc y x z) := by decide +kernel
theorem ac_1 (x : Int32) (k : Nat) : (if x.toBitVec.getLsbD k = true then (1 : Int32) else 0) = zbt x k := rfl
/-! ===== the relation of a house v to the law's arrays s (q a e n t p w r c) ===== -/
def zLb (m : Nat) (v1 v2 v3 v4 v5 : Nat → Int32) (c y z : Int32) (a e n t r : Nat → Int32) (gc : Int32) : Prop :=
  (∀ k, k < 30 → (∃ lo, 1 ≤ lo ∧ lo ≤ 9 ∧ v1 k = nI lo ∧ a k = nI (zAc lo (y.toBitVec.getLsbD k) (z.toBitVec.getLsbD k))) ∧ e k = v2 k ∧ n k = v3 k ∧ t k = v4 k ∧ ∃ x, x ≤ m ∧ v3 k = nI x) ∧
  (∃ x, x < 2 ^ 30 ∧ y = nI x) ∧ c = nI (zcn v3 30) ∧ gc = c ∧ ∀ k, k < zcn v3 30 → r k = v5 k
def zLg (A T N : Nat) (a t n by_ ed en : Int32) (q : Nat → Int32) : Prop :=
  A ≤ 9999 ∧ T ≤ 99999 ∧ N ≤ 99 ∧ a = nI A ∧ t = nI T ∧ n = nI N ∧ (by_ = -6 ∨ ∃ p, p < 6 ∧ by_ = nI p) ∧ (en = 0 ∨ en = 1) ∧ q 6 = nI A ∧ q 7 = nI T ∧ q 8 = nI N ∧ (by_ = -6 → q 13 = -1) ∧ (¬ by_ = -6 → q 13 = ed ∧ q 14 = by_ ∧ ∃ d, d ≤ T ∧ ed = nI d) ∧ q 15 = en
def zLR (m A T N n : Nat) (v s : zHV) : Prop :=
  zRa (v 0) (s 0) ∧ zLb m (v 1) (v 2) (v 3) (v 4) (v 5) (v 6 0) (v 6 1) (v 6 2) (s 1) (s 2) (s 3) (s 4) (s 7) (s 0 17) ∧
  zRc n T (v 7) (v 8) (v 12 0) (fun k => s 6 (2 * k)) (fun k => s 6 (2 * k + 1)) (s 0 16) ∧ zRd (v 9) (v 10) (v 11) (fun k => s 5 (3 * k)) (fun k => s 5 (3 * k + 1)) (fun k => s 5 (3 * k + 2)) ∧
  (∀ k, k < 4 → s 0 (9 + k) = v 13 k) ∧ zRf N (v 14) (s 8) (s 0 18) ∧ zLg A T N (v 15 0) (v 15 1) (v 15 2) (v 15 3) (v 15 4) (v 15 5) (s 0)
theorem zLb_up {m m' : Nat} {v1 v2 v3 v4 v5 : Nat → Int32} {c y z : Int32} {a e n t r : Nat → Int32} {gc : Int32} (hm : m ≤ m') (h : zLb m v1 v2 v3 v4 v5 c y z a e n t r gc) : zLb m' v1 v2 v3 v4 v5 c y z a e n t r gc := by
  refine ⟨fun k hk => ?_, h.2⟩
  obtain ⟨q1, q2, q3, q4, x, hx, q8⟩ := h.1 k hk
  exact ⟨q1, q2, q3, q4, x, by omega, q8⟩
theorem zLR_up {m m' A T N n : Nat} {v s : zHV} (hm : m ≤ m') (h : zLR m A T N n v s) : zLR m' A T N n v s := ⟨h.1, zLb_up hm h.2.1, h.2.2⟩
/-- a house that is the same in its rows is related alike -/
theorem zLR_cong {m A T N n : Nat} {v s v' : zHV} (hv : ∀ i k, k < zN5 i → v' i k = v i k) (h : zLR m A T N n v s) : zLR m A T N n v' s := by
  obtain ⟨ha, ⟨b1, b2, b3, b4, b5⟩, ⟨c1, c2, c3, c4⟩, hd, he, ⟨f1, f2⟩, hg⟩ := h
  have hz : zcn (v' 3) 30 = zcn (v 3) 30 := zcn_cong 30 (fun k hk => hv 3 k hk)
  have hl := zcn_le (v 3) 30
  refine ⟨fun k hk => ?_, ⟨fun k hk => ?_, ?_, ?_, ?_, fun k hk => ?_⟩, ⟨c1, ?_, c3, fun k hk => ?_⟩, fun k hk => ?_, fun k hk => ?_, ⟨f1, fun r i hr hi => ?_⟩, ?_⟩
  · rw [hv 0 k hk]; exact ha k hk
  · rw [hv 1 k hk, hv 2 k hk, hv 3 k hk, hv 4 k hk, hv 6 1 (by decide), hv 6 2 (by decide)]; exact b1 k hk
  · rw [hv 6 1 (by decide)]; exact b2
  · rw [hv 6 0 (by decide), hz]; exact b3
  · rw [hv 6 0 (by decide)]; exact b4
  · rw [hz] at hk
    rw [hv 5 k (show k < 30 by omega)]; exact b5 k hk
  · rw [hv 12 0 (by decide)]; exact c2
  · have hk8 : k < 8 := by omega
    rw [hv 7 k hk8, hv 8 k hk8]; exact c4 k hk
  · rw [hv 9 k hk, hv 10 k hk, hv 11 k hk]; exact hd k hk
  · rw [hv 13 k hk]; exact he k hk
  · have h2 : 4 * ((N - 1 - r) % 6) + i < 24 := by omega
    rw [hv 14 _ h2]; exact f2 r i hr hi
  · rw [hv 15 0 (by decide), hv 15 1 (by decide), hv 15 2 (by decide), hv 15 3 (by decide), hv 15 4 (by decide), hv 15 5 (by decide)]; exact hg
/-- nine arrays as one -/
def z9 (q a e n t p w r c : Nat → Int32) : zHV := fun i => match i with | 0 => q | 1 => a | 2 => e | 3 => n | 4 => t | 5 => p | 6 => w | 7 => r | _ => c
/-- what a call leaves: related again, and as it was if it failed -/
def zOut (m T N : Nat) (r : Int32) (v' s s' : zHV) : Prop := ∃ A' T' N' n', zLR (m + 2) A' T' N' n' v' s' ∧ (r < 0 → s' = s) ∧ T' ≤ T + 99 ∧ N' ≤ N + 1
theorem perf_ok : ∀ k, k < 6 → d_X7_isPerformer (nI k) = some 1 := by decide +kernel
theorem seat_ok : ∀ k, k < 30 → d_X7_isSeat (nI k) = some 1 := by decide +kernel
theorem nI_notneg {a : Nat} (ha : a < 2147483648) : ¬ nI a < 0 := nI_pos ha
theorem s_q (s : zHV) (q : Nat → Int32) : z9 q (s 1) (s 2) (s 3) (s 4) (s 5) (s 6) (s 7) (s 8) 0 = q := rfl
