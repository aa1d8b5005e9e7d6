/-! ===== bits of a mask, and how many of thirty are not 0 ===== -/
def zbt (x : Int32) (k : Nat) : Int32 := if x.toBitVec.getLsbD k then 1 else 0
theorem zb_sh : ∀ k : Nat, k < 30 → ((nI k &&& 31).toBitVec.smod 32).toNat = k := by decide +kernel
theorem zb_bit : ∀ b : Bool, ∀ i : Nat, i < 32 → (if b = true then (1 : Int32) else 0).toBitVec.getLsbD i = (b && decide (i = 0)) := by decide +kernel
theorem zb_shr (x : Int32) (k : Nat) (h : k < 30) : (x >>> (nI k &&& 31)) &&& 1 = zbt x k := by
  unfold zbt
  apply Int32.toBitVec_inj.mp
  rw [Int32.toBitVec_and, Int32.toBitVec_shiftRight, BitVec.sshiftRight_eq', zb_sh k h]
  apply BitVec.eq_of_getLsbD_eq
  intro i hi
  rw [zb_bit _ i hi, BitVec.getLsbD_and, BitVec.getLsbD_sshiftRight, show (1 : Int32).toBitVec = 1#32 from rfl, BitVec.getLsbD_one]
  by_cases hi0 : i = 0
  · subst hi0
    rw [if_pos (by omega)]
    simp
  · simp [hi0]
theorem zb_shl (k : Nat) (h : k < 30) : (1 : Int32) <<< (nI k &&& 31) = nI (2 ^ k) := by
  have := pk_shlN (n := 1) (nI k &&& 31) k (zb_sh k h) (by rw [Nat.one_mul]; exact Nat.pow_lt_pow_right (by decide) (by omega))
  rw [Nat.one_mul] at this
  exact this
theorem zb_one (k i : Nat) (h : k < 30) (hi : i < 32) : (nI (2 ^ k)).toBitVec.getLsbD i = decide (i = k) := by
  have e : (nI (2 ^ k)).toBitVec = BitVec.twoPow 32 k := by
    apply BitVec.eq_of_toNat_eq
    rw [pk_tn (Nat.pow_lt_pow_right (by decide) (by omega)), BitVec.toNat_twoPow, Nat.mod_eq_of_lt (Nat.pow_lt_pow_right (by decide) (by omega))]
  rw [e, BitVec.getLsbD_twoPow]
  by_cases c : i = k
  · subst c; simp [hi]
  · simp [c, show ¬ k = i from fun q => c q.symm]
theorem zb_xor (x : Int32) (k i : Nat) (h : k < 30) (hi : i < 30) : zbt (x ^^^ ((1 : Int32) <<< (nI k &&& 31))) i = if i = k then 1 - zbt x k else zbt x i := by
  rw [zb_shl k h]
  unfold zbt
  rw [Int32.toBitVec_xor, BitVec.getLsbD_xor, zb_one k i h (by omega)]
  by_cases c : i = k
  · subst c; cases x.toBitVec.getLsbD i <;> simp
  · simp [c]
theorem zb_or (x : Int32) (k i : Nat) (h : k < 30) (hi : i < 30) : zbt (x ||| ((1 : Int32) <<< (nI k &&& 31))) i = if i = k then 1 else zbt x i := by
  rw [zb_shl k h]
  unfold zbt
  rw [Int32.toBitVec_or, BitVec.getLsbD_or, zb_one k i h (by omega)]
  by_cases c : i = k
  · subst c; simp
  · simp [c]
theorem zb_0 (k : Nat) : zbt 0 k = 0 := by
  unfold zbt
  rw [show (0 : Int32).toBitVec = 0#32 from rfl, BitVec.getLsbD_zero]
  rfl
theorem zb_01 (x : Int32) (k : Nat) : zbt x k = 0 ∨ zbt x k = 1 := by
  unfold zbt
  split
  · exact Or.inr rfl
  · exact Or.inl rfl
theorem zb_xorB (n k : Nat) (h : k < 30) (hn : n < 2 ^ 30) : ∃ n', n' < 2 ^ 30 ∧ nI n ^^^ ((1 : Int32) <<< (nI k &&& 31)) = nI n' := by
  rw [zb_shl k h]
  refine ⟨n ^^^ 2 ^ k, Nat.xor_lt_two_pow hn (Nat.pow_lt_pow_right (by decide) h), ?_⟩
  apply Int32.toBitVec_inj.mp
  apply BitVec.eq_of_toNat_eq
  have h1 : (2 : Nat) ^ k < 2 ^ 30 := Nat.pow_lt_pow_right (by decide) h
  have h2 : n ^^^ 2 ^ k < 2 ^ 30 := Nat.xor_lt_two_pow hn h1
  rw [Int32.toBitVec_xor, BitVec.toNat_xor, pk_tn (by omega), pk_tn (by omega), pk_tn (by omega)]
def zcn (f : Nat → Int32) : Nat → Nat
  | 0 => 0
  | n + 1 => zcn f n + (if f n = 0 then 0 else 1)
theorem zcn_le (f : Nat → Int32) : ∀ n, zcn f n ≤ n
  | 0 => Nat.le_refl 0
  | n + 1 => by
    have := zcn_le f n
    show zcn f n + (if f n = 0 then 0 else 1) ≤ n + 1
    split <;> omega
theorem zcn_cong {f g : Nat → Int32} : ∀ n, (∀ k, k < n → f k = g k) → zcn f n = zcn g n
  | 0, _ => rfl
  | n + 1, h => by
    show zcn f n + (if f n = 0 then 0 else 1) = zcn g n + (if g n = 0 then 0 else 1)
    rw [zcn_cong n (fun k hk => h k (by omega)), h n (by omega)]
theorem zcn_lt {f : Nat → Int32} {p : Nat} (hp : f p = 0) : ∀ n, p < n → zcn f n < n
  | 0, h => by omega
  | n + 1, h => by
    show zcn f n + (if f n = 0 then 0 else 1) < n + 1
    by_cases c : p = n
    · rw [← c, if_pos hp]; have := zcn_le f p; omega
    · have := zcn_lt hp n (by omega)
      split <;> omega
theorem zcn_up {f : Nat → Int32} {p : Nat} {x : Int32} (hx : ¬ x = 0) : ∀ n, p < n → zcn (upd f p x) n = zcn f n + (if f p = 0 then 1 else 0)
  | 0, h => by omega
  | n + 1, h => by
    show zcn (upd f p x) n + (if upd f p x n = 0 then 0 else 1) = zcn f n + (if f n = 0 then 0 else 1) + (if f p = 0 then 1 else 0)
    by_cases c : p = n
    · subst c
      rw [pk_us, if_neg hx, zcn_cong p (fun k hk => pk_un (by omega))]
      split <;> rfl
    · rw [pk_un (by omega), zcn_up hx n (by omega)]; omega
theorem zcn_0 {f : Nat → Int32} : ∀ n, (∀ k, k < n → f k = 0) → zcn f n = 0
  | 0, _ => rfl
  | n + 1, h => by
    show zcn f n + (if f n = 0 then 0 else 1) = 0
    rw [zcn_0 n (fun k hk => h k (by omega)), if_pos (h n (by omega))]
/-! ===== the relation of a house v to the rows g of a state ===== -/
def zSlo (k : Nat) : Nat := if k = 1 then 20 else if k = 3 then 0 else 1
def zShi (k : Nat) : Nat := if k = 0 then 50 else if k = 2 then 300 else if k = 3 then 9 else if k = 4 then 9 else 900
/-- settings -/
def zRa (v0 g14 : Nat → Int32) : Prop := ∀ k, k < 6 → g14 k = v0 k ∧ ∃ x, zSlo k ≤ x ∧ x ≤ zShi k ∧ v0 k = nI x
/-- seats: loud, early, tonight, so far, clappers; how many clapped, who paid, who clapped for the piece -/
def zRb (m : Nat) (v1 v2 v3 v4 v5 : Nat → Int32) (c y z : Int32) (g1 g2 g3 g4 g5 g6 g12 : Nat → Int32) (gc : Int32) : Prop :=
  (∀ k, k < 30 → g1 k = v1 k ∧ g2 k = zbt y k ∧ g3 k = v2 k ∧ g4 k = v3 k ∧ g5 k = zbt z k ∧ g6 k = v4 k ∧ (∃ x, 1 ≤ x ∧ x ≤ 9 ∧ v1 k = nI x) ∧ ∃ x, x ≤ m ∧ v3 k = nI x) ∧
  (∃ x, x < 2 ^ 30 ∧ y = nI x) ∧ c = nI (zcn v3 30) ∧ gc = c ∧ ∀ k, k < zcn v3 30 → g12 k = v5 k
/-- what is owed -/
def zRc (n T : Nat) (v7 v8 : Nat → Int32) (c : Int32) (g10 g11 : Nat → Int32) (gc : Int32) : Prop :=
  n ≤ 8 ∧ c = nI n ∧ gc = nI n ∧ ∀ k, k < n → g10 k = v7 k ∧ g11 k = v8 k ∧ (∃ p, p < 6 ∧ v7 k = nI p) ∧ ∃ t, t ≤ T ∧ v8 k = nI t
/-- performers -/
def zRd (v9 v10 v11 g7 g8 g9 : Nat → Int32) : Prop := ∀ k, k < 6 → g7 k = v9 k ∧ g8 k = v10 k ∧ g9 k = v11 k
/-- tonight's four -/
def zRe (m n : Nat) (v13 g15 : Nat → Int32) : Prop := (∀ k, k < 4 → g15 k = v13 k) ∧ (∃ a, a ≤ m ∧ v13 0 = nI a) ∧ (∃ a, a ≤ m ∧ v13 1 = nI a) ∧ (∃ a, a + n ≤ m ∧ v13 2 = nI a) ∧ ∃ a, a ≤ m ∧ v13 3 = nI a
/-- records -/
def zRf (N : Nat) (v14 g13 : Nat → Int32) (gr : Int32) : Prop := gr = nI (min N 6) ∧ ∀ r i, r < min N 6 → i < 4 → g13 (4 * r + i) = v14 (4 * ((N - 1 - r) % 6) + i)
/-- the house's own numbers -/
def zRg (A T N : Nat) (a t n by_ ed en ga gt gn gh ge gb go : Int32) : Prop :=
  A ≤ 9999 ∧ T ≤ 99999 ∧ N ≤ 99 ∧ a = nI A ∧ t = nI T ∧ n = nI N ∧ (by_ = -6 ∨ ∃ p, p < 6 ∧ by_ = nI p) ∧ (en = 0 ∨ en = 1) ∧
  ga = nI A ∧ gt = nI T ∧ gn = nI N ∧ gh = (if by_ = -6 then 0 else 1) ∧ ge = ed ∧ (¬ by_ = -6 → gb = by_) ∧ go = en
def zRel (m A T N n : Nat) (v g : zHV) : Prop :=
  zRa (v 0) (g 14) ∧ zRb m (v 1) (v 2) (v 3) (v 4) (v 5) (v 6 0) (v 6 1) (v 6 2) (g 1) (g 2) (g 3) (g 4) (g 5) (g 6) (g 12) (g 0 18) ∧
  zRc n T (v 7) (v 8) (v 12 0) (g 10) (g 11) (g 0 17) ∧ zRd (v 9) (v 10) (v 11) (g 7) (g 8) (g 9) ∧ zRe m n (v 13) (g 15) ∧ zRf N (v 14) (g 13) (g 0 19) ∧
  zRg A T N (v 15 0) (v 15 1) (v 15 2) (v 15 3) (v 15 4) (v 15 5) (g 0 6) (g 0 7) (g 0 8) (g 0 13) (g 0 14) (g 0 15) (g 0 16)
theorem zRel_up {m m' A T N n : Nat} {v g : zHV} (hm : m ≤ m') (h : zRel m A T N n v g) : zRel m' A T N n v g := by
  obtain ⟨ha, ⟨b1, b2⟩, hc, hd, ⟨e1, ⟨x0, y0, z0⟩, ⟨x1, y1, z1⟩, ⟨x2, y2, z2⟩, x3, y3, z3⟩, hf, hg⟩ := h
  refine ⟨ha, ⟨fun k hk => ?_, b2⟩, hc, hd, ⟨e1, ⟨x0, by omega, z0⟩, ⟨x1, by omega, z1⟩, ⟨x2, by omega, z2⟩, x3, by omega, z3⟩, hf, hg⟩
  obtain ⟨q1, q2, q3, q4, q5, q6, q7, x, hx, q8⟩ := b1 k hk
  exact ⟨q1, q2, q3, q4, q5, q6, q7, x, by omega, q8⟩
/-- how long a house's rows are; how long the state's -/
def zN5 (i : Nat) : Nat := if i = 0 then 6 else if i < 6 then 30 else if i = 6 then 3 else if i < 9 then 8 else if i < 12 then 6 else if i = 12 then 1 else if i = 13 then 4 else if i = 14 then 24 else if i = 15 then 6 else 0
def zQ5 (i : Nat) : Nat := if i = 0 then 20 else if i < 7 then 30 else if i < 10 then 6 else if i < 12 then 8 else if i = 12 then 30 else if i = 13 then 24 else if i = 14 then 6 else if i = 15 then 4 else 0
theorem zRel_cong {m A T N n : Nat} {v g v' g' : zHV} (hv : ∀ i k, k < zN5 i → v' i k = v i k) (hg : ∀ i k, k < zQ5 i → (i = 0 → 6 ≤ k ∧ (k < 9 ∨ 13 ≤ k)) → g' i k = g i k) (h : zRel m A T N n v g) : zRel m A T N n v' g' := by
  obtain ⟨ha, ⟨b1, b2, b3, b4, b5⟩, ⟨c1, c2, c3, c4⟩, hd, ⟨e1, e2, e3, e4, e5⟩, ⟨f1, f2⟩, hgg⟩ := h
  have hz : zcn (v' 3) 30 = zcn (v 3) 30 := zcn_cong 30 (fun k hk => hv 3 k hk)
  have hl := zcn_le (v 3) 30
  refine ⟨fun k hk => ?_, ⟨fun k hk => ?_, ?_, ?_, ?_, fun k hk => ?_⟩, ⟨c1, ?_, ?_, fun k hk => ?_⟩, fun k hk => ?_, ⟨fun k hk => ?_, ?_, ?_, ?_, ?_⟩, ⟨?_, fun r i hr hi => ?_⟩, ?_⟩
  · rw [hg 14 k hk (fun q => absurd q (by decide)), hv 0 k hk]; exact ha k hk
  · rw [hg 1 k hk (fun q => absurd q (by decide)), hg 2 k hk (fun q => absurd q (by decide)), hg 3 k hk (fun q => absurd q (by decide)), hg 4 k hk (fun q => absurd q (by decide)), hg 5 k hk (fun q => absurd q (by decide)), hg 6 k hk (fun q => absurd q (by decide)), hv 1 k hk, hv 2 k hk, hv 3 k hk, hv 4 k hk, hv 6 1 (by decide), hv 6 2 (by decide)]; exact b1 k hk
  · rw [hv 6 1 (by decide)]; exact b2
  · rw [hv 6 0 (by decide), hz]; exact b3
  · rw [hv 6 0 (by decide), hg 0 18 (by decide) (by decide)]; exact b4
  · rw [hz] at hk
    have hk3 : k < 30 := by omega
    rw [hg 12 k hk3 (fun q => absurd q (by decide)), hv 5 k hk3]; exact b5 k hk
  · rw [hv 12 0 (by decide)]; exact c2
  · rw [hg 0 17 (by decide) (by decide)]; exact c3
  · have hk8 : k < 8 := by omega
    rw [hg 10 k hk8 (fun q => absurd q (by decide)), hg 11 k hk8 (fun q => absurd q (by decide)), hv 7 k hk8, hv 8 k hk8]; exact c4 k hk
  · rw [hg 7 k hk (fun q => absurd q (by decide)), hg 8 k hk (fun q => absurd q (by decide)), hg 9 k hk (fun q => absurd q (by decide)), hv 9 k hk, hv 10 k hk, hv 11 k hk]; exact hd k hk
  · rw [hg 15 k hk (fun q => absurd q (by decide)), hv 13 k hk]; exact e1 k hk
  · rw [hv 13 0 (by decide)]; exact e2
  · rw [hv 13 1 (by decide)]; exact e3
  · rw [hv 13 2 (by decide)]; exact e4
  · rw [hv 13 3 (by decide)]; exact e5
  · rw [hg 0 19 (by decide) (by decide)]; exact f1
  · have h1 : 4 * r + i < 24 := by omega
    have h2 : 4 * ((N - 1 - r) % 6) + i < 24 := by omega
    rw [hg 13 _ h1 (fun q => absurd q (by decide)), hv 14 _ h2]; exact f2 r i hr hi
  · rw [hv 15 0 (by decide), hv 15 1 (by decide), hv 15 2 (by decide), hv 15 3 (by decide), hv 15 4 (by decide), hv 15 5 (by decide), hg 0 6 (by decide) (by decide), hg 0 7 (by decide) (by decide), hg 0 8 (by decide) (by decide), hg 0 13 (by decide) (by decide), hg 0 14 (by decide) (by decide), hg 0 15 (by decide) (by decide), hg 0 16 (by decide) (by decide)]; exact hgg
