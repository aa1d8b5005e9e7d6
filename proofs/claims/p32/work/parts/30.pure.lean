/-! ===== what serves of the whole proof: combinators, bits, counts, the house's loops ===== -/
theorem zlet_n {α β : Type} (a : α) (K : α → Option β) : zlet a K = K a := Option.some.inj (show some (zlet a K) = some (K a) from rfl)
theorem zcl_e {α β : Type} (a : α) (K : α → Option β) : zcl (some a) K = K a := Option.some.inj (show some (zcl (some a) K) = some (K a) from rfl)
theorem zup_e {α β γ : Type} (a : α) (g : α → β) (K : β → Option γ) : zup (some a) g K = K (g a) := Option.some.inj (show some (zup (some a) g K) = some (K (g a)) from rfl)
theorem zup2_e {α β γ δ : Type} (a : α) (b : β) (g : β → γ) (K : α → γ → Option δ) : zup2 (some (a, b)) g K = K a (g b) := Option.some.inj (show some (zup2 (some (a, b)) g K) = some (K a (g b)) from rfl)
theorem zjn_e {σ γ : Type} (F : σ) (K : σ → Option γ) : zjn F K = K F := Option.some.inj (show some (zjn F K) = some (K F) from rfl)
theorem zgb_0 {γ : Type} (K : Option γ) : zgb 0 K = K := if_pos (Or.inl rfl)
theorem zgb_1 {γ : Type} (K : Option γ) : zgb 1 K = K := if_pos (Or.inr rfl)
theorem nL_add (c k : Nat) : (no_index (OfNat.ofNat c) : Int32) + nI k = nI ((OfNat.ofNat c : Nat) + k) := nI_add c k
theorem nR_add (c k : Nat) : nI k + (no_index (OfNat.ofNat c) : Int32) = nI (k + (OfNat.ofNat c : Nat)) := nI_add k c
theorem nL_mul (c k : Nat) : (no_index (OfNat.ofNat c) : Int32) * nI k = nI ((OfNat.ofNat c : Nat) * k) := pk_mul c k
theorem nR_mul (c k : Nat) : nI k * (no_index (OfNat.ofNat c) : Int32) = nI (k * (OfNat.ofNat c : Nat)) := pk_mul k c
theorem nR_sub (c k : Nat) (h : (OfNat.ofNat c : Nat) ≤ k) : nI k - (no_index (OfNat.ofNat c) : Int32) = nI (k - (OfNat.ofNat c : Nat)) := pk_sub h
theorem nL_sub (c k : Nat) (h : k ≤ (OfNat.ofNat c : Nat)) : (no_index (OfNat.ofNat c) : Int32) - nI k = nI ((OfNat.ofNat c : Nat) - k) := pk_sub h
theorem nR_le {a c : Nat} (ha : a < 2147483648) (hc : (OfNat.ofNat c : Nat) < 2147483648) : (nI a ≤ (no_index (OfNat.ofNat c) : Int32)) = (a ≤ (OfNat.ofNat c : Nat)) := propext (nI_leI ha hc)
theorem nL_le {a c : Nat} (ha : a < 2147483648) (hc : (OfNat.ofNat c : Nat) < 2147483648) : ((no_index (OfNat.ofNat c) : Int32) ≤ nI a) = ((OfNat.ofNat c : Nat) ≤ a) := propext (nI_leI hc ha)
theorem nR_lt {a c : Nat} (ha : a < 2147483648) (hc : (OfNat.ofNat c : Nat) < 2147483648) : (nI a < (no_index (OfNat.ofNat c) : Int32)) = (a < (OfNat.ofNat c : Nat)) := propext (nI_ltI ha hc)
theorem nL_lt {a c : Nat} (ha : a < 2147483648) (hc : (OfNat.ofNat c : Nat) < 2147483648) : ((no_index (OfNat.ofNat c) : Int32) < nI a) = ((OfNat.ofNat c : Nat) < a) := propext (nI_ltI hc ha)
theorem nR_eq {a c : Nat} (ha : a < 2147483648) (hc : (OfNat.ofNat c : Nat) < 2147483648) : (nI a = (no_index (OfNat.ofNat c) : Int32)) = (a = (OfNat.ofNat c : Nat)) := propext (nI_eq ha hc)
theorem nN_le {a b : Nat} (ha : a < 2147483648) (hb : b < 2147483648) : (nI a ≤ nI b) = (a ≤ b) := propext (nI_leI ha hb)
theorem nN_lt {a b : Nat} (ha : a < 2147483648) (hb : b < 2147483648) : (nI a < nI b) = (a < b) := propext (nI_ltI ha hb)
theorem nN_eq {a b : Nat} (ha : a < 2147483648) (hb : b < 2147483648) : (nI a = nI b) = (a = b) := propext (nI_eq ha hb)
theorem nI_n6 {a : Nat} (ha : a < 2147483648) : (nI a = -6) = False := propext ⟨fun h => by have h2 := congrArg Int32.toInt h; rw [nI_toInt ha] at h2; rw [show ((-6 : Int32)).toInt = -6 from by decide] at h2; omega, False.elim⟩
theorem nS_eq (x : Int32) : (x = x) = True := propext ⟨fun _ => trivial, fun _ => rfl⟩
/-- an int is below 0, or past a bound, or one of the numbers below it -/
theorem nI_case (x : Int32) (n : Nat) (hn : n < 2147483648) : x < 0 ∨ (¬ x < 0 ∧ nI n ≤ x) ∨ ∃ j : Nat, j < n ∧ x = nI j := by
  by_cases h : x < 0
  · exact Or.inl h
  · obtain ⟨j, hj, rfl⟩ := nI_of h
    by_cases c : n ≤ j
    · exact Or.inr (Or.inl ⟨h, nI_le c hj⟩)
    · exact Or.inr (Or.inr ⟨j, by omega, rfl⟩)
theorem nI_neg {x : Int32} {c : Nat} (h : x < 0) (hc : c < 2147483648) : ¬ nI c ≤ x := by
  intro h2
  have h3 : x.toInt < 0 := Int32.lt_iff_toInt_lt.mp h
  have h4 : (nI c).toInt ≤ x.toInt := Int32.le_iff_toInt_le.mp h2
  rw [nI_toInt hc] at h4
  omega
theorem r_at (n : Nat) (f : Nat → Int32) (k : Nat) (h : k < n) (hn : n < 2147483648) : d_X5_at n f (nI k) = some (f k) := by
  unfold d_X5_at
  rw [if_neg (nI_pos (by omega)), if_neg (nI_ge h hn), zld_nI h hn]
theorem r_store (n : Nat) (f : Nat → Int32) (k : Nat) (x : Int32) (h : k < n) (hn : n < 2147483648) : d_X5_store n f (nI k) x = some (upd f k x) := d_store h hn
theorem r_add (n : Nat) (f : Nat → Int32) (k : Nat) (x : Int32) (h : k < n) (hn : n < 2147483648) : d_X5_add n f (nI k) x = some (upd f k (f k + x)) := by
  unfold d_X5_add
  rw [if_neg (nI_pos (by omega)), if_neg (nI_ge h hn), zld_nI h hn, zlet_n, zst_nI h hn]
theorem R0_at (n : Nat) (f : Nat → Int32) (h : 0 < n) (hn : n < 2147483648) : d_X5_at n f 0 = some (f 0) := r_at n f 0 h hn
theorem R0_add (n : Nat) (f : Nat → Int32) (x : Int32) (h : 0 < n) (hn : n < 2147483648) : d_X5_add n f 0 x = some (upd f 0 (f 0 + x)) := r_add n f 0 x h hn
theorem R1_at (n : Nat) (f : Nat → Int32) (h : 1 < n) (hn : n < 2147483648) : d_X5_at n f 1 = some (f 1) := r_at n f 1 h hn
theorem R1_add (n : Nat) (f : Nat → Int32) (x : Int32) (h : 1 < n) (hn : n < 2147483648) : d_X5_add n f 1 x = some (upd f 1 (f 1 + x)) := r_add n f 1 x h hn
theorem R2_at (n : Nat) (f : Nat → Int32) (h : 2 < n) (hn : n < 2147483648) : d_X5_at n f 2 = some (f 2) := r_at n f 2 h hn
theorem R2_add (n : Nat) (f : Nat → Int32) (x : Int32) (h : 2 < n) (hn : n < 2147483648) : d_X5_add n f 2 x = some (upd f 2 (f 2 + x)) := r_add n f 2 x h hn
theorem R3_at (n : Nat) (f : Nat → Int32) (h : 3 < n) (hn : n < 2147483648) : d_X5_at n f 3 = some (f 3) := r_at n f 3 h hn
theorem R3_add (n : Nat) (f : Nat → Int32) (x : Int32) (h : 3 < n) (hn : n < 2147483648) : d_X5_add n f 3 x = some (upd f 3 (f 3 + x)) := r_add n f 3 x h hn
theorem R4_at (n : Nat) (f : Nat → Int32) (h : 4 < n) (hn : n < 2147483648) : d_X5_at n f 4 = some (f 4) := r_at n f 4 h hn
theorem R4_add (n : Nat) (f : Nat → Int32) (x : Int32) (h : 4 < n) (hn : n < 2147483648) : d_X5_add n f 4 x = some (upd f 4 (f 4 + x)) := r_add n f 4 x h hn
theorem R5_at (n : Nat) (f : Nat → Int32) (h : 5 < n) (hn : n < 2147483648) : d_X5_at n f 5 = some (f 5) := r_at n f 5 h hn
theorem R5_add (n : Nat) (f : Nat → Int32) (x : Int32) (h : 5 < n) (hn : n < 2147483648) : d_X5_add n f 5 x = some (upd f 5 (f 5 + x)) := r_add n f 5 x h hn
theorem r_fill (n : Nat) (f : Nat → Int32) (x : Int32) (hn : n < 100000) : d_X5_fill n f x = some (zfil 0 n x f) := d_fill hn
theorem nI_lt_of_neg {x : Int32} {a : Nat} (h : x < 0) (ha : a < 2147483648) : x < nI a := by
  have h3 : x.toInt < 0 := Int32.lt_iff_toInt_lt.mp h
  exact Int32.lt_iff_toInt_lt.mpr (by rw [nI_toInt ha]; omega)

def zbt (x : Int32) (k : Nat) : Int32 := if x.toBitVec.getLsbD k then 1 else 0
theorem zb_sh : ∀ k : Nat, k < 30 → ((nI k &&& 31).toBitVec.smod 32).toNat = k := by decide +kernel
theorem zb_bit : ∀ b : Bool, ∀ i : Nat, i < 32 → (if b = true then (1 : Int32) else 0).toBitVec.getLsbD i = (b && decide (i = 0)) := by decide +kernel
theorem zb_shr (x : Int32) (k : Nat) (h : k < 30) : (x >>> (nI k &&& 31)) &&& 1 = zbt x k := by
  unfold zbt
  apply Int32.toBitVec_inj.mp
  rw [Int32.toBitVec_and, Int32.toBitVec_shiftRight, BitVec.sshiftRight_eq', zb_sh k h]
  apply BitVec.eq_of_getLsbD_eq
  intro i hi
  rw [zb_bit _ i hi, BitVec.getLsbD_and, BitVec.getLsbD_sshiftRight, show (1 : Int32).toBitVec = 1#32 from rfl, BitVec.getLsbD_one]
  by_cases hi0 : i = 0
  · subst hi0
    rw [if_pos (by omega)]
    simp
  · simp [hi0]
theorem zb_shl (k : Nat) (h : k < 30) : (1 : Int32) <<< (nI k &&& 31) = nI (2 ^ k) := by
  have := pk_shlN (n := 1) (nI k &&& 31) k (zb_sh k h) (by rw [Nat.one_mul]; exact Nat.pow_lt_pow_right (by decide) (by omega))
  rw [Nat.one_mul] at this
  exact this
theorem zb_one (k i : Nat) (h : k < 30) (hi : i < 32) : (nI (2 ^ k)).toBitVec.getLsbD i = decide (i = k) := by
  have e : (nI (2 ^ k)).toBitVec = BitVec.twoPow 32 k := by
    apply BitVec.eq_of_toNat_eq
    rw [pk_tn (Nat.pow_lt_pow_right (by decide) (by omega)), BitVec.toNat_twoPow, Nat.mod_eq_of_lt (Nat.pow_lt_pow_right (by decide) (by omega))]
  rw [e, BitVec.getLsbD_twoPow]
  by_cases c : i = k
  · subst c; simp [hi]
  · simp [c, show ¬ k = i from fun q => c q.symm]
theorem zb_xor (x : Int32) (k i : Nat) (h : k < 30) (hi : i < 30) : zbt (x ^^^ ((1 : Int32) <<< (nI k &&& 31))) i = if i = k then 1 - zbt x k else zbt x i := by
  rw [zb_shl k h]
  unfold zbt
  rw [Int32.toBitVec_xor, BitVec.getLsbD_xor, zb_one k i h (by omega)]
  by_cases c : i = k
  · subst c; cases x.toBitVec.getLsbD i <;> simp
  · simp [c]
theorem zb_or (x : Int32) (k i : Nat) (h : k < 30) (hi : i < 30) : zbt (x ||| ((1 : Int32) <<< (nI k &&& 31))) i = if i = k then 1 else zbt x i := by
  rw [zb_shl k h]
  unfold zbt
  rw [Int32.toBitVec_or, BitVec.getLsbD_or, zb_one k i h (by omega)]
  by_cases c : i = k
  · subst c; simp
  · simp [c]
theorem zb_0 (k : Nat) : zbt 0 k = 0 := by
  unfold zbt
  rw [show (0 : Int32).toBitVec = 0#32 from rfl, BitVec.getLsbD_zero]
  rfl
theorem zb_01 (x : Int32) (k : Nat) : zbt x k = 0 ∨ zbt x k = 1 := by
  unfold zbt
  split
  · exact Or.inr rfl
  · exact Or.inl rfl
theorem zb_xorB (n k : Nat) (h : k < 30) (hn : n < 2 ^ 30) : ∃ n', n' < 2 ^ 30 ∧ nI n ^^^ ((1 : Int32) <<< (nI k &&& 31)) = nI n' := by
  rw [zb_shl k h]
  refine ⟨n ^^^ 2 ^ k, Nat.xor_lt_two_pow hn (Nat.pow_lt_pow_right (by decide) h), ?_⟩
  apply Int32.toBitVec_inj.mp
  apply BitVec.eq_of_toNat_eq
  have h1 : (2 : Nat) ^ k < 2 ^ 30 := Nat.pow_lt_pow_right (by decide) h
  have h2 : n ^^^ 2 ^ k < 2 ^ 30 := Nat.xor_lt_two_pow hn h1
  rw [Int32.toBitVec_xor, BitVec.toNat_xor, pk_tn (by omega), pk_tn (by omega), pk_tn (by omega)]
def zcn (f : Nat → Int32) : Nat → Nat
  | 0 => 0
  | n + 1 => zcn f n + (if f n = 0 then 0 else 1)
theorem zcn_le (f : Nat → Int32) : ∀ n, zcn f n ≤ n
  | 0 => Nat.le_refl 0
  | n + 1 => by
    have := zcn_le f n
    show zcn f n + (if f n = 0 then 0 else 1) ≤ n + 1
    split <;> omega
theorem zcn_cong {f g : Nat → Int32} : ∀ n, (∀ k, k < n → f k = g k) → zcn f n = zcn g n
  | 0, _ => rfl
  | n + 1, h => by
    show zcn f n + (if f n = 0 then 0 else 1) = zcn g n + (if g n = 0 then 0 else 1)
    rw [zcn_cong n (fun k hk => h k (by omega)), h n (by omega)]
theorem zcn_lt {f : Nat → Int32} {p : Nat} (hp : f p = 0) : ∀ n, p < n → zcn f n < n
  | 0, h => by omega
  | n + 1, h => by
    show zcn f n + (if f n = 0 then 0 else 1) < n + 1
    by_cases c : p = n
    · rw [← c, if_pos hp]; have := zcn_le f p; omega
    · have := zcn_lt hp n (by omega)
      split <;> omega
theorem zcn_up {f : Nat → Int32} {p : Nat} {x : Int32} (hx : ¬ x = 0) : ∀ n, p < n → zcn (upd f p x) n = zcn f n + (if f p = 0 then 1 else 0)
  | 0, h => by omega
  | n + 1, h => by
    show zcn (upd f p x) n + (if upd f p x n = 0 then 0 else 1) = zcn f n + (if f n = 0 then 0 else 1) + (if f p = 0 then 1 else 0)
    by_cases c : p = n
    · subst c
      rw [pk_us, if_neg hx, zcn_cong p (fun k hk => pk_un (by omega))]
      split <;> rfl
    · rw [pk_un (by omega), zcn_up hx n (by omega)]; omega
theorem zcn_0 {f : Nat → Int32} : ∀ n, (∀ k, k < n → f k = 0) → zcn f n = 0
  | 0, _ => rfl
  | n + 1, h => by
    show zcn f n + (if f n = 0 then 0 else 1) = 0
    rw [zcn_0 n (fun k hk => h k (by omega)), if_pos (h n (by omega))]
def zSlo (k : Nat) : Nat := if k = 1 then 20 else if k = 3 then 0 else 1
def zShi (k : Nat) : Nat := if k = 0 then 50 else if k = 2 then 300 else if k = 3 then 9 else if k = 4 then 9 else 900
/-- settings -/
def zRa (v0 g14 : Nat → Int32) : Prop := ∀ k, k < 6 → g14 k = v0 k ∧ ∃ x, zSlo k ≤ x ∧ x ≤ zShi k ∧ v0 k = nI x
/-- what is owed -/
def zRc (n T : Nat) (v7 v8 : Nat → Int32) (c : Int32) (g10 g11 : Nat → Int32) (gc : Int32) : Prop :=
  n ≤ 8 ∧ c = nI n ∧ gc = nI n ∧ ∀ k, k < n → g10 k = v7 k ∧ g11 k = v8 k ∧ (∃ p, p < 6 ∧ v7 k = nI p) ∧ ∃ t, t ≤ T ∧ v8 k = nI t
/-- performers -/
def zRd (v9 v10 v11 g7 g8 g9 : Nat → Int32) : Prop := ∀ k, k < 6 → g7 k = v9 k ∧ g8 k = v10 k ∧ g9 k = v11 k
/-- tonight's four -/
def zRe (m n : Nat) (v13 g15 : Nat → Int32) : Prop := (∀ k, k < 4 → g15 k = v13 k) ∧ (∃ a, a ≤ m ∧ v13 0 = nI a) ∧ (∃ a, a ≤ m ∧ v13 1 = nI a) ∧ (∃ a, a + n ≤ m ∧ v13 2 = nI a) ∧ ∃ a, a ≤ m ∧ v13 3 = nI a
/-- records -/
def zRf (N : Nat) (v14 g13 : Nat → Int32) (gr : Int32) : Prop := gr = nI (min N 6) ∧ ∀ r i, r < min N 6 → i < 4 → g13 (4 * r + i) = v14 (4 * ((N - 1 - r) % 6) + i)
/-- how long a house's rows are; how long the state's -/
def zN5 (i : Nat) : Nat := if i = 0 then 6 else if i < 6 then 30 else if i = 6 then 3 else if i < 9 then 8 else if i < 12 then 6 else if i = 12 then 1 else if i = 13 then 4 else if i = 14 then 24 else if i = 15 then 6 else 0
theorem zs_at (v : zHV) (i k : Nat) (x : Int32) (a b : Nat) : zs v i k x a b = if a = i then (if b = k then x else v a b) else v a b := rfl
theorem zr_at (v : zHV) (i : Nat) (f : Nat → Int32) (a : Nat) : zr v i f a = if a = i then f else v a := rfl
theorem zq_at (v : zHV) (i n : Nat) (w : zHV) (a : Nat) : zq v i n w a = if i ≤ a then (if a < i + n then w (a - i) else v a) else v a := rfl
theorem zh_at (v : zHV) (i a : Nat) : zh v i a = v (i + a) := rfl
theorem zu_at (f : Nat → Int32) (k : Nat) (x : Int32) (j : Nat) : upd f k x j = if j = k then x else f j := rfl
theorem zRe_add {m n : Nat} {v13 g15 : Nat → Int32} (k : Nat) (hk : k < 4) (h : zRe m n v13 g15) (hk2 : k ≠ 2) : zRe (m + 1) n (upd v13 k (v13 k + 1)) (upd g15 k (g15 k + 1)) := by
  obtain ⟨h1, ⟨a0, b0, c0⟩, ⟨a1, b1, c1⟩, ⟨a2, b2, c2⟩, a3, b3, c3⟩ := h
  have key : ∀ j a, a ≤ m → v13 j = nI a → ∃ a', a' ≤ m + 1 ∧ upd v13 k (v13 k + 1) j = nI a' := fun j a ha e => by
    by_cases q : j = k
    · subst q
      rw [pk_us, e, nI_1]; exact ⟨a + 1, by omega, rfl⟩
    · rw [pk_un q, e]; exact ⟨a, by omega, rfl⟩
  refine ⟨fun j hj => ?_, key 0 a0 b0 c0, key 1 a1 b1 c1, ⟨a2, by omega, ?_⟩, key 3 a3 b3 c3⟩
  · by_cases q : j = k
    · subst q
      rw [pk_us, pk_us, h1 _ hj]
    · rw [pk_un q, pk_un q, h1 j hj]
  · rw [pk_un (by omega), c2]
theorem up_zs (g : zHV) (i k : Nat) (x : Int32) : zs g i k x i = upd (g i) k x := by
  funext j
  rw [zs_at, if_pos rfl]; rfl
theorem zdv_nI {γ : Type} {a d : Nat} {K : Int32 → Option γ} (ha : a < 2147483648) (h0 : 0 < d) (hd : d < 2147483648) : zdv (nI a) (nI d) K = K (nI (a / d)) := by
  unfold zdv
  rw [if_neg (nI_ne0 h0 hd), pk_div ha h0 hd]
theorem nI_m6 {a : Nat} (ha : a < 2147483648) : ¬ nI a = -6 := fun h => by have h2 := nI_n6 ha; rw [h2] at h; exact h

theorem fu {f : Nat} (h : 0 < f) : ∃ k, f = k + 1 := ⟨f - 1, by omega⟩
theorem zRd_up {v9 v10 v11 g7 g8 g9 : Nat → Int32} (h : zRd v9 v10 v11 g7 g8 g9) (p : Nat) (x : Int32) : zRd (upd v9 p (v9 p + x)) v10 v11 (if p < 6 then upd g7 p (g7 p + x) else g7) g8 g9 ∧ zRd v9 (upd v10 p (v10 p + x)) v11 g7 (if p < 6 then upd g8 p (g8 p + x) else g8) g9 ∧ zRd v9 v10 (upd v11 p (v11 p + x)) g7 g8 (if p < 6 then upd g9 p (g9 p + x) else g9) := by
  refine ⟨fun k hk => ?_, fun k hk => ?_, fun k hk => ?_⟩ <;>
  · obtain ⟨h1, h2, h3⟩ := h k hk
    by_cases c : p < 6
    · rw [if_pos c]
      have h4 := h p c
      by_cases q : k = p
      · subst q; rw [pk_us, pk_us]; simp only [h1, h2, h3, and_self]
      · rw [pk_un q, pk_un q]; simp only [h1, h2, h3, and_self]
    · rw [if_neg c, pk_un (by omega)]; simp only [h1, h2, h3, and_self]
theorem zs_s (g : zHV) (i k : Nat) (x : Int32) : zs g i k x = zr g i (upd (g i) k x) := by
  funext a
  rw [zr_at]
  by_cases c : a = i
  · subst c
    rw [if_pos rfl, up_zs]
  · rw [if_neg c]; funext b; rw [zs_at, if_neg c]
/-- the reference closes up its owed from the place e on -/
def zdr (c j n : Nat) (f : Nat → Int32) : Nat → Int32 := fun k => if j ≤ 2 * k + c ∧ k < n then f (k + 1) else f k
/-- the class closes up its owed after the place e -/
theorem q_play (p x : Int32) (n : Nat) (hn : n < 8) : ∀ d i f e, n + 1 - i = d → 1 ≤ i → i ≤ n + 1 → d < f → e 5 0 = nI (n + 1) → lp_X0_playEarliestOf_18 p f x (nI i) e = zup (d_X5_add 6 (e 2) p 1) (fun u => zr (zs (zr (zr e 0 (zdr 0 (2 * (i - 1)) n (e 0))) 1 (zdr 1 (2 * (i - 1)) n (e 1))) 5 0 (nI n)) 2 u) (fun z => some (1, z)) := by
  intro d
  induction d with
  | zero =>
    intro i f e h1 h0 h2 h3 he
    obtain ⟨f, rfl⟩ := fu h3
    obtain rfl : i = n + 1 := by omega
    show lpB_X0_playEarliestOf_18 p (lp_X0_playEarliestOf_18 p f) x (nI (n + 1)) e = _
    unfold lpB_X0_playEarliestOf_18
    rw [he, if_pos (nI_le (Nat.le_refl _) (by omega)), zlet_n, zlet_n, nI_pred]
    have z0 : zdr 0 (2 * (n + 1 - 1)) n (e 0) = e 0 := by funext k; unfold zdr; rw [if_neg (by omega)]
    have z1 : zdr 1 (2 * (n + 1 - 1)) n (e 1) = e 1 := by funext k; unfold zdr; rw [if_neg (by omega)]
    rw [z0, z1]
    have z2 : zr (zr e 0 (e 0)) 1 (e 1) = e := by
      funext a
      rw [zr_at, zr_at]
      split
      · next q => rw [q]
      · split
        · next q => rw [q]
        · rfl
    rw [z2]
    rfl
  | succ d ih =>
    intro i f e h1 h0 h2 h3 he
    obtain ⟨f, rfl⟩ := fu (by omega : 0 < f)
    show lpB_X0_playEarliestOf_18 p (lp_X0_playEarliestOf_18 p f) x (nI i) e = _
    unfold lpB_X0_playEarliestOf_18
    have hi : nI i - 1 = nI (i - 1) := pk_sub (b := 1) h0
    rw [he, if_neg (nI_ge (by omega) (by omega)), zlet_n, r_at 8 _ i (by omega) (by decide), zcl_e, hi, r_store 8 _ (i - 1) _ (by omega) (by decide), zup_e, zlet_n, r_at 8 _ i (by omega) (by decide), zcl_e, r_store 8 _ (i - 1) _ (by omega) (by decide), zup_e, zlet_n, nI_p1, ih (i + 1) f _ (by omega) (by omega) (by omega) (by omega) (by rw [zr_at, if_neg (by decide), zr_at, if_neg (by decide)]; exact he)]
    congr 1
    funext u
    congr 2
    funext a b
    simp only [zr_at]
    by_cases q : a = 1
    · simp only [q, if_true, show ¬ (1 : Nat) = 0 from by decide, if_false]
      unfold zdr
      simp only [zu_at]
      by_cases q1 : b = i - 1
      · subst q1
        rw [if_neg (by omega), if_pos rfl, if_pos (by omega), show i - 1 + 1 = i by omega]
      · by_cases q3 : 2 * (i - 1) ≤ 2 * b + 1 ∧ b < n
        · rw [if_pos q3, if_pos (by omega), if_neg (by omega)]
        · rw [if_neg q3, if_neg (by omega), if_neg q1]
    · rw [if_neg q, if_neg q]
      by_cases q2 : a = 0
      · simp only [q2, if_true]
        unfold zdr
        simp only [zu_at, show ¬ (0 : Nat) = 1 from by decide, if_false]
        by_cases q1 : b = i - 1
        · subst q1
          rw [if_neg (by omega), if_pos rfl, if_pos (by omega), show i - 1 + 1 = i by omega]
        · by_cases q3 : 2 * (i - 1) ≤ 2 * b + 0 ∧ b < n
          · rw [if_pos q3, if_pos (by omega), if_neg (by omega)]
          · rw [if_neg q3, if_neg (by omega), if_neg q1]
      · rw [if_neg q2, if_neg q2, if_neg q2, if_neg q]
theorem zRc_drop {n T e : Nat} {v7 v8 : Nat → Int32} {c : Int32} {g10 g11 : Nat → Int32} {gc : Int32} (h : zRc (n + 1) T v7 v8 c g10 g11 gc) (he : e ≤ n) : zRc n T (zdr 0 (2 * e) n v7) (zdr 1 (2 * e) n v8) (nI n) (zdr 0 (2 * e) n g10) (zdr 1 (2 * e) n g11) (nI n) := by
  obtain ⟨h1, h2, h3, h4⟩ := h
  refine ⟨by omega, rfl, rfl, fun k hk => ?_⟩
  unfold zdr
  by_cases q : e ≤ k
  · rw [if_pos (by omega), if_pos (by omega), if_pos (by omega), if_pos (by omega)]
    exact h4 (k + 1) (by omega)
  · rw [if_neg (by omega), if_neg (by omega), if_neg (by omega), if_neg (by omega)]
    exact h4 k (by omega)
theorem zRe_n {m n n' : Nat} {v13 g15 : Nat → Int32} (h : zRe m n v13 g15) (hn : n' ≤ n) : zRe m n' v13 g15 := by
  obtain ⟨h1, h2, h3, ⟨a2, b2, c2⟩, h4⟩ := h
  exact ⟨h1, h2, h3, ⟨a2, by omega, c2⟩, h4⟩
theorem nI_s {a : Nat} (ha : a + 1 < 2147483648) : ¬ nI a + 1 = 0 := by
  rw [nI_1]; exact nI_ne0 (by omega) ha
theorem q_has (e : zHV) (p : Nat) (hp : p < 30) : d_X6_hasClapped e (nI p) = some (zbt (e 5 2) p) := by
  unfold d_X6_hasClapped
  rw [zlet_n, zlet_n, zb_shr _ p hp]
  rcases zb_01 (e 5 2) p with h | h <;> rw [h] <;> rfl
theorem f_E7 {e : zHV} {p : Nat} {f : Int32} (hp : p < 30) (B : Bool) (hf : f = 0 ∨ f = 1) (hB : B = true ↔ (f = 1 ∧ zbt (e 5 2) p = 0)) (F : zHV → Option zHV) :
    (zjn F fun j_21 => (if f = 0 then j_21 e else zcl (d_X6_hasClapped e (nI p)) fun t6 => (if t6 = 0 then zup (d_X5_add 30 (e 1) (nI p) 1) (fun u => (zr e 1 u)) fun v18 => j_21 v18 else j_21 e))) = F (if B = true then zr e 1 (upd (e 1) p (e 1 p + 1)) else e) := by
  rw [zjn_e]
  rcases hf with rfl | rfl
  · rw [if_pos rfl, if_neg (fun q => absurd (hB.mp q).1 (by decide))]
  · rw [if_neg (by decide), q_has e p hp, zcl_e, r_add 30 _ p _ hp (by decide), zup_e]
    by_cases c : zbt (e 5 2) p = 0
    · rw [if_pos c, if_pos (hB.mpr ⟨rfl, c⟩)]
    · rw [if_neg c, if_neg (fun q => c (hB.mp q).2)]
theorem f_C7 {e : zHV} {p c : Nat} (hp : p < 30) (hc : e 5 0 = nI c) (hc3 : e 2 p = 0 → c < 30) (F : zHV → Option zHV) :
    (zcl (d_X5_at 30 (e 2) (nI p)) fun t26 => zjn F fun j_54 => (if t26 = 0 then zup (d_X5_store 30 (e 4) (e 5 0) (nI p)) (fun u => (zr e 4 u)) fun v41 => zlet ((v41 5 0) + 1) fun t50 => zlet (zs v41 5 0 t50) fun v51 => j_54 v51 else j_54 e)) = F (if e 2 p = 0 then zs (zr e 4 (upd (e 4) c (nI p))) 5 0 (nI c + 1) else e) := by
  rw [r_at 30 _ p hp (by decide), zcl_e, zjn_e]
  by_cases h : e 2 p = 0
  · rw [if_pos h, if_pos h, hc, r_store 30 _ c _ (hc3 h) (by decide), zup_e]
    simp only [zlet_n]
    rw [show zr e 4 (upd (e 4) c (nI p)) 5 0 = e 5 0 from rfl, hc]
  · rw [if_neg h, if_neg h]
theorem f_M7 (e : zHV) (p : Nat) (hp : p < 30) : (zlet (1 <<< (nI p &&& 31)) fun t61 => zlet ((e 5 2) ||| t61) fun t62 => zlet (zs e 5 2 t62) fun v63 => zup (d_X5_add 30 (v63 2) (nI p) 1) (fun u => (zr v63 2 u)) fun v72 => zup (d_X5_add 30 (v72 3) (nI p) 1) (fun u => (zr v72 3 u)) fun v81 => some v81) = some (zr (zr (zs e 5 2 ((e 5 2) ||| (1 <<< (nI p &&& 31)))) 2 (upd (e 2) p (e 2 p + 1))) 3 (upd (e 3) p (e 3 p + 1))) := by
  simp only [zlet_n]
  rw [r_add 30 _ p _ hp (by decide), zup_e, r_add 30 _ p _ hp (by decide), zup_e]
  rfl
theorem zjn_if {γ : Type} (F : Int32 → Int32 → Int32 → zHV → Option γ) (c : Prop) [Decidable c] (x y z : Int32) (μ : zHV) (a : Int32) : (zjn F fun j => if c then j a x z μ else j a y z μ) = F a (if c then x else y) z μ := by
  rw [zjn_e]
  split <;> rfl
theorem zjn_i7 {γ : Type} (F : Int32 → Int32 → zHV → Option γ) (c : Prop) [Decidable c] (x y : Int32) (v : zHV) (a : Int32) : (zjn F fun j => if c then j x a v else j y a v) = F (if c then x else y) a v := by
  rw [zjn_e]
  split <;> rfl
theorem n_min1 {S : Nat} (h : S < 2147483648) : (if nI S ≤ 9999 then nI S else 9999) = nI (min S 9999) := by
  by_cases c : S ≤ 9999
  · rw [if_pos (show nI S ≤ 9999 from nI_le (b := 9999) c (by decide)), Nat.min_eq_left c]
  · rw [if_neg (show ¬ nI S ≤ 9999 from nI_ge (a := 9999) (by omega) h), Nat.min_eq_right (by omega)]; rfl
theorem n_min2 {S : Nat} (h : S < 2147483648) : (if 9999 < nI S then 9999 else nI S) = nI (min S 9999) := by
  by_cases c : S ≤ 9999
  · rw [if_neg (show ¬ 9999 < nI S from nI_nlt (a := 9999) c (by decide)), Nat.min_eq_left c]
  · rw [if_pos (show 9999 < nI S from nI_lt (a := 9999) (by omega) h), Nat.min_eq_right (by omega)]; rfl
def zkc (P : Nat → Bool) : Nat → Nat
  | 0 => 0
  | i + 1 => zkc P i + (if P i = true then 0 else 1)
def zlp (P : Nat → Bool) (w : Nat → Int32) (p : Nat) : Nat → Nat
  | 0 => 0
  | i + 1 => zlp P w p i + (if P i = true ∧ w i = nI p then 1 else 0)
theorem zkc_le (P : Nat → Bool) : ∀ i, zkc P i ≤ i
  | 0 => Nat.le_refl 0
  | i + 1 => by
    have := zkc_le P i
    show zkc P i + (if P i = true then 0 else 1) ≤ i + 1
    split <;> omega
theorem zkc_up (P : Nat → Bool) {i : Nat} : ∀ j, i ≤ j → zkc P i ≤ zkc P j
  | 0, h => by
    obtain rfl : i = 0 := by omega
    exact Nat.le_refl _
  | j + 1, h => by
    by_cases c : i = j + 1
    · rw [c]; exact Nat.le_refl _
    · have := zkc_up P (i := i) j (by omega)
      show zkc P i ≤ zkc P j + (if P j = true then 0 else 1)
      omega
theorem zkc_d (P : Nat → Bool) {i : Nat} : ∀ j, i ≤ j → zkc P j - zkc P i ≤ j - i
  | 0, h => by
    obtain rfl : i = 0 := by omega
    omega
  | j + 1, h => by
    by_cases c : i = j + 1
    · rw [c]; omega
    · have := zkc_d P (i := i) j (by omega)
      show zkc P j + (if P j = true then 0 else 1) - zkc P i ≤ j + 1 - i
      split <;> omega
theorem zkc_t {P : Nat → Bool} {i : Nat} (h : P i = true) : zkc P (i + 1) = zkc P i := by
  show zkc P i + (if P i = true then 0 else 1) = _
  rw [if_pos h]; rfl
theorem zkc_f {P : Nat → Bool} {i : Nat} (h : P i = false) : zkc P (i + 1) = zkc P i + 1 := by
  show zkc P i + (if P i = true then 0 else 1) = _
  rw [h]; rfl
theorem zkc_s {P : Nat → Bool} {k i : Nat} (h : P k = false) (hk : k < i) : zkc P k < zkc P i := by
  have h1 := zkc_f h
  have h2 := zkc_up P (i := k + 1) i hk
  omega
theorem zkc_j (P : Nat → Bool) : ∀ i j, j < zkc P i → ∃ k, k < i ∧ P k = false ∧ zkc P k = j
  | 0, j, h => by
    have : zkc P 0 = 0 := rfl
    omega
  | i + 1, j, h => by
    cases hP : P i
    · rw [zkc_f hP] at h
      by_cases c : j = zkc P i
      · exact ⟨i, by omega, hP, c.symm⟩
      · obtain ⟨k, h1, h2, h3⟩ := zkc_j P i j (by omega)
        exact ⟨k, by omega, h2, h3⟩
    · rw [zkc_t hP] at h
      obtain ⟨k, h1, h2, h3⟩ := zkc_j P i j h
      exact ⟨k, by omega, h2, h3⟩
theorem zkc_all {P : Nat → Bool} : ∀ i, (∀ k, k < i → P k = true) → zkc P i = 0
  | 0, _ => rfl
  | i + 1, h => by rw [zkc_t (h i (by omega))]; exact zkc_all i (fun k hk => h k (by omega))
theorem zlp_t {P : Nat → Bool} {w : Nat → Int32} {p i : Nat} (h : P i = true ∧ w i = nI p) : zlp P w p (i + 1) = zlp P w p i + 1 := by
  show zlp P w p i + (if P i = true ∧ w i = nI p then 1 else 0) = _
  rw [if_pos h]
theorem zlp_f {P : Nat → Bool} {w : Nat → Int32} {p i : Nat} (h : ¬ (P i = true ∧ w i = nI p)) : zlp P w p (i + 1) = zlp P w p i := by
  show zlp P w p i + (if P i = true ∧ w i = nI p then 1 else 0) = _
  rw [if_neg h]; rfl
theorem zlp_up (P : Nat → Bool) (w : Nat → Int32) (p : Nat) {i : Nat} : ∀ j, i ≤ j → zlp P w p i ≤ zlp P w p j
  | 0, h => by
    obtain rfl : i = 0 := by omega
    exact Nat.le_refl _
  | j + 1, h => by
    by_cases c : i = j + 1
    · rw [c]; exact Nat.le_refl _
    · have := zlp_up P w p (i := i) j (by omega)
      show zlp P w p i ≤ zlp P w p j + (if P j = true ∧ w j = nI p then 1 else 0)
      omega
theorem q_laps (P : Nat → Bool) (w t : Nat → Int32) (l : Int32) (n : Nat) (hn : n ≤ 8) (e0 : zHV) (hP : ∀ k, k < n → (P k = true ↔ ¬ l < t k)) (hw : ∀ k, k < n → ∃ p, p < 6 ∧ w k = nI p) :
    ∀ d i f e, n - i = d → i ≤ n → d < f → e 5 0 = nI n → (∀ k, i ≤ k → k < n → e 0 k = w k ∧ e 1 k = t k) → (∀ k, k < i → P k = false → e 0 (zkc P k) = w k ∧ e 1 (zkc P k) = t k) → e 2 = e0 2 → e 4 = e0 4 → (∀ p, p < 6 → e 3 p = e0 3 p + nI (zlp P w p i)) →
    ∃ e', lp_X0_lapseSince_4 l f (nI (zkc P i)) (nI i) e = some (nI (n - zkc P n), e') ∧ e' 5 0 = nI (zkc P n) ∧ (∀ k, k < n → P k = false → e' 0 (zkc P k) = w k ∧ e' 1 (zkc P k) = t k) ∧ e' 2 = e0 2 ∧ e' 4 = e0 4 ∧ ∀ p, p < 6 → e' 3 p = e0 3 p + nI (zlp P w p n) := by
  intro d
  induction d with
  | zero =>
    intro i f e h1 h2 h3 h5 ha hb h6 h7 h8
    obtain ⟨f, rfl⟩ := fu h3
    obtain rfl : i = n := by omega
    have hle := zkc_le P i
    refine ⟨zs e 5 0 (nI (zkc P i)), ?_, rfl, hb, h6, h7, h8⟩
    show lpB_X0_lapseSince_4 l (lp_X0_lapseSince_4 l f) (nI (zkc P i)) (nI i) e = _
    unfold lpB_X0_lapseSince_4
    rw [h5, if_pos (nI_le (Nat.le_refl _) (by omega)), zlet_n, zlet_n, pk_sub hle]
  | succ d ih =>
    intro i f e h1 h2 h3 h5 ha hb h6 h7 h8
    obtain ⟨f, rfl⟩ := fu (by omega : 0 < f)
    have hle := zkc_le P i
    obtain ⟨ha1, ha2⟩ := ha i (Nat.le_refl i) (by omega)
    obtain ⟨p, hp, hwp⟩ := hw i (by omega)
    show ∃ e', lpB_X0_lapseSince_4 l (lp_X0_lapseSince_4 l f) (nI (zkc P i)) (nI i) e = _ ∧ _
    unfold lpB_X0_lapseSince_4
    rw [h5, if_neg (nI_ge (by omega) (by omega)), r_at 8 _ i (by omega) (by decide), zcl_e, ha2]
    cases hPi : P i
    · have hc : l < t i := by
        by_cases c : l < t i
        · exact c
        · rw [(hP i (by omega)).mpr c] at hPi; cases hPi
      rw [if_pos hc, r_at 8 _ i (by omega) (by decide), zcl_e, r_store 8 _ (zkc P i) _ (by omega) (by decide), zup_e, show zr e 0 (upd (e 0) (zkc P i) (e 0 i)) 1 = e 1 from rfl, r_at 8 _ i (by omega) (by decide), zcl_e, r_store 8 _ (zkc P i) _ (by omega) (by decide), zup_e, zlet_n, zlet_n, nI_p1, nI_p1, ha1, ha2, ← zkc_f hPi]
      refine ih (i + 1) f _ (by omega) (by omega) (by omega) h5 (fun k hk1 hk2 => ?_) (fun k hk1 hk2 => ?_) h6 h7 (fun p hp => ?_)
      · show upd (e 0) (zkc P i) (w i) k = w k ∧ upd (e 1) (zkc P i) (t i) k = t k
        rw [pk_un (by omega), pk_un (by omega)]; exact ha k (by omega) hk2
      · show upd (e 0) (zkc P i) (w i) (zkc P k) = w k ∧ upd (e 1) (zkc P i) (t i) (zkc P k) = t k
        by_cases c : k = i
        · subst c; rw [pk_us, pk_us]; exact ⟨rfl, rfl⟩
        · have := zkc_s hk2 (show k < i by omega)
          rw [pk_un (by omega), pk_un (by omega)]; exact hb k (by omega) hk2
      · show e 3 p = _
        rw [h8 p hp, zlp_f (by rw [hPi]; simp)]
    · have hc : ¬ l < t i := (hP i (by omega)).mp hPi
      rw [if_neg hc, r_at 8 _ i (by omega) (by decide), zcl_e, ha1, hwp, r_add 6 _ p _ hp (by decide), zup_e, zlet_n, nI_p1, ← zkc_t hPi]
      refine ih (i + 1) f _ (by omega) (by omega) (by omega) h5 (fun k hk1 hk2 => ha k (by omega) hk2) (fun k hk1 hk2 => ?_) h6 h7 (fun p' hp' => ?_)
      · have : ¬ k = i := fun q => by rw [q, hPi] at hk2; cases hk2
        exact hb k (by omega) hk2
      · show upd (e 3) p (e 3 p + 1) p' = _
        by_cases c : p' = p
        · subst c
          rw [pk_us, h8 p' hp', zlp_t ⟨hPi, hwp⟩, Int32.add_assoc, nI_1]
        · rw [pk_un c, h8 p' hp', zlp_f (fun q => by
            have h9 := q.2
            rw [hwp] at h9
            have := (nI_eq (by omega) (by omega)).mp h9
            omega)]
theorem nI_m (k : Nat) : nI k + Int32.ofInt (-1) = nI k - 1 := by rw [Int32.sub_eq_add_neg]; rfl
theorem nI_subLt {a b c : Nat} (ha : a < 1000000) (hb : b < 1000000) (hc : c < 1000000) : nI a - nI b < nI c ↔ (a : Int) - b < c := by
  rw [Int32.lt_iff_toInt_lt, pk_sub_toInt (by omega) (by omega), nI_toInt (by omega)]
theorem nI_ltSub {a b c : Nat} (ha : a < 1000000) (hb : b < 1000000) (hc : c < 1000000) : nI c < nI a - nI b ↔ (c : Int) < a - b := by
  rw [Int32.lt_iff_toInt_lt, pk_sub_toInt (by omega) (by omega), nI_toInt (by omega)]
theorem zRc_kept {n T n' : Nat} {P : Nat → Bool} {v7 v8 w7 w8 : Nat → Int32} {c : Int32} {g10 g11 h10 h11 : Nat → Int32} {gc c' gc' : Int32} (h : zRc n T v7 v8 c g10 g11 gc) (hn : n' = zkc P n) (hc : c' = nI n') (hg : gc' = nI n')
    (h7 : ∀ k, k < n → P k = false → w7 (zkc P k) = v7 k ∧ w8 (zkc P k) = v8 k) (h8 : ∀ k, k < n → P k = false → h10 (zkc P k) = v7 k ∧ h11 (zkc P k) = v8 k) : zRc n' T w7 w8 c' h10 h11 gc' := by
  obtain ⟨h1, h2, h3, h4⟩ := h
  have := zkc_le P n
  refine ⟨by omega, hc, hg, fun j hj => ?_⟩
  rw [hn] at hj
  obtain ⟨k, k1, k2, rfl⟩ := zkc_j P n j hj
  obtain ⟨a1, a2⟩ := h7 k k1 k2
  obtain ⟨b1, b2⟩ := h8 k k1 k2
  obtain ⟨-, -, c3, c4⟩ := h4 k k1
  rw [a1, a2, b1, b2]
  exact ⟨rfl, rfl, c3, c4⟩
theorem zRe_lap {m n t : Nat} {v13 g15 : Nat → Int32} (h : zRe m n v13 g15) (ht : t ≤ n) : zRe m (n - t) (upd v13 2 (v13 2 + nI t)) (upd g15 2 (g15 2 + nI t)) := by
  obtain ⟨k1, ⟨a0, b0, d0⟩, ⟨a1, b1, d1⟩, ⟨a2, b2, d2⟩, a3, b3, d3⟩ := h
  refine ⟨fun k hk => ?_, ⟨a0, b0, ?_⟩, ⟨a1, b1, ?_⟩, ⟨a2 + t, by omega, ?_⟩, a3, b3, ?_⟩
  · by_cases c : k = 2
    · subst c; rw [pk_us, pk_us, k1 2 hk]
    · rw [pk_un c, pk_un c, k1 k hk]
  · rw [pk_un (by decide), d0]
  · rw [pk_un (by decide), d1]
  · rw [pk_us, d2, nI_add]
  · rw [pk_un (by decide), d3]
theorem b_rpl {N i : Nat} (hN : N < 2147483648) (hi : i < 4) : d_X2_recordPlace (nI N) (nI i) = some (nI (N % 6 * 4 + i)) := by
  unfold d_X2_recordPlace zrm
  rw [if_neg (by decide), show (6 : Int32) = nI 6 from rfl, pk_rem hN (by decide) (by decide)]
  simp only [zlet_n]
  rw [show (4 : Int32) = nI 4 from rfl, pk_mul, nI_add]
theorem q_rows4 (x : Int32) (N : Nat) (hN : N ≤ 99) (v : zHV) (hn : v 15 2 = nI N) (f : Nat) : lp_X2_endNight_35 (f + 5) x (nI 0) v = lp_X2_endNight_35 (f + 1) x (nI 4) (zr v 14 (fun k => if 4 * (N % 6) ≤ k ∧ k < 4 * (N % 6) + 4 then v 13 (k - 4 * (N % 6)) else v 14 k)) := by
  have step : ∀ (i f : Nat) (v : zHV), i < 4 → v 15 2 = nI N → lp_X2_endNight_35 (f + 1) x (nI i) v = lp_X2_endNight_35 f x (nI (i + 1)) (zr v 14 (upd (v 14) (N % 6 * 4 + i) (v 13 i))) := by
    intro i f v hi hn
    show lpB_X2_endNight_35 (lp_X2_endNight_35 f) x (nI i) v = _
    unfold lpB_X2_endNight_35
    rw [if_neg (show ¬ (4 : Int32) ≤ nI i from nI_ge (b := 4) hi (by decide)), hn, b_rpl (by omega) hi, zcl_e, r_at 4 _ i hi (by decide), zcl_e, r_store 24 _ _ _ (by omega) (by decide), zup_e, zlet_n, nI_p1]
  rw [step 0 _ v (by decide) hn, step 1 _ _ (by decide) (by exact hn), step 2 _ _ (by decide) (by exact hn), step 3 _ _ (by decide) (by exact hn)]
  congr 1
  funext a b
  simp only [zr_at, zu_at]
  by_cases q : a = 14
  · simp only [q, if_true, show ¬ (13 : Nat) = 14 from by decide, if_false, zu_at]
    by_cases c3 : b = N % 6 * 4 + 3
    · rw [if_pos c3, if_pos (by omega), show b - 4 * (N % 6) = 3 by omega]
    · rw [if_neg c3]
      by_cases c2 : b = N % 6 * 4 + 2
      · rw [if_pos c2, if_pos (by omega), show b - 4 * (N % 6) = 2 by omega]
      · rw [if_neg c2]
        by_cases c1 : b = N % 6 * 4 + 1
        · rw [if_pos c1, if_pos (by omega), show b - 4 * (N % 6) = 1 by omega]
        · rw [if_neg c1]
          by_cases c0 : b = N % 6 * 4 + 0
          · rw [if_pos c0, if_pos (by omega), show b - 4 * (N % 6) = 0 by omega]
          · rw [if_neg c0, if_neg (by omega)]
  · simp only [q, if_false]
def zS2 (w0 : Nat → Int32) (wl : Int32) (p5 : Nat → Int32) (pl : Int32) : Prop := ∃ L, L ≤ 80 ∧ wl = nI L ∧ pl = nI L ∧ ∀ k, k < L → w0 k = p5 k
theorem r_copy (n : Nat) (f g : Nat → Int32) (hn : n < 2147483648) : d_X5_copyFrom n f n g = some (va_cpy g f 0 0 n) := by
  unfold d_X5_copyFrom zcp
  rw [if_neg (nI_nlt (Nat.le_refl n) hn), zlet_n, if_pos ⟨by decide, by decide, nI_pos hn, by rw [nI_cl hn]; exact Nat.le_of_eq (Nat.zero_add n), by rw [nI_cl hn]; exact Nat.le_of_eq (Nat.zero_add n)⟩, nI_cl hn]
  rfl
theorem cpy_at {n k : Nat} {f g : Nat → Int32} (hk : k < n) : va_cpy g f 0 0 n k = g k := by
  rw [pk_cpy_in (Nat.zero_le k) (by omega), Nat.zero_add, Nat.sub_zero]
theorem b_copy (a b : zHV) (hb : b 15 5 = 0 ∨ b 15 5 = 1) : ∃ h, d_X2_copyFrom a b = some h ∧ ∀ i k, k < zN5 i → h i k = b i k := by
  unfold d_X2_copyFrom d_X6_copyFrom d_X0_copyFrom
  simp only [r_copy _ _ _ (show (6 : Nat) < 2147483648 from by decide), r_copy _ _ _ (show (30 : Nat) < 2147483648 from by decide), r_copy _ _ _ (show (8 : Nat) < 2147483648 from by decide), r_copy _ _ _ (show (4 : Nat) < 2147483648 from by decide), r_copy _ _ _ (show (24 : Nat) < 2147483648 from by decide), zup_e, zlet_n]
  unfold zgb
  rw [if_pos hb]
  refine ⟨_, rfl, fun i k hk => ?_⟩
  match i, hk with
  | 0, hk => exact cpy_at hk
  | 1, hk => exact cpy_at hk
  | 2, hk => exact cpy_at hk
  | 3, hk => exact cpy_at hk
  | 4, hk => exact cpy_at hk
  | 5, hk => exact cpy_at hk
  | 6, hk =>
    match k, hk with
    | 0, _ => rfl
    | 1, _ => rfl
    | 2, _ => rfl
    | k + 3, hk => exact absurd hk (by show ¬ k + 3 < 3; omega)
  | 7, hk => exact cpy_at hk
  | 8, hk => exact cpy_at hk
  | 9, hk => exact cpy_at hk
  | 10, hk => exact cpy_at hk
  | 11, hk => exact cpy_at hk
  | 12, hk =>
    match k, hk with
    | 0, _ => rfl
    | k + 1, hk => exact absurd hk (by show ¬ k + 1 < 1; omega)
  | 13, hk => exact cpy_at hk
  | 14, hk => exact cpy_at hk
  | 15, hk =>
    match k, hk with
    | 0, _ => rfl
    | 1, _ => rfl
    | 2, _ => rfl
    | 3, _ => rfl
    | 4, _ => rfl
    | 5, _ => rfl
    | k + 6, hk => exact absurd hk (by show ¬ k + 6 < 6; omega)
  | i + 16, hk =>
    have : zN5 (i + 16) = 0 := by
      unfold zN5
      simp only [show ¬ i + 16 = 0 by omega, show ¬ i + 16 < 6 by omega, show ¬ i + 16 = 6 by omega, show ¬ i + 16 < 9 by omega, show ¬ i + 16 < 12 by omega, show ¬ i + 16 = 12 by omega, show ¬ i + 16 = 13 by omega, show ¬ i + 16 = 14 by omega, show ¬ i + 16 = 15 by omega, if_false]
    rw [this] at hk
    exact absurd hk (by omega)
theorem zr_zr (v : zHV) (i : Nat) (f g : Nat → Int32) : zr (zr v i f) i g = zr v i g := by
  funext a
  unfold zr
  split <;> rfl
theorem zk7_nI {γ : Type} {k : Nat} (K : Nat → Option γ) (h : k < 7) : zk7 (nI k) K = K k := by
  unfold zk7
  rw [nI_toInt (by omega), if_pos ⟨by omega, by omega⟩, nI_cl (by omega)]
theorem mod_lem {x K K' i : Nat} (hx : x ≤ 6) (hK : K ≤ 6) (hK' : K' = min (K + 1) 6) (hi : i < K' - 1) : ((x + 1) % 7 + 7 - K' + i) % 7 = (x + 7 - K + (i + (K + 1 - K'))) % 7 ∧ ¬ ((x + 1) % 7 + 7 - K' + i) % 7 = x ∧ i + (K + 1 - K') < K := by omega
theorem mod_lem2 {x K' : Nat} (hx : x ≤ 6) (h1 : 1 ≤ K') (hK' : K' ≤ 6) : ((x + 1) % 7 + 7 - K' + (K' - 1)) % 7 = x := by omega
theorem zr_ne (v : zHV) {i a : Nat} (f : Nat → Int32) (h : ¬ a = i) : zr v i f a = v a := if_neg h
theorem w_get {x : Int32} {a b : Nat} (ha : a < 2147483648) (hb : b < 2147483648) (h1 : ¬ x < nI a) (h2 : ¬ nI b < x) : ∃ y, a ≤ y ∧ y ≤ b ∧ x = nI y := by
  have h0 : ¬ x < 0 := fun q => h1 (nI_lt_of_neg q ha)
  obtain ⟨y, hy, rfl⟩ := nI_of h0
  exact ⟨y, Nat.le_of_not_lt (fun q => h1 (nI_lt q ha)), Nat.le_of_not_lt (fun q => h2 (nI_lt q hy)), rfl⟩
theorem zup2_zld {α β γ δ : Type} (n : Nat) (f : Nat → Int32) (i : Int32) (K : Int32 → Option (α × β)) (g : β → γ) (K' : α → γ → Option δ) : zup2 (zld n f i K) g K' = zld n f i fun t => zup2 (K t) g K' := by
  unfold zld
  split <;> rfl
theorem zup2_zsv {α β γ δ : Type} (n : Nat) (v : zHV) (k : Nat) (i x : Int32) (K : zHV → Option (α × β)) (g : β → γ) (K' : α → γ → Option δ) : zup2 (zsv n v k i x K) g K' = zsv n v k i x fun t => zup2 (K t) g K' := by
  unfold zsv
  split <;> rfl
theorem zup2_zcl {α β γ δ ε : Type} (d : Option ε) (K : ε → Option (α × β)) (g : β → γ) (K' : α → γ → Option δ) : zup2 (zcl d K) g K' = zcl d fun t => zup2 (K t) g K' := by
  cases d <;> rfl
theorem zup2_zup {α β γ δ ε ζ : Type} (d : Option ε) (h : ε → ζ) (K : ζ → Option (α × β)) (g : β → γ) (K' : α → γ → Option δ) : zup2 (zup d h K) g K' = zup d h fun t => zup2 (K t) g K' := by
  cases d <;> rfl
theorem lit_case (p : Int32) (n : Nat) (hn : n < 2147483648) : (∀ k, k < n → ¬ p = nI k) ∨ ∃ k, k < n ∧ p = nI k := by
  by_cases h : ∃ k, k < n ∧ p = nI k
  · exact Or.inr h
  · exact Or.inl fun k hk e => h ⟨k, hk, e⟩
