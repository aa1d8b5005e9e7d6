/-! ===== the pure side: reading of words; the reference's flat state as rows (zE5), with its single reads and writes ===== -/
theorem zlet_n {α β : Type} (a : α) (K : α → Option β) : zlet a K = K a := Option.some.inj (show some (zlet a K) = some (K a) from rfl)
theorem zcl_e {α β : Type} (a : α) (K : α → Option β) : zcl (some a) K = K a := Option.some.inj (show some (zcl (some a) K) = some (K a) from rfl)
theorem zup_e {α β γ : Type} (a : α) (g : α → β) (K : β → Option γ) : zup (some a) g K = K (g a) := Option.some.inj (show some (zup (some a) g K) = some (K (g a)) from rfl)
theorem zup2_e {α β γ δ : Type} (a : α) (b : β) (g : β → γ) (K : α → γ → Option δ) : zup2 (some (a, b)) g K = K a (g b) := Option.some.inj (show some (zup2 (some (a, b)) g K) = some (K a (g b)) from rfl)
theorem zjn_e {σ γ : Type} (F : σ) (K : σ → Option γ) : zjn F K = K F := Option.some.inj (show some (zjn F K) = some (K F) from rfl)
theorem zgb_0 {γ : Type} (K : Option γ) : zgb 0 K = K := if_pos (Or.inl rfl)
theorem zgb_1 {γ : Type} (K : Option γ) : zgb 1 K = K := if_pos (Or.inr rfl)
theorem nL_add (c k : Nat) : (no_index (OfNat.ofNat c) : Int32) + nI k = nI ((OfNat.ofNat c : Nat) + k) := nI_add c k
theorem nR_add (c k : Nat) : nI k + (no_index (OfNat.ofNat c) : Int32) = nI (k + (OfNat.ofNat c : Nat)) := nI_add k c
theorem nL_mul (c k : Nat) : (no_index (OfNat.ofNat c) : Int32) * nI k = nI ((OfNat.ofNat c : Nat) * k) := pk_mul c k
theorem nR_mul (c k : Nat) : nI k * (no_index (OfNat.ofNat c) : Int32) = nI (k * (OfNat.ofNat c : Nat)) := pk_mul k c
theorem nR_sub (c k : Nat) (h : (OfNat.ofNat c : Nat) ≤ k) : nI k - (no_index (OfNat.ofNat c) : Int32) = nI (k - (OfNat.ofNat c : Nat)) := pk_sub h
theorem nL_sub (c k : Nat) (h : k ≤ (OfNat.ofNat c : Nat)) : (no_index (OfNat.ofNat c) : Int32) - nI k = nI ((OfNat.ofNat c : Nat) - k) := pk_sub h
theorem nR_le {a c : Nat} (ha : a < 2147483648) (hc : (OfNat.ofNat c : Nat) < 2147483648) : (nI a ≤ (no_index (OfNat.ofNat c) : Int32)) = (a ≤ (OfNat.ofNat c : Nat)) := propext (nI_leI ha hc)
theorem nL_le {a c : Nat} (ha : a < 2147483648) (hc : (OfNat.ofNat c : Nat) < 2147483648) : ((no_index (OfNat.ofNat c) : Int32) ≤ nI a) = ((OfNat.ofNat c : Nat) ≤ a) := propext (nI_leI hc ha)
theorem nR_lt {a c : Nat} (ha : a < 2147483648) (hc : (OfNat.ofNat c : Nat) < 2147483648) : (nI a < (no_index (OfNat.ofNat c) : Int32)) = (a < (OfNat.ofNat c : Nat)) := propext (nI_ltI ha hc)
theorem nL_lt {a c : Nat} (ha : a < 2147483648) (hc : (OfNat.ofNat c : Nat) < 2147483648) : ((no_index (OfNat.ofNat c) : Int32) < nI a) = ((OfNat.ofNat c : Nat) < a) := propext (nI_ltI hc ha)
theorem nR_eq {a c : Nat} (ha : a < 2147483648) (hc : (OfNat.ofNat c : Nat) < 2147483648) : (nI a = (no_index (OfNat.ofNat c) : Int32)) = (a = (OfNat.ofNat c : Nat)) := propext (nI_eq ha hc)
theorem nN_le {a b : Nat} (ha : a < 2147483648) (hb : b < 2147483648) : (nI a ≤ nI b) = (a ≤ b) := propext (nI_leI ha hb)
theorem nN_lt {a b : Nat} (ha : a < 2147483648) (hb : b < 2147483648) : (nI a < nI b) = (a < b) := propext (nI_ltI ha hb)
theorem nN_eq {a b : Nat} (ha : a < 2147483648) (hb : b < 2147483648) : (nI a = nI b) = (a = b) := propext (nI_eq ha hb)
theorem nI_n6 {a : Nat} (ha : a < 2147483648) : (nI a = -6) = False := propext ⟨fun h => by have h2 := congrArg Int32.toInt h; rw [nI_toInt ha] at h2; rw [show ((-6 : Int32)).toInt = -6 from by decide] at h2; omega, False.elim⟩
theorem nS_eq (x : Int32) : (x = x) = True := propext ⟨fun _ => trivial, fun _ => rfl⟩
/-- an int is below 0, or past a bound, or one of the numbers below it -/
theorem nI_case (x : Int32) (n : Nat) (hn : n < 2147483648) : x < 0 ∨ (¬ x < 0 ∧ nI n ≤ x) ∨ ∃ j : Nat, j < n ∧ x = nI j := by
  by_cases h : x < 0
  · exact Or.inl h
  · obtain ⟨j, hj, rfl⟩ := nI_of h
    by_cases c : n ≤ j
    · exact Or.inr (Or.inl ⟨h, nI_le c hj⟩)
    · exact Or.inr (Or.inr ⟨j, by omega, rfl⟩)
theorem nI_neg {x : Int32} {c : Nat} (h : x < 0) (hc : c < 2147483648) : ¬ nI c ≤ x := by
  intro h2
  have h3 : x.toInt < 0 := Int32.lt_iff_toInt_lt.mp h
  have h4 : (nI c).toInt ≤ x.toInt := Int32.le_iff_toInt_le.mp h2
  rw [nI_toInt hc] at h4
  omega
/-- the flat state of 288 out of rows: 14 the settings; 15 tonight's four; 0 the rest of its first twenty; 1 to 6 the seats' parts; 7, 8, 9 the performers'; 10, 11 the owed; 12 the clappers; 13 the records -/
def zE5 (g : zHV) : Nat → Int32 := fun k => if k < 6 then g 14 k else if 9 ≤ k ∧ k < 13 then g 15 (k - 9) else if k < 20 then g 0 k else if k < 200 then g (1 + (k - 20) % 6) ((k - 20) / 6) else if k < 218 then g (7 + (k - 200) % 3) ((k - 200) / 3) else if k < 234 then g (10 + (k - 218) % 2) ((k - 218) / 2) else if k < 264 then g 12 (k - 234) else g 13 (k - 264)
def zD5 (s : Nat → Int32) : zHV := fun i k => if i = 14 then s k else if i = 15 then s (9 + k) else if i = 0 then s k else if i < 7 then s (20 + 6 * k + (i - 1)) else if i < 10 then s (200 + 3 * k + (i - 7)) else if i < 12 then s (218 + 2 * k + (i - 10)) else if i = 12 then s (234 + k) else s (264 + k)
theorem zE5_D5 (s : Nat → Int32) : zE5 (zD5 s) = s := by
  funext k
  unfold zE5
  by_cases h0 : k < 6
  · rw [if_pos h0]; unfold zD5; rw [if_pos (by omega)]
  rw [if_neg h0]
  by_cases h1 : 9 ≤ k ∧ k < 13
  · rw [if_pos h1]; unfold zD5; rw [if_neg (by omega), if_pos (by omega)]; exact congrArg s (by omega)
  rw [if_neg h1]
  by_cases h2 : k < 20
  · rw [if_pos h2]; unfold zD5; rw [if_neg (by omega), if_neg (by omega), if_pos (by omega)]
  rw [if_neg h2]
  by_cases h3 : k < 200
  · rw [if_pos h3]; unfold zD5; rw [if_neg (by omega), if_neg (by omega), if_neg (by omega), if_pos (by omega)]; exact congrArg s (by omega)
  rw [if_neg h3]
  by_cases h4 : k < 218
  · rw [if_pos h4]; unfold zD5; rw [if_neg (by omega), if_neg (by omega), if_neg (by omega), if_neg (by omega), if_pos (by omega)]; exact congrArg s (by omega)
  rw [if_neg h4]
  by_cases h5 : k < 234
  · rw [if_pos h5]; unfold zD5; rw [if_neg (by omega), if_neg (by omega), if_neg (by omega), if_neg (by omega), if_neg (by omega), if_pos (by omega)]; exact congrArg s (by omega)
  rw [if_neg h5]
  by_cases h6 : k < 264
  · rw [if_pos h6]; unfold zD5; rw [if_neg (by omega), if_neg (by omega), if_neg (by omega), if_neg (by omega), if_neg (by omega), if_neg (by omega), if_pos (by omega)]; exact congrArg s (by omega)
  rw [if_neg h6]
  unfold zD5; rw [if_neg (by omega), if_neg (by omega), if_neg (by omega), if_neg (by omega), if_neg (by omega), if_neg (by omega), if_neg (by omega)]; exact congrArg s (by omega)
theorem zE5_0 (g : zHV) (k : Nat) (h : k < 20) (h6 : 6 ≤ k) (h9 : k < 9 ∨ 13 ≤ k) : zE5 g k = g 0 k := by
  unfold zE5
  rw [if_neg (by omega), if_neg (by omega), if_pos h]
theorem zE5_14 (g : zHV) (k : Nat) (h : k < 6) : zE5 g k = g 14 k := if_pos h
theorem zE5_15 (g : zHV) (k : Nat) (h : k < 4) : zE5 g (9 + k) = g 15 k := by
  unfold zE5
  rw [if_neg (by omega), if_pos (by omega), show 9 + k - 9 = k by omega]
theorem zE5_1 (g : zHV) (k c : Nat) (h : k < 30) (hc : c < 6) : zE5 g (20 + 6 * k + c) = g (1 + c) k := by
  unfold zE5
  rw [if_neg (by omega), if_neg (by omega), if_neg (by omega), if_pos (by omega), show (20 + 6 * k + c - 20) % 6 = c by omega, show (20 + 6 * k + c - 20) / 6 = k by omega]
theorem zE5_7 (g : zHV) (k c : Nat) (h : k < 6) (hc : c < 3) : zE5 g (200 + 3 * k + c) = g (7 + c) k := by
  unfold zE5
  rw [if_neg (by omega), if_neg (by omega), if_neg (by omega), if_neg (by omega), if_pos (by omega), show (200 + 3 * k + c - 200) % 3 = c by omega, show (200 + 3 * k + c - 200) / 3 = k by omega]
theorem zE5_10 (g : zHV) (k c : Nat) (h : k < 8) (hc : c < 2) : zE5 g (218 + 2 * k + c) = g (10 + c) k := by
  unfold zE5
  rw [if_neg (by omega), if_neg (by omega), if_neg (by omega), if_neg (by omega), if_neg (by omega), if_pos (by omega), show (218 + 2 * k + c - 218) % 2 = c by omega, show (218 + 2 * k + c - 218) / 2 = k by omega]
theorem zE5_12 (g : zHV) (k : Nat) (h : k < 30) : zE5 g (234 + k) = g 12 k := by
  unfold zE5
  rw [if_neg (by omega), if_neg (by omega), if_neg (by omega), if_neg (by omega), if_neg (by omega), if_neg (by omega), if_pos (by omega), show 234 + k - 234 = k by omega]
theorem zE5_13 (g : zHV) (k : Nat) : zE5 g (264 + k) = g 13 k := by
  unfold zE5
  rw [if_neg (by omega), if_neg (by omega), if_neg (by omega), if_neg (by omega), if_neg (by omega), if_neg (by omega), if_neg (by omega), show 264 + k - 264 = k by omega]
/-- which row's place a place stands for -/
def zA5 (j : Nat) : Nat × Nat := if j < 6 then (14, j) else if 9 ≤ j ∧ j < 13 then (15, j - 9) else if j < 20 then (0, j) else if j < 200 then (1 + (j - 20) % 6, (j - 20) / 6) else if j < 218 then (7 + (j - 200) % 3, (j - 200) / 3) else if j < 234 then (10 + (j - 218) % 2, (j - 218) / 2) else if j < 264 then (12, j - 234) else (13, j - 264)
theorem zE5_A5 (g : zHV) (j : Nat) : zE5 g j = g (zA5 j).1 (zA5 j).2 := by
  unfold zE5 zA5
  repeat' split
  all_goals rfl
/-- a write into the flat state is a write into a row, when the place stands for that row's place and for no other -/
theorem zE5_up {g : zHV} {k i a : Nat} {x : Int32} (h : ∀ j, ((zA5 j).1 = i ∧ (zA5 j).2 = a) ↔ j = k) : upd (zE5 g) k x = zE5 (zs g i a x) := by
  funext j
  rw [zE5_A5 (zs g i a x)]
  unfold zs
  by_cases e : j = k
  · obtain ⟨h1, h2⟩ := (h j).mpr e
    rw [e, pk_us, ← e, if_pos h1, if_pos h2]
  · rw [pk_un e, zE5_A5]
    by_cases q1 : (zA5 j).1 = i
    · rw [if_pos q1, if_neg (fun q => e ((h j).mp ⟨q1, q⟩))]
    · rw [if_neg q1]
theorem zU_0 (g : zHV) (k : Nat) (x : Int32) (h : k < 20) (h6 : 6 ≤ k) (h9 : k < 9 ∨ 13 ≤ k) : upd (zE5 g) k x = zE5 (zs g 0 k x) := zE5_up (fun j => by unfold zA5; (repeat' split) <;> (dsimp only; omega))
theorem zU_14 (g : zHV) (k : Nat) (x : Int32) (h : k < 6) : upd (zE5 g) k x = zE5 (zs g 14 k x) := zE5_up (fun j => by unfold zA5; (repeat' split) <;> (dsimp only; omega))
theorem zU_15 (g : zHV) (k : Nat) (x : Int32) (h : k < 4) : upd (zE5 g) (9 + k) x = zE5 (zs g 15 k x) := zE5_up (fun j => by unfold zA5; (repeat' split) <;> (dsimp only; omega))
theorem zU_1 (g : zHV) (k c : Nat) (x : Int32) (h : k < 30) (hc : c < 6) : upd (zE5 g) (20 + 6 * k + c) x = zE5 (zs g (1 + c) k x) := zE5_up (fun j => by unfold zA5; (repeat' split) <;> (dsimp only; omega))
theorem zU_7 (g : zHV) (k c : Nat) (x : Int32) (h : k < 6) (hc : c < 3) : upd (zE5 g) (200 + 3 * k + c) x = zE5 (zs g (7 + c) k x) := zE5_up (fun j => by unfold zA5; (repeat' split) <;> (dsimp only; omega))
theorem zU_10 (g : zHV) (k c : Nat) (x : Int32) (h : k < 8) (hc : c < 2) : upd (zE5 g) (218 + 2 * k + c) x = zE5 (zs g (10 + c) k x) := zE5_up (fun j => by unfold zA5; (repeat' split) <;> (dsimp only; omega))
theorem zU_12 (g : zHV) (k : Nat) (x : Int32) (h : k < 30) : upd (zE5 g) (234 + k) x = zE5 (zs g 12 k x) := zE5_up (fun j => by unfold zA5; (repeat' split) <;> (dsimp only; omega))
theorem zU_13 (g : zHV) (k : Nat) (x : Int32) : upd (zE5 g) (264 + k) x = zE5 (zs g 13 k x) := zE5_up (fun j => by unfold zA5; (repeat' split) <;> (dsimp only; omega))
/-- the reference with the state of the rows g -/
def zM5 (μ g : zHV) : zHV := zr μ 0 (zE5 g)
theorem zM5_0 (μ g : zHV) : zM5 μ g 0 = zE5 g := rfl
theorem zM5_ne (μ g : zHV) {i : Nat} (h : ¬ i = 0) : zM5 μ g i = μ i := if_neg h
theorem zM5_self (μ : zHV) : zM5 μ (zD5 (μ 0)) = μ := by
  funext i
  unfold zM5 zr
  split
  · next h => rw [zE5_D5, h]
  · rfl
theorem zM5_M5 (μ g h : zHV) : zM5 (zM5 μ g) h = zM5 μ h := by
  funext i
  unfold zM5 zr
  split <;> rfl
theorem zM5_st (μ g : zHV) (f : Nat → Int32) : zr (zM5 μ g) 0 f = zr μ 0 f := by
  funext i
  unfold zM5 zr
  split <;> rfl
theorem l0 {γ : Type} (μ g : zHV) (k : Nat) (K : Int32 → Option γ) (h : k < 20) (h6 : 6 ≤ k) (h9 : k < 9 ∨ 13 ≤ k) : zld 288 (zM5 μ g 0) (nI k) K = K (g 0 k) := by
  rw [zld_nI (by omega) (by decide), zM5_0, zE5_0 g k h h6 h9]
theorem l14 {γ : Type} (μ g : zHV) (k : Nat) (K : Int32 → Option γ) (h : k < 6) : zld 288 (zM5 μ g 0) (nI k) K = K (g 14 k) := by
  rw [zld_nI (by omega) (by decide), zM5_0, zE5_14 g k h]
theorem l15 {γ : Type} (μ g : zHV) (k : Nat) (K : Int32 → Option γ) (h : k < 4) : zld 288 (zM5 μ g 0) (nI (9 + k)) K = K (g 15 k) := by
  rw [zld_nI (by omega) (by decide), zM5_0, zE5_15 g k h]
theorem l1 {γ : Type} (μ g : zHV) (k c : Nat) (K : Int32 → Option γ) (h : k < 30) (hc : c < 6) : zld 288 (zM5 μ g 0) (nI (20 + 6 * k + c)) K = K (g (1 + c) k) := by
  rw [zld_nI (by omega) (by decide), zM5_0, zE5_1 g k c h hc]
theorem l7 {γ : Type} (μ g : zHV) (k c : Nat) (K : Int32 → Option γ) (h : k < 6) (hc : c < 3) : zld 288 (zM5 μ g 0) (nI (200 + 3 * k + c)) K = K (g (7 + c) k) := by
  rw [zld_nI (by omega) (by decide), zM5_0, zE5_7 g k c h hc]
theorem l10 {γ : Type} (μ g : zHV) (k c : Nat) (K : Int32 → Option γ) (h : k < 8) (hc : c < 2) : zld 288 (zM5 μ g 0) (nI (218 + 2 * k + c)) K = K (g (10 + c) k) := by
  rw [zld_nI (by omega) (by decide), zM5_0, zE5_10 g k c h hc]
theorem l12 {γ : Type} (μ g : zHV) (k : Nat) (K : Int32 → Option γ) (h : k < 30) : zld 288 (zM5 μ g 0) (nI (234 + k)) K = K (g 12 k) := by
  rw [zld_nI (by omega) (by decide), zM5_0, zE5_12 g k h]
theorem l13 {γ : Type} (μ g : zHV) (k : Nat) (K : Int32 → Option γ) (h : k < 24) : zld 288 (zM5 μ g 0) (nI (264 + k)) K = K (g 13 k) := by
  rw [zld_nI (by omega) (by decide), zM5_0, zE5_13 g k]
theorem s0 {γ : Type} (μ g : zHV) (k : Nat) (x : Int32) (K : zHV → Option γ) (h : k < 20) (h6 : 6 ≤ k) (h9 : k < 9 ∨ 13 ≤ k) : zsv 288 (zM5 μ g) 0 (nI k) x K = K (zM5 μ (zs g 0 k x)) := by
  rw [zsv_nI (by omega) (by decide), zM5_st, zM5_0, zU_0 g k x h h6 h9]; rfl
theorem s14 {γ : Type} (μ g : zHV) (k : Nat) (x : Int32) (K : zHV → Option γ) (h : k < 6) : zsv 288 (zM5 μ g) 0 (nI k) x K = K (zM5 μ (zs g 14 k x)) := by
  rw [zsv_nI (by omega) (by decide), zM5_st, zM5_0, zU_14 g k x h]; rfl
theorem s15 {γ : Type} (μ g : zHV) (k : Nat) (x : Int32) (K : zHV → Option γ) (h : k < 4) : zsv 288 (zM5 μ g) 0 (nI (9 + k)) x K = K (zM5 μ (zs g 15 k x)) := by
  rw [zsv_nI (by omega) (by decide), zM5_st, zM5_0, zU_15 g k x h]; rfl
theorem s1 {γ : Type} (μ g : zHV) (k c : Nat) (x : Int32) (K : zHV → Option γ) (h : k < 30) (hc : c < 6) : zsv 288 (zM5 μ g) 0 (nI (20 + 6 * k + c)) x K = K (zM5 μ (zs g (1 + c) k x)) := by
  rw [zsv_nI (by omega) (by decide), zM5_st, zM5_0, zU_1 g k c x h hc]; rfl
theorem s7 {γ : Type} (μ g : zHV) (k c : Nat) (x : Int32) (K : zHV → Option γ) (h : k < 6) (hc : c < 3) : zsv 288 (zM5 μ g) 0 (nI (200 + 3 * k + c)) x K = K (zM5 μ (zs g (7 + c) k x)) := by
  rw [zsv_nI (by omega) (by decide), zM5_st, zM5_0, zU_7 g k c x h hc]; rfl
theorem s10 {γ : Type} (μ g : zHV) (k c : Nat) (x : Int32) (K : zHV → Option γ) (h : k < 8) (hc : c < 2) : zsv 288 (zM5 μ g) 0 (nI (218 + 2 * k + c)) x K = K (zM5 μ (zs g (10 + c) k x)) := by
  rw [zsv_nI (by omega) (by decide), zM5_st, zM5_0, zU_10 g k c x h hc]; rfl
theorem s12 {γ : Type} (μ g : zHV) (k : Nat) (x : Int32) (K : zHV → Option γ) (h : k < 30) : zsv 288 (zM5 μ g) 0 (nI (234 + k)) x K = K (zM5 μ (zs g 12 k x)) := by
  rw [zsv_nI (by omega) (by decide), zM5_st, zM5_0, zU_12 g k x h]; rfl
theorem s13 {γ : Type} (μ g : zHV) (k : Nat) (x : Int32) (K : zHV → Option γ) (h : k < 24) : zsv 288 (zM5 μ g) 0 (nI (264 + k)) x K = K (zM5 μ (zs g 13 k x)) := by
  rw [zsv_nI (by omega) (by decide), zM5_st, zM5_0, zU_13 g k x]; rfl
theorem L0 {γ : Type} (μ g : zHV) (K : Int32 → Option γ) : zld 288 (zM5 μ g 0) 0 K = K (g 14 0) := l14 μ g 0 K (by decide)
theorem S0 {γ : Type} (μ g : zHV) (x : Int32) (K : zHV → Option γ) : zsv 288 (zM5 μ g) 0 0 x K = K (zM5 μ (zs g 14 0 x)) := s14 μ g 0 x K (by decide)
theorem L1 {γ : Type} (μ g : zHV) (K : Int32 → Option γ) : zld 288 (zM5 μ g 0) 1 K = K (g 14 1) := l14 μ g 1 K (by decide)
theorem S1 {γ : Type} (μ g : zHV) (x : Int32) (K : zHV → Option γ) : zsv 288 (zM5 μ g) 0 1 x K = K (zM5 μ (zs g 14 1 x)) := s14 μ g 1 x K (by decide)
theorem L2 {γ : Type} (μ g : zHV) (K : Int32 → Option γ) : zld 288 (zM5 μ g 0) 2 K = K (g 14 2) := l14 μ g 2 K (by decide)
theorem S2 {γ : Type} (μ g : zHV) (x : Int32) (K : zHV → Option γ) : zsv 288 (zM5 μ g) 0 2 x K = K (zM5 μ (zs g 14 2 x)) := s14 μ g 2 x K (by decide)
theorem L3 {γ : Type} (μ g : zHV) (K : Int32 → Option γ) : zld 288 (zM5 μ g 0) 3 K = K (g 14 3) := l14 μ g 3 K (by decide)
theorem S3 {γ : Type} (μ g : zHV) (x : Int32) (K : zHV → Option γ) : zsv 288 (zM5 μ g) 0 3 x K = K (zM5 μ (zs g 14 3 x)) := s14 μ g 3 x K (by decide)
theorem L4 {γ : Type} (μ g : zHV) (K : Int32 → Option γ) : zld 288 (zM5 μ g 0) 4 K = K (g 14 4) := l14 μ g 4 K (by decide)
theorem S4 {γ : Type} (μ g : zHV) (x : Int32) (K : zHV → Option γ) : zsv 288 (zM5 μ g) 0 4 x K = K (zM5 μ (zs g 14 4 x)) := s14 μ g 4 x K (by decide)
theorem L5 {γ : Type} (μ g : zHV) (K : Int32 → Option γ) : zld 288 (zM5 μ g 0) 5 K = K (g 14 5) := l14 μ g 5 K (by decide)
theorem S5 {γ : Type} (μ g : zHV) (x : Int32) (K : zHV → Option γ) : zsv 288 (zM5 μ g) 0 5 x K = K (zM5 μ (zs g 14 5 x)) := s14 μ g 5 x K (by decide)
theorem L6 {γ : Type} (μ g : zHV) (K : Int32 → Option γ) : zld 288 (zM5 μ g 0) 6 K = K (g 0 6) := l0 μ g 6 K (by decide) (by decide) (by decide)
theorem S6 {γ : Type} (μ g : zHV) (x : Int32) (K : zHV → Option γ) : zsv 288 (zM5 μ g) 0 6 x K = K (zM5 μ (zs g 0 6 x)) := s0 μ g 6 x K (by decide) (by decide) (by decide)
theorem L7 {γ : Type} (μ g : zHV) (K : Int32 → Option γ) : zld 288 (zM5 μ g 0) 7 K = K (g 0 7) := l0 μ g 7 K (by decide) (by decide) (by decide)
theorem S7 {γ : Type} (μ g : zHV) (x : Int32) (K : zHV → Option γ) : zsv 288 (zM5 μ g) 0 7 x K = K (zM5 μ (zs g 0 7 x)) := s0 μ g 7 x K (by decide) (by decide) (by decide)
theorem L8 {γ : Type} (μ g : zHV) (K : Int32 → Option γ) : zld 288 (zM5 μ g 0) 8 K = K (g 0 8) := l0 μ g 8 K (by decide) (by decide) (by decide)
theorem S8 {γ : Type} (μ g : zHV) (x : Int32) (K : zHV → Option γ) : zsv 288 (zM5 μ g) 0 8 x K = K (zM5 μ (zs g 0 8 x)) := s0 μ g 8 x K (by decide) (by decide) (by decide)
theorem L9 {γ : Type} (μ g : zHV) (K : Int32 → Option γ) : zld 288 (zM5 μ g 0) 9 K = K (g 15 0) := l15 μ g 0 K (by decide)
theorem S9 {γ : Type} (μ g : zHV) (x : Int32) (K : zHV → Option γ) : zsv 288 (zM5 μ g) 0 9 x K = K (zM5 μ (zs g 15 0 x)) := s15 μ g 0 x K (by decide)
theorem L10 {γ : Type} (μ g : zHV) (K : Int32 → Option γ) : zld 288 (zM5 μ g 0) 10 K = K (g 15 1) := l15 μ g 1 K (by decide)
theorem S10 {γ : Type} (μ g : zHV) (x : Int32) (K : zHV → Option γ) : zsv 288 (zM5 μ g) 0 10 x K = K (zM5 μ (zs g 15 1 x)) := s15 μ g 1 x K (by decide)
theorem L11 {γ : Type} (μ g : zHV) (K : Int32 → Option γ) : zld 288 (zM5 μ g 0) 11 K = K (g 15 2) := l15 μ g 2 K (by decide)
theorem S11 {γ : Type} (μ g : zHV) (x : Int32) (K : zHV → Option γ) : zsv 288 (zM5 μ g) 0 11 x K = K (zM5 μ (zs g 15 2 x)) := s15 μ g 2 x K (by decide)
theorem L12 {γ : Type} (μ g : zHV) (K : Int32 → Option γ) : zld 288 (zM5 μ g 0) 12 K = K (g 15 3) := l15 μ g 3 K (by decide)
theorem S12 {γ : Type} (μ g : zHV) (x : Int32) (K : zHV → Option γ) : zsv 288 (zM5 μ g) 0 12 x K = K (zM5 μ (zs g 15 3 x)) := s15 μ g 3 x K (by decide)
theorem L13 {γ : Type} (μ g : zHV) (K : Int32 → Option γ) : zld 288 (zM5 μ g 0) 13 K = K (g 0 13) := l0 μ g 13 K (by decide) (by decide) (by decide)
theorem S13 {γ : Type} (μ g : zHV) (x : Int32) (K : zHV → Option γ) : zsv 288 (zM5 μ g) 0 13 x K = K (zM5 μ (zs g 0 13 x)) := s0 μ g 13 x K (by decide) (by decide) (by decide)
theorem L14 {γ : Type} (μ g : zHV) (K : Int32 → Option γ) : zld 288 (zM5 μ g 0) 14 K = K (g 0 14) := l0 μ g 14 K (by decide) (by decide) (by decide)
theorem S14 {γ : Type} (μ g : zHV) (x : Int32) (K : zHV → Option γ) : zsv 288 (zM5 μ g) 0 14 x K = K (zM5 μ (zs g 0 14 x)) := s0 μ g 14 x K (by decide) (by decide) (by decide)
theorem L15 {γ : Type} (μ g : zHV) (K : Int32 → Option γ) : zld 288 (zM5 μ g 0) 15 K = K (g 0 15) := l0 μ g 15 K (by decide) (by decide) (by decide)
theorem S15 {γ : Type} (μ g : zHV) (x : Int32) (K : zHV → Option γ) : zsv 288 (zM5 μ g) 0 15 x K = K (zM5 μ (zs g 0 15 x)) := s0 μ g 15 x K (by decide) (by decide) (by decide)
theorem L16 {γ : Type} (μ g : zHV) (K : Int32 → Option γ) : zld 288 (zM5 μ g 0) 16 K = K (g 0 16) := l0 μ g 16 K (by decide) (by decide) (by decide)
theorem S16 {γ : Type} (μ g : zHV) (x : Int32) (K : zHV → Option γ) : zsv 288 (zM5 μ g) 0 16 x K = K (zM5 μ (zs g 0 16 x)) := s0 μ g 16 x K (by decide) (by decide) (by decide)
theorem L17 {γ : Type} (μ g : zHV) (K : Int32 → Option γ) : zld 288 (zM5 μ g 0) 17 K = K (g 0 17) := l0 μ g 17 K (by decide) (by decide) (by decide)
theorem S17 {γ : Type} (μ g : zHV) (x : Int32) (K : zHV → Option γ) : zsv 288 (zM5 μ g) 0 17 x K = K (zM5 μ (zs g 0 17 x)) := s0 μ g 17 x K (by decide) (by decide) (by decide)
theorem L18 {γ : Type} (μ g : zHV) (K : Int32 → Option γ) : zld 288 (zM5 μ g 0) 18 K = K (g 0 18) := l0 μ g 18 K (by decide) (by decide) (by decide)
theorem S18 {γ : Type} (μ g : zHV) (x : Int32) (K : zHV → Option γ) : zsv 288 (zM5 μ g) 0 18 x K = K (zM5 μ (zs g 0 18 x)) := s0 μ g 18 x K (by decide) (by decide) (by decide)
theorem L19 {γ : Type} (μ g : zHV) (K : Int32 → Option γ) : zld 288 (zM5 μ g 0) 19 K = K (g 0 19) := l0 μ g 19 K (by decide) (by decide) (by decide)
theorem S19 {γ : Type} (μ g : zHV) (x : Int32) (K : zHV → Option γ) : zsv 288 (zM5 μ g) 0 19 x K = K (zM5 μ (zs g 0 19 x)) := s0 μ g 19 x K (by decide) (by decide) (by decide)
/-! ===== seats, performers, rows ===== -/
theorem G0 (μ g : zHV) (k : Nat) (h : k < 30) : d_X8_seat (zM5 μ g) (nI k) 0 = some (g 1 k) := by
  unfold d_X8_seat
  simp only [zlet_n, nL_mul, nL_add, nR_add]
  rw [l1 μ g k 0 _ h (by decide)]
theorem T0 (μ g : zHV) (k : Nat) (x : Int32) (h : k < 30) : d_X8_setSeat (zM5 μ g) (nI k) 0 x = some (zM5 μ (zs g 1 k x)) := by
  unfold d_X8_setSeat
  simp only [zlet_n, nL_mul, nL_add, nR_add]
  rw [s1 μ g k 0 x _ h (by decide)]
theorem G1 (μ g : zHV) (k : Nat) (h : k < 30) : d_X8_seat (zM5 μ g) (nI k) 1 = some (g 2 k) := by
  unfold d_X8_seat
  simp only [zlet_n, nL_mul, nL_add, nR_add]
  rw [l1 μ g k 1 _ h (by decide)]
theorem T1 (μ g : zHV) (k : Nat) (x : Int32) (h : k < 30) : d_X8_setSeat (zM5 μ g) (nI k) 1 x = some (zM5 μ (zs g 2 k x)) := by
  unfold d_X8_setSeat
  simp only [zlet_n, nL_mul, nL_add, nR_add]
  rw [s1 μ g k 1 x _ h (by decide)]
theorem G2 (μ g : zHV) (k : Nat) (h : k < 30) : d_X8_seat (zM5 μ g) (nI k) 2 = some (g 3 k) := by
  unfold d_X8_seat
  simp only [zlet_n, nL_mul, nL_add, nR_add]
  rw [l1 μ g k 2 _ h (by decide)]
theorem T2 (μ g : zHV) (k : Nat) (x : Int32) (h : k < 30) : d_X8_setSeat (zM5 μ g) (nI k) 2 x = some (zM5 μ (zs g 3 k x)) := by
  unfold d_X8_setSeat
  simp only [zlet_n, nL_mul, nL_add, nR_add]
  rw [s1 μ g k 2 x _ h (by decide)]
theorem G3 (μ g : zHV) (k : Nat) (h : k < 30) : d_X8_seat (zM5 μ g) (nI k) 3 = some (g 4 k) := by
  unfold d_X8_seat
  simp only [zlet_n, nL_mul, nL_add, nR_add]
  rw [l1 μ g k 3 _ h (by decide)]
theorem T3 (μ g : zHV) (k : Nat) (x : Int32) (h : k < 30) : d_X8_setSeat (zM5 μ g) (nI k) 3 x = some (zM5 μ (zs g 4 k x)) := by
  unfold d_X8_setSeat
  simp only [zlet_n, nL_mul, nL_add, nR_add]
  rw [s1 μ g k 3 x _ h (by decide)]
theorem G4 (μ g : zHV) (k : Nat) (h : k < 30) : d_X8_seat (zM5 μ g) (nI k) 4 = some (g 5 k) := by
  unfold d_X8_seat
  simp only [zlet_n, nL_mul, nL_add, nR_add]
  rw [l1 μ g k 4 _ h (by decide)]
theorem T4 (μ g : zHV) (k : Nat) (x : Int32) (h : k < 30) : d_X8_setSeat (zM5 μ g) (nI k) 4 x = some (zM5 μ (zs g 5 k x)) := by
  unfold d_X8_setSeat
  simp only [zlet_n, nL_mul, nL_add, nR_add]
  rw [s1 μ g k 4 x _ h (by decide)]
theorem G5 (μ g : zHV) (k : Nat) (h : k < 30) : d_X8_seat (zM5 μ g) (nI k) 5 = some (g 6 k) := by
  unfold d_X8_seat
  simp only [zlet_n, nL_mul, nL_add, nR_add]
  rw [l1 μ g k 5 _ h (by decide)]
theorem T5 (μ g : zHV) (k : Nat) (x : Int32) (h : k < 30) : d_X8_setSeat (zM5 μ g) (nI k) 5 x = some (zM5 μ (zs g 6 k x)) := by
  unfold d_X8_setSeat
  simp only [zlet_n, nL_mul, nL_add, nR_add]
  rw [s1 μ g k 5 x _ h (by decide)]
theorem P0 (μ g : zHV) (k : Nat) (h : k < 6) : d_X8_ofPerformer (zM5 μ g) (nI k) 0 = some (g 7 k) := by
  unfold d_X8_ofPerformer
  simp only [zlet_n, nL_mul, nL_add, nR_add]
  rw [l7 μ g k 0 _ h (by decide)]
theorem P1 (μ g : zHV) (k : Nat) (h : k < 6) : d_X8_ofPerformer (zM5 μ g) (nI k) 1 = some (g 8 k) := by
  unfold d_X8_ofPerformer
  simp only [zlet_n, nL_mul, nL_add, nR_add]
  rw [l7 μ g k 1 _ h (by decide)]
theorem P2 (μ g : zHV) (k : Nat) (h : k < 6) : d_X8_ofPerformer (zM5 μ g) (nI k) 2 = some (g 9 k) := by
  unfold d_X8_ofPerformer
  simp only [zlet_n, nL_mul, nL_add, nR_add]
  rw [l7 μ g k 2 _ h (by decide)]
theorem r_at (n : Nat) (f : Nat → Int32) (k : Nat) (h : k < n) (hn : n < 2147483648) : d_X5_at n f (nI k) = some (f k) := by
  unfold d_X5_at
  rw [if_neg (nI_pos (by omega)), if_neg (nI_ge h hn), zld_nI h hn]
theorem r_store (n : Nat) (f : Nat → Int32) (k : Nat) (x : Int32) (h : k < n) (hn : n < 2147483648) : d_X5_store n f (nI k) x = some (upd f k x) := d_store h hn
theorem r_add (n : Nat) (f : Nat → Int32) (k : Nat) (x : Int32) (h : k < n) (hn : n < 2147483648) : d_X5_add n f (nI k) x = some (upd f k (f k + x)) := by
  unfold d_X5_add
  rw [if_neg (nI_pos (by omega)), if_neg (nI_ge h hn), zld_nI h hn, zlet_n, zst_nI h hn]
theorem R0_at (n : Nat) (f : Nat → Int32) (h : 0 < n) (hn : n < 2147483648) : d_X5_at n f 0 = some (f 0) := r_at n f 0 h hn
theorem R0_add (n : Nat) (f : Nat → Int32) (x : Int32) (h : 0 < n) (hn : n < 2147483648) : d_X5_add n f 0 x = some (upd f 0 (f 0 + x)) := r_add n f 0 x h hn
theorem R1_at (n : Nat) (f : Nat → Int32) (h : 1 < n) (hn : n < 2147483648) : d_X5_at n f 1 = some (f 1) := r_at n f 1 h hn
theorem R1_add (n : Nat) (f : Nat → Int32) (x : Int32) (h : 1 < n) (hn : n < 2147483648) : d_X5_add n f 1 x = some (upd f 1 (f 1 + x)) := r_add n f 1 x h hn
theorem R2_at (n : Nat) (f : Nat → Int32) (h : 2 < n) (hn : n < 2147483648) : d_X5_at n f 2 = some (f 2) := r_at n f 2 h hn
theorem R2_add (n : Nat) (f : Nat → Int32) (x : Int32) (h : 2 < n) (hn : n < 2147483648) : d_X5_add n f 2 x = some (upd f 2 (f 2 + x)) := r_add n f 2 x h hn
theorem R3_at (n : Nat) (f : Nat → Int32) (h : 3 < n) (hn : n < 2147483648) : d_X5_at n f 3 = some (f 3) := r_at n f 3 h hn
theorem R3_add (n : Nat) (f : Nat → Int32) (x : Int32) (h : 3 < n) (hn : n < 2147483648) : d_X5_add n f 3 x = some (upd f 3 (f 3 + x)) := r_add n f 3 x h hn
theorem R4_at (n : Nat) (f : Nat → Int32) (h : 4 < n) (hn : n < 2147483648) : d_X5_at n f 4 = some (f 4) := r_at n f 4 h hn
theorem R4_add (n : Nat) (f : Nat → Int32) (x : Int32) (h : 4 < n) (hn : n < 2147483648) : d_X5_add n f 4 x = some (upd f 4 (f 4 + x)) := r_add n f 4 x h hn
theorem R5_at (n : Nat) (f : Nat → Int32) (h : 5 < n) (hn : n < 2147483648) : d_X5_at n f 5 = some (f 5) := r_at n f 5 h hn
theorem R5_add (n : Nat) (f : Nat → Int32) (x : Int32) (h : 5 < n) (hn : n < 2147483648) : d_X5_add n f 5 x = some (upd f 5 (f 5 + x)) := r_add n f 5 x h hn
theorem r_fill (n : Nat) (f : Nat → Int32) (x : Int32) (hn : n < 100000) : d_X5_fill n f x = some (zfil 0 n x f) := d_fill hn
theorem seat_case (x : Int32) : (d_X7_isSeat x = some 0 ∧ d_X8_isSeat x = some 0) ∨ ∃ k : Nat, k < 30 ∧ x = nI k ∧ d_X7_isSeat x = some 1 ∧ d_X8_isSeat x = some 1 := by
  unfold d_X7_isSeat d_X8_isSeat d_X8_within
  rcases nI_case x 30 (by decide) with h | ⟨h, h2⟩ | ⟨k, hk, rfl⟩
  · exact Or.inl ⟨by rw [if_pos h], by rw [if_pos h, zcl_e, zgb_0]⟩
  · have h3 : (29 : Int32) < x := by
      have e1 : (30 : Int32).toInt ≤ x.toInt := Int32.le_iff_toInt_le.mp h2
      exact Int32.lt_iff_toInt_lt.mpr (by rw [show (30 : Int32).toInt = 30 from by decide] at e1; rw [show (29 : Int32).toInt = 29 from by decide]; omega)
    exact Or.inl ⟨by rw [if_neg h, if_pos (show (30 : Int32) ≤ x from h2)], by rw [if_neg h, if_pos h3, zcl_e, zgb_0]⟩
  · refine Or.inr ⟨k, hk, rfl, ?_, ?_⟩
    · rw [if_neg (nI_pos (by omega)), if_neg (show ¬ (30 : Int32) ≤ nI k from nI_ge (b := 30) hk (by decide))]
    · rw [if_neg (nI_pos (by omega)), if_neg (show ¬ (29 : Int32) < nI k from nI_nlt (a := 29) (by omega) (by decide)), zcl_e, zgb_1]
theorem perf_case (x : Int32) : (d_X7_isPerformer x = some 0 ∧ d_X8_isPerformer x = some 0) ∨ ∃ k : Nat, k < 6 ∧ x = nI k ∧ d_X7_isPerformer x = some 1 ∧ d_X8_isPerformer x = some 1 := by
  unfold d_X7_isPerformer d_X8_isPerformer d_X8_within
  rcases nI_case x 6 (by decide) with h | ⟨h, h2⟩ | ⟨k, hk, rfl⟩
  · exact Or.inl ⟨by rw [if_pos h], by rw [if_pos h, zcl_e, zgb_0]⟩
  · have h3 : (5 : Int32) < x := by
      have e1 : (6 : Int32).toInt ≤ x.toInt := Int32.le_iff_toInt_le.mp h2
      exact Int32.lt_iff_toInt_lt.mpr (by rw [show (6 : Int32).toInt = 6 from by decide] at e1; rw [show (5 : Int32).toInt = 5 from by decide]; omega)
    exact Or.inl ⟨by rw [if_neg h, if_pos (show (6 : Int32) ≤ x from h2)], by rw [if_neg h, if_pos h3, zcl_e, zgb_0]⟩
  · refine Or.inr ⟨k, hk, rfl, ?_, ?_⟩
    · rw [if_neg (nI_pos (by omega)), if_neg (show ¬ (6 : Int32) ≤ nI k from nI_ge (b := 6) hk (by decide))]
    · rw [if_neg (nI_pos (by omega)), if_neg (show ¬ (5 : Int32) < nI k from nI_nlt (a := 5) (by omega) (by decide)), zcl_e, zgb_1]
/-- within, for a number -/
theorem w_case (x : Int32) (a b : Nat) (hb : b < 2147483647) : (d_X8_within x (nI a) (nI b) = some 0 ∧ (x < nI a ∨ (¬ x < nI a ∧ nI b < x))) ∨ (d_X8_within x (nI a) (nI b) = some 1 ∧ ¬ x < nI a ∧ ¬ nI b < x) := by
  unfold d_X8_within
  by_cases h : x < nI a
  · exact Or.inl ⟨if_pos h, Or.inl h⟩
  · by_cases h2 : nI b < x
    · exact Or.inl ⟨by rw [if_neg h, if_pos h2], Or.inr ⟨h, h2⟩⟩
    · exact Or.inr ⟨by rw [if_neg h, if_neg h2], h, h2⟩
theorem w_in {x a b : Nat} (h1 : a ≤ x) (h2 : x ≤ b) (hb : b < 2147483648) : d_X8_within (nI x) (nI a) (nI b) = some 1 := by
  unfold d_X8_within
  rw [if_neg (nI_nlt h1 (by omega)), if_neg (nI_nlt h2 hb)]
theorem w_out {x a b : Nat} (h1 : x < a ∨ b < x) (ha : a < 2147483648) (hx : x < 2147483648) : d_X8_within (nI x) (nI a) (nI b) = some 0 := by
  unfold d_X8_within
  by_cases h : x < a
  · rw [if_pos (nI_lt h ha)]
  · rw [if_neg (nI_nlt (by omega) hx), if_pos (nI_lt (by omega) hx)]
theorem w_neg {x : Int32} {a b : Nat} (h : x < 0) (ha : a < 2147483648) : d_X8_within x (nI a) (nI b) = some 0 := by
  unfold d_X8_within
  rw [if_pos]
  have h3 : x.toInt < 0 := Int32.lt_iff_toInt_lt.mp h
  exact Int32.lt_iff_toInt_lt.mpr (by rw [nI_toInt ha]; omega)
theorem nI_lt_of_neg {x : Int32} {a : Nat} (h : x < 0) (ha : a < 2147483648) : x < nI a := by
  have h3 : x.toInt < 0 := Int32.lt_iff_toInt_lt.mp h
  exact Int32.lt_iff_toInt_lt.mpr (by rw [nI_toInt ha]; omega)
