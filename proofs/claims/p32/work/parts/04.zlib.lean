/-! ===== pure words: a method of the program as a function in Option (none: an index outside, a divisor 0, or no end in the loop's count) ===== -/
abbrev zHV : Type := Nat → Nat → Int32
def zs (v : zHV) (i k : Nat) (x : Int32) : zHV := fun a b => if a = i then (if b = k then x else v a b) else v a b
def zr (v : zHV) (i : Nat) (f : Nat → Int32) : zHV := fun a => if a = i then f else v a
def zq (v : zHV) (i n : Nat) (w : zHV) : zHV := fun a => if i ≤ a then (if a < i + n then w (a - i) else v a) else v a
def zh {α : Type} (v : Nat → α) (i : Nat) : Nat → α := fun a => v (i + a)
def zlet {α β : Type} (a : α) (K : α → Option β) : Option β := K a
def zcl {α β : Type} (d : Option α) (K : α → Option β) : Option β := match d with
  | none => none
  | some a => K a
def zcl2 {α β γ : Type} (d : Option (α × β)) (K : α → β → Option γ) : Option γ := match d with
  | none => none
  | some a => K a.1 a.2
def zld {γ : Type} (n : Nat) (f : Nat → Int32) (i : Int32) (K : Int32 → Option γ) : Option γ := if 0 ≤ i.toInt ∧ i.toInt < n then K (f i.toNatClampNeg) else none
def zst {γ : Type} (n : Nat) (f : Nat → Int32) (i x : Int32) (K : (Nat → Int32) → Option γ) : Option γ := if 0 ≤ i.toInt ∧ i.toInt < n then K (upd f i.toNatClampNeg x) else none
def zdv {γ : Type} (x y : Int32) (K : Int32 → Option γ) : Option γ := if y = 0 then none else K (x / y)
def zrm {γ : Type} (x y : Int32) (K : Int32 → Option γ) : Option γ := if y = 0 then none else K (x - x / y * y)
def zup {α β γ : Type} (d : Option α) (g : α → β) (K : β → Option γ) : Option γ := match d with
  | none => none
  | some a => K (g a)
def zup2 {α β γ δ : Type} (d : Option (α × β)) (g : β → γ) (K : α → γ → Option δ) : Option δ := match d with
  | none => none
  | some a => K a.1 (g a.2)
def zjn {σ γ : Type} (F : σ) (K : σ → Option γ) : Option γ := K F
def zgb {γ : Type} (x : Int32) (K : Option γ) : Option γ := if x = 0 ∨ x = 1 then K else none
def zsv {γ : Type} (n : Nat) (v : zHV) (k : Nat) (i x : Int32) (K : zHV → Option γ) : Option γ := if 0 ≤ i.toInt ∧ i.toInt < n then K (zr v k (upd (v k) i.toNatClampNeg x)) else none
def zcp {γ : Type} (n0 : Nat) (f : Nat → Int32) (n1 : Nat) (g : Nat → Int32) (sp dp n : Int32) (K : (Nat → Int32) → Option γ) : Option γ := if ¬ sp < 0 ∧ ¬ dp < 0 ∧ ¬ n < 0 ∧ sp.toNatClampNeg + n.toNatClampNeg ≤ n0 ∧ dp.toNatClampNeg + n.toNatClampNeg ≤ n1 then K (va_cpy f g sp.toNatClampNeg dp.toNatClampNeg n.toNatClampNeg) else none
def zF : Nat := 100000
theorem zup_some {α β γ : Type} {d : Option α} {g : α → β} {K : β → Option γ} {r : γ} (h : zup d g K = some r) : ∃ a, d = some a ∧ K (g a) = some r := by
  cases d with
  | none => cases h
  | some a => exact ⟨a, rfl, h⟩
theorem zup2_some {α β γ δ : Type} {d : Option (α × β)} {g : β → γ} {K : α → γ → Option δ} {r : δ} (h : zup2 d g K = some r) : ∃ a b, d = some (a, b) ∧ K a (g b) = some r := by
  cases d with
  | none => cases h
  | some a => exact ⟨a.1, a.2, rfl, h⟩
theorem zjn_some {σ γ : Type} {F : σ} {K : σ → Option γ} {r : γ} (h : zjn F K = some r) : ∃ j, j = F ∧ K j = some r := ⟨F, rfl, h⟩
theorem zgb_some {γ : Type} {x : Int32} {K : Option γ} {r : γ} (h : zgb x K = some r) : (x = 0 ∨ x = 1) ∧ K = some r := by
  unfold zgb at h
  by_cases c : x = 0 ∨ x = 1
  · rw [if_pos c] at h; exact ⟨c, h⟩
  · rw [if_neg c] at h; cases h
theorem zgb_n {x : Int32} (h : x = 0 ∨ x = 1) : narrow .boolean (.int x) = .int x := by rcases h with rfl | rfl <;> rfl
theorem zgb_f {x : Int32} (h : x = 0 ∨ x = 1) : fits .boolean (.int x) = true := by rcases h with rfl | rfl <;> rfl
theorem zsv_some {γ : Type} {n : Nat} {v : zHV} {k : Nat} {i x : Int32} {K : zHV → Option γ} {r : γ} (h : zsv n v k i x K = some r) : vp_in i n ∧ K (zr v k (upd (v k) i.toNatClampNeg x)) = some r := by
  unfold zsv at h
  by_cases c : 0 ≤ i.toInt ∧ i.toInt < n
  · rw [if_pos c] at h; exact ⟨vp_in_iff.mpr c, h⟩
  · rw [if_neg c] at h; cases h
theorem zcp_some {γ : Type} {n0 : Nat} {f : Nat → Int32} {n1 : Nat} {g : Nat → Int32} {sp dp n : Int32} {K : (Nat → Int32) → Option γ} {r : γ} (h : zcp n0 f n1 g sp dp n K = some r) : ¬ sp < 0 ∧ ¬ dp < 0 ∧ ¬ n < 0 ∧ sp.toNatClampNeg + n.toNatClampNeg ≤ n0 ∧ dp.toNatClampNeg + n.toNatClampNeg ≤ n1 ∧ K (va_cpy f g sp.toNatClampNeg dp.toNatClampNeg n.toNatClampNeg) = some r := by
  unfold zcp at h
  split at h
  · rename_i c; exact ⟨c.1, c.2.1, c.2.2.1, c.2.2.2.1, c.2.2.2.2, h⟩
  · cases h
theorem zcl_some {α β : Type} {d : Option α} {K : α → Option β} {r : β} (h : zcl d K = some r) : ∃ a, d = some a ∧ K a = some r := by
  cases d with
  | none => cases h
  | some a => exact ⟨a, rfl, h⟩
theorem zcl2_some {α β γ : Type} {d : Option (α × β)} {K : α → β → Option γ} {r : γ} (h : zcl2 d K = some r) : ∃ a b, d = some (a, b) ∧ K a b = some r := by
  cases d with
  | none => cases h
  | some a => exact ⟨a.1, a.2, rfl, h⟩
theorem zld_some {γ : Type} {n : Nat} {f : Nat → Int32} {i : Int32} {K : Int32 → Option γ} {r : γ} (h : zld n f i K = some r) : vp_in i n ∧ K (f i.toNatClampNeg) = some r := by
  unfold zld at h
  by_cases c : 0 ≤ i.toInt ∧ i.toInt < n
  · rw [if_pos c] at h; exact ⟨vp_in_iff.mpr c, h⟩
  · rw [if_neg c] at h; cases h
theorem zst_some {γ : Type} {n : Nat} {f : Nat → Int32} {i x : Int32} {K : (Nat → Int32) → Option γ} {r : γ} (h : zst n f i x K = some r) : vp_in i n ∧ K (upd f i.toNatClampNeg x) = some r := by
  unfold zst at h
  by_cases c : 0 ≤ i.toInt ∧ i.toInt < n
  · rw [if_pos c] at h; exact ⟨vp_in_iff.mpr c, h⟩
  · rw [if_neg c] at h; cases h
theorem zdv_some {γ : Type} {x y : Int32} {K : Int32 → Option γ} {r : γ} (h : zdv x y K = some r) : ¬ y = 0 ∧ K (x / y) = some r := by
  unfold zdv at h
  by_cases c : y = 0
  · rw [if_pos c] at h; cases h
  · rw [if_neg c] at h; exact ⟨c, h⟩
theorem zrm_some {γ : Type} {x y : Int32} {K : Int32 → Option γ} {r : γ} (h : zrm x y K = some r) : ¬ y = 0 ∧ K (x - x / y * y) = some r := by
  unfold zrm at h
  by_cases c : y = 0
  · rw [if_pos c] at h; cases h
  · rw [if_neg c] at h; exact ⟨c, h⟩
/-! ===== the surroundings ===== -/
/-- class numbers and slots; the class of int rows; the class of rows of houses; where LEAST, MOST, FIRST and the script lie; the script's length and ints -/
abbrev zE : Type := va_G × ClassId × ClassId × (Nat → Nat) × Nat × (Nat → Int32)
abbrev zTys (E : zE) : List (ClassId × FieldType) := [(E.2.1, .int), (E.2.2.1, .object RX2)]
def zLEAST : Nat → Int32 := fun j => match j with | 0 => 1 | 1 => 20 | 2 => 1 | 3 => 0 | 4 => 1 | _ => 1
def zMOST : Nat → Int32 := fun j => match j with | 0 => 50 | 1 => 900 | 2 => 300 | 3 => 9 | 4 => 9 | _ => 900
def zFIRST : Nat → Int32 := fun j => match j with | 0 => 10 | 1 => 200 | 2 => 60 | 3 => 2 | 4 => 3 | _ => 50
def zNest : List Cond := [.fieldLinkNest RX7 101 RX2 "time" "I" RX7, .fieldLinkNest RX7 109 RX2 "seats" "LApplauseTallies$Seats;" RX7, .fieldLinkNest RX7 92 RX2 "encores" "LApplauseTallies$Encores;" RX7, .fieldLinkNest RX2 104 RX0 "pieces" "LApplauseTallies$Row;" RX7, .fieldLinkNest RX2 158 RX6 "early" "LApplauseTallies$Row;" RX7, .fieldLinkNest RX2 161 RX6 "clapsTonight" "LApplauseTallies$Row;" RX7, .fieldLinkNest RX2 167 RX6 "clapsSoFar" "LApplauseTallies$Row;" RX7, .fieldLinkNest RX2 173 RX0 "owedCount" "I" RX7, .fieldLinkNest RX2 176 RX0 "played" "LApplauseTallies$Row;" RX7, .fieldLinkNest RX2 183 RX0 "lapsed" "LApplauseTallies$Row;" RX7, .fieldLinkNest RX2 192 RX0 "since" "LApplauseTallies$Row;" RX7, .fieldLinkNest RX2 44 RX7 "FIRST" "[I" RX7, .fieldLinkNest RX2 78 RX7 "LEAST" "[I" RX7, .fieldLinkNest RX2 81 RX7 "MOST" "[I" RX7, .fieldLinkNest RX2 92 RX6 "loudness" "LApplauseTallies$Row;" RX7, .fieldLinkNest RX2 95 RX6 "paid" "I" RX7, .methodLinkNest RX7 29 yX4_init RX7, .methodLinkNest RX0 54 yX7_isPerformer RX7, .methodLinkNest RX2 131 yX7_afterSecond RX7, .methodLinkNest RX2 29 yX0_init RX7, .methodLinkNest RX2 88 yX7_isSeat RX7, .methodLinkNest RX2 98 yX7_isPerformer RX7]
def zIsNest : Cond → Bool := fun w => match w with | .fieldLinkNest .. => true | .methodLinkNest .. => true | _ => false
theorem zNest_is : ∀ w ∈ zNest, zIsNest w = true := by decide +kernel
theorem zNest_in : ∀ w ∈ zNest, w ∈ lw_tbl := zz_in [132, 125, 127, 101, 58, 60, 62, 103, 97, 99, 95, 117, 459, 461, 56, 66, 181, 511, 382, 87, 316, 362] (by decide +kernel)
def zStat (E : zE) (A : Nat → Prop) (U : State) (H : Heap) : Prop :=
  (va_Z RX7 "LEAST" "[I" (.ref (E.2.2.2.1 0)) A U H ∧ va_T .int (E.2.2.2.1 0) 6 (fun j => .int (zLEAST j)) A U H) ∧
  (va_Z RX7 "MOST" "[I" (.ref (E.2.2.2.1 1)) A U H ∧ va_T .int (E.2.2.2.1 1) 6 (fun j => .int (zMOST j)) A U H) ∧
  (va_Z RX7 "FIRST" "[I" (.ref (E.2.2.2.1 2)) A U H ∧ va_T .int (E.2.2.2.1 2) 6 (fun j => .int (zFIRST j)) A U H) ∧
  va_T .int (E.2.2.2.1 3) E.2.2.2.2.1 (fun j => .int (E.2.2.2.2.2 j)) A U H
/-- what every method is told of its surroundings -/
def zK (E : zE) (A : Nat → Prop) (U : State) (H : Heap) : Prop :=
  va_K E.1 vwCl (zTys E) U ∧ (∀ w ∈ zNest, va_Nw w U) ∧ va_AO RX2 U ∧ zStat E A U H
theorem zNest_warm {w : Cond} (hw : w ∈ zNest) {s U : State} (hW : s.WarmedH U.vm) (h : va_Nw w s) : va_Nw w U := by
  have h1 := zNest_is w hw
  cases w <;> first | (cases h1; done) | exact va_Nw.warmF hW h | exact va_Nw.warmM hW h
theorem zNest_same {w : Cond} (hw : w ∈ zNest) {u U : State} (hv : u.vm = U.vm) (h : va_Nw w u) : va_Nw w U := by
  have h1 := zNest_is w hw
  cases w <;> first | (cases h1; done) | exact va_Nw.same rfl hv h
theorem zStat_down {E : zE} {A B : Nat → Prop} {s U : State} {H0 H : Heap} {locs : List Loc} (h : zStat E A s H0) (hvm : s.vm.Alike U.vm) (hS : va_S A H0 H locs) (hB : ∀ q, B q → A q) : zStat E B U H := by
  obtain ⟨⟨a1, a2⟩, ⟨b1, b2⟩, ⟨c1, c2⟩, d2⟩ := h
  exact ⟨⟨((a1.moved hvm).kept hS.2.1).narrow hB, ((a2.moved hvm).kept hS.2.1).narrow hB⟩, ⟨((b1.moved hvm).kept hS.2.1).narrow hB, ((b2.moved hvm).kept hS.2.1).narrow hB⟩, ⟨((c1.moved hvm).kept hS.2.1).narrow hB, ((c2.moved hvm).kept hS.2.1).narrow hB⟩, ((d2.moved hvm).kept hS.2.1).narrow hB⟩
theorem zK_down {E : zE} {A B : Nat → Prop} {s U : State} {H0 H : Heap} {locs : List Loc} (h : zK E A s H0) (hW : s.WarmedH U.vm) (hS : va_S A H0 H locs) (hB : ∀ q, B q → A q) : zK E B U H :=
  ⟨va_K.moved hW.alike h.1, fun w hw => zNest_warm hw hW (h.2.1 w hw), va_AO.moved hW.alike h.2.2.1, zStat_down h.2.2.2 hW.alike hS hB⟩
theorem zK_calling {E : zE} {A : Nat → Prop} {U : State} {H : Heap} (g : JFrame) (mk : MethodId) (a : Array Value) (h : zK E A U H) : zK E A (U.calling g mk a) H :=
  ⟨va_K.moved (u := U) (U := U.calling g mk a) (Vm.Alike.refl U.vm) h.1, fun w hw => zNest_same (u := U) (U := U.calling g mk a) hw rfl (h.2.1 w hw), va_AO.moved (u := U) (U := U.calling g mk a) (Vm.Alike.refl U.vm) h.2.2.1, zStat_down (s := U) (U := U.calling g mk a) (H0 := H) (locs := []) h.2.2.2 (Vm.Alike.refl U.vm) va_S.rf (fun _ h => h)⟩
/-- the world of a method as it runs -/
def zW (E : zE) (A : Nat → Prop) (s : State) (ws : va_W) (H : Heap) (locs : List Loc) : Prop := va_P E.1 vwCl ws H ∧ va_D A ws ∧ va_S A s.heap H locs
theorem zP_perm {D : va_G} {cl : List vw_C} {w1 w2 : va_W} {H : Heap} (hp : w1.Perm w2) (h : va_P D cl w1 H) : va_P D cl w2 H := fun k q hk => by
  obtain ⟨i, hi⟩ := List.getElem?_of_mem (hp.mem_iff.mpr (List.mem_of_getElem? hk))
  exact h i q hi
theorem zD_iff {A : Nat → Prop} {ws : va_W} : va_D A ws ↔ (ws.map Prod.fst).Nodup ∧ ∀ q ∈ ws, A q.1 := by
  constructor
  · intro h
    refine ⟨?_, fun q hq => ?_⟩
    · rw [List.Nodup, List.pairwise_map, List.pairwise_iff_getElem]
      intro i j hi hj hij e
      exact absurd (h.1 i j _ _ (List.getElem?_eq_getElem hi) (List.getElem?_eq_getElem hj) e) (by omega)
    · obtain ⟨i, hi⟩ := List.getElem?_of_mem hq
      exact h.2 i q hi
  · intro h
    refine ⟨fun i j p q hp hq e => ?_, fun k q hk => h.2 q (List.mem_of_getElem? hk)⟩
    have hn := h.1
    rw [List.Nodup, List.pairwise_map, List.pairwise_iff_getElem] at hn
    obtain ⟨hi, rfl⟩ := List.getElem?_eq_some_iff.mp hp
    obtain ⟨hj, rfl⟩ := List.getElem?_eq_some_iff.mp hq
    rcases Nat.lt_trichotomy i j with c | c | c
    · exact absurd e (hn i j hi hj c)
    · exact c
    · exact absurd e.symm (hn j i hj hi c)
theorem zD_perm {A : Nat → Prop} {w1 w2 : va_W} (hp : w1.Perm w2) (h : va_D A w1) : va_D A w2 := by
  rw [zD_iff] at h ⊢
  exact ⟨(hp.map Prod.fst).nodup_iff.mp h.1, fun q hq => h.2 q (hp.mem_iff.mpr hq)⟩
theorem zW_perm {E : zE} {A : Nat → Prop} {s : State} {w1 w2 : va_W} {H : Heap} {locs : List Loc} (h : zW E A s w1 H locs) (hp : w1.Perm w2) : zW E A s w2 H locs := ⟨zP_perm hp h.1, zD_perm hp h.2.1, h.2.2⟩
theorem zW_eq {E : zE} {A : Nat → Prop} {s : State} {w1 w2 : va_W} {H : Heap} {locs : List Loc} (h : zW E A s w1 H locs) (hp : w1 = w2) : zW E A s w2 H locs := hp ▸ h
theorem zP_left {D : va_G} {cl : List vw_C} {w1 w2 : va_W} {H : Heap} (h : va_P D cl (w1 ++ w2) H) : va_P D cl w1 H := fun k q hk => h k q (by rw [List.getElem?_append_left (List.getElem?_eq_some_iff.mp hk).1]; exact hk)
theorem zP_right {D : va_G} {cl : List vw_C} {w1 w2 : va_W} {H : Heap} (h : va_P D cl (w1 ++ w2) H) : va_P D cl w2 H := fun k q hk => h (w1.length + k) q (by rw [List.getElem?_append_right (by omega), Nat.add_sub_cancel_left]; exact hk)
theorem zD_left {A : Nat → Prop} {w1 w2 : va_W} (h : va_D A (w1 ++ w2)) : va_D A w1 := by
  rw [zD_iff] at h ⊢
  rw [List.map_append, List.nodup_append] at h
  exact ⟨h.1.1, fun q hq => h.2 q (List.mem_append_left _ hq)⟩
theorem zD_right {A : Nat → Prop} {w1 w2 : va_W} (h : va_D A (w1 ++ w2)) : va_D A w2 := by
  rw [zD_iff] at h ⊢
  rw [List.map_append, List.nodup_append] at h
  exact ⟨h.1.2.1, fun q hq => h.2 q (List.mem_append_right _ hq)⟩
/-- the frame: a callee had the cells wc, and leaves w1; the rest is as it was -/
theorem z_join {A0 : Nat → Prop} {D : va_G} {cl : List vw_C} {wc wr w1 : va_W} {H H1 : Heap} (hP : va_P D cl (wc ++ wr) H) (hD : va_D A0 (wc ++ wr))
    (hk : ∀ q : Nat, q < H.size → ¬ va_A wc H.size q → H1[q]? = H[q]?) (hF : ∀ q, va_A wc H.size q → A0 q) (hP1 : va_P D cl w1 H1) (hD1 : va_D (va_A wc H.size) w1) : va_P D cl (w1 ++ wr) H1 ∧ va_D A0 (w1 ++ wr) := by
  have apart : ∀ (k : Nat) (q : Nat × va_E), wr[k]? = some q → q.1 < H.size ∧ ¬ va_A wc H.size q.1 := by
    intro k q hq
    have h2 : (wc ++ wr)[wc.length + k]? = some q := by rw [List.getElem?_append_right (by omega), Nat.add_sub_cancel_left]; exact hq
    have hl := (hP _ q h2).lt
    refine ⟨hl, fun h => ?_⟩
    rcases h with ⟨k2, e, h⟩ | h
    · have hk2 := (List.getElem?_eq_some_iff.mp h).1
      have h3 : (wc ++ wr)[k2]? = some (q.1, e) := by rw [List.getElem?_append_left hk2]; exact h
      have := hD.1 _ _ _ _ h2 h3 rfl
      omega
    · omega
  refine ⟨va_P.app hP1 (fun k q hq => ?_), va_D.app (hD1.weaken (fun k q _ h => hF q.1 h)) (zD_right hD) (fun i j x y hx hy hxy => ?_)⟩
  · obtain ⟨g1, g2⟩ := apart k q hq
    exact (zP_right hP k q hq).kept (hk q.1 g1 g2)
  · exact (apart j y hy).2 (by rw [← hxy]; exact hD1.2 i x hx)
/-! ===== contracts ===== -/
def zPre (E : zE) (wc : va_W) (sz : Nat) (U : State) : Prop := U.heap.size = sz ∧ va_P E.1 vwCl wc U.heap ∧ zK E (va_A wc sz) U U.heap ∧ va_D (fun _ => True) wc
def zPost (E : zE) (A : Nat → Prop) (w1 : va_W) (t : State) : Prop := va_P E.1 vwCl w1 t.heap ∧ va_D A w1
abbrev zQi (E : zE) (A : Nat → Prop) (r : Int32) (w1 : va_W) := va_Qi (fun (x : Int32) (_ : Unit) => x = r) (fun _ t => zPost E A w1 t) A
abbrev zQv (E : zE) (A : Nat → Prop) (w1 : va_W) := va_Qv (fun (_ : Unit) => True) (fun _ t => zPost E A w1 t) A
abbrev zQa (E : zE) (A : Nat → Prop) (P1 : va_W → Prop) := va_Qv P1 (fun w1 t => zPost E A w1 t) A
abbrev zQn (E : zE) (A : Nat → Prop) (r : Int32) (P1 : va_W → Prop) := va_Qi (fun (x : Int32) w1 => x = r ∧ P1 w1) (fun w1 t => zPost E A w1 t) A
abbrev zQl (E : zE) (A : Nat → Prop) (r : Int64) (w1 : va_W) := va_Ql (fun (x : Int64) (_ : Unit) => x = r) (fun _ t => zPost E A w1 t) A
/-- an int method that makes nothing -/
def zMi (l : Launch) (E : zE) (y : MethodName) (ws : List Cond) (rm : Room) (args : List Value) (wc : va_W) (r : Int32) (w1 : va_W) : Prop := ∀ sz, Met l y ws rm (va_Pc args (zPre E wc sz)) (zQi E (va_A wc sz) r w1) 0 0 (va_A wc sz)
def zMl (l : Launch) (E : zE) (y : MethodName) (ws : List Cond) (rm : Room) (args : List Value) (wc : va_W) (r : Int64) (w1 : va_W) : Prop := ∀ sz, Met l y ws rm (va_Pc args (zPre E wc sz)) (zQl E (va_A wc sz) r w1) 0 0 (va_A wc sz)
def zMv (l : Launch) (E : zE) (y : MethodName) (ws : List Cond) (rm : Room) (args : List Value) (wc : va_W) (w1 : va_W) : Prop := ∀ sz, Met l y ws rm (va_Pc args (zPre E wc sz)) (zQv E (va_A wc sz) w1) 0 0 (va_A wc sz)
/-- a void method that makes mc cells of ms slots; an int method that does -/
def zMa (l : Launch) (E : zE) (y : MethodName) (ws : List Cond) (rm : Room) (args : List Value) (wc : va_W) (mc ms : Nat) (P1 : va_W → Prop) : Prop := ∀ sz, Met l y ws rm (va_Pc args (zPre E wc sz)) (zQa E (va_A wc sz) P1) mc ms (va_A wc sz)
def zMn (l : Launch) (E : zE) (y : MethodName) (ws : List Cond) (rm : Room) (args : List Value) (wc : va_W) (mc ms : Nat) (r : Int32) (P1 : va_W → Prop) : Prop := ∀ sz, Met l y ws rm (va_Pc args (zPre E wc sz)) (zQn E (va_A wc sz) r P1) mc ms (va_A wc sz)
/-- what a method's body is told: the machine, the code, its words, its surroundings -/
def zX (E : zE) (ws : List Cond) (own : String) (cc : ByteArray) (nL : Nat) (ret : Option FieldType) (y : MethodName) (p : Program) (s : State) (m : MethodId) (args : Array Value) (meth : Method) (c : Code) (A : Nat → Prop) : Prop :=
  p.tables.exec = Jvm.exec ∧ c.code = cc ∧ c.maxLocals = nL ∧ s.vm.findClass own = some m.cls ∧ (∀ w ∈ ws, w.before args s = true) ∧ zK E A s s.heap ∧ (∀ q, s.heap.size ≤ q → A q) ∧ meth.sig.returnType = ret ∧ meth.locks = false ∧ meth.name = y.name
theorem z_entry {l : Launch} {y : MethodName} {ws ws' : List Cond} {rm : Room} {cc : ByteArray} {maxL : Nat} {ret : Option FieldType} {E : zE} {args : List Value} {wc : va_W} {sz mc ms : Nat} {Qc : (Nat → Prop) → Array Value → State → Outcome → State → Prop}
    (hy : plainName y.cls = true) (hw : ws = Cond.code y cc maxL ret :: ws') (hlen : (lg_sl args).length ≤ maxL)
    (body : ∀ (p : Program) (e : Env) (s : State) (m : MethodId) (below : List Frame) (meth : Method) (c : Code) (A : Nat → Prop), zX E ws y.cls cc maxL ret y p s m args.toArray meth c A → zW E A s wc s.heap [] → ∀ ls : Array Slot, lv_has ls maxL (lv_args 0 args) →
      W p l e rm s m args.toArray below meth c s.heap [] 0 0 (MQ below (Qc A) args.toArray s mc ms A) (F0 m 0 ls [])) : Met l y ws rm (va_Pc args (zPre E wc sz)) (Qc (va_A wc sz)) mc ms (va_A wc sz) := by
  refine Met.ofW (cc := cc) (maxL := maxL) (ret := ret) hy hw ?_
  intro p e s m args2 below meth c s₁ B hml hv
  obtain ⟨rfl, hsz, hP, hK, hD0⟩ := hv
  have hown : s.vm.findClass y.cls = some m.cls := findClass_of_methodNamed B.named
  have hin := (name_of_methodNamed B.named B.method).1
  subst hsz
  have hD := hD0.self (sz := s.heap.size)
  rw [lg_entry_eq]
  exact body p e s m below meth c _ ⟨B.exec, B.bytes, hml, hown, atoms_spec (ws := ws) B.pre, hK, fun q h => Or.inr h, B.returns, B.notSynchronized, hin⟩ ⟨hP, hD, va_S.rf⟩ _ (lv_entry args hlen)
