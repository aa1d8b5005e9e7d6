/-! ===== constructors ===== -/
theorem arrV_congr (cA : ClassId) (n : Nat) {f g : Nat → Value} (h : ∀ k, k < n → f k = g k) : arrV cA n f = arrV cA n g := by
  unfold arrV
  congr 2
  funext j
  exact h j.val j.isLt
theorem rw_congr {E : zE} {a : Nat → Nat} {n : Nat} {f g : Nat → Int32} {H : Heap} (h : ∀ k, k < n → f k = g k) (hP : va_P E.1 vwCl (rwW E a n f) H) : va_P E.1 vwCl (rwW E a n g) H := by
  intro k q hk
  match k, hk with
  | 0, hk => exact hP 0 q hk
  | 1, hk =>
    cases hk
    have h1 := hP 1 _ rfl
    show H[a 1]? = some (vp_cell E.2.1 (n, .inl g))
    have h2 : H[a 1]? = some (vp_cell E.2.1 (n, .inl f)) := h1
    rw [h2, vp_cell_i, vp_cell_i, arrV_congr E.2.1 n (fun k hk => by rw [h k hk])]
  | k + 2, hk => simp [rwW] at hk
theorem rwD_congr {E : zE} {a : Nat → Nat} {n : Nat} {f g : Nat → Int32} {wr : va_W} {A : Nat → Prop} (h : va_D A (rwW E a n f ++ wr)) : va_D A (rwW E a n g ++ wr) := by
  rw [zD_iff] at h ⊢
  refine ⟨h.1, fun q hq => ?_⟩
  rcases List.mem_append.mp hq with hq | hq
  · simp only [rwW, List.mem_cons, List.not_mem_nil, or_false] at hq
    rcases hq with rfl | rfl
    · exact h.2 (a 0, .inr (5, [.ref (a 1)])) (by simp [rwW])
    · exact h.2 (a 1, .inl (E.2.1, n, .inl f)) (by simp [rwW])
  · exact h.2 q (List.mem_append_right _ hq)
theorem zW_row {E : zE} {A : Nat → Prop} {s : State} {H : Heap} {locs : List Loc} {a : Nat → Nat} {n : Nat} {f : Nat → Int32} (g : Nat → Int32) {w wr : va_W} (hp : w.Perm (rwW E a n f ++ wr)) (h : ∀ k, k < n → f k = g k) (hW : zW E A s w H locs) {w' : va_W} (hj : (rwW E a n g ++ wr).Perm w') : zW E A s w' H locs := by
  have h1 := zW_perm hW hp
  refine zW_perm ?_ hj
  exact ⟨va_P.app (rw_congr h (zP_left h1.1)) (zP_right h1.1), rwD_congr h1.2.1, h1.2.2⟩
section ZN
variable {p : Program} {l : Launch} {e : Env} {R : Room} {s : State} {m : MethodId} {args : Array Value} {below : List Frame} {meth : Method} {c : Code} {H : Heap} {locs : List Loc} {cells slots : Nat} {Q : State → Prop}
variable {cc : ByteArray} {pc : Nat} {ls : Array Slot} {rest : List Value} {E : zE} {ws : List Cond} {own : String} {nL : Nat} {ret : Option FieldType} {y0 : MethodName} {A : Nat → Prop} {w wc wr : va_W} {γ : Type} {r : γ}
theorem z_new (X : zX E ws own cc nL ret y0 p s m args meth c A) (hW : zW E A s w H locs) {C : String} {T : u_T} {N idx : Nat} (ty : Nat → FieldType) (hty : ∀ k, k < N → parseFieldDescriptor (T k).2.2.1 = some (ty k)) (ci : Nat) (hc : vwCl[ci]? = some (C, T, N)) (hin : ∀ x ∈ u_ws C T N, x ∈ ws) (hcl : Cond.classLink own idx C ∈ ws) (hinst : Cond.instantiable C N ∈ ws) (hini : Cond.initialized C ∈ ws) (fs : List Value) (hfs : ∀ j, j < N → defaultValue (ty j) = vp_V fs j) (hcells : cells + 1 ≤ R.cells) (hslots : slots + N ≤ R.slots) (hdg : decode cc pc = .ok (.new idx, 3))
    (kk : ∀ (q : Nat) (H1 : Heap), zW E A s (w ++ [(q, .inr (ci, fs))]) H1 locs → W p l e R s m args below meth c H1 locs (cells + 1) (slots + N) Q (F0 m (pc + 3) ls (.ref q :: rest))) : W p l e R s m args below meth c H locs cells slots Q (F0 m pc ls rest) :=
  va_new X.1 X.2.1 X.2.2.2.2.1 hin ty hty X.2.2.2.1 (X.2.2.2.2.1 _ hcl) (X.2.2.2.2.1 _ hinst) (X.2.2.2.2.1 _ hini) X.2.2.2.2.2.1.1 hW.1 hW.2.1 hW.2.2 X.2.2.2.2.2.2.1 hc hfs hcells hslots hdg (fun q H1 h1 h2 h3 => kk q H1 ⟨h1, h2, h3⟩)
theorem z_newi (X : zX E ws own cc nL ret y0 p s m args meth c A) (hW : zW E A s w H locs) (harr : Cond.arrayClass .int ∈ ws) {n : Int32} (N : Nat) (hn : ¬ n < 0) (hN : n.toNatClampNeg = N) (hbytes : N * 4 ≤ 536870912) (hcells : cells + 1 ≤ R.cells) (hslots : slots + N ≤ R.slots) (hdg : decode cc pc = .ok (.newarray .int, 2))
    (kk : ∀ (q : Nat) (H1 : Heap), zW E A s (w ++ [(q, .inl (E.2.1, N, .inl (fun _ => 0)))]) H1 locs → W p l e R s m args below meth c H1 locs (cells + 1) (slots + N) Q (F0 m (pc + 2) ls (.ref q :: rest))) : W p l e R s m args below meth c H locs cells slots Q (F0 m pc ls (.int n :: rest)) := by
  refine va_newa (atype := .int) (a0 := (N, .inl (fun _ => 0))) (ty := .int) X.1 X.2.1 (X.2.2.2.2.1 _ harr) rfl X.2.2.2.2.2.1.1 hW.1 hW.2.1 hW.2.2 X.2.2.2.2.2.2.1 (fun _ => rfl) hn hN hbytes hcells hslots hdg (fun q cA H1 hK h1 h2 h3 => ?_)
  have e1 : s.vm.findClass ("[" ++ FieldType.int.toString) = some cA := (hK.2 2 (cA, .int) rfl).2
  have e2 : s.vm.findClass ("[" ++ FieldType.int.toString) = some E.2.1 := (hK.2 0 (E.2.1, .int) rfl).2
  have e3 : cA = E.2.1 := Option.some.inj (e1.symm.trans e2)
  subst e3
  exact kk q H1 ⟨h1, h2, h3⟩
theorem z_newq (X : zX E ws own cc nL ret y0 p s m args meth c A) (hW : zW E A s w H locs) {idx : Nat} (hcl : Cond.classLink own idx RX2 ∈ ws) {n : Int32} (N : Nat) (hn : ¬ n < 0) (hN : n.toNatClampNeg = N) (hbytes : N * 4 ≤ 536870912) (hcells : cells + 1 ≤ R.cells) (hslots : slots + N ≤ R.slots) (hdg : decode cc pc = .ok (.anewarray idx, 3))
    (kk : ∀ (q : Nat) (H1 : Heap), zW E A s (w ++ [(q, .inl (E.2.2.1, N, .inr (.inr (.inr (.inr (fun _ => none))))))]) H1 locs → W p l e R s m args below meth c H1 locs (cells + 1) (slots + N) Q (F0 m (pc + 3) ls (.ref q :: rest))) : W p l e R s m args below meth c H locs cells slots Q (F0 m pc ls (.int n :: rest)) := by
  refine va_newq X.1 X.2.1 X.2.2.2.1 (X.2.2.2.2.1 _ hcl) X.2.2.2.2.2.1.2.2.1 X.2.2.2.2.2.1.1 hW.1 hW.2.1 hW.2.2 X.2.2.2.2.2.2.1 hn hN hbytes hcells hslots hdg (fun q cA H1 hK h1 h2 h3 => ?_)
  obtain ⟨k1, c1, -, -, -, e1⟩ := (hK.2 2 (cA, .object RX2) rfl).2
  obtain ⟨k2, c2, -, -, -, e2⟩ := (hK.2 1 (E.2.2.1, .object RX2) rfl).2
  have e3 : cA = E.2.2.1 := Option.some.inj (e1.symm.trans e2)
  subst e3
  exact kk q H1 ⟨h1, h2, h3⟩
/-- a final field is written in a constructor -/
theorem z_putF (X : zX E ws own cc nL ret y0 p s m args meth c A) (hW : zW E A s w H locs) (w' : va_W) {C : String} {T : u_T} {N : Nat} (ty0 : Nat → FieldType) (hty : ∀ k, k < N → parseFieldDescriptor (T k).2.2.1 = some (ty0 k)) (hnm : ∀ a, a < N → ∀ b, b < N → a ≠ b → (T a).2.1 ≠ (T b).2.1) {a idx : Nat} (q0 ci k : Nat) {fs : List Value} {v : Value} (he : w[q0]? = some (a, .inr (ci, fs))) (hc : vwCl[ci]? = some (C, T, N)) (hin : ∀ x ∈ u_ws C T N, x ∈ ws) (hk : k < N) (hlink : Cond.fieldLink own idx (T k).1 (T k).2.1 (T k).2.2.1 ∈ ws) (hfin : (T k).2.2.2 = true) (hy : y0.name = "<init>") (hdecl : (T k).1 = own) (hn : narrow (ty0 k) v = v) (hfit : fits (ty0 k) v = true) (hl : k < fs.length) (hset : w.set q0 (a, .inr (ci, fs.set k v)) = w') (hdg : decode cc pc = .ok (.putfield idx, 3))
    (kk : ∀ (H1 : Heap) (locs1 : List Loc), zW E A s w' H1 locs1 → W p l e R s m args below meth c H1 locs1 cells slots Q (F0 m (pc + 3) ls rest)) : W p l e R s m args below meth c H locs cells slots Q (F0 m pc ls (v :: .ref a :: rest)) :=
  va_putF X.1 X.2.1 X.2.2.2.2.1 hin ty0 hty hnm X.2.2.2.1 X.2.2.2.2.2.1.1 hW.1 hW.2.1 hW.2.2 q0 he hc k hk (X.2.2.2.2.1 _ hlink) (fun _ h => h) hfin (X.2.2.2.2.2.2.2.2.2.trans hy) hdecl (hty k hk) hn hfit hl hdg (fun H1 locs1 h1 h2 h3 => kk H1 locs1 ⟨hset ▸ h1, hset ▸ h2, h3⟩)
theorem z_put0 (X : zX E ws own cc nL ret y0 p s m args meth c A) (hW : zW E A s w H locs) (w' : va_W) {C : String} {T : u_T} {N : Nat} (ty0 : Nat → FieldType) (hty : ∀ k, k < N → parseFieldDescriptor (T k).2.2.1 = some (ty0 k)) (hnm : ∀ a, a < N → ∀ b, b < N → a ≠ b → (T a).2.1 ≠ (T b).2.1) {a idx : Nat} (q0 ci k : Nat) {fs : List Value} {v : Value} (he : w[q0]? = some (a, .inr (ci, fs))) (hc : vwCl[ci]? = some (C, T, N)) (hin : ∀ x ∈ u_ws C T N, x ∈ ws) (hk : k < N) (hlink : Cond.fieldLink own idx (T k).1 (T k).2.1 (T k).2.2.1 ∈ ws) (hfin : (T k).2.2.2 = false) (hn : narrow (ty0 k) v = v) (hfit : fits (ty0 k) v = true) (hl : k < fs.length) (hset : w.set q0 (a, .inr (ci, fs.set k v)) = w') (hdg : decode cc pc = .ok (.putfield idx, 3))
    (kk : ∀ (H1 : Heap) (locs1 : List Loc), zW E A s w' H1 locs1 → W p l e R s m args below meth c H1 locs1 cells slots Q (F0 m (pc + 3) ls rest)) : W p l e R s m args below meth c H locs cells slots Q (F0 m pc ls (v :: .ref a :: rest)) :=
  va_put X.1 X.2.1 X.2.2.2.2.1 hin ty0 hty hnm X.2.2.2.1 X.2.2.2.2.2.1.1 hW.1 hW.2.1 hW.2.2 q0 he hc k hk (X.2.2.2.2.1 _ hlink) (fun _ h => h) hfin (hty k hk) hn hfit hl hdg (fun H1 locs1 h1 h2 h3 => kk H1 locs1 ⟨hset ▸ h1, hset ▸ h2, h3⟩)
theorem z_objInit (X : zX E ws own cc nL ret y0 p s m args meth c A) {nl : Nat} {lv : List (Nat × Value)} (hl : lv_has ls nl lv) (hnl : nl = nL) {a idx : Nat} (h1 : Cond.methodLink own idx objectInit ∈ ws) (h2 : Cond.instanceMethod objectInit ∈ ws) (h3 : Cond.code objectInit ⟨#[0xb1]⟩ 1 none ∈ ws) (hdg : decode cc pc = .ok (.invokespecial idx, 3)) (hframes : 1 ≤ R.frames) (hlocals : (rest.map fun v => v.category).sum + 12 ≤ R.locals)
    (kk : W p l e R s m args below meth c H locs cells slots Q (F0 m (pc + 3) ls rest)) : W p l e R s m args below meth c H locs cells slots Q (F0 m pc ls (.ref a :: rest)) :=
  W.objInit X.1 X.2.1 X.2.2.2.1 (X.2.2.2.2.1 _ h1) (X.2.2.2.2.1 _ h2) (X.2.2.2.2.1 _ h3) (g := F0 m pc ls (.ref a :: rest)) rfl (hl.1.trans (hnl.trans X.2.2.1.symm)) rfl hdg hframes (by show 2 * 0 + _ + 12 ≤ _; omega) kk
theorem z_astq (X : zX E ws own cc nL ret y0 p s m args meth c A) (hW : zW E A s w H locs) {a n v : Nat} (q0 qk : Nat) {f : Nat → Option Nat} {vs : List Value} (w' : va_W) (ha : w[q0]? = some (a, .inl (E.2.2.1, n, .inr (.inr (.inr (.inr f)))))) (hv : w[qk]? = some (v, .inr (2, vs))) {i : Int32} (hin : vp_in i n) (hset : w.set q0 (a, .inl (E.2.2.1, n, .inr (.inr (.inr (.inr (va_up f i.toNatClampNeg (some v))))))) = w') (hdg : decode cc pc = .ok (.aastore, 1))
    (kk : ∀ (H1 : Heap) (locs1 : List Loc), zW E A s w' H1 locs1 → W p l e R s m args below meth c H1 locs1 cells slots Q (F0 m (pc + 1) ls rest)) : W p l e R s m args below meth c H locs cells slots Q (F0 m pc ls (.ref v :: .int i :: .ref a :: rest)) :=
  va_astq (r := (RX2, TX2, 11)) X.1 X.2.1 X.2.2.2.2.2.1.1 hW.1 hW.2.1 hW.2.2 q0 1 qk 2 ha rfl hv rfl hin hdg (fun H1 locs1 h1 h2 h3 => kk H1 locs1 ⟨hset ▸ h1, hset ▸ h2, h3⟩)
end ZN
/-! the pure words of fill and store -/
theorem zlet_e {α β : Type} (a : α) (K : α → Option β) : zlet a K = K a := rfl
theorem nI_p1 (k : Nat) : nI k + Int32.ofInt 1 = nI (k + 1) := nI_1 k
theorem nI_cl {n : Nat} (h : n < 2 ^ 31) : (nI n).toNatClampNeg = n := nI_clamp h
theorem zr_in {k n : Nat} (h : k < n) (hn : n < 2 ^ 31) : 0 ≤ (nI k).toInt ∧ (nI k).toInt < n := by
  rw [nI_toInt (by omega)]; omega
theorem zst_nI {γ : Type} {n k : Nat} {f : Nat → Int32} {x : Int32} {K : (Nat → Int32) → Option γ} (h : k < n) (hn : n < 2 ^ 31) : zst n f (nI k) x K = K (upd f k x) := by
  unfold zst
  rw [if_pos (zr_in h hn), nI_clamp (by omega)]
theorem zld_nI {γ : Type} {n k : Nat} {f : Nat → Int32} {K : Int32 → Option γ} (h : k < n) (hn : n < 2 ^ 31) : zld n f (nI k) K = K (f k) := by
  unfold zld
  rw [if_pos (zr_in h hn), nI_clamp (by omega)]
theorem zsv_nI {γ : Type} {n k i : Nat} {v : zHV} {x : Int32} {K : zHV → Option γ} (h : k < n) (hn : n < 2 ^ 31) : zsv n v i (nI k) x K = K (zr v i (upd (v i) k x)) := by
  unfold zsv
  rw [if_pos (zr_in h hn), nI_clamp (by omega)]
def zfil (k n : Nat) (x : Int32) (f : Nat → Int32) : Nat → Int32 := fun j => if k ≤ j ∧ j < n then x else f j
theorem lp_fill (n : Nat) (x : Int32) (hn : n < 2 ^ 31) : ∀ (d k N : Nat) (f : Nat → Int32), n - k = d → k ≤ n → d < N → lp_X5_fill_2 n x N (nI k) f = some (zfil k n x f) := by
  intro d
  induction d with
  | zero =>
    intro k N f hd hk hN
    obtain ⟨N, rfl⟩ : ∃ M, N = M + 1 := ⟨N - 1, by omega⟩
    show lpB_X5_fill_2 n x (lp_X5_fill_2 n x N) (nI k) f = _
    unfold lpB_X5_fill_2
    rw [if_pos (nI_le (by omega) (by omega))]
    congr 1
    funext j
    unfold zfil
    rw [if_neg (by omega)]
  | succ d ih =>
    intro k N f hd hk hN
    obtain ⟨N, rfl⟩ : ∃ M, N = M + 1 := ⟨N - 1, by omega⟩
    show lpB_X5_fill_2 n x (lp_X5_fill_2 n x N) (nI k) f = _
    unfold lpB_X5_fill_2
    rw [if_neg (nI_ge (by omega) (by omega)), zst_nI (by omega) hn]
    rw [zlet_e, nI_p1, ih (k + 1) N _ (by omega) (by omega) (by omega)]
    congr 1
    funext j
    unfold zfil upd
    by_cases h1 : j = k
    · rw [if_neg (by omega), if_pos h1, if_pos (by omega)]
    · rw [if_neg h1]
      by_cases h2 : k + 1 ≤ j ∧ j < n
      · rw [if_pos h2, if_pos (by omega)]
      · rw [if_neg h2, if_neg (by omega)]
theorem d_fill {n : Nat} {f : Nat → Int32} {x : Int32} (hn : n < 100000) : d_X5_fill n f x = some (zfil 0 n x f) := by
  unfold d_X5_fill
  rw [show (0 : Int32) = nI 0 from rfl]
  exact lp_fill n x (by omega) n 0 zF f (by omega) (by omega) (by unfold zF; omega)
theorem d_store {n k : Nat} {f : Nat → Int32} {x : Int32} (h : k < n) (hn : n < 2 ^ 31) : d_X5_store n f (nI k) x = some (upd f k x) := by
  unfold d_X5_store
  rw [if_neg (nI_pos (by omega)), if_neg (nI_ge h hn), zst_nI h hn]

theorem hy_X5_init : zY yX5_init wsX5_init cX5_init 2 none 1 := ⟨⟨_, rfl⟩, by decide, by decide, by decide +kernel⟩
set_option maxHeartbeats 4000000 in
set_option maxRecDepth 100000 in
theorem c_X5_init (l : Launch) (E : zE) (h0 n : Nat) (hn : n < 1000) : zMa l E yX5_init wsX5_init ({ frames := 1, cells := 1, slots := n, locals := 21 } : Room) [.ref h0, .int (nI n)] [(h0, .inr (5, [.null]))] 1 n (fun w1 => ∃ a : Nat → Nat, a 0 = h0 ∧ w1 = rwW E a n (fun _ => 0)) := by
  intro sz
  refine z_entry (Qc := fun A => zQa E A (fun w1 => ∃ a : Nat → Nat, a 0 = h0 ∧ w1 = rwW E a n (fun _ => 0))) (by decide) rfl (Nat.le_of_ble_eq_true rfl) ?_
  intro p e s m below meth c A X hW ls hl
  have X : zX E wsX5_init RX5 cX5_init 2 none yX5_init p s m ([.ref h0, .int (nI n)] : List Value).toArray meth c A := X
  have hl : lv_has ls 2 [(0, .ref h0), (1, .int (nI n))] := hl
  have q_0 : Cond.methodLink RX5 1 objectInit ∈ wsX5_init := List.mem_of_getElem? (i := 1) rfl
  have q_1 : Cond.instanceMethod objectInit ∈ wsX5_init := List.mem_of_getElem? (i := 2) rfl
  have q_2 : Cond.code objectInit ⟨#[0xb1]⟩ 1 none ∈ wsX5_init := List.mem_of_getElem? (i := 3) rfl
  have q_3 : Cond.methodLink RX5 7 Lib.Math.max.name ∈ wsX5_init := List.mem_of_getElem? (i := 4) rfl
  have q_4 : Cond.static Lib.Math.max.name ∈ wsX5_init := List.mem_of_getElem? (i := 5) rfl
  have q_5 : Cond.initialized "java/lang/Math" ∈ wsX5_init := List.mem_of_getElem? (i := 6) rfl
  have q_6 : Cond.code Lib.Math.max.name Lib.Math.max.code 2 (some .int) ∈ wsX5_init := List.mem_of_getElem? (i := 7) rfl
  have q_7 : Cond.arrayClass .int ∈ wsX5_init := List.mem_of_getElem? (i := 8) rfl
  have q_8 : Cond.fieldLink RX5 13 "ApplauseTallies$Row" "cells" "[I" ∈ wsX5_init := List.mem_of_getElem? (i := 9) rfl
  have hn_X5 : ∀ x ∈ wsX50, x ∈ wsX5_init := zz_in [10] (by decide +kernel)
  refine lv_aload_n X.1 X.2.1 dX5_init_0 rfl (lv_at hl 0 rfl) ?_
  refine z_objInit X hl rfl q_0 q_1 q_2 dX5_init_1 (Nat.le_of_ble_eq_true rfl) (Nat.le_of_ble_eq_true rfl) ?_
  refine lv_aload_n X.1 X.2.1 dX5_init_4 rfl (lv_at hl 0 rfl) ?_
  refine lv_iload_n X.1 X.2.1 dX5_init_5 rfl (lv_at hl 1 rfl) ?_
  refine lv_iconst (v := 0) X.1 X.2.1 dX5_init_6 (by decide) ?_
  refine z_max X hl rfl (K := fun z => some z) (r := nI n) (by show some (if nI n < 0 then 0 else nI n) = some (nI n); rw [if_neg (nI_pos (by omega))]) q_3 q_4 q_5 q_6 (Nat.le_of_ble_eq_true rfl) (Nat.le_of_ble_eq_true rfl) (Nat.zero_le _) (Nat.zero_le _) dX5_init_7 (fun z hz => ?_)
  cases hz
  refine z_newi X hW q_7 n (nI_pos (by omega)) (nI_clamp (by omega)) (by omega) (by show 0 + 1 ≤ 1; omega) (by show 0 + n ≤ n; omega) dX5_init_10 (fun q H hW => ?_)
  refine W.cs (cells' := 1) (slots' := n) rfl (Nat.zero_add n) ?_
  refine z_putF X hW ([(h0, .inr (5, [.ref q]))] ++ [(q, .inl (E.2.1, n, .inl (fun _ => 0)))]) tyX5 tyX5_ok nmX5 0 5 0 (C := RX5) (T := TX5) (N := 1) rfl rfl hn_X5 (by decide) q_8 rfl rfl rfl rfl rfl (Nat.le_of_ble_eq_true rfl) rfl dX5_init_12 (fun H locs hW => ?_)
  exact z_varet X hW ⟨fun k => if k < 1 then h0 else q, rfl, rfl⟩ dX5_init_15
def zS0 : zHV := fun i k => if i = 0 then 3 else 0
abbrev rm_X6_init : Room := { frames := 2, cells := 10, slots := 155, locals := 42 }
theorem hy_X6_init : zY yX6_init wsX6_init cX6_init 1 none 0 := ⟨⟨_, rfl⟩, by decide, by decide, by decide +kernel⟩
set_option maxHeartbeats 4000000 in
set_option maxRecDepth 100000 in
theorem c_X6_init (l : Launch) (E : zE) (h0 : Nat) : zMa l E yX6_init wsX6_init rm_X6_init [.ref h0] ([(h0, .inr (6, [.null, .null, .null, .null, .null, .int 0, .int 0, .int 0]))] : va_W) 10 155 (fun w1 => ∃ a : Nat → Nat, a 0 = h0 ∧ w1 = stW E a zS0) := by
  intro sz
  refine z_entry (Qc := fun A => zQa E A (fun w1 => ∃ a : Nat → Nat, a 0 = h0 ∧ w1 = stW E a zS0)) (by decide) rfl (Nat.le_of_ble_eq_true rfl) ?_
  intro p e s m below meth c A X hW ls hl
  have X : zX E wsX6_init RX6 cX6_init 1 none yX6_init p s m ([.ref h0] : List Value).toArray meth c A := X
  have hl : lv_has ls 1 [(0, .ref h0)] := hl
  have q_0 : Cond.methodLink RX6 3 objectInit ∈ wsX6_init := List.mem_of_getElem? (i := 1) rfl
  have q_1 : Cond.instanceMethod objectInit ∈ wsX6_init := List.mem_of_getElem? (i := 2) rfl
  have q_2 : Cond.code objectInit ⟨#[0xb1]⟩ 1 none ∈ wsX6_init := List.mem_of_getElem? (i := 3) rfl
  have q_3 : Cond.classLink RX6 9 RX5 ∈ wsX6_init := List.mem_of_getElem? (i := 4) rfl
  have q_4 : Cond.instantiable RX5 1 ∈ wsX6_init := List.mem_of_getElem? (i := 5) rfl
  have q_5 : Cond.initialized RX5 ∈ wsX6_init := List.mem_of_getElem? (i := 6) rfl
  have hn_X5 : ∀ x ∈ wsX50, x ∈ wsX6_init := zz_in [26] (by decide +kernel)
  have q_7 : Cond.instanceMethod yX5_init ∈ wsX6_init := List.mem_of_getElem? (i := 13) rfl
  have q_8 : Cond.methodLink RX6 11 yX5_init ∈ wsX6_init := List.mem_of_getElem? (i := 12) rfl
  have q_9 : Cond.fieldLink RX6 14 "ApplauseTallies$Seats" "loudness" "LApplauseTallies$Row;" ∈ wsX6_init := List.mem_of_getElem? (i := 7) rfl
  have hn_X6 : ∀ x ∈ wsX60, x ∈ wsX6_init := zz_in [27, 28, 29, 30, 31, 32, 33, 34] (by decide +kernel)
  have q_11 : Cond.fieldLink RX6 20 "ApplauseTallies$Seats" "early" "LApplauseTallies$Row;" ∈ wsX6_init := List.mem_of_getElem? (i := 8) rfl
  have q_12 : Cond.fieldLink RX6 23 "ApplauseTallies$Seats" "clapsTonight" "LApplauseTallies$Row;" ∈ wsX6_init := List.mem_of_getElem? (i := 9) rfl
  have q_13 : Cond.fieldLink RX6 26 "ApplauseTallies$Seats" "clapsSoFar" "LApplauseTallies$Row;" ∈ wsX6_init := List.mem_of_getElem? (i := 10) rfl
  have q_14 : Cond.fieldLink RX6 29 "ApplauseTallies$Seats" "clappers" "LApplauseTallies$Row;" ∈ wsX6_init := List.mem_of_getElem? (i := 11) rfl
  refine lv_aload_n X.1 X.2.1 dX6_init_0 rfl (lv_at hl 0 rfl) ?_
  refine z_objInit X hl rfl q_0 q_1 q_2 dX6_init_1 (by decide) (Nat.le_of_ble_eq_true rfl) ?_
  refine lv_aload_n X.1 X.2.1 dX6_init_4 rfl (lv_at hl 0 rfl) ?_
  refine z_new X hW tyX5 tyX5_ok (C := RX5) (T := TX5) (N := 1) 5 rfl hn_X5 q_3 q_4 q_5 [.null] (fun j hj => by rcases (show j = 0 by omega) with rfl <;> rfl) (by decide) (by decide) dX6_init_5 (fun q5 H hW => ?_)
  refine W.cs (cells' := 1) (slots' := 1) rfl rfl ?_
  refine lv_dup X.1 X.2.1 dX6_init_8 rfl ?_
  refine lv_bipush (v := 30) X.1 X.2.1 dX6_init_9 (by decide) ?_
  have hp_11 : ((([(h0, .inr (6, [.null, .null, .null, .null, .null, .int 0, .int 0, .int 0]))] : va_W) ++ ([(q5, .inr (5, [.null]))] : va_W))).Perm (([(q5, .inr (5, [.null]))] : va_W) ++ ([(h0, .inr (6, [.null, .null, .null, .null, .null, .int 0, .int 0, .int 0]))] : va_W)) := List.perm_append_comm
  refine z_calla X hW hp_11 (z_runI (b := q5) (As := [.int 30]) (rest := [.ref q5, .ref h0]) X hW hp_11 (c_X5_init l E q5 30 (by decide) _) hy_X5_init q_5 q_8 q_7 rfl gX6_init_X5_init rfl rfl ⟨by decide, by decide⟩ rfl hl rfl rfl (Nat.le_of_ble_eq_true rfl) dX6_init_11 ⟨by decide, by decide⟩) (fun w1 H locs hw hW1 => ?_)
  clear hp_11 hW
  obtain ⟨a11, e11, rfl⟩ := hw
  have hW := zW_perm hW1 List.perm_append_comm
  clear hW1
  refine W.cs (cells' := 2) (slots' := 31) rfl rfl ?_
  subst e11
  refine z_putF X hW ((([(h0, .inr (6, [.ref (a11 0), .null, .null, .null, .null, .int 0, .int 0, .int 0]))] : va_W) ++ (rwW E a11 30 (fun _ => 0)))) tyX6 tyX6_ok nmX6 0 6 0 (C := RX6) (T := TX6) (N := 8) rfl rfl hn_X6 (by decide) q_9 rfl rfl rfl rfl rfl (Nat.le_of_ble_eq_true rfl) rfl dX6_init_14 (fun H locs hW => ?_)
  refine lv_aload_n X.1 X.2.1 dX6_init_17 rfl (lv_at hl 0 rfl) ?_
  refine z_new X hW tyX5 tyX5_ok (C := RX5) (T := TX5) (N := 1) 5 rfl hn_X5 q_3 q_4 q_5 [.null] (fun j hj => by rcases (show j = 0 by omega) with rfl <;> rfl) (by decide) (by decide) dX6_init_18 (fun q18 H hW => ?_)
  refine W.cs (cells' := 3) (slots' := 32) rfl rfl ?_
  refine lv_dup X.1 X.2.1 dX6_init_21 rfl ?_
  refine lv_bipush (v := 30) X.1 X.2.1 dX6_init_22 (by decide) ?_
  have hp_24 : (((([(h0, .inr (6, [.ref (a11 0), .null, .null, .null, .null, .int 0, .int 0, .int 0]))] : va_W) ++ (rwW E a11 30 (fun _ => 0))) ++ ([(q18, .inr (5, [.null]))] : va_W))).Perm (([(q18, .inr (5, [.null]))] : va_W) ++ (([(h0, .inr (6, [.ref (a11 0), .null, .null, .null, .null, .int 0, .int 0, .int 0]))] : va_W) ++ (rwW E a11 30 (fun _ => 0)))) := List.perm_append_comm
  refine z_calla X hW hp_24 (z_runI (b := q18) (As := [.int 30]) (rest := [.ref q18, .ref h0]) X hW hp_24 (c_X5_init l E q18 30 (by decide) _) hy_X5_init q_5 q_8 q_7 rfl gX6_init_X5_init rfl rfl ⟨by decide, by decide⟩ rfl hl rfl rfl (Nat.le_of_ble_eq_true rfl) dX6_init_24 ⟨by decide, by decide⟩) (fun w1 H locs hw hW1 => ?_)
  clear hp_24 hW
  obtain ⟨a24, e24, rfl⟩ := hw
  have hW := zW_perm hW1 List.perm_append_comm
  clear hW1
  refine W.cs (cells' := 4) (slots' := 62) rfl rfl ?_
  subst e24
  refine z_putF X hW (((([(h0, .inr (6, [.ref (a11 0), .ref (a24 0), .null, .null, .null, .int 0, .int 0, .int 0]))] : va_W) ++ (rwW E a11 30 (fun _ => 0))) ++ (rwW E a24 30 (fun _ => 0)))) tyX6 tyX6_ok nmX6 0 6 1 (C := RX6) (T := TX6) (N := 8) rfl rfl hn_X6 (by decide) q_11 rfl rfl rfl rfl rfl (Nat.le_of_ble_eq_true rfl) rfl dX6_init_27 (fun H locs hW => ?_)
  refine lv_aload_n X.1 X.2.1 dX6_init_30 rfl (lv_at hl 0 rfl) ?_
  refine z_new X hW tyX5 tyX5_ok (C := RX5) (T := TX5) (N := 1) 5 rfl hn_X5 q_3 q_4 q_5 [.null] (fun j hj => by rcases (show j = 0 by omega) with rfl <;> rfl) (by decide) (by decide) dX6_init_31 (fun q31 H hW => ?_)
  refine W.cs (cells' := 5) (slots' := 63) rfl rfl ?_
  refine lv_dup X.1 X.2.1 dX6_init_34 rfl ?_
  refine lv_bipush (v := 30) X.1 X.2.1 dX6_init_35 (by decide) ?_
  have hp_37 : ((((([(h0, .inr (6, [.ref (a11 0), .ref (a24 0), .null, .null, .null, .int 0, .int 0, .int 0]))] : va_W) ++ (rwW E a11 30 (fun _ => 0))) ++ (rwW E a24 30 (fun _ => 0))) ++ ([(q31, .inr (5, [.null]))] : va_W))).Perm (([(q31, .inr (5, [.null]))] : va_W) ++ ((([(h0, .inr (6, [.ref (a11 0), .ref (a24 0), .null, .null, .null, .int 0, .int 0, .int 0]))] : va_W) ++ (rwW E a11 30 (fun _ => 0))) ++ (rwW E a24 30 (fun _ => 0)))) := List.perm_append_comm
  refine z_calla X hW hp_37 (z_runI (b := q31) (As := [.int 30]) (rest := [.ref q31, .ref h0]) X hW hp_37 (c_X5_init l E q31 30 (by decide) _) hy_X5_init q_5 q_8 q_7 rfl gX6_init_X5_init rfl rfl ⟨by decide, by decide⟩ rfl hl rfl rfl (Nat.le_of_ble_eq_true rfl) dX6_init_37 ⟨by decide, by decide⟩) (fun w1 H locs hw hW1 => ?_)
  clear hp_37 hW
  obtain ⟨a37, e37, rfl⟩ := hw
  have hW := zW_perm hW1 List.perm_append_comm
  clear hW1
  refine W.cs (cells' := 6) (slots' := 93) rfl rfl ?_
  subst e37
  refine z_putF X hW ((((([(h0, .inr (6, [.ref (a11 0), .ref (a24 0), .ref (a37 0), .null, .null, .int 0, .int 0, .int 0]))] : va_W) ++ (rwW E a11 30 (fun _ => 0))) ++ (rwW E a24 30 (fun _ => 0))) ++ (rwW E a37 30 (fun _ => 0)))) tyX6 tyX6_ok nmX6 0 6 2 (C := RX6) (T := TX6) (N := 8) rfl rfl hn_X6 (by decide) q_12 rfl rfl rfl rfl rfl (Nat.le_of_ble_eq_true rfl) rfl dX6_init_40 (fun H locs hW => ?_)
  refine lv_aload_n X.1 X.2.1 dX6_init_43 rfl (lv_at hl 0 rfl) ?_
  refine z_new X hW tyX5 tyX5_ok (C := RX5) (T := TX5) (N := 1) 5 rfl hn_X5 q_3 q_4 q_5 [.null] (fun j hj => by rcases (show j = 0 by omega) with rfl <;> rfl) (by decide) (by decide) dX6_init_44 (fun q44 H hW => ?_)
  refine W.cs (cells' := 7) (slots' := 94) rfl rfl ?_
  refine lv_dup X.1 X.2.1 dX6_init_47 rfl ?_
  refine lv_bipush (v := 30) X.1 X.2.1 dX6_init_48 (by decide) ?_
  have hp_50 : (((((([(h0, .inr (6, [.ref (a11 0), .ref (a24 0), .ref (a37 0), .null, .null, .int 0, .int 0, .int 0]))] : va_W) ++ (rwW E a11 30 (fun _ => 0))) ++ (rwW E a24 30 (fun _ => 0))) ++ (rwW E a37 30 (fun _ => 0))) ++ ([(q44, .inr (5, [.null]))] : va_W))).Perm (([(q44, .inr (5, [.null]))] : va_W) ++ (((([(h0, .inr (6, [.ref (a11 0), .ref (a24 0), .ref (a37 0), .null, .null, .int 0, .int 0, .int 0]))] : va_W) ++ (rwW E a11 30 (fun _ => 0))) ++ (rwW E a24 30 (fun _ => 0))) ++ (rwW E a37 30 (fun _ => 0)))) := List.perm_append_comm
  refine z_calla X hW hp_50 (z_runI (b := q44) (As := [.int 30]) (rest := [.ref q44, .ref h0]) X hW hp_50 (c_X5_init l E q44 30 (by decide) _) hy_X5_init q_5 q_8 q_7 rfl gX6_init_X5_init rfl rfl ⟨by decide, by decide⟩ rfl hl rfl rfl (Nat.le_of_ble_eq_true rfl) dX6_init_50 ⟨by decide, by decide⟩) (fun w1 H locs hw hW1 => ?_)
  clear hp_50 hW
  obtain ⟨a50, e50, rfl⟩ := hw
  have hW := zW_perm hW1 List.perm_append_comm
  clear hW1
  refine W.cs (cells' := 8) (slots' := 124) rfl rfl ?_
  subst e50
  refine z_putF X hW (((((([(h0, .inr (6, [.ref (a11 0), .ref (a24 0), .ref (a37 0), .ref (a50 0), .null, .int 0, .int 0, .int 0]))] : va_W) ++ (rwW E a11 30 (fun _ => 0))) ++ (rwW E a24 30 (fun _ => 0))) ++ (rwW E a37 30 (fun _ => 0))) ++ (rwW E a50 30 (fun _ => 0)))) tyX6 tyX6_ok nmX6 0 6 3 (C := RX6) (T := TX6) (N := 8) rfl rfl hn_X6 (by decide) q_13 rfl rfl rfl rfl rfl (Nat.le_of_ble_eq_true rfl) rfl dX6_init_53 (fun H locs hW => ?_)
  refine lv_aload_n X.1 X.2.1 dX6_init_56 rfl (lv_at hl 0 rfl) ?_
  refine z_new X hW tyX5 tyX5_ok (C := RX5) (T := TX5) (N := 1) 5 rfl hn_X5 q_3 q_4 q_5 [.null] (fun j hj => by rcases (show j = 0 by omega) with rfl <;> rfl) (by decide) (by decide) dX6_init_57 (fun q57 H hW => ?_)
  refine W.cs (cells' := 9) (slots' := 125) rfl rfl ?_
  refine lv_dup X.1 X.2.1 dX6_init_60 rfl ?_
  refine lv_bipush (v := 30) X.1 X.2.1 dX6_init_61 (by decide) ?_
  have hp_63 : ((((((([(h0, .inr (6, [.ref (a11 0), .ref (a24 0), .ref (a37 0), .ref (a50 0), .null, .int 0, .int 0, .int 0]))] : va_W) ++ (rwW E a11 30 (fun _ => 0))) ++ (rwW E a24 30 (fun _ => 0))) ++ (rwW E a37 30 (fun _ => 0))) ++ (rwW E a50 30 (fun _ => 0))) ++ ([(q57, .inr (5, [.null]))] : va_W))).Perm (([(q57, .inr (5, [.null]))] : va_W) ++ ((((([(h0, .inr (6, [.ref (a11 0), .ref (a24 0), .ref (a37 0), .ref (a50 0), .null, .int 0, .int 0, .int 0]))] : va_W) ++ (rwW E a11 30 (fun _ => 0))) ++ (rwW E a24 30 (fun _ => 0))) ++ (rwW E a37 30 (fun _ => 0))) ++ (rwW E a50 30 (fun _ => 0)))) := List.perm_append_comm
  refine z_calla X hW hp_63 (z_runI (b := q57) (As := [.int 30]) (rest := [.ref q57, .ref h0]) X hW hp_63 (c_X5_init l E q57 30 (by decide) _) hy_X5_init q_5 q_8 q_7 rfl gX6_init_X5_init rfl rfl ⟨by decide, by decide⟩ rfl hl rfl rfl (Nat.le_of_ble_eq_true rfl) dX6_init_63 ⟨by decide, by decide⟩) (fun w1 H locs hw hW1 => ?_)
  clear hp_63 hW
  obtain ⟨a63, e63, rfl⟩ := hw
  have hW := zW_perm hW1 List.perm_append_comm
  clear hW1
  refine W.cs (cells' := 10) (slots' := 155) rfl rfl ?_
  subst e63
  refine z_putF X hW ((((((([(h0, .inr (6, [.ref (a11 0), .ref (a24 0), .ref (a37 0), .ref (a50 0), .ref (a63 0), .int 0, .int 0, .int 0]))] : va_W) ++ (rwW E a11 30 (fun _ => 0))) ++ (rwW E a24 30 (fun _ => 0))) ++ (rwW E a37 30 (fun _ => 0))) ++ (rwW E a50 30 (fun _ => 0))) ++ (rwW E a63 30 (fun _ => 0)))) tyX6 tyX6_ok nmX6 0 6 4 (C := RX6) (T := TX6) (N := 8) rfl rfl hn_X6 (by decide) q_14 rfl rfl rfl rfl rfl (Nat.le_of_ble_eq_true rfl) rfl dX6_init_66 (fun H locs hW => ?_)
  refine lv_aload_n X.1 X.2.1 dX6_init_69 rfl (lv_at hl 0 rfl) ?_
  refine z_get X hW 0 6 0 (C := RX6) (T := TX6) (N := 8) rfl rfl hn_X6 (by decide) q_9 rfl dX6_init_70 ?_
  refine lv_iconst (v := 3) X.1 X.2.1 dX6_init_73 (by decide) ?_
  have hp_74 := z_split (w := (((((([(h0, .inr (6, [.ref (a11 0), .ref (a24 0), .ref (a37 0), .ref (a50 0), .ref (a63 0), .int 0, .int 0, .int 0]))] : va_W) ++ (rwW E a11 30 (fun _ => 0))) ++ (rwW E a24 30 (fun _ => 0))) ++ (rwW E a37 30 (fun _ => 0))) ++ (rwW E a50 30 (fun _ => 0))) ++ (rwW E a63 30 (fun _ => 0)))) (wc := (rwW E a11 30 (fun _ => 0))) 1 2 rfl
  refine z_callv X hW (d := d_X5_fill 30 (fun _ => 0) 3) (fun z => z) (K := fun z => some z) (r := zfil 0 30 3 (fun _ => 0)) (by rw [d_fill (by decide)]; rfl) hp_74 (fun z => rwW E a11 30 z) (fun z9 => (((((([(h0, .inr (6, [.ref (a11 0), .ref (a24 0), .ref (a37 0), .ref (a50 0), .ref (a63 0), .int 0, .int 0, .int 0]))] : va_W) ++ (rwW E a11 30 z9)) ++ (rwW E a24 30 (fun _ => 0))) ++ (rwW E a37 30 (fun _ => 0))) ++ (rwW E a50 30 (fun _ => 0))) ++ (rwW E a63 30 (fun _ => 0)))) (fun z => z_unsplit 1 2 rfl rfl rfl) (fun z h => z_runV (As := [.int 3]) (rest := []) X hW hp_74 (c_X5_fill l E a11 30 (fun _ => 0) 3 z h _) hy_X5_fill 1 5 (C := RX5) (T := TX5) (N := 1) rfl rfl rfl gX6_init_X5_fill rfl rfl ⟨by decide, by decide⟩ rfl hl rfl rfl (Nat.le_of_ble_eq_true rfl) dX6_init_74 ⟨by decide, by decide⟩) (fun z H locs hz hW => ?_)
  cases hz
  have hW := zW_row (fun _ => 3) (z_split (wc := rwW E a11 30 (zfil 0 30 3 (fun _ => 0))) 1 2 rfl) (fun k hk => by unfold zfil; rw [if_pos (by omega)]) hW (w' := (((((([(h0, .inr (6, [.ref (a11 0), .ref (a24 0), .ref (a37 0), .ref (a50 0), .ref (a63 0), .int 0, .int 0, .int 0]))] : va_W) ++ (rwW E a11 30 (fun _ => 3))) ++ (rwW E a24 30 (fun _ => 0))) ++ (rwW E a37 30 (fun _ => 0))) ++ (rwW E a50 30 (fun _ => 0))) ++ (rwW E a63 30 (fun _ => 0)))) (z_unsplit 1 2 rfl rfl rfl)
  exact z_varet X hW ⟨(fun k => if k < 1 then h0 else if k < 3 then a11 (k - 1) else if k < 5 then a24 (k - 3) else if k < 7 then a37 (k - 5) else if k < 9 then a50 (k - 7) else a63 (k - 9)), rfl, rfl⟩ dX6_init_77
def zE0 : zHV := fun _ _ => 0
abbrev rm_X0_init : Room := { frames := 2, cells := 10, slots := 39, locals := 42 }
theorem hy_X0_init : zY yX0_init wsX0_init cX0_init 1 none 0 := ⟨⟨_, rfl⟩, by decide, by decide, by decide +kernel⟩
set_option maxHeartbeats 4000000 in
set_option maxRecDepth 100000 in
theorem c_X0_init (l : Launch) (E : zE) (h0 : Nat) : zMa l E yX0_init wsX0_init rm_X0_init [.ref h0] ([(h0, .inr (0, [.null, .null, .null, .null, .null, .int 0]))] : va_W) 10 39 (fun w1 => ∃ a : Nat → Nat, a 0 = h0 ∧ w1 = enW E a zE0) := by
  intro sz
  refine z_entry (Qc := fun A => zQa E A (fun w1 => ∃ a : Nat → Nat, a 0 = h0 ∧ w1 = enW E a zE0)) (by decide) rfl (Nat.le_of_ble_eq_true rfl) ?_
  intro p e s m below meth c A X hW ls hl
  have X : zX E wsX0_init RX0 cX0_init 1 none yX0_init p s m ([.ref h0] : List Value).toArray meth c A := X
  have hl : lv_has ls 1 [(0, .ref h0)] := hl
  have q_0 : Cond.methodLink RX0 3 objectInit ∈ wsX0_init := List.mem_of_getElem? (i := 1) rfl
  have q_1 : Cond.instanceMethod objectInit ∈ wsX0_init := List.mem_of_getElem? (i := 2) rfl
  have q_2 : Cond.code objectInit ⟨#[0xb1]⟩ 1 none ∈ wsX0_init := List.mem_of_getElem? (i := 3) rfl
  have q_3 : Cond.classLink RX0 9 RX5 ∈ wsX0_init := List.mem_of_getElem? (i := 4) rfl
  have q_4 : Cond.instantiable RX5 1 ∈ wsX0_init := List.mem_of_getElem? (i := 5) rfl
  have q_5 : Cond.initialized RX5 ∈ wsX0_init := List.mem_of_getElem? (i := 6) rfl
  have hn_X5 : ∀ x ∈ wsX50, x ∈ wsX0_init := zz_in [22] (by decide +kernel)
  have q_7 : Cond.instanceMethod yX5_init ∈ wsX0_init := List.mem_of_getElem? (i := 13) rfl
  have q_8 : Cond.methodLink RX0 11 yX5_init ∈ wsX0_init := List.mem_of_getElem? (i := 12) rfl
  have q_9 : Cond.fieldLink RX0 14 "ApplauseTallies$Encores" "owers" "LApplauseTallies$Row;" ∈ wsX0_init := List.mem_of_getElem? (i := 7) rfl
  have hn_X0 : ∀ x ∈ wsX00, x ∈ wsX0_init := zz_in [23, 24, 25, 26, 27, 28] (by decide +kernel)
  have q_11 : Cond.fieldLink RX0 20 "ApplauseTallies$Encores" "since" "LApplauseTallies$Row;" ∈ wsX0_init := List.mem_of_getElem? (i := 8) rfl
  have q_12 : Cond.fieldLink RX0 23 "ApplauseTallies$Encores" "played" "LApplauseTallies$Row;" ∈ wsX0_init := List.mem_of_getElem? (i := 9) rfl
  have q_13 : Cond.fieldLink RX0 26 "ApplauseTallies$Encores" "lapsed" "LApplauseTallies$Row;" ∈ wsX0_init := List.mem_of_getElem? (i := 10) rfl
  have q_14 : Cond.fieldLink RX0 29 "ApplauseTallies$Encores" "pieces" "LApplauseTallies$Row;" ∈ wsX0_init := List.mem_of_getElem? (i := 11) rfl
  refine lv_aload_n X.1 X.2.1 dX0_init_0 rfl (lv_at hl 0 rfl) ?_
  refine z_objInit X hl rfl q_0 q_1 q_2 dX0_init_1 (by decide) (Nat.le_of_ble_eq_true rfl) ?_
  refine lv_aload_n X.1 X.2.1 dX0_init_4 rfl (lv_at hl 0 rfl) ?_
  refine z_new X hW tyX5 tyX5_ok (C := RX5) (T := TX5) (N := 1) 5 rfl hn_X5 q_3 q_4 q_5 [.null] (fun j hj => by rcases (show j = 0 by omega) with rfl <;> rfl) (by decide) (by decide) dX0_init_5 (fun q5 H hW => ?_)
  refine W.cs (cells' := 1) (slots' := 1) rfl rfl ?_
  refine lv_dup X.1 X.2.1 dX0_init_8 rfl ?_
  refine lv_bipush (v := 8) X.1 X.2.1 dX0_init_9 (by decide) ?_
  have hp_11 : ((([(h0, .inr (0, [.null, .null, .null, .null, .null, .int 0]))] : va_W) ++ ([(q5, .inr (5, [.null]))] : va_W))).Perm (([(q5, .inr (5, [.null]))] : va_W) ++ ([(h0, .inr (0, [.null, .null, .null, .null, .null, .int 0]))] : va_W)) := List.perm_append_comm
  refine z_calla X hW hp_11 (z_runI (b := q5) (As := [.int 8]) (rest := [.ref q5, .ref h0]) X hW hp_11 (c_X5_init l E q5 8 (by decide) _) hy_X5_init q_5 q_8 q_7 rfl gX0_init_X5_init rfl rfl ⟨by decide, by decide⟩ rfl hl rfl rfl (Nat.le_of_ble_eq_true rfl) dX0_init_11 ⟨by decide, by decide⟩) (fun w1 H locs hw hW1 => ?_)
  clear hp_11 hW
  obtain ⟨a11, e11, rfl⟩ := hw
  have hW := zW_perm hW1 List.perm_append_comm
  clear hW1
  refine W.cs (cells' := 2) (slots' := 9) rfl rfl ?_
  subst e11
  refine z_putF X hW ((([(h0, .inr (0, [.ref (a11 0), .null, .null, .null, .null, .int 0]))] : va_W) ++ (rwW E a11 8 (fun _ => 0)))) tyX0 tyX0_ok nmX0 0 0 0 (C := RX0) (T := TX0) (N := 6) rfl rfl hn_X0 (by decide) q_9 rfl rfl rfl rfl rfl (Nat.le_of_ble_eq_true rfl) rfl dX0_init_14 (fun H locs hW => ?_)
  refine lv_aload_n X.1 X.2.1 dX0_init_17 rfl (lv_at hl 0 rfl) ?_
  refine z_new X hW tyX5 tyX5_ok (C := RX5) (T := TX5) (N := 1) 5 rfl hn_X5 q_3 q_4 q_5 [.null] (fun j hj => by rcases (show j = 0 by omega) with rfl <;> rfl) (by decide) (by decide) dX0_init_18 (fun q18 H hW => ?_)
  refine W.cs (cells' := 3) (slots' := 10) rfl rfl ?_
  refine lv_dup X.1 X.2.1 dX0_init_21 rfl ?_
  refine lv_bipush (v := 8) X.1 X.2.1 dX0_init_22 (by decide) ?_
  have hp_24 : (((([(h0, .inr (0, [.ref (a11 0), .null, .null, .null, .null, .int 0]))] : va_W) ++ (rwW E a11 8 (fun _ => 0))) ++ ([(q18, .inr (5, [.null]))] : va_W))).Perm (([(q18, .inr (5, [.null]))] : va_W) ++ (([(h0, .inr (0, [.ref (a11 0), .null, .null, .null, .null, .int 0]))] : va_W) ++ (rwW E a11 8 (fun _ => 0)))) := List.perm_append_comm
  refine z_calla X hW hp_24 (z_runI (b := q18) (As := [.int 8]) (rest := [.ref q18, .ref h0]) X hW hp_24 (c_X5_init l E q18 8 (by decide) _) hy_X5_init q_5 q_8 q_7 rfl gX0_init_X5_init rfl rfl ⟨by decide, by decide⟩ rfl hl rfl rfl (Nat.le_of_ble_eq_true rfl) dX0_init_24 ⟨by decide, by decide⟩) (fun w1 H locs hw hW1 => ?_)
  clear hp_24 hW
  obtain ⟨a24, e24, rfl⟩ := hw
  have hW := zW_perm hW1 List.perm_append_comm
  clear hW1
  refine W.cs (cells' := 4) (slots' := 18) rfl rfl ?_
  subst e24
  refine z_putF X hW (((([(h0, .inr (0, [.ref (a11 0), .ref (a24 0), .null, .null, .null, .int 0]))] : va_W) ++ (rwW E a11 8 (fun _ => 0))) ++ (rwW E a24 8 (fun _ => 0)))) tyX0 tyX0_ok nmX0 0 0 1 (C := RX0) (T := TX0) (N := 6) rfl rfl hn_X0 (by decide) q_11 rfl rfl rfl rfl rfl (Nat.le_of_ble_eq_true rfl) rfl dX0_init_27 (fun H locs hW => ?_)
  refine lv_aload_n X.1 X.2.1 dX0_init_30 rfl (lv_at hl 0 rfl) ?_
  refine z_new X hW tyX5 tyX5_ok (C := RX5) (T := TX5) (N := 1) 5 rfl hn_X5 q_3 q_4 q_5 [.null] (fun j hj => by rcases (show j = 0 by omega) with rfl <;> rfl) (by decide) (by decide) dX0_init_31 (fun q31 H hW => ?_)
  refine W.cs (cells' := 5) (slots' := 19) rfl rfl ?_
  refine lv_dup X.1 X.2.1 dX0_init_34 rfl ?_
  refine lv_bipush (v := 6) X.1 X.2.1 dX0_init_35 (by decide) ?_
  have hp_37 : ((((([(h0, .inr (0, [.ref (a11 0), .ref (a24 0), .null, .null, .null, .int 0]))] : va_W) ++ (rwW E a11 8 (fun _ => 0))) ++ (rwW E a24 8 (fun _ => 0))) ++ ([(q31, .inr (5, [.null]))] : va_W))).Perm (([(q31, .inr (5, [.null]))] : va_W) ++ ((([(h0, .inr (0, [.ref (a11 0), .ref (a24 0), .null, .null, .null, .int 0]))] : va_W) ++ (rwW E a11 8 (fun _ => 0))) ++ (rwW E a24 8 (fun _ => 0)))) := List.perm_append_comm
  refine z_calla X hW hp_37 (z_runI (b := q31) (As := [.int 6]) (rest := [.ref q31, .ref h0]) X hW hp_37 (c_X5_init l E q31 6 (by decide) _) hy_X5_init q_5 q_8 q_7 rfl gX0_init_X5_init rfl rfl ⟨by decide, by decide⟩ rfl hl rfl rfl (Nat.le_of_ble_eq_true rfl) dX0_init_37 ⟨by decide, by decide⟩) (fun w1 H locs hw hW1 => ?_)
  clear hp_37 hW
  obtain ⟨a37, e37, rfl⟩ := hw
  have hW := zW_perm hW1 List.perm_append_comm
  clear hW1
  refine W.cs (cells' := 6) (slots' := 25) rfl rfl ?_
  subst e37
  refine z_putF X hW ((((([(h0, .inr (0, [.ref (a11 0), .ref (a24 0), .ref (a37 0), .null, .null, .int 0]))] : va_W) ++ (rwW E a11 8 (fun _ => 0))) ++ (rwW E a24 8 (fun _ => 0))) ++ (rwW E a37 6 (fun _ => 0)))) tyX0 tyX0_ok nmX0 0 0 2 (C := RX0) (T := TX0) (N := 6) rfl rfl hn_X0 (by decide) q_12 rfl rfl rfl rfl rfl (Nat.le_of_ble_eq_true rfl) rfl dX0_init_40 (fun H locs hW => ?_)
  refine lv_aload_n X.1 X.2.1 dX0_init_43 rfl (lv_at hl 0 rfl) ?_
  refine z_new X hW tyX5 tyX5_ok (C := RX5) (T := TX5) (N := 1) 5 rfl hn_X5 q_3 q_4 q_5 [.null] (fun j hj => by rcases (show j = 0 by omega) with rfl <;> rfl) (by decide) (by decide) dX0_init_44 (fun q44 H hW => ?_)
  refine W.cs (cells' := 7) (slots' := 26) rfl rfl ?_
  refine lv_dup X.1 X.2.1 dX0_init_47 rfl ?_
  refine lv_bipush (v := 6) X.1 X.2.1 dX0_init_48 (by decide) ?_
  have hp_50 : (((((([(h0, .inr (0, [.ref (a11 0), .ref (a24 0), .ref (a37 0), .null, .null, .int 0]))] : va_W) ++ (rwW E a11 8 (fun _ => 0))) ++ (rwW E a24 8 (fun _ => 0))) ++ (rwW E a37 6 (fun _ => 0))) ++ ([(q44, .inr (5, [.null]))] : va_W))).Perm (([(q44, .inr (5, [.null]))] : va_W) ++ (((([(h0, .inr (0, [.ref (a11 0), .ref (a24 0), .ref (a37 0), .null, .null, .int 0]))] : va_W) ++ (rwW E a11 8 (fun _ => 0))) ++ (rwW E a24 8 (fun _ => 0))) ++ (rwW E a37 6 (fun _ => 0)))) := List.perm_append_comm
  refine z_calla X hW hp_50 (z_runI (b := q44) (As := [.int 6]) (rest := [.ref q44, .ref h0]) X hW hp_50 (c_X5_init l E q44 6 (by decide) _) hy_X5_init q_5 q_8 q_7 rfl gX0_init_X5_init rfl rfl ⟨by decide, by decide⟩ rfl hl rfl rfl (Nat.le_of_ble_eq_true rfl) dX0_init_50 ⟨by decide, by decide⟩) (fun w1 H locs hw hW1 => ?_)
  clear hp_50 hW
  obtain ⟨a50, e50, rfl⟩ := hw
  have hW := zW_perm hW1 List.perm_append_comm
  clear hW1
  refine W.cs (cells' := 8) (slots' := 32) rfl rfl ?_
  subst e50
  refine z_putF X hW (((((([(h0, .inr (0, [.ref (a11 0), .ref (a24 0), .ref (a37 0), .ref (a50 0), .null, .int 0]))] : va_W) ++ (rwW E a11 8 (fun _ => 0))) ++ (rwW E a24 8 (fun _ => 0))) ++ (rwW E a37 6 (fun _ => 0))) ++ (rwW E a50 6 (fun _ => 0)))) tyX0 tyX0_ok nmX0 0 0 3 (C := RX0) (T := TX0) (N := 6) rfl rfl hn_X0 (by decide) q_13 rfl rfl rfl rfl rfl (Nat.le_of_ble_eq_true rfl) rfl dX0_init_53 (fun H locs hW => ?_)
  refine lv_aload_n X.1 X.2.1 dX0_init_56 rfl (lv_at hl 0 rfl) ?_
  refine z_new X hW tyX5 tyX5_ok (C := RX5) (T := TX5) (N := 1) 5 rfl hn_X5 q_3 q_4 q_5 [.null] (fun j hj => by rcases (show j = 0 by omega) with rfl <;> rfl) (by decide) (by decide) dX0_init_57 (fun q57 H hW => ?_)
  refine W.cs (cells' := 9) (slots' := 33) rfl rfl ?_
  refine lv_dup X.1 X.2.1 dX0_init_60 rfl ?_
  refine lv_bipush (v := 6) X.1 X.2.1 dX0_init_61 (by decide) ?_
  have hp_63 : ((((((([(h0, .inr (0, [.ref (a11 0), .ref (a24 0), .ref (a37 0), .ref (a50 0), .null, .int 0]))] : va_W) ++ (rwW E a11 8 (fun _ => 0))) ++ (rwW E a24 8 (fun _ => 0))) ++ (rwW E a37 6 (fun _ => 0))) ++ (rwW E a50 6 (fun _ => 0))) ++ ([(q57, .inr (5, [.null]))] : va_W))).Perm (([(q57, .inr (5, [.null]))] : va_W) ++ ((((([(h0, .inr (0, [.ref (a11 0), .ref (a24 0), .ref (a37 0), .ref (a50 0), .null, .int 0]))] : va_W) ++ (rwW E a11 8 (fun _ => 0))) ++ (rwW E a24 8 (fun _ => 0))) ++ (rwW E a37 6 (fun _ => 0))) ++ (rwW E a50 6 (fun _ => 0)))) := List.perm_append_comm
  refine z_calla X hW hp_63 (z_runI (b := q57) (As := [.int 6]) (rest := [.ref q57, .ref h0]) X hW hp_63 (c_X5_init l E q57 6 (by decide) _) hy_X5_init q_5 q_8 q_7 rfl gX0_init_X5_init rfl rfl ⟨by decide, by decide⟩ rfl hl rfl rfl (Nat.le_of_ble_eq_true rfl) dX0_init_63 ⟨by decide, by decide⟩) (fun w1 H locs hw hW1 => ?_)
  clear hp_63 hW
  obtain ⟨a63, e63, rfl⟩ := hw
  have hW := zW_perm hW1 List.perm_append_comm
  clear hW1
  refine W.cs (cells' := 10) (slots' := 39) rfl rfl ?_
  subst e63
  refine z_putF X hW ((((((([(h0, .inr (0, [.ref (a11 0), .ref (a24 0), .ref (a37 0), .ref (a50 0), .ref (a63 0), .int 0]))] : va_W) ++ (rwW E a11 8 (fun _ => 0))) ++ (rwW E a24 8 (fun _ => 0))) ++ (rwW E a37 6 (fun _ => 0))) ++ (rwW E a50 6 (fun _ => 0))) ++ (rwW E a63 6 (fun _ => 0)))) tyX0 tyX0_ok nmX0 0 0 4 (C := RX0) (T := TX0) (N := 6) rfl rfl hn_X0 (by decide) q_14 rfl rfl rfl rfl rfl (Nat.le_of_ble_eq_true rfl) rfl dX0_init_66 (fun H locs hW => ?_)
  exact z_varet X hW ⟨(fun k => if k < 1 then h0 else if k < 3 then a11 (k - 1) else if k < 5 then a24 (k - 3) else if k < 7 then a37 (k - 5) else if k < 9 then a50 (k - 7) else a63 (k - 9)), rfl, rfl⟩ dX0_init_69
def zP0 : zHV := fun _ _ => 0
abbrev rm_X4_init : Room := { frames := 1, cells := 1, slots := 80, locals := 20 }
theorem hy_X4_init : zY yX4_init wsX4_init cX4_init 1 none 0 := ⟨⟨_, rfl⟩, by decide, by decide, by decide +kernel⟩
set_option maxHeartbeats 4000000 in
set_option maxRecDepth 100000 in
theorem c_X4_init (l : Launch) (E : zE) (h0 : Nat) : zMa l E yX4_init wsX4_init rm_X4_init [.ref h0] ([(h0, .inr (4, [.null, .int 0]))] : va_W) 1 80 (fun w1 => ∃ a : Nat → Nat, a 0 = h0 ∧ w1 = pdW E a zP0) := by
  intro sz
  refine z_entry (Qc := fun A => zQa E A (fun w1 => ∃ a : Nat → Nat, a 0 = h0 ∧ w1 = pdW E a zP0)) (by decide) rfl (Nat.le_of_ble_eq_true rfl) ?_
  intro p e s m below meth c A X hW ls hl
  have X : zX E wsX4_init RX4 cX4_init 1 none yX4_init p s m ([.ref h0] : List Value).toArray meth c A := X
  have hl : lv_has ls 1 [(0, .ref h0)] := hl
  have q_0 : Cond.methodLink RX4 3 objectInit ∈ wsX4_init := List.mem_of_getElem? (i := 1) rfl
  have q_1 : Cond.instanceMethod objectInit ∈ wsX4_init := List.mem_of_getElem? (i := 2) rfl
  have q_2 : Cond.code objectInit ⟨#[0xb1]⟩ 1 none ∈ wsX4_init := List.mem_of_getElem? (i := 3) rfl
  have q_3 : Cond.arrayClass .int ∈ wsX4_init := List.mem_of_getElem? (i := 4) rfl
  have q_4 : Cond.fieldLink RX4 9 "ApplauseTallies$Pad" "codes" "[I" ∈ wsX4_init := List.mem_of_getElem? (i := 5) rfl
  have hn_X4 : ∀ x ∈ wsX40, x ∈ wsX4_init := zz_in [6, 7] (by decide +kernel)
  refine lv_aload_n X.1 X.2.1 dX4_init_0 rfl (lv_at hl 0 rfl) ?_
  refine z_objInit X hl rfl q_0 q_1 q_2 dX4_init_1 (by decide) (Nat.le_of_ble_eq_true rfl) ?_
  refine lv_aload_n X.1 X.2.1 dX4_init_4 rfl (lv_at hl 0 rfl) ?_
  refine lv_bipush (v := 80) X.1 X.2.1 dX4_init_5 (by decide) ?_
  refine z_newi X hW q_3 80 (by decide) (by decide) (by decide) (by decide) (by decide) dX4_init_7 (fun q7 H hW => ?_)
  refine W.cs (cells' := 1) (slots' := 80) rfl rfl ?_
  refine z_putF X hW ((([(h0, .inr (4, [.ref q7, .int 0]))] : va_W) ++ ([(q7, .inl (E.2.1, 80, .inl (fun _ => 0)))] : va_W))) tyX4 tyX4_ok nmX4 0 4 0 (C := RX4) (T := TX4) (N := 2) rfl rfl hn_X4 (by decide) q_4 rfl rfl rfl rfl rfl (Nat.le_of_ble_eq_true rfl) rfl dX4_init_9 (fun H locs hW => ?_)
  exact z_varet X hW ⟨fun k => if k < 1 then h0 else q7, rfl, rfl⟩ dX4_init_12
abbrev rm_X3_init : Room := { frames := 1, cells := 0, slots := 0, locals := 20 }
theorem hy_X3_init : zY yX3_init wsX3_init cX3_init 2 none 1 := ⟨⟨_, rfl⟩, by decide, by decide, by decide +kernel⟩
set_option maxHeartbeats 4000000 in
set_option maxRecDepth 100000 in
theorem c_X3_init (l : Launch) (E : zE) (h0 : Nat) (h1 : Nat) : zMa l E yX3_init wsX3_init rm_X3_init [.ref h0, .ref h1] ([(h0, .inr (3, [.null, .int 0, .int 0, .int 0, .int 0]))] : va_W) 0 0 (fun w1 => w1 = ([(h0, .inr (3, [.ref h1, .int 0, .int 0, .int 0, .int 0]))] : va_W)) := by
  intro sz
  refine z_entry (Qc := fun A => zQa E A (fun w1 => w1 = ([(h0, .inr (3, [.ref h1, .int 0, .int 0, .int 0, .int 0]))] : va_W))) (by decide) rfl (Nat.le_of_ble_eq_true rfl) ?_
  intro p e s m below meth c A X hW ls hl
  have X : zX E wsX3_init RX3 cX3_init 2 none yX3_init p s m ([.ref h0, .ref h1] : List Value).toArray meth c A := X
  have hl : lv_has ls 2 [(0, .ref h0), (1, .ref h1)] := hl
  have q_0 : Cond.methodLink RX3 3 objectInit ∈ wsX3_init := List.mem_of_getElem? (i := 1) rfl
  have q_1 : Cond.instanceMethod objectInit ∈ wsX3_init := List.mem_of_getElem? (i := 2) rfl
  have q_2 : Cond.code objectInit ⟨#[0xb1]⟩ 1 none ∈ wsX3_init := List.mem_of_getElem? (i := 3) rfl
  have q_3 : Cond.fieldLink RX3 9 "ApplauseTallies$OrderReader" "pad" "LApplauseTallies$Pad;" ∈ wsX3_init := List.mem_of_getElem? (i := 4) rfl
  have hn_X3 : ∀ x ∈ wsX30, x ∈ wsX3_init := zz_in [5, 6, 7, 8, 9] (by decide +kernel)
  refine lv_aload_n X.1 X.2.1 dX3_init_0 rfl (lv_at hl 0 rfl) ?_
  refine z_objInit X hl rfl q_0 q_1 q_2 dX3_init_1 (by decide) (Nat.le_of_ble_eq_true rfl) ?_
  refine lv_aload_n X.1 X.2.1 dX3_init_4 rfl (lv_at hl 0 rfl) ?_
  refine lv_aload_n X.1 X.2.1 dX3_init_5 rfl (lv_at hl 1 rfl) ?_
  refine z_putF X hW (([(h0, .inr (3, [.ref h1, .int 0, .int 0, .int 0, .int 0]))] : va_W)) tyX3 tyX3_ok nmX3 0 3 0 (C := RX3) (T := TX3) (N := 5) rfl rfl hn_X3 (by decide) q_3 rfl rfl rfl rfl rfl (Nat.le_of_ble_eq_true rfl) rfl dX3_init_6 (fun H locs hW => ?_)
  exact z_varet X hW rfl dX3_init_9
/-- a house as it is made -/
def zH0 : zHV := fun i k => if i = 0 then zFIRST k else if i = 1 then 3 else if i = 15 then (if k = 3 then -6 else 0) else 0
abbrev rm_X2_init : Room := { frames := 3, cells := 28, slots := 245, locals := 62 }
theorem hy_X2_init : zY yX2_init wsX2_init cX2_init 2 none 0 := ⟨⟨_, rfl⟩, by decide, by decide, by decide +kernel⟩
set_option maxHeartbeats 4000000 in
set_option maxRecDepth 100000 in
theorem c_X2_init (l : Launch) (E : zE) (h0 : Nat) : zMa l E yX2_init wsX2_init rm_X2_init [.ref h0] ([(h0, .inr (2, [.null, .null, .null, .null, .null, .int 0, .int 0, .int 0, .int 0, .int 0, .int 0]))] : va_W) 28 245 (fun w1 => ∃ a : Nat → Nat, a 0 = h0 ∧ w1 = hsW E a zH0) := by
  intro sz
  refine z_entry (Qc := fun A => zQa E A (fun w1 => ∃ a : Nat → Nat, a 0 = h0 ∧ w1 = hsW E a zH0)) (by decide) rfl (Nat.le_of_ble_eq_true rfl) ?_
  intro p e s m below meth c A X hW ls hl
  have X : zX E wsX2_init RX2 cX2_init 2 none yX2_init p s m ([.ref h0] : List Value).toArray meth c A := X
  have hl : lv_has ls 2 [(0, .ref h0)] := hl
  have q_0 : Cond.methodLink RX2 3 objectInit ∈ wsX2_init := List.mem_of_getElem? (i := 1) rfl
  have q_1 : Cond.instanceMethod objectInit ∈ wsX2_init := List.mem_of_getElem? (i := 2) rfl
  have q_2 : Cond.code objectInit ⟨#[0xb1]⟩ 1 none ∈ wsX2_init := List.mem_of_getElem? (i := 3) rfl
  have q_3 : Cond.classLink RX2 9 RX5 ∈ wsX2_init := List.mem_of_getElem? (i := 4) rfl
  have q_4 : Cond.instantiable RX5 1 ∈ wsX2_init := List.mem_of_getElem? (i := 5) rfl
  have q_5 : Cond.initialized RX5 ∈ wsX2_init := List.mem_of_getElem? (i := 6) rfl
  have hn_X5 : ∀ x ∈ wsX50, x ∈ wsX2_init := zz_in [58] (by decide +kernel)
  have q_7 : Cond.instanceMethod yX5_init ∈ wsX2_init := List.mem_of_getElem? (i := 20) rfl
  have q_8 : Cond.methodLink RX2 11 yX5_init ∈ wsX2_init := List.mem_of_getElem? (i := 19) rfl
  have q_9 : Cond.fieldLink RX2 14 "ApplauseTallies$House" "settings" "LApplauseTallies$Row;" ∈ wsX2_init := List.mem_of_getElem? (i := 7) rfl
  have hn_X2 : ∀ x ∈ wsX20, x ∈ wsX2_init := zz_in [59, 60, 61, 62, 63, 64, 65, 66, 67, 68, 69] (by decide +kernel)
  have q_11 : Cond.classLink RX2 20 RX6 ∈ wsX2_init := List.mem_of_getElem? (i := 8) rfl
  have q_12 : Cond.instantiable RX6 8 ∈ wsX2_init := List.mem_of_getElem? (i := 9) rfl
  have q_13 : Cond.initialized RX6 ∈ wsX2_init := List.mem_of_getElem? (i := 10) rfl
  have hn_X6 : ∀ x ∈ wsX60, x ∈ wsX2_init := zz_in [70, 71, 72, 73, 74, 75, 76, 77] (by decide +kernel)
  have q_15 : Cond.instanceMethod yX6_init ∈ wsX2_init := List.mem_of_getElem? (i := 30) rfl
  have q_16 : Cond.methodLink RX2 22 yX6_init ∈ wsX2_init := List.mem_of_getElem? (i := 29) rfl
  have q_17 : Cond.fieldLink RX2 23 "ApplauseTallies$House" "seats" "LApplauseTallies$Seats;" ∈ wsX2_init := List.mem_of_getElem? (i := 11) rfl
  have q_18 : Cond.classLink RX2 27 RX0 ∈ wsX2_init := List.mem_of_getElem? (i := 12) rfl
  have q_19 : Cond.instantiable RX0 6 ∈ wsX2_init := List.mem_of_getElem? (i := 13) rfl
  have q_20 : Cond.initialized RX0 ∈ wsX2_init := List.mem_of_getElem? (i := 14) rfl
  have hn_X0 : ∀ x ∈ wsX00, x ∈ wsX2_init := zz_in [78, 79, 80, 81, 82, 83] (by decide +kernel)
  have q_22 : Cond.instanceMethod yX0_init ∈ wsX2_init := List.mem_of_getElem? (i := 44) rfl
  have q_23 : Cond.fieldLink RX2 30 "ApplauseTallies$House" "encores" "LApplauseTallies$Encores;" ∈ wsX2_init := List.mem_of_getElem? (i := 15) rfl
  have q_24 : Cond.fieldLink RX2 34 "ApplauseTallies$House" "tonight" "LApplauseTallies$Row;" ∈ wsX2_init := List.mem_of_getElem? (i := 16) rfl
  have q_25 : Cond.fieldLink RX2 37 "ApplauseTallies$House" "records" "LApplauseTallies$Row;" ∈ wsX2_init := List.mem_of_getElem? (i := 17) rfl
  have q_26 : Cond.fieldLink RX2 40 "ApplauseTallies$House" "pieceBy" "I" ∈ wsX2_init := List.mem_of_getElem? (i := 18) rfl
  refine lv_aload_n X.1 X.2.1 dX2_init_0 rfl (lv_at hl 0 rfl) ?_
  refine z_objInit X hl rfl q_0 q_1 q_2 dX2_init_1 (by decide) (Nat.le_of_ble_eq_true rfl) ?_
  refine lv_aload_n X.1 X.2.1 dX2_init_4 rfl (lv_at hl 0 rfl) ?_
  refine z_new X hW tyX5 tyX5_ok (C := RX5) (T := TX5) (N := 1) 5 rfl hn_X5 q_3 q_4 q_5 [.null] (fun j hj => by rcases (show j = 0 by omega) with rfl <;> rfl) (by decide) (by decide) dX2_init_5 (fun q5 H hW => ?_)
  refine W.cs (cells' := 1) (slots' := 1) rfl rfl ?_
  refine lv_dup X.1 X.2.1 dX2_init_8 rfl ?_
  refine lv_bipush (v := 6) X.1 X.2.1 dX2_init_9 (by decide) ?_
  have hp_11 : ((([(h0, .inr (2, [.null, .null, .null, .null, .null, .int 0, .int 0, .int 0, .int 0, .int 0, .int 0]))] : va_W) ++ ([(q5, .inr (5, [.null]))] : va_W))).Perm (([(q5, .inr (5, [.null]))] : va_W) ++ ([(h0, .inr (2, [.null, .null, .null, .null, .null, .int 0, .int 0, .int 0, .int 0, .int 0, .int 0]))] : va_W)) := List.perm_append_comm
  refine z_calla X hW hp_11 (z_runI (b := q5) (As := [.int 6]) (rest := [.ref q5, .ref h0]) X hW hp_11 (c_X5_init l E q5 6 (by decide) _) hy_X5_init q_5 q_8 q_7 rfl gX2_init_X5_init rfl rfl ⟨by decide, by decide⟩ rfl hl rfl rfl (Nat.le_of_ble_eq_true rfl) dX2_init_11 ⟨by decide, by decide⟩) (fun w1 H locs hw hW1 => ?_)
  clear hp_11 hW
  obtain ⟨a11, e11, rfl⟩ := hw
  have hW := zW_perm hW1 List.perm_append_comm
  clear hW1
  refine W.cs (cells' := 2) (slots' := 7) rfl rfl ?_
  subst e11
  refine z_putF X hW ((([(h0, .inr (2, [.ref (a11 0), .null, .null, .null, .null, .int 0, .int 0, .int 0, .int 0, .int 0, .int 0]))] : va_W) ++ (rwW E a11 6 (fun _ => 0)))) tyX2 tyX2_ok nmX2 0 2 0 (C := RX2) (T := TX2) (N := 11) rfl rfl hn_X2 (by decide) q_9 rfl rfl rfl rfl rfl (Nat.le_of_ble_eq_true rfl) rfl dX2_init_14 (fun H locs hW => ?_)
  refine lv_aload_n X.1 X.2.1 dX2_init_17 rfl (lv_at hl 0 rfl) ?_
  refine z_new X hW tyX6 tyX6_ok (C := RX6) (T := TX6) (N := 8) 6 rfl hn_X6 q_11 q_12 q_13 [.null, .null, .null, .null, .null, .int 0, .int 0, .int 0] (fun j hj => by rcases (show j = 0 ∨ j = 1 ∨ j = 2 ∨ j = 3 ∨ j = 4 ∨ j = 5 ∨ j = 6 ∨ j = 7 by omega) with rfl | rfl | rfl | rfl | rfl | rfl | rfl | rfl <;> rfl) (by decide) (by decide) dX2_init_18 (fun q18 H hW => ?_)
  refine W.cs (cells' := 3) (slots' := 15) rfl rfl ?_
  refine lv_dup X.1 X.2.1 dX2_init_21 rfl ?_
  have hp_22 : (((([(h0, .inr (2, [.ref (a11 0), .null, .null, .null, .null, .int 0, .int 0, .int 0, .int 0, .int 0, .int 0]))] : va_W) ++ (rwW E a11 6 (fun _ => 0))) ++ ([(q18, .inr (6, [.null, .null, .null, .null, .null, .int 0, .int 0, .int 0]))] : va_W))).Perm (([(q18, .inr (6, [.null, .null, .null, .null, .null, .int 0, .int 0, .int 0]))] : va_W) ++ (([(h0, .inr (2, [.ref (a11 0), .null, .null, .null, .null, .int 0, .int 0, .int 0, .int 0, .int 0, .int 0]))] : va_W) ++ (rwW E a11 6 (fun _ => 0)))) := List.perm_append_comm
  refine z_calla X hW hp_22 (z_runI (b := q18) (As := []) (rest := [.ref q18, .ref h0]) X hW hp_22 (c_X6_init l E q18  _) hy_X6_init q_13 q_16 q_15 rfl gX2_init_X6_init rfl rfl ⟨by decide, by decide⟩ rfl hl rfl rfl (Nat.le_of_ble_eq_true rfl) dX2_init_22 ⟨by decide, by decide⟩) (fun w1 H locs hw hW1 => ?_)
  clear hp_22 hW
  obtain ⟨a22, e22, rfl⟩ := hw
  have hW := zW_perm hW1 List.perm_append_comm
  clear hW1
  refine W.cs (cells' := 13) (slots' := 170) rfl rfl ?_
  subst e22
  refine z_putF X hW (((([(h0, .inr (2, [.ref (a11 0), .ref (a22 0), .null, .null, .null, .int 0, .int 0, .int 0, .int 0, .int 0, .int 0]))] : va_W) ++ (rwW E a11 6 (fun _ => 0))) ++ (stW E a22 zS0))) tyX2 tyX2_ok nmX2 0 2 1 (C := RX2) (T := TX2) (N := 11) rfl rfl hn_X2 (by decide) q_17 rfl rfl rfl rfl rfl (Nat.le_of_ble_eq_true rfl) rfl dX2_init_25 (fun H locs hW => ?_)
  refine lv_aload_n X.1 X.2.1 dX2_init_28 rfl (lv_at hl 0 rfl) ?_
  refine z_new X hW tyX0 tyX0_ok (C := RX0) (T := TX0) (N := 6) 0 rfl hn_X0 q_18 q_19 q_20 [.null, .null, .null, .null, .null, .int 0] (fun j hj => by rcases (show j = 0 ∨ j = 1 ∨ j = 2 ∨ j = 3 ∨ j = 4 ∨ j = 5 by omega) with rfl | rfl | rfl | rfl | rfl | rfl <;> rfl) (by decide) (by decide) dX2_init_29 (fun q29 H hW => ?_)
  refine W.cs (cells' := 14) (slots' := 176) rfl rfl ?_
  refine lv_dup X.1 X.2.1 dX2_init_32 rfl ?_
  have hp_33 : ((((([(h0, .inr (2, [.ref (a11 0), .ref (a22 0), .null, .null, .null, .int 0, .int 0, .int 0, .int 0, .int 0, .int 0]))] : va_W) ++ (rwW E a11 6 (fun _ => 0))) ++ (stW E a22 zS0)) ++ ([(q29, .inr (0, [.null, .null, .null, .null, .null, .int 0]))] : va_W))).Perm (([(q29, .inr (0, [.null, .null, .null, .null, .null, .int 0]))] : va_W) ++ ((([(h0, .inr (2, [.ref (a11 0), .ref (a22 0), .null, .null, .null, .int 0, .int 0, .int 0, .int 0, .int 0, .int 0]))] : va_W) ++ (rwW E a11 6 (fun _ => 0))) ++ (stW E a22 zS0))) := List.perm_append_comm
  refine z_calla X hW hp_33 (z_runIN (b := q29) (As := []) (rest := [.ref q29, .ref h0]) X hW hp_33 (c_X0_init l E q29  _) hy_X0_init q_20 (List.mem_of_getElem? (i := 19) rfl) q_22 rfl gX2_init_X0_init_n29 rfl rfl ⟨by decide, by decide⟩ rfl hl rfl rfl (Nat.le_of_ble_eq_true rfl) dX2_init_33 ⟨by decide, by decide⟩) (fun w1 H locs hw hW1 => ?_)
  clear hp_33 hW
  obtain ⟨a33, e33, rfl⟩ := hw
  have hW := zW_perm hW1 List.perm_append_comm
  clear hW1
  refine W.cs (cells' := 24) (slots' := 215) rfl rfl ?_
  subst e33
  refine z_putF X hW ((((([(h0, .inr (2, [.ref (a11 0), .ref (a22 0), .ref (a33 0), .null, .null, .int 0, .int 0, .int 0, .int 0, .int 0, .int 0]))] : va_W) ++ (rwW E a11 6 (fun _ => 0))) ++ (stW E a22 zS0)) ++ (enW E a33 zE0))) tyX2 tyX2_ok nmX2 0 2 2 (C := RX2) (T := TX2) (N := 11) rfl rfl hn_X2 (by decide) q_23 rfl rfl rfl rfl rfl (Nat.le_of_ble_eq_true rfl) rfl dX2_init_36 (fun H locs hW => ?_)
  refine lv_aload_n X.1 X.2.1 dX2_init_39 rfl (lv_at hl 0 rfl) ?_
  refine z_new X hW tyX5 tyX5_ok (C := RX5) (T := TX5) (N := 1) 5 rfl hn_X5 q_3 q_4 q_5 [.null] (fun j hj => by rcases (show j = 0 by omega) with rfl <;> rfl) (by decide) (by decide) dX2_init_40 (fun q40 H hW => ?_)
  refine W.cs (cells' := 25) (slots' := 216) rfl rfl ?_
  refine lv_dup X.1 X.2.1 dX2_init_43 rfl ?_
  refine lv_iconst (v := 4) X.1 X.2.1 dX2_init_44 (by decide) ?_
  have hp_45 : (((((([(h0, .inr (2, [.ref (a11 0), .ref (a22 0), .ref (a33 0), .null, .null, .int 0, .int 0, .int 0, .int 0, .int 0, .int 0]))] : va_W) ++ (rwW E a11 6 (fun _ => 0))) ++ (stW E a22 zS0)) ++ (enW E a33 zE0)) ++ ([(q40, .inr (5, [.null]))] : va_W))).Perm (([(q40, .inr (5, [.null]))] : va_W) ++ (((([(h0, .inr (2, [.ref (a11 0), .ref (a22 0), .ref (a33 0), .null, .null, .int 0, .int 0, .int 0, .int 0, .int 0, .int 0]))] : va_W) ++ (rwW E a11 6 (fun _ => 0))) ++ (stW E a22 zS0)) ++ (enW E a33 zE0))) := List.perm_append_comm
  refine z_calla X hW hp_45 (z_runI (b := q40) (As := [.int 4]) (rest := [.ref q40, .ref h0]) X hW hp_45 (c_X5_init l E q40 4 (by decide) _) hy_X5_init q_5 q_8 q_7 rfl gX2_init_X5_init rfl rfl ⟨by decide, by decide⟩ rfl hl rfl rfl (Nat.le_of_ble_eq_true rfl) dX2_init_45 ⟨by decide, by decide⟩) (fun w1 H locs hw hW1 => ?_)
  clear hp_45 hW
  obtain ⟨a45, e45, rfl⟩ := hw
  have hW := zW_perm hW1 List.perm_append_comm
  clear hW1
  refine W.cs (cells' := 26) (slots' := 220) rfl rfl ?_
  subst e45
  refine z_putF X hW (((((([(h0, .inr (2, [.ref (a11 0), .ref (a22 0), .ref (a33 0), .ref (a45 0), .null, .int 0, .int 0, .int 0, .int 0, .int 0, .int 0]))] : va_W) ++ (rwW E a11 6 (fun _ => 0))) ++ (stW E a22 zS0)) ++ (enW E a33 zE0)) ++ (rwW E a45 4 (fun _ => 0)))) tyX2 tyX2_ok nmX2 0 2 3 (C := RX2) (T := TX2) (N := 11) rfl rfl hn_X2 (by decide) q_24 rfl rfl rfl rfl rfl (Nat.le_of_ble_eq_true rfl) rfl dX2_init_48 (fun H locs hW => ?_)
  refine lv_aload_n X.1 X.2.1 dX2_init_51 rfl (lv_at hl 0 rfl) ?_
  refine z_new X hW tyX5 tyX5_ok (C := RX5) (T := TX5) (N := 1) 5 rfl hn_X5 q_3 q_4 q_5 [.null] (fun j hj => by rcases (show j = 0 by omega) with rfl <;> rfl) (by decide) (by decide) dX2_init_52 (fun q52 H hW => ?_)
  refine W.cs (cells' := 27) (slots' := 221) rfl rfl ?_
  refine lv_dup X.1 X.2.1 dX2_init_55 rfl ?_
  refine lv_bipush (v := 24) X.1 X.2.1 dX2_init_56 (by decide) ?_
  have hp_58 : ((((((([(h0, .inr (2, [.ref (a11 0), .ref (a22 0), .ref (a33 0), .ref (a45 0), .null, .int 0, .int 0, .int 0, .int 0, .int 0, .int 0]))] : va_W) ++ (rwW E a11 6 (fun _ => 0))) ++ (stW E a22 zS0)) ++ (enW E a33 zE0)) ++ (rwW E a45 4 (fun _ => 0))) ++ ([(q52, .inr (5, [.null]))] : va_W))).Perm (([(q52, .inr (5, [.null]))] : va_W) ++ ((((([(h0, .inr (2, [.ref (a11 0), .ref (a22 0), .ref (a33 0), .ref (a45 0), .null, .int 0, .int 0, .int 0, .int 0, .int 0, .int 0]))] : va_W) ++ (rwW E a11 6 (fun _ => 0))) ++ (stW E a22 zS0)) ++ (enW E a33 zE0)) ++ (rwW E a45 4 (fun _ => 0)))) := List.perm_append_comm
  refine z_calla X hW hp_58 (z_runI (b := q52) (As := [.int 24]) (rest := [.ref q52, .ref h0]) X hW hp_58 (c_X5_init l E q52 24 (by decide) _) hy_X5_init q_5 q_8 q_7 rfl gX2_init_X5_init rfl rfl ⟨by decide, by decide⟩ rfl hl rfl rfl (Nat.le_of_ble_eq_true rfl) dX2_init_58 ⟨by decide, by decide⟩) (fun w1 H locs hw hW1 => ?_)
  clear hp_58 hW
  obtain ⟨a58, e58, rfl⟩ := hw
  have hW := zW_perm hW1 List.perm_append_comm
  clear hW1
  refine W.cs (cells' := 28) (slots' := 245) rfl rfl ?_
  subst e58
  refine z_putF X hW ((((((([(h0, .inr (2, [.ref (a11 0), .ref (a22 0), .ref (a33 0), .ref (a45 0), .ref (a58 0), .int 0, .int 0, .int 0, .int 0, .int 0, .int 0]))] : va_W) ++ (rwW E a11 6 (fun _ => 0))) ++ (stW E a22 zS0)) ++ (enW E a33 zE0)) ++ (rwW E a45 4 (fun _ => 0))) ++ (rwW E a58 24 (fun _ => 0)))) tyX2 tyX2_ok nmX2 0 2 4 (C := RX2) (T := TX2) (N := 11) rfl rfl hn_X2 (by decide) q_25 rfl rfl rfl rfl rfl (Nat.le_of_ble_eq_true rfl) rfl dX2_init_61 (fun H locs hW => ?_)
  refine lv_aload_n X.1 X.2.1 dX2_init_64 rfl (lv_at hl 0 rfl) ?_
  refine lv_bipush (v := (-6)) X.1 X.2.1 dX2_init_65 (by decide) ?_
  refine z_put0 X hW ((((((([(h0, .inr (2, [.ref (a11 0), .ref (a22 0), .ref (a33 0), .ref (a45 0), .ref (a58 0), .int 0, .int 0, .int 0, .int (-6), .int 0, .int 0]))] : va_W) ++ (rwW E a11 6 (fun _ => 0))) ++ (stW E a22 zS0)) ++ (enW E a33 zE0)) ++ (rwW E a45 4 (fun _ => 0))) ++ (rwW E a58 24 (fun _ => 0)))) tyX2 tyX2_ok nmX2 0 2 8 (C := RX2) (T := TX2) (N := 11) rfl rfl hn_X2 (by decide) q_26 rfl rfl rfl (Nat.le_of_ble_eq_true rfl) rfl dX2_init_67 (fun H locs hW => ?_)
  refine lv_iconst (v := 0) X.1 X.2.1 dX2_init_70 (by decide) ?_
  refine lv_istore_n (lv' := [(1, .int 0), (0, .ref h0)]) X.1 X.2.1 dX2_init_71 rfl hl (by decide) rfl (fun ls hl => ?_)
  have L_72 : ∀ (d k : Nat) (f : Nat → Int32) (H : Heap) (locs : List Loc) (ls : Array Slot), 6 - k = d → k ≤ 6 → (∀ j, j < k → f j = zFIRST j) → zW E A s (((((([(h0, .inr (2, [.ref (a11 0), .ref (a22 0), .ref (a33 0), .ref (a45 0), .ref (a58 0), .int 0, .int 0, .int 0, .int (-6), .int 0, .int 0]))] : va_W) ++ (rwW E a11 6 f)) ++ (stW E a22 zS0)) ++ (enW E a33 zE0)) ++ (rwW E a45 4 (fun _ => 0))) ++ (rwW E a58 24 (fun _ => 0))) H locs → lv_has ls 2 [(0, .ref h0), (1, .int (nI k))] → W p l e rm_X2_init s m ([.ref h0] : List Value).toArray below meth c H locs 28 245 (MQ below (zQa E A (fun w1 => ∃ a : Nat → Nat, a 0 = h0 ∧ w1 = hsW E a zH0)) ([.ref h0] : List Value).toArray s 28 245 A) (F0 m 72 ls []) := by
    intro d
    induction d with
    | zero =>
      intro k f H locs ls hd hk hf hW hl
      have hk6 : k = 6 := by omega
      subst hk6
      refine lv_iload_n X.1 X.2.1 dX2_init_72 rfl (lv_at hl 1 rfl) ?_
      refine lv_bipush (v := 6) X.1 X.2.1 dX2_init_73 (by decide) ?_
      refine lv_icmp_ge (tgt := 105) X.1 X.2.1 dX2_init_75 (by decide) (fun _ => ?_) (fun hc => absurd (by decide) hc)
      have hW := zW_row zFIRST (z_split (wc := rwW E a11 6 f) 1 2 rfl) hf hW (w' := (((((([(h0, .inr (2, [.ref (a11 0), .ref (a22 0), .ref (a33 0), .ref (a45 0), .ref (a58 0), .int 0, .int 0, .int 0, .int (-6), .int 0, .int 0]))] : va_W) ++ (rwW E a11 6 zFIRST)) ++ (stW E a22 zS0)) ++ (enW E a33 zE0)) ++ (rwW E a45 4 (fun _ => 0))) ++ (rwW E a58 24 (fun _ => 0)))) (z_unsplit 1 2 rfl rfl rfl)
      exact z_varet X hW ⟨(fun k => if k < 1 then h0 else if k < 3 then a11 (k - 1) else if k < 14 then a22 (k - 3) else if k < 25 then a33 (k - 14) else if k < 27 then a45 (k - 25) else a58 (k - 27)), rfl, rfl⟩ dX2_init_105
    | succ d ih =>
      intro k f H locs ls hd hk hf hW hl
      refine lv_iload_n X.1 X.2.1 dX2_init_72 rfl (lv_at hl 1 rfl) ?_
      refine lv_bipush (v := 6) X.1 X.2.1 dX2_init_73 (by decide) ?_
      refine lv_icmp_ge (tgt := 105) X.1 X.2.1 dX2_init_75 (by decide) (fun hc => absurd hc (nI_ge (b := 6) (by omega) (by omega))) (fun _ => ?_)
      refine lv_iload_n X.1 X.2.1 dX2_init_78 rfl (lv_at hl 1 rfl) ?_
      refine z_getsN X hW X.2.2.2.2.2.1.2.2.2.2.2.1.1 (List.mem_of_getElem? (i := 11) rfl) dX2_init_79 ?_
      refine z_slen X hW X.2.2.2.2.2.1.2.2.2.2.2.1.2 dX2_init_82 ?_
      refine lv_icmp_ge (tgt := 105) X.1 X.2.1 dX2_init_83 (by decide) (fun hc => absurd hc (nI_ge (b := 6) (by omega) (by omega))) (fun _ => ?_)
      refine lv_aload_n X.1 X.2.1 dX2_init_86 rfl (lv_at hl 0 rfl) ?_
      refine z_get X hW 0 2 0 (C := RX2) (T := TX2) (N := 11) rfl rfl hn_X2 (by decide) q_9 rfl dX2_init_87 ?_
      refine lv_iload_n X.1 X.2.1 dX2_init_90 rfl (lv_at hl 1 rfl) ?_
      refine z_getsN X hW X.2.2.2.2.2.1.2.2.2.2.2.1.1 (List.mem_of_getElem? (i := 11) rfl) dX2_init_91 ?_
      refine lv_iload_n X.1 X.2.1 dX2_init_94 rfl (lv_at hl 1 rfl) ?_
      refine z_sld X hW X.2.2.2.2.2.1.2.2.2.2.2.1.2 (K := fun z => some z) (r := zFIRST k) (by rw [zld_nI (by omega) (by omega)]) dX2_init_95 (fun z hz => ?_)
      cases hz
      have hp_96 := z_split (w := (((((([(h0, .inr (2, [.ref (a11 0), .ref (a22 0), .ref (a33 0), .ref (a45 0), .ref (a58 0), .int 0, .int 0, .int 0, .int (-6), .int 0, .int 0]))] : va_W) ++ (rwW E a11 6 f)) ++ (stW E a22 zS0)) ++ (enW E a33 zE0)) ++ (rwW E a45 4 (fun _ => 0))) ++ (rwW E a58 24 (fun _ => 0)))) (wc := rwW E a11 6 f) 1 2 rfl
      refine z_callv X hW (d := d_X5_store 6 f (nI k) (zFIRST k)) (fun z => z) (K := fun z => some z) (r := upd f k (zFIRST k)) (by rw [d_store (by omega) (by omega)]; rfl) hp_96 (fun z => rwW E a11 6 z) (fun z9 => (((((([(h0, .inr (2, [.ref (a11 0), .ref (a22 0), .ref (a33 0), .ref (a45 0), .ref (a58 0), .int 0, .int 0, .int 0, .int (-6), .int 0, .int 0]))] : va_W) ++ (rwW E a11 6 z9)) ++ (stW E a22 zS0)) ++ (enW E a33 zE0)) ++ (rwW E a45 4 (fun _ => 0))) ++ (rwW E a58 24 (fun _ => 0)))) (fun z => z_unsplit 1 2 rfl rfl rfl) (fun z h => z_runV (As := [.int (nI k), .int (zFIRST k)]) (rest := []) X hW hp_96 (c_X5_store l E a11 6 f (nI k) (zFIRST k) z h _) hy_X5_store 1 5 (C := RX5) (T := TX5) (N := 1) rfl rfl rfl gX2_init_X5_store rfl rfl ⟨by decide, by decide⟩ rfl hl rfl rfl (Nat.le_of_ble_eq_true rfl) dX2_init_96 ⟨by decide, by decide⟩) (fun z H locs hz hW => ?_)
      cases hz
      refine lv_iinc (v := nI (k + 1)) (lv' := [(1, .int (nI (k + 1))), (0, .ref h0)]) X.1 X.2.1 dX2_init_99 hl (k := 1) rfl (nI_p1 k) (by decide) rfl (fun ls hl => ?_)
      refine lv_goto (tgt := 72) X.1 X.2.1 dX2_init_102 (by decide) ?_
      refine ih (k + 1) (upd f k (zFIRST k)) _ _ _ (by omega) (by omega) (fun j hj => ?_) hW (lv_sub hl [1, 0] rfl)
      unfold upd
      by_cases hjk : j = k
      · rw [if_pos hjk, hjk]
      · rw [if_neg hjk]; exact hf j (by omega)
  exact L_72 6 0 (fun _ => 0) _ _ _ rfl (Nat.zero_le _) (fun j hj => absurd hj (Nat.not_lt_zero _)) hW (lv_sub hl [1, 0] rfl)
