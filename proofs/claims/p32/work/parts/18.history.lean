/-! ===== the history: seven houses in a ring ===== -/
abbrev zHI : Type := Nat → zHV
def zsi (u : zHI) (k : Nat) (x : Int32) : zHI := fun j => if j = 7 then zs (u 7) 0 k x else u j
def zui (u : zHI) (k : Nat) (v : zHV) : zHI := fun j => if j = k then v else u j
def hiH (E : zE) (a : Nat → Nat) (u : zHI) : va_W := (List.range 7).flatMap (fun j => hsW E (zh a (2 + 29 * j)) (u j))
def hiW (E : zE) (a : Nat → Nat) (u : zHI) : va_W := (a 0, .inr (1, [.ref (a 1), .int (u 7 0 0), .int (u 7 0 1)])) :: (a 1, .inl (E.2.2.1, 7, .inr (.inr (.inr (.inr (fun j => some (a (2 + 29 * j)))))))) :: hiH E a u
theorem z_fmc {α β : Type} (L : List α) (f g : α → List β) (h : ∀ x ∈ L, f x = g x) : L.flatMap f = L.flatMap g := by
  induction L with
  | nil => rfl
  | cons x L ih =>
    rw [List.flatMap_cons, List.flatMap_cons, h x List.mem_cons_self, ih (fun y hy => h y (List.mem_cons_of_mem _ hy))]
theorem hiH_congr (E : zE) (a : Nat → Nat) {u u' : zHI} (h : ∀ j, j < 7 → u j = u' j) : hiH E a u = hiH E a u' :=
  z_fmc _ _ _ (fun j hj => by rw [h j (List.mem_range.mp hj)])
theorem st_hi_0 (E : zE) (a : Nat → Nat) (u : zHI) (x : Int32) : (hiW E a u).set 0 (a 0, .inr (1, [.ref (a 1), .int x, .int (u 7 0 1)])) = hiW E a (zsi u 0 x) := by
  unfold hiW
  rw [List.set_cons_zero, hiH_congr E a (u := u) (u' := zsi u 0 x) (fun j hj => by unfold zsi; rw [if_neg (by omega)])]
  rfl
theorem st_hi_1 (E : zE) (a : Nat → Nat) (u : zHI) (x : Int32) : (hiW E a u).set 0 (a 0, .inr (1, [.ref (a 1), .int (u 7 0 0), .int x])) = hiW E a (zsi u 1 x) := by
  unfold hiW
  rw [List.set_cons_zero, hiH_congr E a (u := u) (u' := zsi u 1 x) (fun j hj => by unfold zsi; rw [if_neg (by omega)])]
  rfl
theorem z_pick (g : Nat → va_W) {n k : Nat} (hk : k < n) : ∃ rr : va_W, ((List.range n).flatMap g).Perm (g k ++ rr) ∧ ∀ g' : Nat → va_W, (∀ j, j ≠ k → g' j = g j) → (g' k ++ rr).Perm ((List.range n).flatMap g') := by
  have h1 : (List.range n).Perm (k :: (List.range n).erase k) := List.perm_cons_erase (List.mem_range.mpr hk)
  refine ⟨((List.range n).erase k).flatMap g, ?_, fun g' hg => ?_⟩
  · have h2 := h1.flatMap_right g
    rwa [List.flatMap_cons] at h2
  · have h2 := (h1.flatMap_right g').symm
    rw [List.flatMap_cons] at h2
    rwa [z_fmc ((List.range n).erase k) g g' (fun x hx => (hg x (fun e => by subst e; exact (List.nodup_range.mem_erase_iff.mp hx).1 rfl)).symm)]
theorem z_mem {w wc wr : va_W} {q : Nat × va_E} (hp : w.Perm (wc ++ wr)) (hm : q ∈ wc) : ∃ q0 : Nat, w[q0]? = some q := List.getElem?_of_mem (hp.mem_iff.mpr (List.mem_append_left _ hm))
/-- the k-th house out of the history -/
theorem hi_pick (E : zE) (a : Nat → Nat) (u : zHI) {k : Nat} (hk : k < 7) : ∃ rr : va_W, (hiW E a u).Perm (hsW E (zh a (2 + 29 * k)) (u k) ++ rr) ∧ ∀ v : zHV, (hsW E (zh a (2 + 29 * k)) v ++ rr).Perm (hiW E a (zui u k v)) := by
  obtain ⟨rr, h1, h2⟩ := z_pick (fun j => hsW E (zh a (2 + 29 * j)) (u j)) hk
  refine ⟨(a 0, .inr (1, [.ref (a 1), .int (u 7 0 0), .int (u 7 0 1)])) :: (a 1, .inl (E.2.2.1, 7, .inr (.inr (.inr (.inr (fun j => some (a (2 + 29 * j)))))))) :: rr, ?_, fun v => ?_⟩
  · exact z_spr [(a 0, .inr (1, [.ref (a 1), .int (u 7 0 0), .int (u 7 0 1)])), (a 1, .inl (E.2.2.1, 7, .inr (.inr (.inr (.inr (fun j => some (a (2 + 29 * j))))))))] h1
  · have h3 := h2 (fun j => hsW E (zh a (2 + 29 * j)) (zui u k v j)) (fun j hj => by unfold zui; rw [if_neg hj])
    have e1 : zui u k v k = v := by unfold zui; rw [if_pos rfl]
    have e7 : zui u k v 7 = u 7 := by unfold zui; rw [if_neg (by omega)]
    have h4 := z_jnr [(a 0, .inr (1, [.ref (a 1), .int (u 7 0 0), .int (u 7 0 1)])), (a 1, .inl (E.2.2.1, 7, .inr (.inr (.inr (.inr (fun j => some (a (2 + 29 * j))))))))] h3
    rw [e1] at h4
    unfold hiW
    rw [e7]
    exact h4
def zk7 {γ : Type} (x : Int32) (K : Nat → Option γ) : Option γ := if 0 ≤ x.toInt ∧ x.toInt < 7 then K x.toNatClampNeg else none
theorem zk7_some {γ : Type} {x : Int32} {K : Nat → Option γ} {r : γ} (h : zk7 x K = some r) : ∃ k, k < 7 ∧ x = nI k ∧ K k = some r := by
  unfold zk7 at h
  split at h
  · rename_i c
    obtain ⟨j, hj, rfl⟩ := vp_in_of ((vp_in_iff (n := 7)).mpr c) (by omega)
    rw [nI_clamp (by omega)] at h
    exact ⟨j, by omega, rfl, h⟩
  · cases h
def zMr (l : Launch) (E : zE) (y : MethodName) (ws : List Cond) (rm : Room) (args : List Value) (wc : va_W) (x : Nat) : Prop := ∀ sz, Met l y ws rm (va_Pc args (zPre E wc sz)) (va_Qr (fun (_ : Unit) => True) (fun _ ra t => ra = x ∧ zPost E (va_A wc sz) wc t) (va_A wc sz)) 0 0 (va_A wc sz)
section ZH
variable {p : Program} {l : Launch} {e : Env} {R : Room} {s : State} {m : MethodId} {args : Array Value} {below : List Frame} {meth : Method} {c : Code} {H : Heap} {locs : List Loc} {cells slots : Nat} {Q : State → Prop}
variable {cc : ByteArray} {pc : Nat} {ls : Array Slot} {rest st0 : List Value} {E : zE} {ws : List Cond} {own : String} {nL : Nat} {ret : Option FieldType} {y0 : MethodName} {A : Nat → Prop} {w wc wr : va_W}
theorem z_callr (X : zX E ws own cc nL ret y0 p s m args meth c A) (hW : zW E A s w H locs) (hp : w.Perm (wc ++ wr)) {x : Nat} {a : Array Value}
    (run : va_Run p l e R s m args below meth c H locs cells slots 0 0 (F0 m pc ls st0) rest (va_Qr (fun (_ : Unit) => True) (fun _ ra t => ra = x ∧ zPost E (va_A wc H.size) wc t) (va_A wc H.size) a) (va_A wc H.size))
    (kk : ∀ (H1 : Heap) (locs1 : List Loc), zW E A s w H1 locs1 → W p l e R s m args below meth c H1 locs1 cells slots Q (F0 m (pc + 3) ls (.ref x :: rest))) : W p l e R s m args below meth c H locs cells slots Q (F0 m pc ls st0) := by
  refine va_callr run hW.2.2 (fun q _ h => z_hB X hW hp q h) (z_hB X hW hp) (fun _ ra t H1 locs1 ht hvm hw hB hz1 hk1 hS => ?_)
  obtain ⟨rfl, hP1, hD1⟩ := hB
  rw [ht] at hP1
  obtain ⟨hP, hD⟩ := z_join (zP_perm hp hW.1) (zD_perm hp hW.2.1) hk1 (z_hB X hW hp) hP1 hD1
  exact kk H1 locs1 ⟨zP_perm hp.symm hP, zD_perm hp.symm hD, hS⟩
end ZH

abbrev rm_X1_kept : Room := { frames := 0, cells := 0, slots := 0, locals := 0 }
theorem hy_X1_kept : zY yX1_kept wsX1_kept cX1_kept 1 (some .int) 0 := ⟨⟨_, rfl⟩, by decide, by decide, by decide +kernel⟩
def d_X1_kept (v : zHI) : Option (Int32) :=
some (v 7 0 1)
set_option maxHeartbeats 4000000 in
set_option maxRecDepth 100000 in
theorem c_X1_kept (l : Launch) (E : zE) (a : Nat → Nat) (v : zHI) (r : Int32) (h : d_X1_kept v = some r) : zMi l E yX1_kept wsX1_kept rm_X1_kept [.ref (a 0)] (hiW E a v) r (hiW E a v) := by
  intro sz
  refine z_entry (Qc := fun A => zQi E A r (hiW E a v)) (by decide) rfl (Nat.le_of_ble_eq_true rfl) ?_
  intro p e s m below meth c A X hW ls hl
  have X : zX E wsX1_kept RX1 cX1_kept 1 (some .int) yX1_kept p s m ([.ref (a 0)] : List Value).toArray meth c A := X
  have hl : lv_has ls 1 [(0, .ref (a 0))] := hl
  have hr : d_X1_kept v = some r := h
  clear h
  have q_0 : Cond.fieldLink RX1 18 "ApplauseTallies$History" "kept" "I" ∈ wsX1_kept := List.mem_of_getElem? (i := 1) rfl
  have hn_X1 : ∀ x ∈ wsX10, x ∈ wsX1_kept := zz_in [2, 3, 4] (by decide +kernel)
  unfold d_X1_kept at hr
  refine lv_aload_n X.1 X.2.1 dX1_kept_0 rfl (lv_at hl 0 rfl) ?_
  refine z_get X hW 0 1 2 (C := RX1) (T := TX1) (N := 3) rfl rfl hn_X1 (by decide) q_0 rfl dX1_kept_1 ?_
  cases hr
  exact z_iret X hW rfl dX1_kept_4
abbrev rm_X1_keepUnlessError : Room := { frames := 1, cells := 0, slots := 0, locals := 21 }
theorem hy_X1_keepUnlessError : zY yX1_keepUnlessError wsX1_keepUnlessError cX1_keepUnlessError 2 (some .int) 1 := ⟨⟨_, rfl⟩, by decide, by decide, by decide +kernel⟩
def d_X1_keepUnlessError (v : zHI) (p1 : Int32) : Option (Int32 × zHI) :=
(if p1 < 0 then
some (p1, v)
else
zlet ((v 7 0 0) + 1) fun t10 =>
zrm t10 7 fun t13 =>
zlet (zsi v 0 t13) fun v14 =>
zlet ((v14 7 0 1) + 1) fun t23 =>
zlet (if 6 < t23 then 6 else t23) fun t26 =>
zlet (zsi v14 1 t26) fun v29 =>
some (p1, v29))
set_option maxHeartbeats 4000000 in
set_option maxRecDepth 100000 in
theorem c_X1_keepUnlessError (l : Launch) (E : zE) (a : Nat → Nat) (v : zHI) (p1 : Int32) (r : Int32 × zHI) (h : d_X1_keepUnlessError v p1 = some r) : zMi l E yX1_keepUnlessError wsX1_keepUnlessError rm_X1_keepUnlessError [.ref (a 0), .int p1] (hiW E a v) r.1 (hiW E a r.2) := by
  intro sz
  refine z_entry (Qc := fun A => zQi E A r.1 (hiW E a r.2)) (by decide) rfl (Nat.le_of_ble_eq_true rfl) ?_
  intro p e s m below meth c A X hW ls hl
  have X : zX E wsX1_keepUnlessError RX1 cX1_keepUnlessError 2 (some .int) yX1_keepUnlessError p s m ([.ref (a 0), .int p1] : List Value).toArray meth c A := X
  have hl : lv_has ls 2 [(0, .ref (a 0)), (1, .int p1)] := hl
  have hr : d_X1_keepUnlessError v p1 = some r := h
  clear h
  have q_0 : Cond.fieldLink RX1 22 "ApplauseTallies$History" "next" "I" ∈ wsX1_keepUnlessError := List.mem_of_getElem? (i := 1) rfl
  have hn_X1 : ∀ x ∈ wsX10, x ∈ wsX1_keepUnlessError := zz_in [7, 8, 9] (by decide +kernel)
  have q_2 : Cond.fieldLink RX1 18 "ApplauseTallies$History" "kept" "I" ∈ wsX1_keepUnlessError := List.mem_of_getElem? (i := 2) rfl
  have q_3 : Cond.methodLink RX1 33 Lib.Math.min.name ∈ wsX1_keepUnlessError := List.mem_of_getElem? (i := 3) rfl
  have q_4 : Cond.static Lib.Math.min.name ∈ wsX1_keepUnlessError := List.mem_of_getElem? (i := 4) rfl
  have q_5 : Cond.initialized "java/lang/Math" ∈ wsX1_keepUnlessError := List.mem_of_getElem? (i := 5) rfl
  have q_6 : Cond.code Lib.Math.min.name Lib.Math.min.code 2 (some .int) ∈ wsX1_keepUnlessError := List.mem_of_getElem? (i := 6) rfl
  unfold d_X1_keepUnlessError at hr
  refine lv_iload_n X.1 X.2.1 dX1_keepUnlessError_0 rfl (lv_at hl 1 rfl) ?_
  refine z_iflt X 32 hr dX1_keepUnlessError_1 (by decide) (fun hr => ?_) (fun hr => ?_)
  · refine lv_iload_n X.1 X.2.1 dX1_keepUnlessError_32 rfl (lv_at hl 1 rfl) ?_
    cases hr
    exact z_iret X hW rfl dX1_keepUnlessError_33
  · refine lv_aload_n X.1 X.2.1 dX1_keepUnlessError_4 rfl (lv_at hl 0 rfl) ?_
    refine lv_aload_n X.1 X.2.1 dX1_keepUnlessError_5 rfl (lv_at hl 0 rfl) ?_
    refine z_get X hW 0 1 1 (C := RX1) (T := TX1) (N := 3) rfl rfl hn_X1 (by decide) q_0 rfl dX1_keepUnlessError_6 ?_
    refine lv_iconst (v := 1) X.1 X.2.1 dX1_keepUnlessError_9 (by decide) ?_
    refine z_iadd X hr dX1_keepUnlessError_10 (fun t10 hr => ?_)
    refine lv_bipush (v := 7) X.1 X.2.1 dX1_keepUnlessError_11 (by decide) ?_
    refine z_irem X hr dX1_keepUnlessError_13 (fun t13 hr => ?_)
    refine z_put X hW hr (fun v14 => (hiW E a v14)) tyX1 tyX1_ok nmX1 0 1 1 (C := RX1) (T := TX1) (N := 3) rfl rfl hn_X1 (by decide) q_0 rfl rfl rfl (Nat.le_of_ble_eq_true rfl) (st_hi_0 E a v t13) dX1_keepUnlessError_14 (fun v14 H locs hr hW => ?_)
    refine lv_aload_n X.1 X.2.1 dX1_keepUnlessError_17 rfl (lv_at hl 0 rfl) ?_
    refine lv_aload_n X.1 X.2.1 dX1_keepUnlessError_18 rfl (lv_at hl 0 rfl) ?_
    refine z_get X hW 0 1 2 (C := RX1) (T := TX1) (N := 3) rfl rfl hn_X1 (by decide) q_2 rfl dX1_keepUnlessError_19 ?_
    refine lv_iconst (v := 1) X.1 X.2.1 dX1_keepUnlessError_22 (by decide) ?_
    refine z_iadd X hr dX1_keepUnlessError_23 (fun t23 hr => ?_)
    refine lv_bipush (v := 6) X.1 X.2.1 dX1_keepUnlessError_24 (by decide) ?_
    refine z_min X hl rfl hr q_3 q_4 q_5 q_6 (by decide) (Nat.le_of_ble_eq_true rfl) (Nat.zero_le _) (Nat.zero_le _) dX1_keepUnlessError_26 (fun t26 hr => ?_)
    refine z_put X hW hr (fun v29 => (hiW E a v29)) tyX1 tyX1_ok nmX1 0 1 2 (C := RX1) (T := TX1) (N := 3) rfl rfl hn_X1 (by decide) q_2 rfl rfl rfl (Nat.le_of_ble_eq_true rfl) (st_hi_1 E a v14 t26) dX1_keepUnlessError_29 (fun v29 H locs hr hW => ?_)
    refine lv_iload_n X.1 X.2.1 dX1_keepUnlessError_32 rfl (lv_at hl 1 rfl) ?_
    cases hr
    exact z_iret X hW rfl dX1_keepUnlessError_33
abbrev rm_X1_stateAt : Room := { frames := 0, cells := 0, slots := 0, locals := 0 }
theorem hy_X1_stateAt : zY yX1_stateAt wsX1_stateAt cX1_stateAt 2 (some (.object "ApplauseTallies$House")) 1 := ⟨⟨_, rfl⟩, by decide, by decide, by decide +kernel⟩
set_option maxHeartbeats 4000000 in
set_option maxRecDepth 100000 in
theorem c_X1_stateAt (l : Launch) (E : zE) (a : Nat → Nat) (u : zHI) (k : Nat) (hk : k < 7) : zMr l E yX1_stateAt wsX1_stateAt rm_X1_stateAt [.ref (a 0), .int (nI k)] (hiW E a u) (a (2 + 29 * k)) := by
  intro sz
  refine z_entry (Qc := fun A => va_Qr (fun (_ : Unit) => True) (fun _ ra t => ra = a (2 + 29 * k) ∧ zPost E A (hiW E a u) t) A) (by decide) rfl (Nat.le_of_ble_eq_true rfl) ?_
  intro p e s m below meth c A X hW ls hl
  have X : zX E wsX1_stateAt RX1 cX1_stateAt 2 (some (.object "ApplauseTallies$House")) yX1_stateAt p s m ([.ref (a 0), .int (nI k)] : List Value).toArray meth c A := X
  have hl : lv_has ls 2 [(0, .ref (a 0)), (1, .int (nI k))] := hl
  have q_0 : Cond.fieldLink RX1 13 "ApplauseTallies$History" "states" "[LApplauseTallies$House;" ∈ wsX1_stateAt := List.mem_of_getElem? (i := 1) rfl
  have hn_X1 : ∀ x ∈ wsX10, x ∈ wsX1_stateAt := zz_in [2, 3, 4] (by decide +kernel)
  refine lv_iload_n X.1 X.2.1 dX1_stateAt_0 rfl (lv_at hl 1 rfl) ?_
  refine lv_if_lt (tgt := 22) X.1 X.2.1 dX1_stateAt_1 (by decide) (fun hc => absurd hc (nI_pos (by omega))) (fun _ => ?_)
  refine lv_iload_n X.1 X.2.1 dX1_stateAt_4 rfl (lv_at hl 1 rfl) ?_
  refine lv_aload_n X.1 X.2.1 dX1_stateAt_5 rfl (lv_at hl 0 rfl) ?_
  refine z_get X hW 0 1 0 (C := RX1) (T := TX1) (N := 3) rfl rfl hn_X1 (by decide) q_0 rfl dX1_stateAt_6 ?_
  refine va_alen (v := nI 7) X.1 X.2.1 X.2.2.2.2.2.1.1 hW.1 1 1 rfl rfl rfl dX1_stateAt_9 ?_
  refine lv_icmp_ge (tgt := 22) X.1 X.2.1 dX1_stateAt_10 (by decide) (fun hc => absurd hc (nI_ge hk (by omega))) (fun _ => ?_)
  refine lv_aload_n X.1 X.2.1 dX1_stateAt_13 rfl (lv_at hl 0 rfl) ?_
  refine z_get X hW 0 1 0 (C := RX1) (T := TX1) (N := 3) rfl rfl hn_X1 (by decide) q_0 rfl dX1_stateAt_14 ?_
  refine lv_iload_n X.1 X.2.1 dX1_stateAt_17 rfl (lv_at hl 1 rfl) ?_
  refine va_aldq (C := RX2) X.1 X.2.1 X.2.2.2.2.2.1.1 hW.1 1 1 rfl rfl (vp_in_nI hk (by omega)) dX1_stateAt_18 ?_
  rw [nI_clamp (by omega)]
  refine lv_goto (tgt := 23) X.1 X.2.1 dX1_stateAt_19 (by decide) ?_
  have hlocks : meth.locks = false := X.2.2.2.2.2.2.2.2.1
  exact W.aret X.1 X.2.1 X.2.2.2.2.2.2.2.1 (Or.inl ⟨_, rfl⟩) (Or.inr ⟨_, rfl⟩) (fun t ht hWm => ⟨⟨(), a (2 + 29 * k), rfl, trivial, rfl, by rw [ht]; exact hW.1, hW.2.1⟩, hW.2.2.F ht⟩) hW.2.2.2.2 dX1_stateAt_23
abbrev rm_X1_setAside : Room := { frames := 4, cells := 0, slots := 0, locals := 101 }
theorem hy_X1_setAside : zY yX1_setAside wsX1_setAside cX1_setAside 3 none 1 := ⟨⟨_, rfl⟩, by decide, by decide, by decide +kernel⟩
def d_X1_setAside (v : zHV) (u : zHI) : Option zHI := zk7 (u 7 0 0) fun k => zcl (d_X2_copyFrom (u k) v) fun h => some (zui u k h)
set_option maxHeartbeats 4000000 in
set_option maxRecDepth 100000 in
theorem c_X1_setAside (l : Launch) (E : zE) (a b : Nat → Nat) (v : zHV) (u : zHI) (r : zHI) (h : d_X1_setAside v u = some r) : zMv l E yX1_setAside wsX1_setAside rm_X1_setAside [.ref (b 0), .ref (a 0)] ((hsW E a v) ++ (hiW E b u)) ((hsW E a v) ++ (hiW E b r)) := by
  intro sz
  refine z_entry (Qc := fun A => zQv E A ((hsW E a v) ++ (hiW E b r))) (by decide) rfl (Nat.le_of_ble_eq_true rfl) ?_
  intro p e s m below meth c A X hW ls hl
  have X : zX E wsX1_setAside RX1 cX1_setAside 3 none yX1_setAside p s m ([.ref (b 0), .ref (a 0)] : List Value).toArray meth c A := X
  have hl : lv_has ls 3 [(0, .ref (b 0)), (1, .ref (a 0))] := hl
  have q_1 : Cond.fieldLink RX1 22 "ApplauseTallies$History" "next" "I" ∈ wsX1_setAside := List.mem_of_getElem? (i := 1) rfl
  have hn_X1 : ∀ x ∈ wsX10, x ∈ wsX1_setAside := zz_in [64, 65, 66] (by decide +kernel)
  unfold d_X1_setAside at h
  obtain ⟨k, hk, ek, h⟩ := zk7_some h
  obtain ⟨h2, hd, h⟩ := zcl_some h
  cases h
  refine lv_aload_n X.1 X.2.1 dX1_setAside_0 rfl (lv_at hl 0 rfl) ?_
  refine lv_aload_n X.1 X.2.1 dX1_setAside_1 rfl (lv_at hl 0 rfl) ?_
  refine z_get X hW 29 1 1 (C := RX1) (T := TX1) (N := 3) (v := .int (u 7 0 0)) rfl rfl hn_X1 (by decide) q_1 rfl dX1_setAside_2 ?_
  rw [ek]
  have hp_5 := z_spr (hsW E a v) (z_all (hiW E b u))
  refine z_callr X hW hp_5 (z_runV (As := [.int (nI k)]) (rest := []) X hW hp_5 (c_X1_stateAt l E b u k hk _) hy_X1_stateAt 29 1 (C := RX1) (T := TX1) (N := 3) rfl rfl rfl gX1_setAside_X1_stateAt rfl rfl ⟨by decide, by decide⟩ rfl hl rfl rfl (Nat.le_of_ble_eq_true rfl) dX1_setAside_5 ⟨Nat.zero_le _, Nat.zero_le _⟩) (fun H locs hW => ?_)
  refine lv_astore_n (lv' := [(2, .ref (b (2 + 29 * k))), (0, .ref (b 0)), (1, .ref (a 0))]) X.1 X.2.1 dX1_setAside_8 rfl hl (by decide) rfl (fun ls hl => ?_)
  refine lv_aload_n X.1 X.2.1 dX1_setAside_9 rfl (lv_at hl 0 rfl) ?_
  refine lv_ifnull X.1 X.2.1 dX1_setAside_10 ?_
  refine lv_aload_n X.1 X.2.1 dX1_setAside_13 rfl (lv_at hl 0 rfl) ?_
  refine lv_aload_n X.1 X.2.1 dX1_setAside_14 rfl (lv_at hl 2 rfl) ?_
  obtain ⟨rr, hr1, hr2⟩ := hi_pick E b u hk
  have hp_15 : ((hsW E a v) ++ (hiW E b u)).Perm (((hsW E (zh b (2 + 29 * k)) (u k)) ++ (hsW E a v)) ++ rr) := by
    refine (List.Perm.append_left _ hr1).trans ?_
    rw [← List.append_assoc]
    exact List.Perm.append_right rr List.perm_append_comm
  have hj_15 : (((hsW E (zh b (2 + 29 * k)) h2) ++ (hsW E a v)) ++ rr).Perm ((hsW E a v) ++ (hiW E b (zui u k h2))) := by
    refine List.Perm.trans ?_ (List.Perm.append_left _ (hr2 h2))
    rw [← List.append_assoc]
    exact List.Perm.append_right rr List.perm_append_comm
  obtain ⟨q0, hq0⟩ := z_mem (q := (b (2 + 29 * k), .inr (2, _))) hp_15 (List.mem_append_left _ List.mem_cons_self)
  refine z_callv X hW (d := some h2) (fun _ => ()) (K := fun _ => some ()) (r := ()) rfl hp_15 (fun z => (hsW E (zh b (2 + 29 * k)) h2) ++ (hsW E a v)) (fun _ => (hsW E a v) ++ (hiW E b (zui u k h2))) (fun _ => hj_15) (fun z hz => z_runV (b := b (2 + 29 * k)) (As := [.ref (a 0)]) (rest := []) X hW hp_15 (c_X2_copyFrom l E (zh b (2 + 29 * k)) a (u k) v h2 hd _) hy_X2_copyFrom q0 2 (C := RX2) (T := TX2) (N := 11) rfl hq0 rfl gX1_setAside_X2_copyFrom rfl rfl ⟨by decide, by decide⟩ rfl hl rfl rfl (Nat.le_of_ble_eq_true rfl) dX1_setAside_15 ⟨Nat.zero_le _, Nat.zero_le _⟩) (fun _ H locs _ hW => ?_)
  exact z_vret X hW dX1_setAside_18
abbrev rm_X1_takeBack : Room := { frames := 4, cells := 0, slots := 0, locals := 101 }
theorem hy_X1_takeBack : zY yX1_takeBack wsX1_takeBack cX1_takeBack 4 (some .int) 1 := ⟨⟨_, rfl⟩, by decide, by decide, by decide +kernel⟩
def d_X1_takeBack (v : zHV) (u : zHI) : Option (Int32 × zHV × zHI) :=
zlet (u 7 0 0 + 7) fun t6 =>
zlet (t6 - 1) fun t8 =>
zrm t8 7 fun t11 =>
zk7 t11 fun k =>
(if u 7 0 1 ≤ 0 then some (-5, v, u) else
zup (d_X2_copyFrom v (u k)) (fun z => z) fun h =>
zlet (zsi u 0 t11) fun u1 =>
zlet (u1 7 0 1 - 1) fun t49 =>
zlet (zsi u1 1 t49) fun u2 =>
some (u2 7 0 1, h, u2))
set_option maxHeartbeats 4000000 in
set_option maxRecDepth 100000 in
theorem c_X1_takeBack (l : Launch) (E : zE) (a b : Nat → Nat) (v : zHV) (u : zHI) (r : Int32 × zHV × zHI) (h : d_X1_takeBack v u = some r) : zMi l E yX1_takeBack wsX1_takeBack rm_X1_takeBack [.ref (b 0), .ref (a 0)] ((hsW E a v) ++ (hiW E b u)) r.1 ((hsW E a r.2.1) ++ (hiW E b r.2.2)) := by
  intro sz
  refine z_entry (Qc := fun A => zQi E A r.1 ((hsW E a r.2.1) ++ (hiW E b r.2.2))) (by decide) rfl (Nat.le_of_ble_eq_true rfl) ?_
  intro p e s m below meth c A X hW ls hl
  have X : zX E wsX1_takeBack RX1 cX1_takeBack 4 (some .int) yX1_takeBack p s m ([.ref (b 0), .ref (a 0)] : List Value).toArray meth c A := X
  have hl : lv_has ls 4 [(0, .ref (b 0)), (1, .ref (a 0))] := hl
  have hr := h
  clear h
  have q_1 : Cond.fieldLink RX1 22 "ApplauseTallies$History" "next" "I" ∈ wsX1_takeBack := List.mem_of_getElem? (i := 1) rfl
  have q_2 : Cond.fieldLink RX1 18 "ApplauseTallies$History" "kept" "I" ∈ wsX1_takeBack := List.mem_of_getElem? (i := 2) rfl
  have hn_X1 : ∀ x ∈ wsX10, x ∈ wsX1_takeBack := zz_in [65, 66, 67] (by decide +kernel)
  unfold d_X1_takeBack at hr
  refine lv_aload_n X.1 X.2.1 dX1_takeBack_0 rfl (lv_at hl 0 rfl) ?_
  refine z_get X hW 29 1 1 (C := RX1) (T := TX1) (N := 3) (v := .int (u 7 0 0)) rfl rfl hn_X1 (by decide) q_1 rfl dX1_takeBack_1 ?_
  refine lv_bipush (v := 7) X.1 X.2.1 dX1_takeBack_4 (by decide) ?_
  refine z_iadd X hr dX1_takeBack_6 (fun t6 hr => ?_)
  refine lv_iconst (v := 1) X.1 X.2.1 dX1_takeBack_7 (by decide) ?_
  refine z_isub X hr dX1_takeBack_8 (fun t8 hr => ?_)
  refine lv_bipush (v := 7) X.1 X.2.1 dX1_takeBack_9 (by decide) ?_
  refine z_irem X hr dX1_takeBack_11 (fun t11 hr => ?_)
  obtain ⟨k, hk, ek, hr⟩ := zk7_some hr
  refine lv_istore_n (lv' := [(2, .int t11), (0, .ref (b 0)), (1, .ref (a 0))]) X.1 X.2.1 dX1_takeBack_12 rfl hl (by decide) rfl (fun ls hl => ?_)
  refine lv_aload_n X.1 X.2.1 dX1_takeBack_13 rfl (lv_at hl 1 rfl) ?_
  refine lv_iload_n X.1 X.2.1 dX1_takeBack_14 rfl (lv_at hl 0 rfl) ?_
  subst ek
  have hp_5 := z_spr (hsW E a v) (z_all (hiW E b u))
  refine z_callr X hW hp_5 (z_runV (As := [.int (nI k)]) (rest := []) X hW hp_5 (c_X1_stateAt l E b u k hk _) hy_X1_stateAt 29 1 (C := RX1) (T := TX1) (N := 3) rfl rfl rfl gX1_takeBack_X1_stateAt rfl rfl ⟨by decide, by decide⟩ rfl hl rfl rfl (Nat.le_of_ble_eq_true rfl) dX1_takeBack_15 ⟨Nat.zero_le _, Nat.zero_le _⟩) (fun H locs hW => ?_)
  refine lv_astore_n (lv' := [(3, .ref (b (2 + 29 * k))), (2, .int (nI k)), (0, .ref (b 0)), (1, .ref (a 0))]) X.1 X.2.1 dX1_takeBack_18 rfl hl (by decide) rfl (fun ls hl => ?_)
  refine lv_aload_n X.1 X.2.1 dX1_takeBack_19 rfl (lv_at hl 2 rfl) ?_
  refine z_get X hW 29 1 2 (C := RX1) (T := TX1) (N := 3) (v := .int (u 7 0 1)) rfl rfl hn_X1 (by decide) q_2 rfl dX1_takeBack_20 ?_
  refine z_ifle X 30 hr dX1_takeBack_23 (by decide) (fun hr => ?_) (fun hr => ?_)
  · refine lv_bipush (v := (-5)) X.1 X.2.1 dX1_takeBack_30 (by decide) ?_
    cases hr
    exact z_iret X hW rfl dX1_takeBack_32
  · refine lv_aload_n X.1 X.2.1 dX1_takeBack_26 rfl (lv_at hl 0 rfl) ?_
    refine lv_ifnonnull (tgt := 33) X.1 X.2.1 dX1_takeBack_27 (by decide) ?_
    refine lv_aload_n X.1 X.2.1 dX1_takeBack_33 rfl (lv_at hl 3 rfl) ?_
    refine lv_aload_n X.1 X.2.1 dX1_takeBack_34 rfl (lv_at hl 0 rfl) ?_
    obtain ⟨rr, hr1, hr2⟩ := hi_pick E b u hk
    have hp_35 : ((hsW E a v) ++ (hiW E b u)).Perm (((hsW E a v) ++ (hsW E (zh b (2 + 29 * k)) (u k))) ++ rr) := by
      rw [List.append_assoc]
      exact List.Perm.append_left _ hr1
    have hj_35 : ∀ z : zHV, (((hsW E a z) ++ (hsW E (zh b (2 + 29 * k)) (u k))) ++ rr).Perm ((hsW E a z) ++ (hiW E b u)) := fun z => by
      rw [List.append_assoc]
      exact List.Perm.append_left _ hr1.symm
    refine z_callv X hW (fun z => z) hr hp_35 (fun z => (hsW E a z) ++ (hsW E (zh b (2 + 29 * k)) (u k))) (fun z => (hsW E a z) ++ (hiW E b u)) hj_35 (fun z hz => z_runV (b := a 0) (As := [.ref (b (2 + 29 * k))]) (rest := []) X hW hp_35 (c_X2_copyFrom l E a (zh b (2 + 29 * k)) v (u k) z hz _) hy_X2_copyFrom 0 2 (C := RX2) (T := TX2) (N := 11) rfl rfl rfl gX1_takeBack_X2_copyFrom rfl rfl ⟨by decide, by decide⟩ rfl hl rfl rfl (Nat.le_of_ble_eq_true rfl) dX1_takeBack_35 ⟨Nat.zero_le _, Nat.zero_le _⟩) (fun h2 H locs hr hW => ?_)
    refine lv_aload_n X.1 X.2.1 dX1_takeBack_38 rfl (lv_at hl 2 rfl) ?_
    refine lv_iload_n X.1 X.2.1 dX1_takeBack_39 rfl (lv_at hl 1 rfl) ?_
    refine z_put X hW hr (fun z => (hsW E a h2) ++ (hiW E b z)) tyX1 tyX1_ok nmX1 29 1 1 (C := RX1) (T := TX1) (N := 3) rfl rfl hn_X1 (by decide) q_1 rfl rfl rfl (Nat.le_of_ble_eq_true rfl) (congrArg (fun z => (hsW E a h2) ++ z) (st_hi_0 E b u (nI k))) dX1_takeBack_40 (fun u1 H locs hr hW => ?_)
    refine lv_aload_n X.1 X.2.1 dX1_takeBack_43 rfl (lv_at hl 2 rfl) ?_
    refine lv_dup X.1 X.2.1 dX1_takeBack_44 rfl ?_
    refine z_get X hW 29 1 2 (C := RX1) (T := TX1) (N := 3) (v := .int (u1 7 0 1)) rfl rfl hn_X1 (by decide) q_2 rfl dX1_takeBack_45 ?_
    refine lv_iconst (v := 1) X.1 X.2.1 dX1_takeBack_48 (by decide) ?_
    refine z_isub X hr dX1_takeBack_49 (fun t49 hr => ?_)
    refine z_put X hW hr (fun z => (hsW E a h2) ++ (hiW E b z)) tyX1 tyX1_ok nmX1 29 1 2 (C := RX1) (T := TX1) (N := 3) rfl rfl hn_X1 (by decide) q_2 rfl rfl rfl (Nat.le_of_ble_eq_true rfl) (congrArg (fun z => (hsW E a h2) ++ z) (st_hi_1 E b u1 t49)) dX1_takeBack_50 (fun u2 H locs hr hW => ?_)
    refine lv_aload_n X.1 X.2.1 dX1_takeBack_53 rfl (lv_at hl 2 rfl) ?_
    refine z_get X hW 29 1 2 (C := RX1) (T := TX1) (N := 3) (v := .int (u2 7 0 1)) rfl rfl hn_X1 (by decide) q_2 rfl dX1_takeBack_54 ?_
    cases hr
    exact z_iret X hW rfl dX1_takeBack_57
