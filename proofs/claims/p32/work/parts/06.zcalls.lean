/-! ===== calls: a callee gets the cells wc, the caller keeps wr ===== -/
theorem z_split {w wc : va_W} (o n : Nat) (hc : (w.drop o).take n = wc) : w.Perm (wc ++ (w.take o ++ w.drop (o + n))) := by
  subst hc
  have h1 : w = w.take o ++ ((w.drop o).take n ++ w.drop (o + n)) := by
    rw [← List.drop_drop, List.take_append_drop, List.take_append_drop]
  have h2 : (w.take o ++ ((w.drop o).take n ++ w.drop (o + n))).Perm ((w.drop o).take n ++ (w.take o ++ w.drop (o + n))) := by
    rw [← List.append_assoc, ← List.append_assoc]
    exact List.Perm.append_right _ List.perm_append_comm
  exact (List.Perm.of_eq h1).trans h2
theorem z_unsplit {w w' w1 : va_W} (o n : Nat) (h1 : (w'.drop o).take n = w1) (hpre : w'.take o = w.take o) (hpost : w'.drop (o + n) = w.drop (o + n)) : (w1 ++ (w.take o ++ w.drop (o + n))).Perm w' := by
  rw [← hpre, ← hpost]
  exact (z_split o n h1).symm
theorem z_spl {w wc wr : va_W} (x : va_W) (h : w.Perm (wc ++ wr)) : (w ++ x).Perm (wc ++ (wr ++ x)) := by
  rw [← List.append_assoc]; exact h.append_right x
theorem z_spr {x wc wr : va_W} (w : va_W) (h : x.Perm (wc ++ wr)) : (w ++ x).Perm (wc ++ (w ++ wr)) :=
  ((h.append_left w).trans (by rw [← List.append_assoc, ← List.append_assoc]; exact List.Perm.append_right _ List.perm_append_comm))
theorem z_jnl {w w1 wr : va_W} (x : va_W) (h : (w1 ++ wr).Perm w) : (w1 ++ (wr ++ x)).Perm (w ++ x) := by
  rw [← List.append_assoc]; exact h.append_right x
theorem z_jnr {x w1 wr : va_W} (w : va_W) (h : (w1 ++ wr).Perm x) : (w1 ++ (w ++ wr)).Perm (w ++ x) := (z_spr w h.symm).symm
theorem z_sp2 {w1 w2 c1 r1 c2 r2 : va_W} (h1 : w1.Perm (c1 ++ r1)) (h2 : w2.Perm (c2 ++ r2)) : (w1 ++ w2).Perm ((c1 ++ c2) ++ (r1 ++ r2)) := by
  refine (h1.append h2).trans ?_
  rw [List.append_assoc, List.append_assoc]
  refine List.Perm.append_left c1 ?_
  rw [← List.append_assoc, ← List.append_assoc]
  exact List.Perm.append_right r2 List.perm_append_comm
theorem z_jn2 {w1 w2 c1 r1 c2 r2 : va_W} (h1 : (c1 ++ r1).Perm w1) (h2 : (c2 ++ r2).Perm w2) : ((c1 ++ c2) ++ (r1 ++ r2)).Perm (w1 ++ w2) := (z_sp2 h1.symm h2.symm).symm
theorem z_all (w : va_W) : w.Perm (w ++ []) := by rw [List.append_nil]
theorem z_lla (w : va_W) : (w ++ []).Perm w := by rw [List.append_nil]
section ZC
variable {p : Program} {l : Launch} {e : Env} {R : Room} {s : State} {m : MethodId} {args : Array Value} {below : List Frame} {meth : Method} {c : Code} {H : Heap} {locs : List Loc} {cells slots : Nat} {Q : State → Prop}
variable {cc : ByteArray} {pc : Nat} {ls : Array Slot} {rest : List Value} {E : zE} {ws : List Cond} {own : String} {nL : Nat} {ret : Option FieldType} {y0 : MethodName} {A : Nat → Prop} {w wc wr : va_W} {γ : Type} {r : γ}
theorem z_hB (X : zX E ws own cc nL ret y0 p s m args meth c A) (hW : zW E A s w H locs) (hp : w.Perm (wc ++ wr)) : ∀ q, va_A wc H.size q → A q := by
  intro q hq
  rcases hq with ⟨k, e, hk⟩ | hq
  · exact (zD_iff.mp (zD_perm hp hW.2.1)).2 (q, e) (List.mem_append_left _ (List.mem_of_getElem? hk))
  · exact X.2.2.2.2.2.2.1 q (Nat.le_trans hW.2.2.1 hq)
theorem z_pre (X : zX E ws own cc nL ret y0 p s m args meth c A) (hW : zW E A s w H locs) (hp : w.Perm (wc ++ wr)) (As : List Value) : PreS s H (va_Pc As (zPre E wc H.size)) As := by
  refine ⟨fun a U g mk q => ⟨q.1, q.2.1, q.2.2.1, zK_calling g mk a q.2.2.2.1, q.2.2.2.2⟩, fun U hU hWm => ⟨rfl, by rw [hU], by rw [hU]; exact zP_left (zP_perm hp hW.1), ?_, (zD_left (zD_perm hp hW.2.1)).weaken (fun _ _ _ _ => trivial)⟩⟩
  rw [hU]
  exact zK_down X.2.2.2.2.2.1 hWm hW.2.2 (z_hB X hW hp)
theorem z_recv (X : zX E ws own cc nL ret y0 p s m args meth c A) (hW : zW E A s w H locs) {C : String} {T : u_T} {N b : Nat} (q0 ci : Nat) {fs : List Value} (hc : vwCl[ci]? = some (C, T, N)) (he : w[q0]? = some (b, .inr (ci, fs))) : ∃ cellB : Cell, H[b]? = some cellB ∧ cellB.vm.isStatics = false ∧ s.vm.findClass C = some cellB.cls :=
  va_recv X.2.2.2.2.2.1.1 hW.1 hc he
variable {y : MethodName} {bytes : ByteArray} {maxL mc ms n index : Nat} {rety : Option FieldType} {wsy wsy' : List Cond} {rm : Room} {Qc : Array Value → State → Outcome → State → Prop} {b : Nat} {As st0 : List Value}
/-- the callee's own facts: what its words begin with, how many arguments -/
def zY (y : MethodName) (wsy : List Cond) (bytes : ByteArray) (maxL : Nat) (rety : Option FieldType) (n : Nat) : Prop :=
  (∃ ws', wsy = Cond.code y bytes maxL rety :: ws') ∧ y.cls ≠ "java/lang/invoke/MethodHandle" ∧ y.cls ≠ "java/lang/invoke/VarHandle" ∧ (parseMethodDescriptor y.desc).map (fun d => d.parameters.length) = some n
theorem z_runV (X : zX E ws own cc nL ret y0 p s m args meth c A) (hW : zW E A s w H locs) (hp : w.Perm (wc ++ wr)) (hM : Met l y wsy rm (va_Pc (.ref b :: As) (zPre E wc H.size)) Qc mc ms (va_A wc H.size)) (hY : zY y wsy bytes maxL rety n) {C : String} {T : u_T} {N : Nat} (q0 ci : Nat) {fs : List Value} (hc : vwCl[ci]? = some (C, T, N)) (he : w[q0]? = some (b, .inr (ci, fs))) (hC : y.cls = C) (hG : GoodIn ws (wsV own index C y wsy)) (hrc : rm.cells = mc) (hrs : rm.slots = ms) (hR : rm.frames + 1 ≤ R.frames ∧ 8 + (maxL + 11) + rm.locals ≤ R.locals)
    (hn : As.length = n) {nl : Nat} {lv : List (Nat × Value)} (hl : lv_has ls nl lv) (hnl : nl = nL) (hstack : st0 = As.reverse ++ .ref b :: rest) (hroom : (rest.map fun v => v.category).sum ≤ 8) (hdg : decode cc pc = .ok (.invokevirtual index, 3)) (hf : cells + mc ≤ R.cells ∧ slots + ms ≤ R.slots) :
    va_Run p l e R s m args below meth c H locs cells slots mc ms (F0 m pc ls st0) rest (Qc (Value.ref b :: As).toArray) (va_A wc H.size) := by
  obtain ⟨⟨ws', hws⟩, h1, h2, h3⟩ := hY
  obtain ⟨hb1, hb2⟩ := z_pre X hW hp (.ref b :: As)
  exact va_runV (As := As) (rest := rest) ⟨X.1, X.2.1, X.2.2.1, X.2.2.2.1, X.2.2.2.2.1⟩ hM (cwV n X.2.2.2.2.1 hG hws hrc hrs ⟨hC, h1, h2, h3⟩ hR) ⟨hb1, z_recv X hW q0 ci hc he, hb2⟩ rfl hn (hl.1.trans hnl) hstack (lv_room hroom) hdg hf
theorem z_runS (X : zX E ws own cc nL ret y0 p s m args meth c A) (hW : zW E A s w H locs) (hp : w.Perm (wc ++ wr)) (hM : Met l y wsy rm (va_Pc As (zPre E wc H.size)) Qc mc ms (va_A wc H.size)) (hY : zY y wsy bytes maxL rety n) (hG : GoodIn ws (va_wsS own index y wsy)) (hrc : rm.cells = mc) (hrs : rm.slots = ms) (hR : rm.frames + 1 ≤ R.frames ∧ 8 + (maxL + 11) + rm.locals ≤ R.locals)
    (hn : As.length = n) {nl : Nat} {lv : List (Nat × Value)} (hl : lv_has ls nl lv) (hnl : nl = nL) (hstack : st0 = As.reverse ++ rest) (hroom : (rest.map fun v => v.category).sum ≤ 8) (hdg : decode cc pc = .ok (.invokestatic index, 3)) (hf : cells + mc ≤ R.cells ∧ slots + ms ≤ R.slots) :
    va_Run p l e R s m args below meth c H locs cells slots mc ms (F0 m pc ls st0) rest (Qc As.toArray) (va_A wc H.size) := by
  obtain ⟨⟨ws', hws⟩, h1, h2, h3⟩ := hY
  exact va_runS (As := As) (rest := rest) ⟨X.1, X.2.1, X.2.2.1, X.2.2.2.1, X.2.2.2.2.1⟩ hM (va_cwS n X.2.2.2.2.1 hG hws hrc hrs ⟨h1, h2, h3⟩ hR) (z_pre X hW hp As) rfl hn (hl.1.trans hnl) hstack (lv_room hroom) hdg hf
theorem z_runSN (X : zX E ws own cc nL ret y0 p s m args meth c A) (hW : zW E A s w H locs) (hp : w.Perm (wc ++ wr)) (hM : Met l y wsy rm (va_Pc As (zPre E wc H.size)) Qc mc ms (va_A wc H.size)) (hY : zY y wsy bytes maxL rety n) (hini : Cond.initialized y.cls ∈ ws) (hst : Cond.static y ∈ ws) (hnest : Cond.methodLinkNest own index y RX7 ∈ zNest) (hG : GoodIn ws wsy) (hrc : rm.cells = mc) (hrs : rm.slots = ms) (hR : rm.frames + 1 ≤ R.frames ∧ 8 + (maxL + 11) + rm.locals ≤ R.locals)
    (hn : As.length = n) {nl : Nat} {lv : List (Nat × Value)} (hl : lv_has ls nl lv) (hnl : nl = nL) (hstack : st0 = As.reverse ++ rest) (hroom : (rest.map fun v => v.category).sum ≤ 8) (hdg : decode cc pc = .ok (.invokestatic index, 3)) (hf : cells + mc ≤ R.cells ∧ slots + ms ≤ R.slots) :
    va_Run p l e R s m args below meth c H locs cells slots mc ms (F0 m pc ls st0) rest (Qc As.toArray) (va_A wc H.size) := by
  obtain ⟨⟨ws', hws⟩, h1, h2, h3⟩ := hY
  exact va_runSN (As := As) (rest := rest) ⟨X.1, X.2.1, X.2.2.1, X.2.2.2.1, X.2.2.2.2.1⟩ hM ⟨va_cnB n X.2.2.2.2.1 hG hws hrc hrs (X.2.2.2.2.2.1.2.1 _ hnest) (X.2.2.2.2.1 _ hini) ⟨h1, h2, h3⟩ hR, X.2.2.2.2.1 _ hst, trivial⟩ (z_pre X hW hp As) rfl hn (hl.1.trans hnl) hstack (lv_room hroom) hdg hf
theorem z_runI (X : zX E ws own cc nL ret y0 p s m args meth c A) (hW : zW E A s w H locs) (hp : w.Perm (wc ++ wr)) (hM : Met l y wsy rm (va_Pc (.ref b :: As) (zPre E wc H.size)) Qc mc ms (va_A wc H.size)) (hY : zY y wsy bytes maxL none n) (hini : Cond.initialized y.cls ∈ ws) (hml : Cond.methodLink own index y ∈ ws) (hinst : Cond.instanceMethod y ∈ ws) (hyn : y.name = "<init>") (hG : GoodIn ws wsy) (hrc : rm.cells = mc) (hrs : rm.slots = ms) (hR : rm.frames + 1 ≤ R.frames ∧ 8 + (maxL + 11) + rm.locals ≤ R.locals)
    (hn : As.length = n) {nl : Nat} {lv : List (Nat × Value)} (hl : lv_has ls nl lv) (hnl : nl = nL) (hstack : st0 = As.reverse ++ .ref b :: rest) (hroom : (rest.map fun v => v.category).sum ≤ 8) (hdg : decode cc pc = .ok (.invokespecial index, 3)) (hf : cells + mc ≤ R.cells ∧ slots + ms ≤ R.slots) :
    va_Run p l e R s m args below meth c H locs cells slots mc ms (F0 m pc ls st0) rest (Qc (Value.ref b :: As).toArray) (va_A wc H.size) := by
  obtain ⟨⟨ws', hws⟩, h1, h2, h3⟩ := hY
  exact va_runI (As := As) (rest := rest) ⟨X.1, X.2.1, X.2.2.1, X.2.2.2.1, X.2.2.2.2.1⟩ hM (cwI n X.2.2.2.2.1 hG hws hrc hrs (X.2.2.2.2.1 _ hini) (X.2.2.2.2.1 _ hml) (X.2.2.2.2.1 _ hinst) hyn ⟨h1, h2, h3⟩ hR) (z_pre X hW hp (.ref b :: As)) rfl hn (hl.1.trans hnl) hstack (lv_room hroom) hdg hf
theorem z_runIN (X : zX E ws own cc nL ret y0 p s m args meth c A) (hW : zW E A s w H locs) (hp : w.Perm (wc ++ wr)) (hM : Met l y wsy rm (va_Pc (.ref b :: As) (zPre E wc H.size)) Qc mc ms (va_A wc H.size)) (hY : zY y wsy bytes maxL none n) (hini : Cond.initialized y.cls ∈ ws) (hnest : Cond.methodLinkNest own index y RX7 ∈ zNest) (hinst : Cond.instanceMethod y ∈ ws) (hyn : y.name = "<init>") (hG : GoodIn ws wsy) (hrc : rm.cells = mc) (hrs : rm.slots = ms) (hR : rm.frames + 1 ≤ R.frames ∧ 8 + (maxL + 11) + rm.locals ≤ R.locals)
    (hn : As.length = n) {nl : Nat} {lv : List (Nat × Value)} (hl : lv_has ls nl lv) (hnl : nl = nL) (hstack : st0 = As.reverse ++ .ref b :: rest) (hroom : (rest.map fun v => v.category).sum ≤ 8) (hdg : decode cc pc = .ok (.invokespecial index, 3)) (hf : cells + mc ≤ R.cells ∧ slots + ms ≤ R.slots) :
    va_Run p l e R s m args below meth c H locs cells slots mc ms (F0 m pc ls st0) rest (Qc (Value.ref b :: As).toArray) (va_A wc H.size) := by
  obtain ⟨⟨ws', hws⟩, h1, h2, h3⟩ := hY
  exact va_runIN (As := As) (rest := rest) ⟨X.1, X.2.1, X.2.2.1, X.2.2.2.1, X.2.2.2.2.1⟩ hM ⟨va_cnB n X.2.2.2.2.1 hG hws hrc hrs (X.2.2.2.2.2.1.2.1 _ hnest) (X.2.2.2.2.1 _ hini) ⟨h1, h2, h3⟩ hR, hyn, X.2.2.2.2.1 _ hinst⟩ (z_pre X hW hp (.ref b :: As)) rfl hn (hl.1.trans hnl) hstack (lv_room hroom) hdg hf
/-- behind a call that answers an int and leaves the world changed -/
theorem z_calli (X : zX E ws own cc nL ret y0 p s m args meth c A) (hW : zW E A s w H locs) {U V : Type} {d : Option (Int32 × U)} (g : U → V) {K : Int32 → V → Option γ} (hr : zup2 d g K = some r) (hp : w.Perm (wc ++ wr)) (wf : U → va_W) (w' : V → va_W) (hj : ∀ u, (wf u ++ wr).Perm (w' (g u))) {a : Array Value}
    (run : ∀ x u, d = some (x, u) → va_Run p l e R s m args below meth c H locs cells slots 0 0 (F0 m pc ls st0) rest (zQi E (va_A wc H.size) x (wf u) a) (va_A wc H.size))
    (kk : ∀ (x : Int32) (u : V) (H1 : Heap) (locs1 : List Loc), K x u = some r → zW E A s (w' u) H1 locs1 → W p l e R s m args below meth c H1 locs1 cells slots Q (F0 m (pc + 3) ls (.int x :: rest))) : W p l e R s m args below meth c H locs cells slots Q (F0 m pc ls st0) := by
  obtain ⟨x, u, hd, hr⟩ := zup2_some hr
  refine va_calli (run x u hd) hW.2.2 (fun q _ h => z_hB X hW hp q h) (z_hB X hW hp) (fun r1 _ t H1 locs1 ht hvm hw hB hz1 hk1 hS => ?_)
  obtain ⟨hP1, hD1⟩ := hB
  rw [ht] at hP1
  obtain ⟨hP, hD⟩ := z_join (zP_perm hp hW.1) (zD_perm hp hW.2.1) hk1 (z_hB X hW hp) hP1 hD1
  cases hw
  exact kk x (g u) H1 locs1 hr ⟨zP_perm (hj u) hP, zD_perm (hj u) hD, hS⟩
/-- behind a call that answers an int and writes nothing -/
theorem z_callp (X : zX E ws own cc nL ret y0 p s m args meth c A) (hW : zW E A s w H locs) {d : Option Int32} {K : Int32 → Option γ} (hr : zcl d K = some r) (hp : w.Perm (wc ++ wr)) {a : Array Value}
    (run : ∀ x, d = some x → va_Run p l e R s m args below meth c H locs cells slots 0 0 (F0 m pc ls st0) rest (zQi E (va_A wc H.size) x wc a) (va_A wc H.size))
    (kk : ∀ (x : Int32) (H1 : Heap) (locs1 : List Loc), K x = some r → zW E A s w H1 locs1 → W p l e R s m args below meth c H1 locs1 cells slots Q (F0 m (pc + 3) ls (.int x :: rest))) : W p l e R s m args below meth c H locs cells slots Q (F0 m pc ls st0) := by
  obtain ⟨x, hd, hr⟩ := zcl_some hr
  refine va_calli (run x hd) hW.2.2 (fun q _ h => z_hB X hW hp q h) (z_hB X hW hp) (fun r1 _ t H1 locs1 ht hvm hw hB hz1 hk1 hS => ?_)
  obtain ⟨hP1, hD1⟩ := hB
  rw [ht] at hP1
  obtain ⟨hP, hD⟩ := z_join (zP_perm hp hW.1) (zD_perm hp hW.2.1) hk1 (z_hB X hW hp) hP1 hD1
  cases hw
  exact kk x H1 locs1 hr ⟨zP_perm hp.symm hP, zD_perm hp.symm hD, hS⟩
theorem z_calll (X : zX E ws own cc nL ret y0 p s m args meth c A) (hW : zW E A s w H locs) {d : Option Int64} {K : Int64 → Option γ} (hr : zcl d K = some r) (hp : w.Perm (wc ++ wr)) {a : Array Value}
    (run : ∀ x, d = some x → va_Run p l e R s m args below meth c H locs cells slots 0 0 (F0 m pc ls st0) rest (zQl E (va_A wc H.size) x wc a) (va_A wc H.size))
    (kk : ∀ (x : Int64) (H1 : Heap) (locs1 : List Loc), K x = some r → zW E A s w H1 locs1 → W p l e R s m args below meth c H1 locs1 cells slots Q (F0 m (pc + 3) ls (.long x :: rest))) : W p l e R s m args below meth c H locs cells slots Q (F0 m pc ls st0) := by
  obtain ⟨x, hd, hr⟩ := zcl_some hr
  refine va_calll (run x hd) hW.2.2 (fun q _ h => z_hB X hW hp q h) (z_hB X hW hp) (fun r1 _ t H1 locs1 ht hvm hw hB hz1 hk1 hS => ?_)
  obtain ⟨hP1, hD1⟩ := hB
  rw [ht] at hP1
  obtain ⟨hP, hD⟩ := z_join (zP_perm hp hW.1) (zD_perm hp hW.2.1) hk1 (z_hB X hW hp) hP1 hD1
  cases hw
  exact kk x H1 locs1 hr ⟨zP_perm hp.symm hP, zD_perm hp.symm hD, hS⟩
/-- behind a void call -/
theorem z_callv (X : zX E ws own cc nL ret y0 p s m args meth c A) (hW : zW E A s w H locs) {U V : Type} {d : Option U} (g : U → V) {K : V → Option γ} (hr : zup d g K = some r) (hp : w.Perm (wc ++ wr)) (wf : U → va_W) (w' : V → va_W) (hj : ∀ u, (wf u ++ wr).Perm (w' (g u))) {a : Array Value}
    (run : ∀ u, d = some u → va_Run p l e R s m args below meth c H locs cells slots 0 0 (F0 m pc ls st0) rest (zQv E (va_A wc H.size) (wf u) a) (va_A wc H.size))
    (kk : ∀ (u : V) (H1 : Heap) (locs1 : List Loc), K u = some r → zW E A s (w' u) H1 locs1 → W p l e R s m args below meth c H1 locs1 cells slots Q (F0 m (pc + 3) ls rest)) : W p l e R s m args below meth c H locs cells slots Q (F0 m pc ls st0) := by
  obtain ⟨u, hd, hr⟩ := zup_some hr
  refine va_callv (run u hd) hW.2.2 (fun q _ h => z_hB X hW hp q h) (z_hB X hW hp) (fun _ t H1 locs1 ht hvm hw hB hz1 hk1 hS => ?_)
  obtain ⟨hP1, hD1⟩ := hB
  rw [ht] at hP1
  obtain ⟨hP, hD⟩ := z_join (zP_perm hp hW.1) (zD_perm hp hW.2.1) hk1 (z_hB X hW hp) hP1 hD1
  exact kk (g u) H1 locs1 hr ⟨zP_perm (hj u) hP, zD_perm (hj u) hD, hS⟩
/-- behind a void call that makes cells -/
theorem z_calla (X : zX E ws own cc nL ret y0 p s m args meth c A) (hW : zW E A s w H locs) (hp : w.Perm (wc ++ wr)) {P1 : va_W → Prop} {a : Array Value}
    (run : va_Run p l e R s m args below meth c H locs cells slots mc ms (F0 m pc ls st0) rest (zQa E (va_A wc H.size) P1 a) (va_A wc H.size))
    (kk : ∀ (w1 : va_W) (H1 : Heap) (locs1 : List Loc), P1 w1 → zW E A s (w1 ++ wr) H1 locs1 → W p l e R s m args below meth c H1 locs1 (cells + mc) (slots + ms) Q (F0 m (pc + 3) ls rest)) : W p l e R s m args below meth c H locs cells slots Q (F0 m pc ls st0) := by
  refine va_callv run hW.2.2 (fun q _ h => z_hB X hW hp q h) (z_hB X hW hp) (fun w1 t H1 locs1 ht hvm hw hB hz1 hk1 hS => ?_)
  obtain ⟨hP1, hD1⟩ := hB
  rw [ht] at hP1
  obtain ⟨hP, hD⟩ := z_join (zP_perm hp hW.1) (zD_perm hp hW.2.1) hk1 (z_hB X hW hp) hP1 hD1
  exact kk w1 H1 locs1 hw ⟨hP, hD, hS⟩
theorem z_calln (X : zX E ws own cc nL ret y0 p s m args meth c A) (hW : zW E A s w H locs) (hp : w.Perm (wc ++ wr)) {x : Int32} {P1 : va_W → Prop} {a : Array Value}
    (run : va_Run p l e R s m args below meth c H locs cells slots mc ms (F0 m pc ls st0) rest (zQn E (va_A wc H.size) x P1 a) (va_A wc H.size))
    (kk : ∀ (w1 : va_W) (H1 : Heap) (locs1 : List Loc), P1 w1 → zW E A s (w1 ++ wr) H1 locs1 → W p l e R s m args below meth c H1 locs1 (cells + mc) (slots + ms) Q (F0 m (pc + 3) ls (.int x :: rest))) : W p l e R s m args below meth c H locs cells slots Q (F0 m pc ls st0) := by
  refine va_calli run hW.2.2 (fun q _ h => z_hB X hW hp q h) (z_hB X hW hp) (fun r1 w1 t H1 locs1 ht hvm hw hB hz1 hk1 hS => ?_)
  obtain ⟨hP1, hD1⟩ := hB
  obtain ⟨rfl, hw⟩ := hw
  rw [ht] at hP1
  obtain ⟨hP, hD⟩ := z_join (zP_perm hp hW.1) (zD_perm hp hW.2.1) hk1 (z_hB X hW hp) hP1 hD1
  exact kk w1 H1 locs1 hw ⟨hP, hD, hS⟩
/-- Math.max, Math.min -/
theorem z_max (X : zX E ws own cc nL ret y0 p s m args meth c A) {nl : Nat} {lv : List (Nat × Value)} (hl : lv_has ls nl lv) (hnl : nl = nL) {x y : Int32} {K : Int32 → Option γ} (hr : zlet (if x < y then y else x) K = some r) (h1 : Cond.methodLink own index Lib.Math.max.name ∈ ws) (h2 : Cond.static Lib.Math.max.name ∈ ws) (h3 : Cond.initialized "java/lang/Math" ∈ ws) (h4 : Cond.code Lib.Math.max.name Lib.Math.max.code 2 (some .int) ∈ ws) (hframes : 1 ≤ R.frames) (hlocals : (rest.map fun v => v.category).sum + 13 ≤ R.locals) (hc : cells ≤ R.cells) (hs : slots ≤ R.slots) (hdg : decode cc pc = .ok (.invokestatic index, 3))
    (kk : ∀ z, K z = some r → W p l e R s m args below meth c H locs cells slots Q (F0 m (pc + 3) ls (.int z :: rest))) : W p l e R s m args below meth c H locs cells slots Q (F0 m pc ls (.int y :: .int x :: rest)) :=
  va_mmax X.1 X.2.1 (X.2.2.1.trans (hnl.symm.trans hl.1.symm)) X.2.2.2.1 (X.2.2.2.2.1 _ h1) (X.2.2.2.2.1 _ h2) (X.2.2.2.2.1 _ h3) (X.2.2.2.2.1 _ h4) hframes hlocals hc hs hdg (kk _ hr)
theorem z_min (X : zX E ws own cc nL ret y0 p s m args meth c A) {nl : Nat} {lv : List (Nat × Value)} (hl : lv_has ls nl lv) (hnl : nl = nL) {x y : Int32} {K : Int32 → Option γ} (hr : zlet (if y < x then y else x) K = some r) (h1 : Cond.methodLink own index Lib.Math.min.name ∈ ws) (h2 : Cond.static Lib.Math.min.name ∈ ws) (h3 : Cond.initialized "java/lang/Math" ∈ ws) (h4 : Cond.code Lib.Math.min.name Lib.Math.min.code 2 (some .int) ∈ ws) (hframes : 1 ≤ R.frames) (hlocals : (rest.map fun v => v.category).sum + 13 ≤ R.locals) (hc : cells ≤ R.cells) (hs : slots ≤ R.slots) (hdg : decode cc pc = .ok (.invokestatic index, 3))
    (kk : ∀ z, K z = some r → W p l e R s m args below meth c H locs cells slots Q (F0 m (pc + 3) ls (.int z :: rest))) : W p l e R s m args below meth c H locs cells slots Q (F0 m pc ls (.int y :: .int x :: rest)) :=
  va_mmin X.1 X.2.1 (X.2.2.1.trans (hnl.symm.trans hl.1.symm)) X.2.2.2.1 (X.2.2.2.2.1 _ h1) (X.2.2.2.2.1 _ h2) (X.2.2.2.2.1 _ h3) (X.2.2.2.2.1 _ h4) hframes hlocals hc hs hdg (kk _ hr)
/-- the three static rows -/
theorem z_sld {n2 : Nat} {t : Nat} {g : Nat → Int32} (X : zX E ws own cc nL ret y0 p s m args meth c A) (hW : zW E A s w H locs) (hT : va_T .int t n2 (fun j => .int (g j)) A s s.heap) {i : Int32} {K : Int32 → Option γ} (hr : zld n2 g i K = some r) (hdg : decode cc pc = .ok (.iaload, 1))
    (kk : ∀ z : Int32, K z = some r → W p l e R s m args below meth c H locs cells slots Q (F0 m (pc + 1) ls (.int z :: rest))) : W p l e R s m args below meth c H locs cells slots Q (F0 m pc ls (.int i :: .ref t :: rest)) :=
  va_ti X.1 X.2.1 hT hW.2.2 (zld_some hr).1 rfl hdg (kk _ (zld_some hr).2)
theorem z_slen {n2 : Nat} {t : Nat} {g : Nat → Int32} (X : zX E ws own cc nL ret y0 p s m args meth c A) (hW : zW E A s w H locs) (hT : va_T .int t n2 (fun j => .int (g j)) A s s.heap) (hdg : decode cc pc = .ok (.arraylength, 1))
    (kk : W p l e R s m args below meth c H locs cells slots Q (F0 m (pc + 1) ls (.int (nI n2) :: rest))) : W p l e R s m args below meth c H locs cells slots Q (F0 m pc ls (.ref t :: rest)) :=
  va_tlen X.1 X.2.1 hT hW.2.2 rfl hdg kk
theorem z_gets (X : zX E ws own cc nL ret y0 p s m args meth c A) (hW : zW E A s w H locs) {C n d : String} {v : Value} (hZ : va_Z C n d v A s s.heap) (hlink : Cond.fieldLink own index C n d ∈ ws) (hdg : decode cc pc = .ok (.getstatic index, 3))
    (kk : W p l e R s m args below meth c H locs cells slots Q (F0 m (pc + 3) ls (v :: rest))) : W p l e R s m args below meth c H locs cells slots Q (F0 m pc ls rest) :=
  va_gets X.1 X.2.1 hZ hW.2.2 X.2.2.2.1 (X.2.2.2.2.1 _ hlink) (fun _ h => h) hdg kk
theorem z_getsN (X : zX E ws own cc nL ret y0 p s m args meth c A) (hW : zW E A s w H locs) {C n d : String} {v : Value} (hZ : va_Z C n d v A s s.heap) (hlink : Cond.fieldLinkNest own index C n d RX7 ∈ zNest) (hdg : decode cc pc = .ok (.getstatic index, 3))
    (kk : W p l e R s m args below meth c H locs cells slots Q (F0 m (pc + 3) ls (v :: rest))) : W p l e R s m args below meth c H locs cells slots Q (F0 m pc ls rest) :=
  va_getsN X.1 X.2.1 hZ hW.2.2 X.2.2.2.1 (va_Nw.use rfl (X.2.2.2.2.2.1.2.1 _ hlink)) (fun _ h => h) hdg kk
/-- System.arraycopy between two rows of ints -/
theorem z_copy (X : zX E ws own cc nL ret y0 p s m args meth c A) (hW : zW E A s w H locs) {nl : Nat} {lv : List (Nat × Value)} (hl : lv_has ls nl lv) (hnl : nl = nL) (q0 q1 : Nat) {a0 a1 n0 n1 : Nat} {f g : Nat → Int32} {sp dp n : Int32} {K : (Nat → Int32) → Option γ} (hr : zcp n0 f n1 g sp dp n K = some r) (w' : (Nat → Int32) → va_W) (ha0 : w[q0]? = some (a0, .inl (E.2.1, n0, .inl f))) (ha1 : w[q1]? = some (a1, .inl (E.2.1, n1, .inl g))) (hset : ∀ h, w.set q1 (a1, .inl (E.2.1, n1, .inl h)) = w' h) (h1 : Cond.methodLink own index arraycopyName ∈ ws) (h2 : Cond.native arraycopyName ∈ ws) (h3 : Cond.static arraycopyName ∈ ws) (h4 : Cond.initialized "java/lang/System" ∈ ws) (hframes : 1 ≤ R.frames) (hlocals : (rest.map fun v => v.category).sum + (nativeFrameWords "java/lang/System" "arraycopy" 5 + 11) ≤ R.locals) (hdg : decode cc pc = .ok (.invokestatic index, 3))
    (kk : ∀ (h : Nat → Int32) (H1 : Heap) (locs1 : List Loc), K h = some r → zW E A s (w' h) H1 locs1 → W p l e R s m args below meth c H1 locs1 cells slots Q (F0 m (pc + 3) ls rest)) : W p l e R s m args below meth c H locs cells slots Q (F0 m pc ls (.int n :: .int dp :: .ref a1 :: .int sp :: .ref a0 :: rest)) := by
  obtain ⟨g1, g2, g3, g4, g5, hr⟩ := zcp_some hr
  exact va_copyi X.1 X.2.1 (X.2.2.1.trans (hnl.symm.trans hl.1.symm)) X.2.2.2.1 (X.2.2.2.2.1 _ h1) (X.2.2.2.2.1 _ h2) (X.2.2.2.2.1 _ h3) (X.2.2.2.2.1 _ h4) X.2.2.2.2.2.1.1 hW.1 hW.2.1 hW.2.2 q0 q1 0 0 (ty := .int) ha0 ha1 rfl rfl rfl g1 g2 g3 g4 g5 (fun _ _ => rfl) hframes hlocals hdg (fun H1 locs1 e1 e2 e3 => kk _ H1 locs1 hr ⟨hset _ ▸ e1, hset _ ▸ e2, e3⟩)
end ZC
