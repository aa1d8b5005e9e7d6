/-! THE CLAIM OUT OF ONE WALK OF THE LAW'S BODY. Your part is whole_start (and what it stands on); all else here is the same for every law, but numbers. -/
def R_law : String := "ApplauseTalliesLaw"
def lw_P (b : Addr) (xs : List Int32) (args : Array Value) (s : State) : Prop := args = #[.ref b] ∧ s.IntsAt b xs ∧ xs.length ≤ 260 ∧ (Jvm.Cond.and given_1 narrow_1).before args s = true
def lw_Q (_ : Array Value) (s : State) (o : Outcome) (t : State) : Prop := o = .returned (some (.int 1)) ∧ Framed s o t [] 600000 7302250
def lw_Z (below : List Frame) (a : Array Value) (s : State) : State → Prop := fun t => ∃ o, t.status = .running ∧ Ended t below o ∧ lw_Q a s o t
/-- the law's own end, with 1 on the stack, nothing written that was there before, its room as the claim has it -/
theorem lw_ret {p : Program} {l : Launch} {e : Env} {s : State} {m : MethodId} {below : List Frame} {meth : Method} {c : Code} {b : Nat} (hx : p.tables.exec = Jvm.exec) (hb : c.code = code) (hr : meth.sig.returnType = ret) (hlocks : meth.locks = false) {pc : Nat} {H : Heap} {ls : Array Slot} (hdg : decode code pc = .ok (.ireturn, 1)) : W p l e room_1 s m #[Value.ref b] below meth c H [] 600000 7302250 (lw_Z below #[Value.ref b] s) (F0 m pc ls [.int 1]) := by
  intro T hT X
  obtain ⟨fs, hret, hrun, hended, hW, hframe⟩ := X.leave (v := some (.int 1)) (hlocks := hlocks) (fun h => by rw [hr] at h; cases h)
  have hmeth' : T.vm.method? m = some meth := X.method'
  refine ⟨T.setFrames fs, ?_, .returned (some (.int 1)), hrun, hended, rfl, ⟨_, rfl⟩, hW, hframe⟩
  jvm_step X.here [X.here.top, hx, hb, hdg, hmeth', hr, ret, narrow_b1]
  (try refine ⟨rfl, ?_⟩); (try refine ⟨rfl, ?_⟩)
  first | (intro acts; rw [hret _ acts rfl rfl rfl]) | rw [hret _ _ rfl rfl rfl]
  exact Steps.refl _
/-- what holds at the law's entry: the machine, the code, the tables' words (any of lw_tbl by 'hts w (by decide +kernel)'), the script of L ints xs at the cell b, what the Statement gives of the start (any of its parts by flat_of_before) -/
def lw_At (p : Program) (s : State) (m : MethodId) (meth : Method) (c : Code) (b L : Nat) (xs : Nat → Int32) : Prop :=
  p.tables.exec = Jvm.exec ∧ c.code = code ∧ meth.sig.returnType = ret ∧ c.maxLocals = 22 ∧ s.vm.findClass R_law = some m.cls ∧ (∀ w ∈ lw_tbl, w.before #[Value.ref b] s = true) ∧ va_X b L xs s s.heap ∧ b < s.heap.size ∧ meth.locks = false ∧ (Jvm.Cond.and given_1 narrow_1).before #[Value.ref b] s = true

/-! ===== the law's body behind its makings, decompiled ===== -/
theorem law_end {p : Program} {l : Launch} {e : Env} {s : State} {m : MethodId} {below : List Frame} {meth : Method} {c : Code} {E : zE} {y0 : MethodName} {A : Nat → Prop} (hA : A = fun q : Nat => s.heap.size ≤ q) {b : Nat} (X : zX E wsL_law RL cL_law 22 ret y0 p s m #[Value.ref b] meth c A) {w : va_W} {H : Heap} {locs : List Loc} (hW : zW E A s w H locs) {pc : Nat} {ls : Array Slot} (hdg : decode cL_law pc = .ok (.ireturn, 1)) : W p l e room_1 s m #[Value.ref b] below meth c H locs 600000 7302250 (lw_Z below #[Value.ref b] s) (F0 m pc ls [.int 1]) := by
  subst hA
  refine va_forget (fun q hq => hW.2.2.2.2 q hq) ?_
  exact lw_ret X.1 X.2.1 X.2.2.2.2.2.2.2.1 X.2.2.2.2.2.2.2.2.1 hdg
def lpB_L_law_595 (E : zE) (w : zHV) (q : zHI) (k_118 : Int32 → (Nat → Int32) → (Nat → Int32) → (Nat → Int32) → (Nat → Int32) → (Nat → Int32) → (Nat → Int32) → (Nat → Int32) → (Nat → Int32) → (Nat → Int32) → zHV → zHI → Option (Int32)) (j_686 : Int32 → Int32 → Int32 → Int32 → Int32 → Int32 → Int64 → Int32 → Int32 → (Nat → Int32) → (Nat → Int32) → (Nat → Int32) → (Nat → Int32) → (Nat → Int32) → (Nat → Int32) → (Nat → Int32) → (Nat → Int32) → (Nat → Int32) → zHV → zHI → Option (Int32)) (k_595 : Int32 → Int32 → Int32 → Int32 → Int32 → Int32 → Int64 → Int32 → Int32 → Int32 → (Nat → Int32) → (Nat → Int32) → (Nat → Int32) → (Nat → Int32) → (Nat → Int32) → (Nat → Int32) → (Nat → Int32) → (Nat → Int32) → (Nat → Int32) → zHV → zHI → Option (Int32)) (x11 : Int32) (x12 : Int32) (x13 : Int32) (x14 : Int32) (x15 : Int32) (x16 : Int32) (x17 : Int64) (x19 : Int32) (x20 : Int32) (x21 : Int32) (fq : Nat → Int32) (fa : Nat → Int32) (fe : Nat → Int32) (fn : Nat → Int32) (ft : Nat → Int32) (fp : Nat → Int32) (fw : Nat → Int32) (fr : Nat → Int32) (fc : Nat → Int32) (v : zHV) (u : zHI) : Option (Int32) :=
(if x15 ≤ x21 then
zld 19 fq 6 fun t619 =>
j_686 x11 x12 x13 x14 x15 x16 x17 x19 t619 fq fa fe fn ft fp fw fr fc v u
else
zup (d_L_second fq fp fw) (fun z9 => (z9.1, z9.2.1, z9.2.2)) fun u607 =>
zlet (x21 + Int32.ofInt 1) fun x21_610 =>
k_595 x11 x12 x13 x14 x15 x16 x17 x19 x20 x21_610 u607.1 fa fe fn ft u607.2.1 u607.2.2 fr fc v u)
def lp_L_law_595 (E : zE) (w : zHV) (q : zHI) (k_118 : Int32 → (Nat → Int32) → (Nat → Int32) → (Nat → Int32) → (Nat → Int32) → (Nat → Int32) → (Nat → Int32) → (Nat → Int32) → (Nat → Int32) → (Nat → Int32) → zHV → zHI → Option (Int32)) (j_686 : Int32 → Int32 → Int32 → Int32 → Int32 → Int32 → Int64 → Int32 → Int32 → (Nat → Int32) → (Nat → Int32) → (Nat → Int32) → (Nat → Int32) → (Nat → Int32) → (Nat → Int32) → (Nat → Int32) → (Nat → Int32) → (Nat → Int32) → zHV → zHI → Option (Int32)) : Nat → Int32 → Int32 → Int32 → Int32 → Int32 → Int32 → Int64 → Int32 → Int32 → Int32 → (Nat → Int32) → (Nat → Int32) → (Nat → Int32) → (Nat → Int32) → (Nat → Int32) → (Nat → Int32) → (Nat → Int32) → (Nat → Int32) → (Nat → Int32) → zHV → zHI → Option (Int32)
  | 0 => fun _ _ _ _ _ _ _ _ _ _ _ _ _ _ _ _ _ _ _ _ _ => none
  | n_ + 1 => lpB_L_law_595 E w q k_118 j_686 (lp_L_law_595 E w q k_118 j_686 n_)
def lpB_L_law_118 (E : zE) (w : zHV) (q : zHI)  (k_118 : Int32 → (Nat → Int32) → (Nat → Int32) → (Nat → Int32) → (Nat → Int32) → (Nat → Int32) → (Nat → Int32) → (Nat → Int32) → (Nat → Int32) → (Nat → Int32) → zHV → zHI → Option (Int32)) (x11 : Int32) (fq : Nat → Int32) (fa : Nat → Int32) (fe : Nat → Int32) (fn : Nat → Int32) (ft : Nat → Int32) (fp : Nat → Int32) (fw : Nat → Int32) (fr : Nat → Int32) (fc : Nat → Int32) (v : zHV) (u : zHI) : Option (Int32) :=
(if 60 ≤ x11 then
some 1
else
zlet (2 * x11) fun t129 =>
zcl (d_L_cell E t129) fun t130 =>
zlet (2 * x11) fun t139 =>
zlet (t139 + 1) fun t141 =>
zcl (d_L_cell E t141) fun t142 =>
zcl (d_L_low t130 32) fun t151 =>
zjn (fun (x11 : Int32) (x12 : Int32) (x13 : Int32) (x14 : Int32) (s0 : Int32) (fq : Nat → Int32) (fa : Nat → Int32) (fe : Nat → Int32) (fn : Nat → Int32) (ft : Nat → Int32) (fp : Nat → Int32) (fw : Nat → Int32) (fr : Nat → Int32) (fc : Nat → Int32) (v : zHV) (u : zHI) =>
zjn (fun (x11 : Int32) (x12 : Int32) (x13 : Int32) (x14 : Int32) (s0 : Int32) (fq : Nat → Int32) (fa : Nat → Int32) (fe : Nat → Int32) (fn : Nat → Int32) (ft : Nat → Int32) (fp : Nat → Int32) (fw : Nat → Int32) (fr : Nat → Int32) (fc : Nat → Int32) (v : zHV) (u : zHI) =>
zjn (fun (x11 : Int32) (x12 : Int32) (x13 : Int32) (x14 : Int32) (x15 : Int32) (s0 : Int32) (fq : Nat → Int32) (fa : Nat → Int32) (fe : Nat → Int32) (fn : Nat → Int32) (ft : Nat → Int32) (fp : Nat → Int32) (fw : Nat → Int32) (fr : Nat → Int32) (fc : Nat → Int32) (v : zHV) (u : zHI) =>
zcl (d_L_told v w u q) fun t455 =>
zup2 (d_L_call v w u q x14 x15 s0) (fun z9 => (z9.1, z9.2)) fun t467 u467 =>
zjn (fun (x11 : Int32) (x12 : Int32) (x13 : Int32) (x14 : Int32) (x15 : Int32) (x16 : Int32) (x17 : Int64) (x19 : Int32) (fq : Nat → Int32) (fa : Nat → Int32) (fe : Nat → Int32) (fn : Nat → Int32) (ft : Nat → Int32) (fp : Nat → Int32) (fw : Nat → Int32) (fr : Nat → Int32) (fc : Nat → Int32) (v : zHV) (u : zHI) =>
zjn (fun (x11 : Int32) (x12 : Int32) (x13 : Int32) (x14 : Int32) (x15 : Int32) (x16 : Int32) (x17 : Int64) (x19 : Int32) (x20 : Int32) (fq : Nat → Int32) (fa : Nat → Int32) (fe : Nat → Int32) (fn : Nat → Int32) (ft : Nat → Int32) (fp : Nat → Int32) (fw : Nat → Int32) (fr : Nat → Int32) (fc : Nat → Int32) (v : zHV) (u : zHI) =>
((if x19 = x20 then
zlet (x12 >>> (5 &&& 31)) fun t697 =>
zcl (d_L_isSo fq fa fe fn ft fp fw fr fc v w u q t697) fun t714 =>
(if t714 = 0 then
some 0
else
zlet (x11 + Int32.ofInt 1) fun x11_722 =>
k_118 x11_722 fq fa fe fn ft fp fw fr fc v u)
else
some 0) : Option (Int32))) fun j_686 =>
(if x14 = 0 then
zup2 (d_L_claps fq fa fe fn ft fp fw fr x15) (fun z9 => (z9.1, z9.2.1, z9.2.2.1, z9.2.2.2.1, z9.2.2.2.2.1, z9.2.2.2.2.2.1, z9.2.2.2.2.2.2.1, z9.2.2.2.2.2.2.2)) fun t558 u558 =>
j_686 x11 x12 x13 x14 x15 x16 x17 x19 t558 u558.1 u558.2.1 u558.2.2.1 u558.2.2.2.1 u558.2.2.2.2.1 u558.2.2.2.2.2.1 u558.2.2.2.2.2.2.1 u558.2.2.2.2.2.2.2 fc v u
else
(if x14 = 1 then
zup2 (d_L_ends fq fa fp x15) (fun z9 => (z9.1, z9.2.1, z9.2.2)) fun t578 u578 =>
j_686 x11 x12 x13 x14 x15 x16 x17 x19 t578 u578.1 u578.2.1 fe fn ft u578.2.2 fw fr fc v u
else
(if x14 = 2 then
lp_L_law_595 E w q k_118 j_686 zF x11 x12 x13 x14 x15 x16 x17 x19 0 0 fq fa fe fn ft fp fw fr fc v u
else
(if x14 = 3 then
zup2 (d_L_plays fq fa fp fw x15) (fun z9 => (z9.1, z9.2.1, z9.2.2.1, z9.2.2.2)) fun t639 u639 =>
j_686 x11 x12 x13 x14 x15 x16 x17 x19 t639 u639.1 u639.2.1 fe fn ft u639.2.2.1 u639.2.2.2 fr fc v u
else
(if x14 = 5 then
zup2 (d_L_nights fq fa fn fp fw fc) (fun z9 => (z9.1, z9.2.1, z9.2.2.1, z9.2.2.2.1, z9.2.2.2.2)) fun t663 u663 =>
j_686 x11 x12 x13 x14 x15 x16 x17 x19 t663 u663.1 u663.2.1 fe u663.2.2.1 ft u663.2.2.2.1 fw fr u663.2.2.2.2 v u
else
zup2 (d_L_ofRest fq fa fe x14 x15 x16) (fun z9 => (z9.1, z9.2)) fun t681 u681 =>
j_686 x11 x12 x13 x14 x15 x16 x17 x19 t681 u681.1 u681.2 fe fn ft fp fw fr fc v u)))))) fun j_534 =>
(if 0 ≤ t467 then
zlet (x12 >>> (24 &&& 31)) fun t494 =>
zlet (t494 &&& 3) fun t496 =>
(if t496 = 0 then
zup2 (d_X7_undo u467.1 w u467.2 q) (fun z9 => (z9.1, z9.2)) fun t501 u501 =>
(if t501 < 0 then
some 0
else
zcl (d_L_told u501.1 w u501.2 q) fun t508 =>
zlet (lg_cmp t508 t455) fun t513 =>
(if t513 = 0 then
zup2 (d_L_call u501.1 w u501.2 q x14 x15 s0) (fun z9 => (z9.1, z9.2)) fun t524 u524 =>
(if t524 = t467 then
j_534 x11 x12 x13 x14 x15 s0 t455 t467 fq fa fe fn ft fp fw fr fc u524.1 u524.2
else
some 0)
else
some 0))
else
j_534 x11 x12 x13 x14 x15 s0 t455 t467 fq fa fe fn ft fp fw fr fc u467.1 u467.2)
else
zcl (d_L_told u467.1 w u467.2 q) fun t478 =>
zlet (lg_cmp t478 t455) fun t483 =>
(if t483 = 0 then
j_534 x11 x12 x13 x14 x15 s0 t455 t467 fq fa fe fn ft fp fw fr fc u467.1 u467.2
else
some 0))) fun j_452 =>
(if x14 = 6 then
zlet (x13 >>> (5 &&& 31)) fun t333 =>
zcl (d_L_low t333 9) fun t336 =>
zlet (1 + t336) fun t339 =>
j_452 x11 x12 x13 x14 s0 t339 fq fa fe fn ft fp fw fr fc v u
else
(if s0 = 0 then
zlet (x13 >>> (5 &&& 31)) fun t352 =>
zcl (d_L_low t352 50) fun t355 =>
zlet (1 + t355) fun t358 =>
j_452 x11 x12 x13 x14 s0 t358 fq fa fe fn ft fp fw fr fc v u
else
(if s0 = 1 then
zlet (x13 >>> (5 &&& 31)) fun t373 =>
zcl (d_L_low t373 100) fun t376 =>
zlet (20 + t376) fun t379 =>
j_452 x11 x12 x13 x14 s0 t379 fq fa fe fn ft fp fw fr fc v u
else
(if s0 = 2 then
zlet (x13 >>> (5 &&& 31)) fun t393 =>
zcl (d_L_low t393 60) fun t396 =>
zlet (1 + t396) fun t399 =>
j_452 x11 x12 x13 x14 s0 t399 fq fa fe fn ft fp fw fr fc v u
else
(if s0 = 3 then
zlet (x13 >>> (5 &&& 31)) fun t412 =>
zcl (d_L_low t412 10) fun t415 =>
j_452 x11 x12 x13 x14 s0 t415 fq fa fe fn ft fp fw fr fc v u
else
(if s0 = 4 then
zlet (x13 >>> (5 &&& 31)) fun t431 =>
zcl (d_L_low t431 9) fun t434 =>
zlet (1 + t434) fun t437 =>
j_452 x11 x12 x13 x14 s0 t437 fq fa fe fn ft fp fw fr fc v u
else
zlet (x13 >>> (5 &&& 31)) fun t445 =>
zcl (d_L_low t445 100) fun t448 =>
zlet (1 + t448) fun t451 =>
j_452 x11 x12 x13 x14 s0 t451 fq fa fe fn ft fp fw fr fc v u))))))) fun j_320 =>
zjn (fun (x11 : Int32) (x12 : Int32) (x13 : Int32) (x14 : Int32) (fq : Nat → Int32) (fa : Nat → Int32) (fe : Nat → Int32) (fn : Nat → Int32) (ft : Nat → Int32) (fp : Nat → Int32) (fw : Nat → Int32) (fr : Nat → Int32) (fc : Nat → Int32) (v : zHV) (u : zHI) =>
(zcl (d_L_low x13 30) fun t273 =>
j_320 x11 x12 x13 x14 t273 fq fa fe fn ft fp fw fr fc v u : Option (Int32))) fun j_269 =>
(if s0 = 0 then
j_269 x11 x12 x13 s0 fq fa fe fn ft fp fw fr fc v u
else
(if s0 = 6 then
j_269 x11 x12 x13 s0 fq fa fe fn ft fp fw fr fc v u
else
(if s0 = 7 then
j_269 x11 x12 x13 s0 fq fa fe fn ft fp fw fr fc v u
else
(if s0 = 2 then
zlet (x13 >>> (20 &&& 31)) fun t292 =>
zcl (d_L_low t292 4) fun t294 =>
zjn (fun (x11 : Int32) (x12 : Int32) (x13 : Int32) (x14 : Int32) (s0 : Int32) (s1 : Int32) (s2 : Int32) (fq : Nat → Int32) (fa : Nat → Int32) (fe : Nat → Int32) (fn : Nat → Int32) (ft : Nat → Int32) (fp : Nat → Int32) (fw : Nat → Int32) (fr : Nat → Int32) (fc : Nat → Int32) (v : zHV) (u : zHI) =>
(zcl (d_L_low s1 s0) fun t306 =>
zlet (s2 + t306) fun t309 =>
j_320 x11 x12 x13 x14 t309 fq fa fe fn ft fp fw fr fc v u : Option (Int32))) fun j_306 =>
(if t294 = 0 then
j_306 x11 x12 x13 s0 99 x13 1 fq fa fe fn ft fp fw fr fc v u
else
j_306 x11 x12 x13 s0 4 x13 1 fq fa fe fn ft fp fw fr fc v u)
else
zcl (d_L_low x13 6) fun t317 =>
j_320 x11 x12 x13 s0 t317 fq fa fe fn ft fp fw fr fc v u))))) fun j_248 =>
(if 14 ≤ t151 then
(if 18 ≤ t151 then
(if 21 ≤ t151 then
(if 24 ≤ t151 then
(if 26 ≤ t151 then
(if t151 = 26 then
j_248 x11 t130 t142 t151 5 fq fa fe fn ft fp fw fr fc v u
else
(if 29 ≤ t151 then
(if t151 = 29 then
j_248 x11 t130 t142 t151 7 fq fa fe fn ft fp fw fr fc v u
else
j_248 x11 t130 t142 t151 8 fq fa fe fn ft fp fw fr fc v u)
else
j_248 x11 t130 t142 t151 6 fq fa fe fn ft fp fw fr fc v u))
else
j_248 x11 t130 t142 t151 4 fq fa fe fn ft fp fw fr fc v u)
else
j_248 x11 t130 t142 t151 3 fq fa fe fn ft fp fw fr fc v u)
else
j_248 x11 t130 t142 t151 2 fq fa fe fn ft fp fw fr fc v u)
else
j_248 x11 t130 t142 t151 1 fq fa fe fn ft fp fw fr fc v u)
else
j_248 x11 t130 t142 t151 0 fq fa fe fn ft fp fw fr fc v u))
def lp_L_law_118 (E : zE) (w : zHV) (q : zHI)  : Nat → Int32 → (Nat → Int32) → (Nat → Int32) → (Nat → Int32) → (Nat → Int32) → (Nat → Int32) → (Nat → Int32) → (Nat → Int32) → (Nat → Int32) → (Nat → Int32) → zHV → zHI → Option (Int32)
  | 0 => fun _ _ _ _ _ _ _ _ _ _ _ _ => none
  | n_ + 1 => lpB_L_law_118 E w q  (lp_L_law_118 E w q  n_)
def lpB_L_law_97 (E : zE) (w : zHV) (q : zHI)  (k_97 : Int32 → (Nat → Int32) → (Nat → Int32) → (Nat → Int32) → (Nat → Int32) → (Nat → Int32) → (Nat → Int32) → (Nat → Int32) → (Nat → Int32) → (Nat → Int32) → zHV → zHI → Option (Int32)) (x11 : Int32) (fq : Nat → Int32) (fa : Nat → Int32) (fe : Nat → Int32) (fn : Nat → Int32) (ft : Nat → Int32) (fp : Nat → Int32) (fw : Nat → Int32) (fr : Nat → Int32) (fc : Nat → Int32) (v : zHV) (u : zHI) : Option (Int32) :=
(if 30 ≤ x11 then
lp_L_law_118 E w q  zF 0 fq fa fe fn ft fp fw fr fc v u
else
zst 30 fa x11 3 fun fa108 =>
zlet (x11 + Int32.ofInt 1) fun x11_109 =>
k_97 x11_109 fq fa108 fe fn ft fp fw fr fc v u)
def lp_L_law_97 (E : zE) (w : zHV) (q : zHI)  : Nat → Int32 → (Nat → Int32) → (Nat → Int32) → (Nat → Int32) → (Nat → Int32) → (Nat → Int32) → (Nat → Int32) → (Nat → Int32) → (Nat → Int32) → (Nat → Int32) → zHV → zHI → Option (Int32)
  | 0 => fun _ _ _ _ _ _ _ _ _ _ _ _ => none
  | n_ + 1 => lpB_L_law_97 E w q  (lp_L_law_97 E w q  n_)
def d_L_law (E : zE) (fq : Nat → Int32) (fa : Nat → Int32) (fe : Nat → Int32) (fn : Nat → Int32) (ft : Nat → Int32) (fp : Nat → Int32) (fw : Nat → Int32) (fr : Nat → Int32) (fc : Nat → Int32) (v : zHV) (w : zHV) (u : zHI) (q : zHI) : Option (Int32) :=
zst 19 fq 0 10 fun fq64 =>
zst 19 fq64 1 200 fun fq70 =>
zst 19 fq70 2 60 fun fq75 =>
zst 19 fq75 3 2 fun fq79 =>
zst 19 fq79 4 3 fun fq83 =>
zst 19 fq83 5 50 fun fq88 =>
zst 19 fq88 13 (-1) fun fq93 =>
lp_L_law_97 E w q  zF 0 fq93 fa fe fn ft fp fw fr fc v u
set_option maxHeartbeats 4000000 in
set_option maxRecDepth 100000 in
theorem c_L_law {p : Program} {l : Launch} {e : Env} {s : State} {m : MethodId} {below : List Frame} {meth : Method} {c : Code} {y0 : MethodName} {A : Nat → Prop} (E : zE) (fq : Nat → Int32) (fa : Nat → Int32) (fe : Nat → Int32) (fn : Nat → Int32) (ft : Nat → Int32) (fp : Nat → Int32) (fw : Nat → Int32) (fr : Nat → Int32) (fc : Nat → Int32) (v : zHV) (w : zHV) (u : zHI) (q : zHI) (hA : A = fun q : Nat => s.heap.size ≤ q) (X : zX E wsL_law RL cL_law 22 ret y0 p s m #[Value.ref (E.2.2.2.1 3)] meth c A) (Aq Aa Ae An At Ap Aw Ar Ac a b : Nat → Nat) (r : Int32) (h1 : r = 1) (hr : d_L_law E fq fa fe fn ft fp fw fr fc v w u q = some r) {H : Heap} {locs : List Loc} {ls : Array Slot} (hW : zW E A s ((arW E Aq 19 fq) ++ ((arW E Aa 30 fa) ++ ((arW E Ae 30 fe) ++ ((arW E An 30 fn) ++ ((arW E At 30 ft) ++ ((arW E Ap 18 fp) ++ ((arW E Aw 16 fw) ++ ((arW E Ar 30 fr) ++ ((arW E Ac 24 fc) ++ ((xoW E a b) ++ ((hsW E (zh a 1) v) ++ ((rdW E (zh a 30) w) ++ ((hiW E (zh a 33) u) ++ (slW E b q)))))))))))))) H locs) (hl : lv_has ls 22 [(0, .ref (E.2.2.2.1 3)), (1, .ref (a 0)), (2, .ref (Aq 0)), (3, .ref (Aa 0)), (4, .ref (Ae 0)), (5, .ref (An 0)), (6, .ref (At 0)), (7, .ref (Ap 0)), (8, .ref (Aw 0)), (9, .ref (Ar 0)), (10, .ref (Ac 0))]) : W p l e room_1 s m #[Value.ref (E.2.2.2.1 3)] below meth c H locs 600000 7302250 (lw_Z below #[Value.ref (E.2.2.2.1 3)] s) (F0 m 60 ls []) := by
  unfold d_L_law at hr
  refine lv_aload_n X.1 X.2.1 dL_law_60 rfl (lv_at hl 2 rfl) ?_
  refine lv_iconst (v := 0) X.1 X.2.1 dL_law_61 (by decide) ?_
  refine lv_bipush (v := 10) X.1 X.2.1 dL_law_62 (by decide) ?_
  refine z_ast X hW 0 hr (fun fq64 => ((arW E Aq 19 fq64) ++ ((arW E Aa 30 fa) ++ ((arW E Ae 30 fe) ++ ((arW E An 30 fn) ++ ((arW E At 30 ft) ++ ((arW E Ap 18 fp) ++ ((arW E Aw 16 fw) ++ ((arW E Ar 30 fr) ++ ((arW E Ac 24 fc) ++ ((xoW E a b) ++ ((hsW E (zh a 1) v) ++ ((rdW E (zh a 30) w) ++ ((hiW E (zh a 33) u) ++ (slW E b q))))))))))))))) rfl (fun _ => rfl) dL_law_64 (fun fq64 H locs hr hW => ?_)
  refine lv_aload_n X.1 X.2.1 dL_law_65 rfl (lv_at hl 2 rfl) ?_
  refine lv_iconst (v := 1) X.1 X.2.1 dL_law_66 (by decide) ?_
  refine lv_sipush (v := 200) X.1 X.2.1 dL_law_67 (by decide) ?_
  refine z_ast X hW 0 hr (fun fq70 => ((arW E Aq 19 fq70) ++ ((arW E Aa 30 fa) ++ ((arW E Ae 30 fe) ++ ((arW E An 30 fn) ++ ((arW E At 30 ft) ++ ((arW E Ap 18 fp) ++ ((arW E Aw 16 fw) ++ ((arW E Ar 30 fr) ++ ((arW E Ac 24 fc) ++ ((xoW E a b) ++ ((hsW E (zh a 1) v) ++ ((rdW E (zh a 30) w) ++ ((hiW E (zh a 33) u) ++ (slW E b q))))))))))))))) rfl (fun _ => rfl) dL_law_70 (fun fq70 H locs hr hW => ?_)
  refine lv_aload_n X.1 X.2.1 dL_law_71 rfl (lv_at hl 2 rfl) ?_
  refine lv_iconst (v := 2) X.1 X.2.1 dL_law_72 (by decide) ?_
  refine lv_bipush (v := 60) X.1 X.2.1 dL_law_73 (by decide) ?_
  refine z_ast X hW 0 hr (fun fq75 => ((arW E Aq 19 fq75) ++ ((arW E Aa 30 fa) ++ ((arW E Ae 30 fe) ++ ((arW E An 30 fn) ++ ((arW E At 30 ft) ++ ((arW E Ap 18 fp) ++ ((arW E Aw 16 fw) ++ ((arW E Ar 30 fr) ++ ((arW E Ac 24 fc) ++ ((xoW E a b) ++ ((hsW E (zh a 1) v) ++ ((rdW E (zh a 30) w) ++ ((hiW E (zh a 33) u) ++ (slW E b q))))))))))))))) rfl (fun _ => rfl) dL_law_75 (fun fq75 H locs hr hW => ?_)
  refine lv_aload_n X.1 X.2.1 dL_law_76 rfl (lv_at hl 2 rfl) ?_
  refine lv_iconst (v := 3) X.1 X.2.1 dL_law_77 (by decide) ?_
  refine lv_iconst (v := 2) X.1 X.2.1 dL_law_78 (by decide) ?_
  refine z_ast X hW 0 hr (fun fq79 => ((arW E Aq 19 fq79) ++ ((arW E Aa 30 fa) ++ ((arW E Ae 30 fe) ++ ((arW E An 30 fn) ++ ((arW E At 30 ft) ++ ((arW E Ap 18 fp) ++ ((arW E Aw 16 fw) ++ ((arW E Ar 30 fr) ++ ((arW E Ac 24 fc) ++ ((xoW E a b) ++ ((hsW E (zh a 1) v) ++ ((rdW E (zh a 30) w) ++ ((hiW E (zh a 33) u) ++ (slW E b q))))))))))))))) rfl (fun _ => rfl) dL_law_79 (fun fq79 H locs hr hW => ?_)
  refine lv_aload_n X.1 X.2.1 dL_law_80 rfl (lv_at hl 2 rfl) ?_
  refine lv_iconst (v := 4) X.1 X.2.1 dL_law_81 (by decide) ?_
  refine lv_iconst (v := 3) X.1 X.2.1 dL_law_82 (by decide) ?_
  refine z_ast X hW 0 hr (fun fq83 => ((arW E Aq 19 fq83) ++ ((arW E Aa 30 fa) ++ ((arW E Ae 30 fe) ++ ((arW E An 30 fn) ++ ((arW E At 30 ft) ++ ((arW E Ap 18 fp) ++ ((arW E Aw 16 fw) ++ ((arW E Ar 30 fr) ++ ((arW E Ac 24 fc) ++ ((xoW E a b) ++ ((hsW E (zh a 1) v) ++ ((rdW E (zh a 30) w) ++ ((hiW E (zh a 33) u) ++ (slW E b q))))))))))))))) rfl (fun _ => rfl) dL_law_83 (fun fq83 H locs hr hW => ?_)
  refine lv_aload_n X.1 X.2.1 dL_law_84 rfl (lv_at hl 2 rfl) ?_
  refine lv_iconst (v := 5) X.1 X.2.1 dL_law_85 (by decide) ?_
  refine lv_bipush (v := 50) X.1 X.2.1 dL_law_86 (by decide) ?_
  refine z_ast X hW 0 hr (fun fq88 => ((arW E Aq 19 fq88) ++ ((arW E Aa 30 fa) ++ ((arW E Ae 30 fe) ++ ((arW E An 30 fn) ++ ((arW E At 30 ft) ++ ((arW E Ap 18 fp) ++ ((arW E Aw 16 fw) ++ ((arW E Ar 30 fr) ++ ((arW E Ac 24 fc) ++ ((xoW E a b) ++ ((hsW E (zh a 1) v) ++ ((rdW E (zh a 30) w) ++ ((hiW E (zh a 33) u) ++ (slW E b q))))))))))))))) rfl (fun _ => rfl) dL_law_88 (fun fq88 H locs hr hW => ?_)
  refine lv_aload_n X.1 X.2.1 dL_law_89 rfl (lv_at hl 2 rfl) ?_
  refine lv_bipush (v := 13) X.1 X.2.1 dL_law_90 (by decide) ?_
  refine lv_iconst (v := (-1)) X.1 X.2.1 dL_law_92 (by decide) ?_
  refine z_ast X hW 0 hr (fun fq93 => ((arW E Aq 19 fq93) ++ ((arW E Aa 30 fa) ++ ((arW E Ae 30 fe) ++ ((arW E An 30 fn) ++ ((arW E At 30 ft) ++ ((arW E Ap 18 fp) ++ ((arW E Aw 16 fw) ++ ((arW E Ar 30 fr) ++ ((arW E Ac 24 fc) ++ ((xoW E a b) ++ ((hsW E (zh a 1) v) ++ ((rdW E (zh a 30) w) ++ ((hiW E (zh a 33) u) ++ (slW E b q))))))))))))))) rfl (fun _ => rfl) dL_law_93 (fun fq93 H locs hr hW => ?_)
  refine lv_iconst (v := 0) X.1 X.2.1 dL_law_94 (by decide) ?_
  refine lv_istore (lv' := [(11, .int 0), (0, .ref (E.2.2.2.1 3)), (1, .ref (a 0)), (2, .ref (Aq 0)), (3, .ref (Aa 0)), (4, .ref (Ae 0)), (5, .ref (An 0)), (6, .ref (At 0)), (7, .ref (Ap 0)), (8, .ref (Aw 0)), (9, .ref (Ar 0)), (10, .ref (Ac 0))]) X.1 X.2.1 dL_law_95 hl (by decide) rfl (fun ls hl => ?_)
  have L_97 : ∀ (n_97 : Nat), ∀ (x11 : Int32) (fq : Nat → Int32) (fa : Nat → Int32) (fe : Nat → Int32) (fn : Nat → Int32) (ft : Nat → Int32) (fp : Nat → Int32) (fw : Nat → Int32) (fr : Nat → Int32) (fc : Nat → Int32) (v : zHV) (u : zHI) (H : Heap) (locs : List Loc) (ls : Array Slot), lp_L_law_97 E w q  n_97 x11 fq fa fe fn ft fp fw fr fc v u = some r → zW E A s ((arW E Aq 19 fq) ++ ((arW E Aa 30 fa) ++ ((arW E Ae 30 fe) ++ ((arW E An 30 fn) ++ ((arW E At 30 ft) ++ ((arW E Ap 18 fp) ++ ((arW E Aw 16 fw) ++ ((arW E Ar 30 fr) ++ ((arW E Ac 24 fc) ++ ((xoW E a b) ++ ((hsW E (zh a 1) v) ++ ((rdW E (zh a 30) w) ++ ((hiW E (zh a 33) u) ++ (slW E b q)))))))))))))) H locs → lv_has ls 22 [(0, .ref (E.2.2.2.1 3)), (1, .ref (a 0)), (2, .ref (Aq 0)), (3, .ref (Aa 0)), (4, .ref (Ae 0)), (5, .ref (An 0)), (6, .ref (At 0)), (7, .ref (Ap 0)), (8, .ref (Aw 0)), (9, .ref (Ar 0)), (10, .ref (Ac 0)), (11, .int x11)] → W p l e room_1 s m #[Value.ref (E.2.2.2.1 3)] below meth c H locs 600000 7302250 (lw_Z below #[Value.ref (E.2.2.2.1 3)] s) (F0 m 97 ls []) := by
    intro n_97
    induction n_97 with
    | zero => exact fun x11 fq fa fe fn ft fp fw fr fc v u H locs ls hr hW hl => absurd (show (none : Option (Int32)) = some r from hr) (fun h => by cases h)
    | succ n_97 ih_97 =>
      intro x11 fq fa fe fn ft fp fw fr fc v u H locs ls hr hW hl
      have hr : lpB_L_law_97 E w q  (lp_L_law_97 E w q  n_97) x11 fq fa fe fn ft fp fw fr fc v u = some r := hr
      unfold lpB_L_law_97 at hr
      refine lv_iload X.1 X.2.1 dL_law_97 (lv_at hl 11 rfl) ?_
      refine lv_bipush (v := 30) X.1 X.2.1 dL_law_99 (by decide) ?_
      refine z_cmpge X 115 hr dL_law_101 (by decide) (fun hr => ?_) (fun hr => ?_)
      · refine lv_iconst (v := 0) X.1 X.2.1 dL_law_115 (by decide) ?_
        refine lv_istore (lv' := [(11, .int 0), (0, .ref (E.2.2.2.1 3)), (1, .ref (a 0)), (2, .ref (Aq 0)), (3, .ref (Aa 0)), (4, .ref (Ae 0)), (5, .ref (An 0)), (6, .ref (At 0)), (7, .ref (Ap 0)), (8, .ref (Aw 0)), (9, .ref (Ar 0)), (10, .ref (Ac 0))]) X.1 X.2.1 dL_law_116 hl (by decide) rfl (fun ls hl => ?_)
        have L_118 : ∀ (n_118 : Nat), ∀ (x11 : Int32) (fq : Nat → Int32) (fa : Nat → Int32) (fe : Nat → Int32) (fn : Nat → Int32) (ft : Nat → Int32) (fp : Nat → Int32) (fw : Nat → Int32) (fr : Nat → Int32) (fc : Nat → Int32) (v : zHV) (u : zHI) (H : Heap) (locs : List Loc) (ls : Array Slot), lp_L_law_118 E w q  n_118 x11 fq fa fe fn ft fp fw fr fc v u = some r → zW E A s ((arW E Aq 19 fq) ++ ((arW E Aa 30 fa) ++ ((arW E Ae 30 fe) ++ ((arW E An 30 fn) ++ ((arW E At 30 ft) ++ ((arW E Ap 18 fp) ++ ((arW E Aw 16 fw) ++ ((arW E Ar 30 fr) ++ ((arW E Ac 24 fc) ++ ((xoW E a b) ++ ((hsW E (zh a 1) v) ++ ((rdW E (zh a 30) w) ++ ((hiW E (zh a 33) u) ++ (slW E b q)))))))))))))) H locs → lv_has ls 22 [(0, .ref (E.2.2.2.1 3)), (1, .ref (a 0)), (2, .ref (Aq 0)), (3, .ref (Aa 0)), (4, .ref (Ae 0)), (5, .ref (An 0)), (6, .ref (At 0)), (7, .ref (Ap 0)), (8, .ref (Aw 0)), (9, .ref (Ar 0)), (10, .ref (Ac 0)), (11, .int x11)] → W p l e room_1 s m #[Value.ref (E.2.2.2.1 3)] below meth c H locs 600000 7302250 (lw_Z below #[Value.ref (E.2.2.2.1 3)] s) (F0 m 118 ls []) := by
          intro n_118
          induction n_118 with
          | zero => exact fun x11 fq fa fe fn ft fp fw fr fc v u H locs ls hr hW hl => absurd (show (none : Option (Int32)) = some r from hr) (fun h => by cases h)
          | succ n_118 ih_118 =>
            intro x11 fq fa fe fn ft fp fw fr fc v u H locs ls hr hW hl
            have hr : lpB_L_law_118 E w q  (lp_L_law_118 E w q  n_118) x11 fq fa fe fn ft fp fw fr fc v u = some r := hr
            unfold lpB_L_law_118 at hr
            refine lv_iload X.1 X.2.1 dL_law_118 (lv_at hl 11 rfl) ?_
            refine lv_bipush (v := 60) X.1 X.2.1 dL_law_120 (by decide) ?_
            refine z_cmpge X 728 hr dL_law_122 (by decide) (fun hr => ?_) (fun hr => ?_)
            · refine lv_iconst (v := 1) X.1 X.2.1 dL_law_728 (by decide) ?_
              exact law_end hA X hW dL_law_729
            · refine lv_aload_n X.1 X.2.1 dL_law_125 rfl (lv_at hl 0 rfl) ?_
              refine lv_iconst (v := 2) X.1 X.2.1 dL_law_126 (by decide) ?_
              refine lv_iload X.1 X.2.1 dL_law_127 (lv_at hl 11 rfl) ?_
              refine z_imul X hr dL_law_129 (fun t129 hr => ?_)
              have hp_130 := (show (((arW E Aq 19 fq) ++ ((arW E Aa 30 fa) ++ ((arW E Ae 30 fe) ++ ((arW E An 30 fn) ++ ((arW E At 30 ft) ++ ((arW E Ap 18 fp) ++ ((arW E Aw 16 fw) ++ ((arW E Ar 30 fr) ++ ((arW E Ac 24 fc) ++ ((xoW E a b) ++ ((hsW E (zh a 1) v) ++ ((rdW E (zh a 30) w) ++ ((hiW E (zh a 33) u) ++ (slW E b q))))))))))))))).Perm (([] : va_W) ++ ((arW E Aq 19 fq) ++ ((arW E Aa 30 fa) ++ ((arW E Ae 30 fe) ++ ((arW E An 30 fn) ++ ((arW E At 30 ft) ++ ((arW E Ap 18 fp) ++ ((arW E Aw 16 fw) ++ ((arW E Ar 30 fr) ++ ((arW E Ac 24 fc) ++ ((xoW E a b) ++ ((hsW E (zh a 1) v) ++ ((rdW E (zh a 30) w) ++ ((hiW E (zh a 33) u) ++ (slW E b q))))))))))))))) from List.Perm.refl _)
              refine z_callp X hW hr hp_130 (fun x h => z_runS (As := [.ref (E.2.2.2.1 3), .int t129]) (rest := []) X hW hp_130 (c_L_cell l E t129 x h _) hy_L_cell gL_law_L_cell rfl rfl ⟨by decide, by decide⟩ rfl hl rfl rfl (Nat.le_of_ble_eq_true rfl) dL_law_130 ⟨Nat.le_refl _, Nat.le_refl _⟩) (fun t130 H locs hr hW => ?_)
              refine lv_istore (lv' := [(12, .int t130), (0, .ref (E.2.2.2.1 3)), (1, .ref (a 0)), (2, .ref (Aq 0)), (3, .ref (Aa 0)), (4, .ref (Ae 0)), (5, .ref (An 0)), (6, .ref (At 0)), (7, .ref (Ap 0)), (8, .ref (Aw 0)), (9, .ref (Ar 0)), (10, .ref (Ac 0)), (11, .int x11)]) X.1 X.2.1 dL_law_133 hl (by decide) rfl (fun ls hl => ?_)
              refine lv_aload_n X.1 X.2.1 dL_law_135 rfl (lv_at hl 1 rfl) ?_
              refine lv_iconst (v := 2) X.1 X.2.1 dL_law_136 (by decide) ?_
              refine lv_iload X.1 X.2.1 dL_law_137 (lv_at hl 12 rfl) ?_
              refine z_imul X hr dL_law_139 (fun t139 hr => ?_)
              refine lv_iconst (v := 1) X.1 X.2.1 dL_law_140 (by decide) ?_
              refine z_iadd X hr dL_law_141 (fun t141 hr => ?_)
              have hp_142 := (show (((arW E Aq 19 fq) ++ ((arW E Aa 30 fa) ++ ((arW E Ae 30 fe) ++ ((arW E An 30 fn) ++ ((arW E At 30 ft) ++ ((arW E Ap 18 fp) ++ ((arW E Aw 16 fw) ++ ((arW E Ar 30 fr) ++ ((arW E Ac 24 fc) ++ ((xoW E a b) ++ ((hsW E (zh a 1) v) ++ ((rdW E (zh a 30) w) ++ ((hiW E (zh a 33) u) ++ (slW E b q))))))))))))))).Perm (([] : va_W) ++ ((arW E Aq 19 fq) ++ ((arW E Aa 30 fa) ++ ((arW E Ae 30 fe) ++ ((arW E An 30 fn) ++ ((arW E At 30 ft) ++ ((arW E Ap 18 fp) ++ ((arW E Aw 16 fw) ++ ((arW E Ar 30 fr) ++ ((arW E Ac 24 fc) ++ ((xoW E a b) ++ ((hsW E (zh a 1) v) ++ ((rdW E (zh a 30) w) ++ ((hiW E (zh a 33) u) ++ (slW E b q))))))))))))))) from List.Perm.refl _)
              refine z_callp X hW hr hp_142 (fun x h => z_runS (As := [.ref (E.2.2.2.1 3), .int t141]) (rest := []) X hW hp_142 (c_L_cell l E t141 x h _) hy_L_cell gL_law_L_cell rfl rfl ⟨by decide, by decide⟩ rfl hl rfl rfl (Nat.le_of_ble_eq_true rfl) dL_law_142 ⟨Nat.le_refl _, Nat.le_refl _⟩) (fun t142 H locs hr hW => ?_)
              refine lv_istore (lv' := [(13, .int t142), (12, .int t130), (0, .ref (E.2.2.2.1 3)), (1, .ref (a 0)), (2, .ref (Aq 0)), (3, .ref (Aa 0)), (4, .ref (Ae 0)), (5, .ref (An 0)), (6, .ref (At 0)), (7, .ref (Ap 0)), (8, .ref (Aw 0)), (9, .ref (Ar 0)), (10, .ref (Ac 0)), (11, .int x11)]) X.1 X.2.1 dL_law_145 hl (by decide) rfl (fun ls hl => ?_)
              refine lv_iload X.1 X.2.1 dL_law_147 (lv_at hl 1 rfl) ?_
              refine lv_bipush (v := 32) X.1 X.2.1 dL_law_149 (by decide) ?_
              have hp_151 := (show (((arW E Aq 19 fq) ++ ((arW E Aa 30 fa) ++ ((arW E Ae 30 fe) ++ ((arW E An 30 fn) ++ ((arW E At 30 ft) ++ ((arW E Ap 18 fp) ++ ((arW E Aw 16 fw) ++ ((arW E Ar 30 fr) ++ ((arW E Ac 24 fc) ++ ((xoW E a b) ++ ((hsW E (zh a 1) v) ++ ((rdW E (zh a 30) w) ++ ((hiW E (zh a 33) u) ++ (slW E b q))))))))))))))).Perm (([] : va_W) ++ ((arW E Aq 19 fq) ++ ((arW E Aa 30 fa) ++ ((arW E Ae 30 fe) ++ ((arW E An 30 fn) ++ ((arW E At 30 ft) ++ ((arW E Ap 18 fp) ++ ((arW E Aw 16 fw) ++ ((arW E Ar 30 fr) ++ ((arW E Ac 24 fc) ++ ((xoW E a b) ++ ((hsW E (zh a 1) v) ++ ((rdW E (zh a 30) w) ++ ((hiW E (zh a 33) u) ++ (slW E b q))))))))))))))) from List.Perm.refl _)
              refine z_callp X hW hr hp_151 (fun x h => z_runS (As := [.int t130, .int 32]) (rest := []) X hW hp_151 (c_L_low l E t130 32 x h _) hy_L_low gL_law_L_low rfl rfl ⟨by decide, by decide⟩ rfl hl rfl rfl (Nat.le_of_ble_eq_true rfl) dL_law_151 ⟨Nat.le_refl _, Nat.le_refl _⟩) (fun t151 H locs hr hW => ?_)
              refine lv_istore (lv' := [(14, .int t151), (13, .int t142), (12, .int t130), (0, .ref (E.2.2.2.1 3)), (1, .ref (a 0)), (2, .ref (Aq 0)), (3, .ref (Aa 0)), (4, .ref (Ae 0)), (5, .ref (An 0)), (6, .ref (At 0)), (7, .ref (Ap 0)), (8, .ref (Aw 0)), (9, .ref (Ar 0)), (10, .ref (Ac 0)), (11, .int x11)]) X.1 X.2.1 dL_law_154 hl (by decide) rfl (fun ls hl => ?_)
              refine lv_iload X.1 X.2.1 dL_law_156 (lv_at hl 0 rfl) ?_
              refine lv_bipush (v := 14) X.1 X.2.1 dL_law_158 (by decide) ?_
              obtain ⟨j_248, e_248, hr⟩ := zjn_some hr
              have J_248 : ∀ (x11 : Int32) (x12 : Int32) (x13 : Int32) (x14 : Int32) (s0 : Int32) (fq : Nat → Int32) (fa : Nat → Int32) (fe : Nat → Int32) (fn : Nat → Int32) (ft : Nat → Int32) (fp : Nat → Int32) (fw : Nat → Int32) (fr : Nat → Int32) (fc : Nat → Int32) (v : zHV) (u : zHI) (H : Heap) (locs : List Loc) (ls : Array Slot), j_248 x11 x12 x13 x14 s0 fq fa fe fn ft fp fw fr fc v u = some r → zW E A s ((arW E Aq 19 fq) ++ ((arW E Aa 30 fa) ++ ((arW E Ae 30 fe) ++ ((arW E An 30 fn) ++ ((arW E At 30 ft) ++ ((arW E Ap 18 fp) ++ ((arW E Aw 16 fw) ++ ((arW E Ar 30 fr) ++ ((arW E Ac 24 fc) ++ ((xoW E a b) ++ ((hsW E (zh a 1) v) ++ ((rdW E (zh a 30) w) ++ ((hiW E (zh a 33) u) ++ (slW E b q)))))))))))))) H locs → lv_has ls 22 [(0, .ref (E.2.2.2.1 3)), (1, .ref (a 0)), (2, .ref (Aq 0)), (3, .ref (Aa 0)), (4, .ref (Ae 0)), (5, .ref (An 0)), (6, .ref (At 0)), (7, .ref (Ap 0)), (8, .ref (Aw 0)), (9, .ref (Ar 0)), (10, .ref (Ac 0)), (11, .int x11), (12, .int x12), (13, .int x13), (14, .int x14)] → W p l e room_1 s m #[Value.ref (E.2.2.2.1 3)] below meth c H locs 600000 7302250 (lw_Z below #[Value.ref (E.2.2.2.1 3)] s) (F0 m 248 ls [.int s0]) := by
                intro x11 x12 x13 x14 s0 fq fa fe fn ft fp fw fr fc v u H locs ls hr hW hl
                rw [e_248] at hr
                refine lv_istore (lv' := [(14, .int s0), (0, .ref (E.2.2.2.1 3)), (1, .ref (a 0)), (2, .ref (Aq 0)), (3, .ref (Aa 0)), (4, .ref (Ae 0)), (5, .ref (An 0)), (6, .ref (At 0)), (7, .ref (Ap 0)), (8, .ref (Aw 0)), (9, .ref (Ar 0)), (10, .ref (Ac 0)), (11, .int x11), (12, .int x12), (13, .int x13)]) X.1 X.2.1 dL_law_248 hl (by decide) rfl (fun ls hl => ?_)
                refine lv_iload X.1 X.2.1 dL_law_250 (lv_at hl 0 rfl) ?_
                obtain ⟨j_320, e_320, hr⟩ := zjn_some hr
                have J_320 : ∀ (x11 : Int32) (x12 : Int32) (x13 : Int32) (x14 : Int32) (s0 : Int32) (fq : Nat → Int32) (fa : Nat → Int32) (fe : Nat → Int32) (fn : Nat → Int32) (ft : Nat → Int32) (fp : Nat → Int32) (fw : Nat → Int32) (fr : Nat → Int32) (fc : Nat → Int32) (v : zHV) (u : zHI) (H : Heap) (locs : List Loc) (ls : Array Slot), j_320 x11 x12 x13 x14 s0 fq fa fe fn ft fp fw fr fc v u = some r → zW E A s ((arW E Aq 19 fq) ++ ((arW E Aa 30 fa) ++ ((arW E Ae 30 fe) ++ ((arW E An 30 fn) ++ ((arW E At 30 ft) ++ ((arW E Ap 18 fp) ++ ((arW E Aw 16 fw) ++ ((arW E Ar 30 fr) ++ ((arW E Ac 24 fc) ++ ((xoW E a b) ++ ((hsW E (zh a 1) v) ++ ((rdW E (zh a 30) w) ++ ((hiW E (zh a 33) u) ++ (slW E b q)))))))))))))) H locs → lv_has ls 22 [(0, .ref (E.2.2.2.1 3)), (1, .ref (a 0)), (2, .ref (Aq 0)), (3, .ref (Aa 0)), (4, .ref (Ae 0)), (5, .ref (An 0)), (6, .ref (At 0)), (7, .ref (Ap 0)), (8, .ref (Aw 0)), (9, .ref (Ar 0)), (10, .ref (Ac 0)), (11, .int x11), (12, .int x12), (13, .int x13), (14, .int x14)] → W p l e room_1 s m #[Value.ref (E.2.2.2.1 3)] below meth c H locs 600000 7302250 (lw_Z below #[Value.ref (E.2.2.2.1 3)] s) (F0 m 320 ls [.int s0]) := by
                  intro x11 x12 x13 x14 s0 fq fa fe fn ft fp fw fr fc v u H locs ls hr hW hl
                  rw [e_320] at hr
                  refine lv_istore (lv' := [(15, .int s0), (0, .ref (E.2.2.2.1 3)), (1, .ref (a 0)), (2, .ref (Aq 0)), (3, .ref (Aa 0)), (4, .ref (Ae 0)), (5, .ref (An 0)), (6, .ref (At 0)), (7, .ref (Ap 0)), (8, .ref (Aw 0)), (9, .ref (Ar 0)), (10, .ref (Ac 0)), (11, .int x11), (12, .int x12), (13, .int x13), (14, .int x14)]) X.1 X.2.1 dL_law_320 hl (by decide) rfl (fun ls hl => ?_)
                  refine lv_iload X.1 X.2.1 dL_law_322 (lv_at hl 15 rfl) ?_
                  refine lv_bipush (v := 6) X.1 X.2.1 dL_law_324 (by decide) ?_
                  obtain ⟨j_452, e_452, hr⟩ := zjn_some hr
                  have J_452 : ∀ (x11 : Int32) (x12 : Int32) (x13 : Int32) (x14 : Int32) (x15 : Int32) (s0 : Int32) (fq : Nat → Int32) (fa : Nat → Int32) (fe : Nat → Int32) (fn : Nat → Int32) (ft : Nat → Int32) (fp : Nat → Int32) (fw : Nat → Int32) (fr : Nat → Int32) (fc : Nat → Int32) (v : zHV) (u : zHI) (H : Heap) (locs : List Loc) (ls : Array Slot), j_452 x11 x12 x13 x14 x15 s0 fq fa fe fn ft fp fw fr fc v u = some r → zW E A s ((arW E Aq 19 fq) ++ ((arW E Aa 30 fa) ++ ((arW E Ae 30 fe) ++ ((arW E An 30 fn) ++ ((arW E At 30 ft) ++ ((arW E Ap 18 fp) ++ ((arW E Aw 16 fw) ++ ((arW E Ar 30 fr) ++ ((arW E Ac 24 fc) ++ ((xoW E a b) ++ ((hsW E (zh a 1) v) ++ ((rdW E (zh a 30) w) ++ ((hiW E (zh a 33) u) ++ (slW E b q)))))))))))))) H locs → lv_has ls 22 [(0, .ref (E.2.2.2.1 3)), (1, .ref (a 0)), (2, .ref (Aq 0)), (3, .ref (Aa 0)), (4, .ref (Ae 0)), (5, .ref (An 0)), (6, .ref (At 0)), (7, .ref (Ap 0)), (8, .ref (Aw 0)), (9, .ref (Ar 0)), (10, .ref (Ac 0)), (11, .int x11), (12, .int x12), (13, .int x13), (14, .int x14), (15, .int x15)] → W p l e room_1 s m #[Value.ref (E.2.2.2.1 3)] below meth c H locs 600000 7302250 (lw_Z below #[Value.ref (E.2.2.2.1 3)] s) (F0 m 452 ls [.int s0]) := by
                    intro x11 x12 x13 x14 x15 s0 fq fa fe fn ft fp fw fr fc v u H locs ls hr hW hl
                    rw [e_452] at hr
                    refine lv_istore (lv' := [(16, .int s0), (0, .ref (E.2.2.2.1 3)), (1, .ref (a 0)), (2, .ref (Aq 0)), (3, .ref (Aa 0)), (4, .ref (Ae 0)), (5, .ref (An 0)), (6, .ref (At 0)), (7, .ref (Ap 0)), (8, .ref (Aw 0)), (9, .ref (Ar 0)), (10, .ref (Ac 0)), (11, .int x11), (12, .int x12), (13, .int x13), (14, .int x14), (15, .int x15)]) X.1 X.2.1 dL_law_452 hl (by decide) rfl (fun ls hl => ?_)
                    refine lv_aload_n X.1 X.2.1 dL_law_454 rfl (lv_at hl 2 rfl) ?_
                    have hp_455 := (z_spr (arW E Aq 19 fq) (z_spr (arW E Aa 30 fa) (z_spr (arW E Ae 30 fe) (z_spr (arW E An 30 fn) (z_spr (arW E At 30 ft) (z_spr (arW E Ap 18 fp) (z_spr (arW E Aw 16 fw) (z_spr (arW E Ar 30 fr) (z_spr (arW E Ac 24 fc) (z_sp2 (z_all (xoW E a b)) (z_sp2 (z_all (hsW E (zh a 1) v)) (z_sp2 (z_all (rdW E (zh a 30) w)) (z_sp2 (z_all (hiW E (zh a 33) u)) (z_all (slW E b q)))))))))))))))
                    refine z_calll X hW hr hp_455 (fun x h => z_runS (As := [.ref (a 0)]) (rest := []) X hW hp_455 (c_L_told l E a b v w u q x h _) hy_L_told gL_law_L_told rfl rfl ⟨by decide, by decide⟩ rfl hl rfl rfl (Nat.le_of_ble_eq_true rfl) dL_law_455 ⟨Nat.le_refl _, Nat.le_refl _⟩) (fun t455 H locs hr hW => ?_)
                    refine lv_lstore (lv' := [(17, .long t455), (16, .int s0), (0, .ref (E.2.2.2.1 3)), (1, .ref (a 0)), (2, .ref (Aq 0)), (3, .ref (Aa 0)), (4, .ref (Ae 0)), (5, .ref (An 0)), (6, .ref (At 0)), (7, .ref (Ap 0)), (8, .ref (Aw 0)), (9, .ref (Ar 0)), (10, .ref (Ac 0)), (11, .int x11), (12, .int x12), (13, .int x13), (14, .int x14), (15, .int x15)]) X.1 X.2.1 dL_law_458 hl (by decide) rfl (fun ls hl => ?_)
                    refine lv_aload_n X.1 X.2.1 dL_law_460 rfl (lv_at hl 3 rfl) ?_
                    refine lv_iload X.1 X.2.1 dL_law_461 (lv_at hl 16 rfl) ?_
                    refine lv_iload X.1 X.2.1 dL_law_463 (lv_at hl 17 rfl) ?_
                    refine lv_iload X.1 X.2.1 dL_law_465 (lv_at hl 1 rfl) ?_
                    have hp_467 := (z_spr (arW E Aq 19 fq) (z_spr (arW E Aa 30 fa) (z_spr (arW E Ae 30 fe) (z_spr (arW E An 30 fn) (z_spr (arW E At 30 ft) (z_spr (arW E Ap 18 fp) (z_spr (arW E Aw 16 fw) (z_spr (arW E Ar 30 fr) (z_spr (arW E Ac 24 fc) (z_sp2 (z_all (xoW E a b)) (z_sp2 (z_all (hsW E (zh a 1) v)) (z_sp2 (z_all (rdW E (zh a 30) w)) (z_sp2 (z_all (hiW E (zh a 33) u)) (z_all (slW E b q)))))))))))))))
                    refine z_calli X hW (fun z9 => (z9.1, z9.2)) hr hp_467 (fun z9 => ((xoW E a b) ++ ((hsW E (zh a 1) z9.1) ++ ((rdW E (zh a 30) w) ++ ((hiW E (zh a 33) z9.2) ++ (slW E b q)))))) (fun u467 => ((arW E Aq 19 fq) ++ ((arW E Aa 30 fa) ++ ((arW E Ae 30 fe) ++ ((arW E An 30 fn) ++ ((arW E At 30 ft) ++ ((arW E Ap 18 fp) ++ ((arW E Aw 16 fw) ++ ((arW E Ar 30 fr) ++ ((arW E Ac 24 fc) ++ ((xoW E a b) ++ ((hsW E (zh a 1) u467.1) ++ ((rdW E (zh a 30) w) ++ ((hiW E (zh a 33) u467.2) ++ (slW E b q))))))))))))))) (fun z9 => (z_jnr (arW E Aq 19 fq) (z_jnr (arW E Aa 30 fa) (z_jnr (arW E Ae 30 fe) (z_jnr (arW E An 30 fn) (z_jnr (arW E At 30 ft) (z_jnr (arW E Ap 18 fp) (z_jnr (arW E Aw 16 fw) (z_jnr (arW E Ar 30 fr) (z_jnr (arW E Ac 24 fc) (z_jn2 (z_lla (xoW E a b)) (z_jn2 (z_lla (hsW E (zh a 1) z9.1)) (z_jn2 (z_lla (rdW E (zh a 30) w)) (z_jn2 (z_lla (hiW E (zh a 33) z9.2)) (z_lla (slW E b q)))))))))))))))) (fun x z9 h => z_runS (As := [.ref (a 0), .int x14, .int x15, .int s0]) (rest := []) X hW hp_467 (c_L_call l E a b v w u q x14 x15 s0 (x, z9) h _) hy_L_call gL_law_L_call rfl rfl ⟨by decide, by decide⟩ rfl hl rfl rfl (Nat.le_of_ble_eq_true rfl) dL_law_467 ⟨Nat.le_refl _, Nat.le_refl _⟩) (fun t467 u467 H locs hr hW => ?_)
                    refine lv_istore (lv' := [(19, .int t467), (17, .long t455), (16, .int s0), (0, .ref (E.2.2.2.1 3)), (1, .ref (a 0)), (2, .ref (Aq 0)), (3, .ref (Aa 0)), (4, .ref (Ae 0)), (5, .ref (An 0)), (6, .ref (At 0)), (7, .ref (Ap 0)), (8, .ref (Aw 0)), (9, .ref (Ar 0)), (10, .ref (Ac 0)), (11, .int x11), (12, .int x12), (13, .int x13), (14, .int x14), (15, .int x15)]) X.1 X.2.1 dL_law_470 hl (by decide) rfl (fun ls hl => ?_)
                    refine lv_iload X.1 X.2.1 dL_law_472 (lv_at hl 0 rfl) ?_
                    obtain ⟨j_534, e_534, hr⟩ := zjn_some hr
                    have J_534 : ∀ (x11 : Int32) (x12 : Int32) (x13 : Int32) (x14 : Int32) (x15 : Int32) (x16 : Int32) (x17 : Int64) (x19 : Int32) (fq : Nat → Int32) (fa : Nat → Int32) (fe : Nat → Int32) (fn : Nat → Int32) (ft : Nat → Int32) (fp : Nat → Int32) (fw : Nat → Int32) (fr : Nat → Int32) (fc : Nat → Int32) (v : zHV) (u : zHI) (H : Heap) (locs : List Loc) (ls : Array Slot), j_534 x11 x12 x13 x14 x15 x16 x17 x19 fq fa fe fn ft fp fw fr fc v u = some r → zW E A s ((arW E Aq 19 fq) ++ ((arW E Aa 30 fa) ++ ((arW E Ae 30 fe) ++ ((arW E An 30 fn) ++ ((arW E At 30 ft) ++ ((arW E Ap 18 fp) ++ ((arW E Aw 16 fw) ++ ((arW E Ar 30 fr) ++ ((arW E Ac 24 fc) ++ ((xoW E a b) ++ ((hsW E (zh a 1) v) ++ ((rdW E (zh a 30) w) ++ ((hiW E (zh a 33) u) ++ (slW E b q)))))))))))))) H locs → lv_has ls 22 [(0, .ref (E.2.2.2.1 3)), (1, .ref (a 0)), (2, .ref (Aq 0)), (3, .ref (Aa 0)), (4, .ref (Ae 0)), (5, .ref (An 0)), (6, .ref (At 0)), (7, .ref (Ap 0)), (8, .ref (Aw 0)), (9, .ref (Ar 0)), (10, .ref (Ac 0)), (11, .int x11), (12, .int x12), (13, .int x13), (14, .int x14), (15, .int x15), (16, .int x16), (17, .long x17), (19, .int x19)] → W p l e room_1 s m #[Value.ref (E.2.2.2.1 3)] below meth c H locs 600000 7302250 (lw_Z below #[Value.ref (E.2.2.2.1 3)] s) (F0 m 534 ls []) := by
                      intro x11 x12 x13 x14 x15 x16 x17 x19 fq fa fe fn ft fp fw fr fc v u H locs ls hr hW hl
                      rw [e_534] at hr
                      refine lv_iconst (v := 0) X.1 X.2.1 dL_law_534 (by decide) ?_
                      refine lv_istore (lv' := [(20, .int 0), (0, .ref (E.2.2.2.1 3)), (1, .ref (a 0)), (2, .ref (Aq 0)), (3, .ref (Aa 0)), (4, .ref (Ae 0)), (5, .ref (An 0)), (6, .ref (At 0)), (7, .ref (Ap 0)), (8, .ref (Aw 0)), (9, .ref (Ar 0)), (10, .ref (Ac 0)), (11, .int x11), (12, .int x12), (13, .int x13), (14, .int x14), (15, .int x15), (16, .int x16), (17, .long x17), (19, .int x19)]) X.1 X.2.1 dL_law_535 hl (by decide) rfl (fun ls hl => ?_)
                      refine lv_iload X.1 X.2.1 dL_law_537 (lv_at hl 15 rfl) ?_
                      obtain ⟨j_686, e_686, hr⟩ := zjn_some hr
                      have J_686 : ∀ (x11 : Int32) (x12 : Int32) (x13 : Int32) (x14 : Int32) (x15 : Int32) (x16 : Int32) (x17 : Int64) (x19 : Int32) (x20 : Int32) (fq : Nat → Int32) (fa : Nat → Int32) (fe : Nat → Int32) (fn : Nat → Int32) (ft : Nat → Int32) (fp : Nat → Int32) (fw : Nat → Int32) (fr : Nat → Int32) (fc : Nat → Int32) (v : zHV) (u : zHI) (H : Heap) (locs : List Loc) (ls : Array Slot), j_686 x11 x12 x13 x14 x15 x16 x17 x19 x20 fq fa fe fn ft fp fw fr fc v u = some r → zW E A s ((arW E Aq 19 fq) ++ ((arW E Aa 30 fa) ++ ((arW E Ae 30 fe) ++ ((arW E An 30 fn) ++ ((arW E At 30 ft) ++ ((arW E Ap 18 fp) ++ ((arW E Aw 16 fw) ++ ((arW E Ar 30 fr) ++ ((arW E Ac 24 fc) ++ ((xoW E a b) ++ ((hsW E (zh a 1) v) ++ ((rdW E (zh a 30) w) ++ ((hiW E (zh a 33) u) ++ (slW E b q)))))))))))))) H locs → lv_has ls 22 [(0, .ref (E.2.2.2.1 3)), (1, .ref (a 0)), (2, .ref (Aq 0)), (3, .ref (Aa 0)), (4, .ref (Ae 0)), (5, .ref (An 0)), (6, .ref (At 0)), (7, .ref (Ap 0)), (8, .ref (Aw 0)), (9, .ref (Ar 0)), (10, .ref (Ac 0)), (11, .int x11), (12, .int x12), (13, .int x13), (14, .int x14), (15, .int x15), (16, .int x16), (17, .long x17), (19, .int x19), (20, .int x20)] → W p l e room_1 s m #[Value.ref (E.2.2.2.1 3)] below meth c H locs 600000 7302250 (lw_Z below #[Value.ref (E.2.2.2.1 3)] s) (F0 m 686 ls []) := by
                        intro x11 x12 x13 x14 x15 x16 x17 x19 x20 fq fa fe fn ft fp fw fr fc v u H locs ls hr hW hl
                        rw [e_686] at hr
                        refine lv_iload X.1 X.2.1 dL_law_686 (lv_at hl 18 rfl) ?_
                        refine lv_iload X.1 X.2.1 dL_law_688 (lv_at hl 19 rfl) ?_
                        refine z_cmpne X 720 hr dL_law_690 (by decide) (fun hr => ?_) (fun hr => ?_)
                        · refine lv_iconst (v := 0) X.1 X.2.1 dL_law_720 (by decide) ?_
                          exact absurd (Option.some.inj hr) (by rw [h1]; decide)
                        · refine lv_aload_n X.1 X.2.1 dL_law_693 rfl (lv_at hl 1 rfl) ?_
                          refine lv_iload X.1 X.2.1 dL_law_694 (lv_at hl 12 rfl) ?_
                          refine lv_iconst (v := 5) X.1 X.2.1 dL_law_696 (by decide) ?_
                          refine z_ishr X hr dL_law_697 (fun t697 hr => ?_)
                          refine lv_aload_n X.1 X.2.1 dL_law_698 rfl (lv_at hl 2 rfl) ?_
                          refine lv_aload_n X.1 X.2.1 dL_law_699 rfl (lv_at hl 3 rfl) ?_
                          refine lv_aload X.1 X.2.1 dL_law_700 (lv_at hl 4 rfl) ?_
                          refine lv_aload X.1 X.2.1 dL_law_702 (lv_at hl 5 rfl) ?_
                          refine lv_aload X.1 X.2.1 dL_law_704 (lv_at hl 6 rfl) ?_
                          refine lv_aload X.1 X.2.1 dL_law_706 (lv_at hl 7 rfl) ?_
                          refine lv_aload X.1 X.2.1 dL_law_708 (lv_at hl 8 rfl) ?_
                          refine lv_aload X.1 X.2.1 dL_law_710 (lv_at hl 9 rfl) ?_
                          refine lv_aload X.1 X.2.1 dL_law_712 (lv_at hl 10 rfl) ?_
                          have hp_714 := (z_sp2 (z_all (arW E Aq 19 fq)) (z_sp2 (z_all (arW E Aa 30 fa)) (z_sp2 (z_all (arW E Ae 30 fe)) (z_sp2 (z_all (arW E An 30 fn)) (z_sp2 (z_all (arW E At 30 ft)) (z_sp2 (z_all (arW E Ap 18 fp)) (z_sp2 (z_all (arW E Aw 16 fw)) (z_sp2 (z_all (arW E Ar 30 fr)) (z_sp2 (z_all (arW E Ac 24 fc)) (z_sp2 (z_all (xoW E a b)) (z_sp2 (z_all (hsW E (zh a 1) v)) (z_sp2 (z_all (rdW E (zh a 30) w)) (z_sp2 (z_all (hiW E (zh a 33) u)) (z_all (slW E b q)))))))))))))))
                          refine z_callp X hW hr hp_714 (fun x h => z_runS (As := [.ref (a 0), .int t697, .ref (Aq 0), .ref (Aa 0), .ref (Ae 0), .ref (An 0), .ref (At 0), .ref (Ap 0), .ref (Aw 0), .ref (Ar 0), .ref (Ac 0)]) (rest := []) X hW hp_714 (c_L_isSo l E Aq Aa Ae An At Ap Aw Ar Ac a b fq fa fe fn ft fp fw fr fc v w u q t697 x h _) hy_L_isSo gL_law_L_isSo rfl rfl ⟨by decide, by decide⟩ rfl hl rfl rfl (Nat.le_of_ble_eq_true rfl) dL_law_714 ⟨Nat.le_refl _, Nat.le_refl _⟩) (fun t714 H locs hr hW => ?_)
                          refine z_ifne X 722 hr dL_law_717 (by decide) (fun hr => ?_) (fun hr => ?_)
                          · refine z_iinc X (fun x11_722 => [(11, .int x11_722), (0, .ref (E.2.2.2.1 3)), (1, .ref (a 0)), (2, .ref (Aq 0)), (3, .ref (Aa 0)), (4, .ref (Ae 0)), (5, .ref (An 0)), (6, .ref (At 0)), (7, .ref (Ap 0)), (8, .ref (Aw 0)), (9, .ref (Ar 0)), (10, .ref (Ac 0)), (12, .int x12), (13, .int x13), (14, .int x14), (15, .int x15), (16, .int x16), (17, .long x17), (19, .int x19), (20, .int x20)]) hr hl (k := 11) rfl (by decide) (fun _ => rfl) dL_law_722 (fun x11_722 ls hr hl => ?_)
                            refine lv_goto (tgt := 118) X.1 X.2.1 dL_law_725 (by decide) ?_
                            exact ih_118 x11_722 fq fa fe fn ft fp fw fr fc v u _ _ _ hr hW (lv_sub hl [1, 2, 3, 4, 5, 6, 7, 8, 9, 10, 11, 0] rfl)
                          · refine lv_iconst (v := 0) X.1 X.2.1 dL_law_720 (by decide) ?_
                            exact absurd (Option.some.inj hr) (by rw [h1]; decide)
                      refine z_ifne X 566 hr dL_law_539 (by decide) (fun hr => ?_) (fun hr => ?_)
                      · refine lv_iload X.1 X.2.1 dL_law_566 (lv_at hl 15 rfl) ?_
                        refine lv_iconst (v := 1) X.1 X.2.1 dL_law_568 (by decide) ?_
                        refine z_cmpne X 586 hr dL_law_569 (by decide) (fun hr => ?_) (fun hr => ?_)
                        · refine lv_iload X.1 X.2.1 dL_law_586 (lv_at hl 15 rfl) ?_
                          refine lv_iconst (v := 2) X.1 X.2.1 dL_law_588 (by decide) ?_
                          refine z_cmpne X 625 hr dL_law_589 (by decide) (fun hr => ?_) (fun hr => ?_)
                          · refine lv_iload X.1 X.2.1 dL_law_625 (lv_at hl 15 rfl) ?_
                            refine lv_iconst (v := 3) X.1 X.2.1 dL_law_627 (by decide) ?_
                            refine z_cmpne X 647 hr dL_law_628 (by decide) (fun hr => ?_) (fun hr => ?_)
                            · refine lv_iload X.1 X.2.1 dL_law_647 (lv_at hl 15 rfl) ?_
                              refine lv_iconst (v := 5) X.1 X.2.1 dL_law_649 (by decide) ?_
                              refine z_cmpne X 671 hr dL_law_650 (by decide) (fun hr => ?_) (fun hr => ?_)
                              · refine lv_iload X.1 X.2.1 dL_law_671 (lv_at hl 15 rfl) ?_
                                refine lv_iload X.1 X.2.1 dL_law_673 (lv_at hl 16 rfl) ?_
                                refine lv_iload X.1 X.2.1 dL_law_675 (lv_at hl 17 rfl) ?_
                                refine lv_aload_n X.1 X.2.1 dL_law_677 rfl (lv_at hl 3 rfl) ?_
                                refine lv_aload_n X.1 X.2.1 dL_law_678 rfl (lv_at hl 4 rfl) ?_
                                refine lv_aload X.1 X.2.1 dL_law_679 (lv_at hl 5 rfl) ?_
                                have hp_681 := (z_sp2 (z_all (arW E Aq 19 fq)) (z_sp2 (z_all (arW E Aa 30 fa)) (z_spl ((arW E An 30 fn) ++ ((arW E At 30 ft) ++ ((arW E Ap 18 fp) ++ ((arW E Aw 16 fw) ++ ((arW E Ar 30 fr) ++ ((arW E Ac 24 fc) ++ ((xoW E a b) ++ ((hsW E (zh a 1) v) ++ ((rdW E (zh a 30) w) ++ ((hiW E (zh a 33) u) ++ (slW E b q))))))))))) (z_all (arW E Ae 30 fe)))))
                                refine z_calli X hW (fun z9 => (z9.1, z9.2)) hr hp_681 (fun z9 => ((arW E Aq 19 z9.1) ++ ((arW E Aa 30 z9.2) ++ (arW E Ae 30 fe)))) (fun u681 => ((arW E Aq 19 u681.1) ++ ((arW E Aa 30 u681.2) ++ ((arW E Ae 30 fe) ++ ((arW E An 30 fn) ++ ((arW E At 30 ft) ++ ((arW E Ap 18 fp) ++ ((arW E Aw 16 fw) ++ ((arW E Ar 30 fr) ++ ((arW E Ac 24 fc) ++ ((xoW E a b) ++ ((hsW E (zh a 1) v) ++ ((rdW E (zh a 30) w) ++ ((hiW E (zh a 33) u) ++ (slW E b q))))))))))))))) (fun z9 => (z_jn2 (z_lla (arW E Aq 19 z9.1)) (z_jn2 (z_lla (arW E Aa 30 z9.2)) (z_jnl ((arW E An 30 fn) ++ ((arW E At 30 ft) ++ ((arW E Ap 18 fp) ++ ((arW E Aw 16 fw) ++ ((arW E Ar 30 fr) ++ ((arW E Ac 24 fc) ++ ((xoW E a b) ++ ((hsW E (zh a 1) v) ++ ((rdW E (zh a 30) w) ++ ((hiW E (zh a 33) u) ++ (slW E b q))))))))))) (z_lla (arW E Ae 30 fe)))))) (fun x z9 h => z_runS (As := [.int x14, .int x15, .int x16, .ref (Aq 0), .ref (Aa 0), .ref (Ae 0)]) (rest := []) X hW hp_681 (c_L_ofRest l E Aq Aa Ae fq fa fe x14 x15 x16 (x, z9) h _) hy_L_ofRest gL_law_L_ofRest rfl rfl ⟨by decide, by decide⟩ rfl hl rfl rfl (Nat.le_of_ble_eq_true rfl) dL_law_681 ⟨Nat.le_refl _, Nat.le_refl _⟩) (fun t681 u681 H locs hr hW => ?_)
                                refine lv_istore (lv' := [(20, .int t681), (0, .ref (E.2.2.2.1 3)), (1, .ref (a 0)), (2, .ref (Aq 0)), (3, .ref (Aa 0)), (4, .ref (Ae 0)), (5, .ref (An 0)), (6, .ref (At 0)), (7, .ref (Ap 0)), (8, .ref (Aw 0)), (9, .ref (Ar 0)), (10, .ref (Ac 0)), (11, .int x11), (12, .int x12), (13, .int x13), (14, .int x14), (15, .int x15), (16, .int x16), (17, .long x17), (19, .int x19)]) X.1 X.2.1 dL_law_684 hl (by decide) rfl (fun ls hl => ?_)
                                exact J_686 x11 x12 x13 x14 x15 x16 x17 x19 t681 u681.1 u681.2 fe fn ft fp fw fr fc v u _ _ _ hr hW (lv_sub hl [1, 2, 3, 4, 5, 6, 7, 8, 9, 10, 11, 12, 13, 14, 15, 16, 17, 18, 19, 0] rfl)
                              · refine lv_aload_n X.1 X.2.1 dL_law_653 rfl (lv_at hl 3 rfl) ?_
                                refine lv_aload_n X.1 X.2.1 dL_law_654 rfl (lv_at hl 4 rfl) ?_
                                refine lv_aload X.1 X.2.1 dL_law_655 (lv_at hl 6 rfl) ?_
                                refine lv_aload X.1 X.2.1 dL_law_657 (lv_at hl 8 rfl) ?_
                                refine lv_aload X.1 X.2.1 dL_law_659 (lv_at hl 9 rfl) ?_
                                refine lv_aload X.1 X.2.1 dL_law_661 (lv_at hl 11 rfl) ?_
                                have hp_663 := (z_sp2 (z_all (arW E Aq 19 fq)) (z_sp2 (z_all (arW E Aa 30 fa)) (z_spr (arW E Ae 30 fe) (z_sp2 (z_all (arW E An 30 fn)) (z_spr (arW E At 30 ft) (z_sp2 (z_all (arW E Ap 18 fp)) (z_sp2 (z_all (arW E Aw 16 fw)) (z_spr (arW E Ar 30 fr) (z_spl ((xoW E a b) ++ ((hsW E (zh a 1) v) ++ ((rdW E (zh a 30) w) ++ ((hiW E (zh a 33) u) ++ (slW E b q))))) (z_all (arW E Ac 24 fc)))))))))))
                                refine z_calli X hW (fun z9 => (z9.1, z9.2.1, z9.2.2.1, z9.2.2.2.1, z9.2.2.2.2)) hr hp_663 (fun z9 => ((arW E Aq 19 z9.1) ++ ((arW E Aa 30 z9.2.1) ++ ((arW E An 30 z9.2.2.1) ++ ((arW E Ap 18 z9.2.2.2.1) ++ ((arW E Aw 16 fw) ++ (arW E Ac 24 z9.2.2.2.2))))))) (fun u663 => ((arW E Aq 19 u663.1) ++ ((arW E Aa 30 u663.2.1) ++ ((arW E Ae 30 fe) ++ ((arW E An 30 u663.2.2.1) ++ ((arW E At 30 ft) ++ ((arW E Ap 18 u663.2.2.2.1) ++ ((arW E Aw 16 fw) ++ ((arW E Ar 30 fr) ++ ((arW E Ac 24 u663.2.2.2.2) ++ ((xoW E a b) ++ ((hsW E (zh a 1) v) ++ ((rdW E (zh a 30) w) ++ ((hiW E (zh a 33) u) ++ (slW E b q))))))))))))))) (fun z9 => (z_jn2 (z_lla (arW E Aq 19 z9.1)) (z_jn2 (z_lla (arW E Aa 30 z9.2.1)) (z_jnr (arW E Ae 30 fe) (z_jn2 (z_lla (arW E An 30 z9.2.2.1)) (z_jnr (arW E At 30 ft) (z_jn2 (z_lla (arW E Ap 18 z9.2.2.2.1)) (z_jn2 (z_lla (arW E Aw 16 fw)) (z_jnr (arW E Ar 30 fr) (z_jnl ((xoW E a b) ++ ((hsW E (zh a 1) v) ++ ((rdW E (zh a 30) w) ++ ((hiW E (zh a 33) u) ++ (slW E b q))))) (z_lla (arW E Ac 24 z9.2.2.2.2)))))))))))) (fun x z9 h => z_runS (As := [.ref (Aq 0), .ref (Aa 0), .ref (An 0), .ref (Ap 0), .ref (Aw 0), .ref (Ac 0)]) (rest := []) X hW hp_663 (c_L_nights l E Aq Aa An Ap Aw Ac fq fa fn fp fw fc (x, z9) h _) hy_L_nights gL_law_L_nights rfl rfl ⟨by decide, by decide⟩ rfl hl rfl rfl (Nat.le_of_ble_eq_true rfl) dL_law_663 ⟨Nat.le_refl _, Nat.le_refl _⟩) (fun t663 u663 H locs hr hW => ?_)
                                refine lv_istore (lv' := [(20, .int t663), (0, .ref (E.2.2.2.1 3)), (1, .ref (a 0)), (2, .ref (Aq 0)), (3, .ref (Aa 0)), (4, .ref (Ae 0)), (5, .ref (An 0)), (6, .ref (At 0)), (7, .ref (Ap 0)), (8, .ref (Aw 0)), (9, .ref (Ar 0)), (10, .ref (Ac 0)), (11, .int x11), (12, .int x12), (13, .int x13), (14, .int x14), (15, .int x15), (16, .int x16), (17, .long x17), (19, .int x19)]) X.1 X.2.1 dL_law_666 hl (by decide) rfl (fun ls hl => ?_)
                                refine lv_goto (tgt := 686) X.1 X.2.1 dL_law_668 (by decide) ?_
                                exact J_686 x11 x12 x13 x14 x15 x16 x17 x19 t663 u663.1 u663.2.1 fe u663.2.2.1 ft u663.2.2.2.1 fw fr u663.2.2.2.2 v u _ _ _ hr hW (lv_sub hl [1, 2, 3, 4, 5, 6, 7, 8, 9, 10, 11, 12, 13, 14, 15, 16, 17, 18, 19, 0] rfl)
                            · refine lv_iload X.1 X.2.1 dL_law_631 (lv_at hl 16 rfl) ?_
                              refine lv_aload_n X.1 X.2.1 dL_law_633 rfl (lv_at hl 3 rfl) ?_
                              refine lv_aload_n X.1 X.2.1 dL_law_634 rfl (lv_at hl 4 rfl) ?_
                              refine lv_aload X.1 X.2.1 dL_law_635 (lv_at hl 8 rfl) ?_
                              refine lv_aload X.1 X.2.1 dL_law_637 (lv_at hl 9 rfl) ?_
                              have hp_639 := (z_sp2 (z_all (arW E Aq 19 fq)) (z_sp2 (z_all (arW E Aa 30 fa)) (z_spr (arW E Ae 30 fe) (z_spr (arW E An 30 fn) (z_spr (arW E At 30 ft) (z_sp2 (z_all (arW E Ap 18 fp)) (z_spl ((arW E Ar 30 fr) ++ ((arW E Ac 24 fc) ++ ((xoW E a b) ++ ((hsW E (zh a 1) v) ++ ((rdW E (zh a 30) w) ++ ((hiW E (zh a 33) u) ++ (slW E b q))))))) (z_all (arW E Aw 16 fw)))))))))
                              refine z_calli X hW (fun z9 => (z9.1, z9.2.1, z9.2.2.1, z9.2.2.2)) hr hp_639 (fun z9 => ((arW E Aq 19 z9.1) ++ ((arW E Aa 30 z9.2.1) ++ ((arW E Ap 18 z9.2.2.1) ++ (arW E Aw 16 z9.2.2.2))))) (fun u639 => ((arW E Aq 19 u639.1) ++ ((arW E Aa 30 u639.2.1) ++ ((arW E Ae 30 fe) ++ ((arW E An 30 fn) ++ ((arW E At 30 ft) ++ ((arW E Ap 18 u639.2.2.1) ++ ((arW E Aw 16 u639.2.2.2) ++ ((arW E Ar 30 fr) ++ ((arW E Ac 24 fc) ++ ((xoW E a b) ++ ((hsW E (zh a 1) v) ++ ((rdW E (zh a 30) w) ++ ((hiW E (zh a 33) u) ++ (slW E b q))))))))))))))) (fun z9 => (z_jn2 (z_lla (arW E Aq 19 z9.1)) (z_jn2 (z_lla (arW E Aa 30 z9.2.1)) (z_jnr (arW E Ae 30 fe) (z_jnr (arW E An 30 fn) (z_jnr (arW E At 30 ft) (z_jn2 (z_lla (arW E Ap 18 z9.2.2.1)) (z_jnl ((arW E Ar 30 fr) ++ ((arW E Ac 24 fc) ++ ((xoW E a b) ++ ((hsW E (zh a 1) v) ++ ((rdW E (zh a 30) w) ++ ((hiW E (zh a 33) u) ++ (slW E b q))))))) (z_lla (arW E Aw 16 z9.2.2.2)))))))))) (fun x z9 h => z_runS (As := [.int x15, .ref (Aq 0), .ref (Aa 0), .ref (Ap 0), .ref (Aw 0)]) (rest := []) X hW hp_639 (c_L_plays l E Aq Aa Ap Aw fq fa fp fw x15 (x, z9) h _) hy_L_plays gL_law_L_plays rfl rfl ⟨by decide, by decide⟩ rfl hl rfl rfl (Nat.le_of_ble_eq_true rfl) dL_law_639 ⟨Nat.le_refl _, Nat.le_refl _⟩) (fun t639 u639 H locs hr hW => ?_)
                              refine lv_istore (lv' := [(20, .int t639), (0, .ref (E.2.2.2.1 3)), (1, .ref (a 0)), (2, .ref (Aq 0)), (3, .ref (Aa 0)), (4, .ref (Ae 0)), (5, .ref (An 0)), (6, .ref (At 0)), (7, .ref (Ap 0)), (8, .ref (Aw 0)), (9, .ref (Ar 0)), (10, .ref (Ac 0)), (11, .int x11), (12, .int x12), (13, .int x13), (14, .int x14), (15, .int x15), (16, .int x16), (17, .long x17), (19, .int x19)]) X.1 X.2.1 dL_law_642 hl (by decide) rfl (fun ls hl => ?_)
                              refine lv_goto (tgt := 686) X.1 X.2.1 dL_law_644 (by decide) ?_
                              exact J_686 x11 x12 x13 x14 x15 x16 x17 x19 t639 u639.1 u639.2.1 fe fn ft u639.2.2.1 u639.2.2.2 fr fc v u _ _ _ hr hW (lv_sub hl [1, 2, 3, 4, 5, 6, 7, 8, 9, 10, 11, 12, 13, 14, 15, 16, 17, 18, 19, 0] rfl)
                          · refine lv_iconst (v := 0) X.1 X.2.1 dL_law_592 (by decide) ?_
                            refine lv_istore (lv' := [(21, .int 0), (20, .int 0), (0, .ref (E.2.2.2.1 3)), (1, .ref (a 0)), (2, .ref (Aq 0)), (3, .ref (Aa 0)), (4, .ref (Ae 0)), (5, .ref (An 0)), (6, .ref (At 0)), (7, .ref (Ap 0)), (8, .ref (Aw 0)), (9, .ref (Ar 0)), (10, .ref (Ac 0)), (11, .int x11), (12, .int x12), (13, .int x13), (14, .int x14), (15, .int x15), (16, .int x16), (17, .long x17), (19, .int x19)]) X.1 X.2.1 dL_law_593 hl (by decide) rfl (fun ls hl => ?_)
                            have L_595 : ∀ (n_595 : Nat), ∀ (x11 : Int32) (x12 : Int32) (x13 : Int32) (x14 : Int32) (x15 : Int32) (x16 : Int32) (x17 : Int64) (x19 : Int32) (x20 : Int32) (x21 : Int32) (fq : Nat → Int32) (fa : Nat → Int32) (fe : Nat → Int32) (fn : Nat → Int32) (ft : Nat → Int32) (fp : Nat → Int32) (fw : Nat → Int32) (fr : Nat → Int32) (fc : Nat → Int32) (v : zHV) (u : zHI) (H : Heap) (locs : List Loc) (ls : Array Slot), lp_L_law_595 E w q (lp_L_law_118 E w q  n_118) j_686 n_595 x11 x12 x13 x14 x15 x16 x17 x19 x20 x21 fq fa fe fn ft fp fw fr fc v u = some r → zW E A s ((arW E Aq 19 fq) ++ ((arW E Aa 30 fa) ++ ((arW E Ae 30 fe) ++ ((arW E An 30 fn) ++ ((arW E At 30 ft) ++ ((arW E Ap 18 fp) ++ ((arW E Aw 16 fw) ++ ((arW E Ar 30 fr) ++ ((arW E Ac 24 fc) ++ ((xoW E a b) ++ ((hsW E (zh a 1) v) ++ ((rdW E (zh a 30) w) ++ ((hiW E (zh a 33) u) ++ (slW E b q)))))))))))))) H locs → lv_has ls 22 [(0, .ref (E.2.2.2.1 3)), (1, .ref (a 0)), (2, .ref (Aq 0)), (3, .ref (Aa 0)), (4, .ref (Ae 0)), (5, .ref (An 0)), (6, .ref (At 0)), (7, .ref (Ap 0)), (8, .ref (Aw 0)), (9, .ref (Ar 0)), (10, .ref (Ac 0)), (11, .int x11), (12, .int x12), (13, .int x13), (14, .int x14), (15, .int x15), (16, .int x16), (17, .long x17), (19, .int x19), (20, .int x20), (21, .int x21)] → W p l e room_1 s m #[Value.ref (E.2.2.2.1 3)] below meth c H locs 600000 7302250 (lw_Z below #[Value.ref (E.2.2.2.1 3)] s) (F0 m 595 ls []) := by
                              intro n_595
                              induction n_595 with
                              | zero => exact fun x11 x12 x13 x14 x15 x16 x17 x19 x20 x21 fq fa fe fn ft fp fw fr fc v u H locs ls hr hW hl => absurd (show (none : Option (Int32)) = some r from hr) (fun h => by cases h)
                              | succ n_595 ih_595 =>
                                intro x11 x12 x13 x14 x15 x16 x17 x19 x20 x21 fq fa fe fn ft fp fw fr fc v u H locs ls hr hW hl
                                have hr : lpB_L_law_595 E w q (lp_L_law_118 E w q  n_118) j_686 (lp_L_law_595 E w q (lp_L_law_118 E w q  n_118) j_686 n_595) x11 x12 x13 x14 x15 x16 x17 x19 x20 x21 fq fa fe fn ft fp fw fr fc v u = some r := hr
                                unfold lpB_L_law_595 at hr
                                refine lv_iload X.1 X.2.1 dL_law_595 (lv_at hl 20 rfl) ?_
                                refine lv_iload X.1 X.2.1 dL_law_597 (lv_at hl 15 rfl) ?_
                                refine z_cmpge X 616 hr dL_law_599 (by decide) (fun hr => ?_) (fun hr => ?_)
                                · refine lv_aload_n X.1 X.2.1 dL_law_616 rfl (lv_at hl 2 rfl) ?_
                                  refine lv_bipush (v := 6) X.1 X.2.1 dL_law_617 (by decide) ?_
                                  refine z_ald X hW 0 hr rfl dL_law_619 (fun t619 hr => ?_)
                                  refine lv_istore (lv' := [(20, .int t619), (0, .ref (E.2.2.2.1 3)), (1, .ref (a 0)), (2, .ref (Aq 0)), (3, .ref (Aa 0)), (4, .ref (Ae 0)), (5, .ref (An 0)), (6, .ref (At 0)), (7, .ref (Ap 0)), (8, .ref (Aw 0)), (9, .ref (Ar 0)), (10, .ref (Ac 0)), (11, .int x11), (12, .int x12), (13, .int x13), (14, .int x14), (15, .int x15), (16, .int x16), (17, .long x17), (19, .int x19), (21, .int x21)]) X.1 X.2.1 dL_law_620 hl (by decide) rfl (fun ls hl => ?_)
                                  refine lv_goto (tgt := 686) X.1 X.2.1 dL_law_622 (by decide) ?_
                                  exact J_686 x11 x12 x13 x14 x15 x16 x17 x19 t619 fq fa fe fn ft fp fw fr fc v u _ _ _ hr hW (lv_sub hl [1, 2, 3, 4, 5, 6, 7, 8, 9, 10, 11, 12, 13, 14, 15, 16, 17, 18, 19, 0] rfl)
                                · refine lv_aload_n X.1 X.2.1 dL_law_602 rfl (lv_at hl 2 rfl) ?_
                                  refine lv_aload X.1 X.2.1 dL_law_603 (lv_at hl 7 rfl) ?_
                                  refine lv_aload X.1 X.2.1 dL_law_605 (lv_at hl 8 rfl) ?_
                                  have hp_607 := (z_sp2 (z_all (arW E Aq 19 fq)) (z_spr (arW E Aa 30 fa) (z_spr (arW E Ae 30 fe) (z_spr (arW E An 30 fn) (z_spr (arW E At 30 ft) (z_sp2 (z_all (arW E Ap 18 fp)) (z_spl ((arW E Ar 30 fr) ++ ((arW E Ac 24 fc) ++ ((xoW E a b) ++ ((hsW E (zh a 1) v) ++ ((rdW E (zh a 30) w) ++ ((hiW E (zh a 33) u) ++ (slW E b q))))))) (z_all (arW E Aw 16 fw)))))))))
                                  refine z_callv X hW (fun z9 => (z9.1, z9.2.1, z9.2.2)) hr hp_607 (fun z9 => ((arW E Aq 19 z9.1) ++ ((arW E Ap 18 z9.2.1) ++ (arW E Aw 16 z9.2.2)))) (fun u607 => ((arW E Aq 19 u607.1) ++ ((arW E Aa 30 fa) ++ ((arW E Ae 30 fe) ++ ((arW E An 30 fn) ++ ((arW E At 30 ft) ++ ((arW E Ap 18 u607.2.1) ++ ((arW E Aw 16 u607.2.2) ++ ((arW E Ar 30 fr) ++ ((arW E Ac 24 fc) ++ ((xoW E a b) ++ ((hsW E (zh a 1) v) ++ ((rdW E (zh a 30) w) ++ ((hiW E (zh a 33) u) ++ (slW E b q))))))))))))))) (fun z9 => (z_jn2 (z_lla (arW E Aq 19 z9.1)) (z_jnr (arW E Aa 30 fa) (z_jnr (arW E Ae 30 fe) (z_jnr (arW E An 30 fn) (z_jnr (arW E At 30 ft) (z_jn2 (z_lla (arW E Ap 18 z9.2.1)) (z_jnl ((arW E Ar 30 fr) ++ ((arW E Ac 24 fc) ++ ((xoW E a b) ++ ((hsW E (zh a 1) v) ++ ((rdW E (zh a 30) w) ++ ((hiW E (zh a 33) u) ++ (slW E b q))))))) (z_lla (arW E Aw 16 z9.2.2)))))))))) (fun z9 h => z_runS (As := [.ref (Aq 0), .ref (Ap 0), .ref (Aw 0)]) (rest := []) X hW hp_607 (c_L_second l E Aq Ap Aw fq fp fw z9 h _) hy_L_second gL_law_L_second rfl rfl ⟨by decide, by decide⟩ rfl hl rfl rfl (Nat.le_of_ble_eq_true rfl) dL_law_607 ⟨Nat.le_refl _, Nat.le_refl _⟩) (fun u607 H locs hr hW => ?_)
                                  refine z_iinc X (fun x21_610 => [(21, .int x21_610), (0, .ref (E.2.2.2.1 3)), (1, .ref (a 0)), (2, .ref (Aq 0)), (3, .ref (Aa 0)), (4, .ref (Ae 0)), (5, .ref (An 0)), (6, .ref (At 0)), (7, .ref (Ap 0)), (8, .ref (Aw 0)), (9, .ref (Ar 0)), (10, .ref (Ac 0)), (11, .int x11), (12, .int x12), (13, .int x13), (14, .int x14), (15, .int x15), (16, .int x16), (17, .long x17), (19, .int x19), (20, .int x20)]) hr hl (k := 20) rfl (by decide) (fun _ => rfl) dL_law_610 (fun x21_610 ls hr hl => ?_)
                                  refine lv_goto (tgt := 595) X.1 X.2.1 dL_law_613 (by decide) ?_
                                  exact ih_595 x11 x12 x13 x14 x15 x16 x17 x19 x20 x21_610 u607.1 fa fe fn ft u607.2.1 u607.2.2 fr fc v u _ _ _ hr hW (lv_sub hl [1, 2, 3, 4, 5, 6, 7, 8, 9, 10, 11, 12, 13, 14, 15, 16, 17, 18, 19, 20, 0] rfl)
                            exact L_595 _ x11 x12 x13 x14 x15 x16 x17 x19 0 0 fq fa fe fn ft fp fw fr fc v u _ _ _ hr hW (lv_sub hl [2, 3, 4, 5, 6, 7, 8, 9, 10, 11, 12, 13, 14, 15, 16, 17, 18, 19, 20, 1, 0] rfl)
                        · refine lv_iload X.1 X.2.1 dL_law_572 (lv_at hl 16 rfl) ?_
                          refine lv_aload_n X.1 X.2.1 dL_law_574 rfl (lv_at hl 3 rfl) ?_
                          refine lv_aload_n X.1 X.2.1 dL_law_575 rfl (lv_at hl 4 rfl) ?_
                          refine lv_aload X.1 X.2.1 dL_law_576 (lv_at hl 8 rfl) ?_
                          have hp_578 := (z_sp2 (z_all (arW E Aq 19 fq)) (z_sp2 (z_all (arW E Aa 30 fa)) (z_spr (arW E Ae 30 fe) (z_spr (arW E An 30 fn) (z_spr (arW E At 30 ft) (z_spl ((arW E Aw 16 fw) ++ ((arW E Ar 30 fr) ++ ((arW E Ac 24 fc) ++ ((xoW E a b) ++ ((hsW E (zh a 1) v) ++ ((rdW E (zh a 30) w) ++ ((hiW E (zh a 33) u) ++ (slW E b q)))))))) (z_all (arW E Ap 18 fp))))))))
                          refine z_calli X hW (fun z9 => (z9.1, z9.2.1, z9.2.2)) hr hp_578 (fun z9 => ((arW E Aq 19 z9.1) ++ ((arW E Aa 30 z9.2.1) ++ (arW E Ap 18 z9.2.2)))) (fun u578 => ((arW E Aq 19 u578.1) ++ ((arW E Aa 30 u578.2.1) ++ ((arW E Ae 30 fe) ++ ((arW E An 30 fn) ++ ((arW E At 30 ft) ++ ((arW E Ap 18 u578.2.2) ++ ((arW E Aw 16 fw) ++ ((arW E Ar 30 fr) ++ ((arW E Ac 24 fc) ++ ((xoW E a b) ++ ((hsW E (zh a 1) v) ++ ((rdW E (zh a 30) w) ++ ((hiW E (zh a 33) u) ++ (slW E b q))))))))))))))) (fun z9 => (z_jn2 (z_lla (arW E Aq 19 z9.1)) (z_jn2 (z_lla (arW E Aa 30 z9.2.1)) (z_jnr (arW E Ae 30 fe) (z_jnr (arW E An 30 fn) (z_jnr (arW E At 30 ft) (z_jnl ((arW E Aw 16 fw) ++ ((arW E Ar 30 fr) ++ ((arW E Ac 24 fc) ++ ((xoW E a b) ++ ((hsW E (zh a 1) v) ++ ((rdW E (zh a 30) w) ++ ((hiW E (zh a 33) u) ++ (slW E b q)))))))) (z_lla (arW E Ap 18 z9.2.2))))))))) (fun x z9 h => z_runS (As := [.int x15, .ref (Aq 0), .ref (Aa 0), .ref (Ap 0)]) (rest := []) X hW hp_578 (c_L_ends l E Aq Aa Ap fq fa fp x15 (x, z9) h _) hy_L_ends gL_law_L_ends rfl rfl ⟨by decide, by decide⟩ rfl hl rfl rfl (Nat.le_of_ble_eq_true rfl) dL_law_578 ⟨Nat.le_refl _, Nat.le_refl _⟩) (fun t578 u578 H locs hr hW => ?_)
                          refine lv_istore (lv' := [(20, .int t578), (0, .ref (E.2.2.2.1 3)), (1, .ref (a 0)), (2, .ref (Aq 0)), (3, .ref (Aa 0)), (4, .ref (Ae 0)), (5, .ref (An 0)), (6, .ref (At 0)), (7, .ref (Ap 0)), (8, .ref (Aw 0)), (9, .ref (Ar 0)), (10, .ref (Ac 0)), (11, .int x11), (12, .int x12), (13, .int x13), (14, .int x14), (15, .int x15), (16, .int x16), (17, .long x17), (19, .int x19)]) X.1 X.2.1 dL_law_581 hl (by decide) rfl (fun ls hl => ?_)
                          refine lv_goto (tgt := 686) X.1 X.2.1 dL_law_583 (by decide) ?_
                          exact J_686 x11 x12 x13 x14 x15 x16 x17 x19 t578 u578.1 u578.2.1 fe fn ft u578.2.2 fw fr fc v u _ _ _ hr hW (lv_sub hl [1, 2, 3, 4, 5, 6, 7, 8, 9, 10, 11, 12, 13, 14, 15, 16, 17, 18, 19, 0] rfl)
                      · refine lv_iload X.1 X.2.1 dL_law_542 (lv_at hl 16 rfl) ?_
                        refine lv_aload_n X.1 X.2.1 dL_law_544 rfl (lv_at hl 3 rfl) ?_
                        refine lv_aload_n X.1 X.2.1 dL_law_545 rfl (lv_at hl 4 rfl) ?_
                        refine lv_aload X.1 X.2.1 dL_law_546 (lv_at hl 5 rfl) ?_
                        refine lv_aload X.1 X.2.1 dL_law_548 (lv_at hl 6 rfl) ?_
                        refine lv_aload X.1 X.2.1 dL_law_550 (lv_at hl 7 rfl) ?_
                        refine lv_aload X.1 X.2.1 dL_law_552 (lv_at hl 8 rfl) ?_
                        refine lv_aload X.1 X.2.1 dL_law_554 (lv_at hl 9 rfl) ?_
                        refine lv_aload X.1 X.2.1 dL_law_556 (lv_at hl 10 rfl) ?_
                        have hp_558 := (z_sp2 (z_all (arW E Aq 19 fq)) (z_sp2 (z_all (arW E Aa 30 fa)) (z_sp2 (z_all (arW E Ae 30 fe)) (z_sp2 (z_all (arW E An 30 fn)) (z_sp2 (z_all (arW E At 30 ft)) (z_sp2 (z_all (arW E Ap 18 fp)) (z_sp2 (z_all (arW E Aw 16 fw)) (z_spl ((arW E Ac 24 fc) ++ ((xoW E a b) ++ ((hsW E (zh a 1) v) ++ ((rdW E (zh a 30) w) ++ ((hiW E (zh a 33) u) ++ (slW E b q)))))) (z_all (arW E Ar 30 fr))))))))))
                        refine z_calli X hW (fun z9 => (z9.1, z9.2.1, z9.2.2.1, z9.2.2.2.1, z9.2.2.2.2.1, z9.2.2.2.2.2.1, z9.2.2.2.2.2.2.1, z9.2.2.2.2.2.2.2)) hr hp_558 (fun z9 => ((arW E Aq 19 z9.1) ++ ((arW E Aa 30 z9.2.1) ++ ((arW E Ae 30 z9.2.2.1) ++ ((arW E An 30 z9.2.2.2.1) ++ ((arW E At 30 z9.2.2.2.2.1) ++ ((arW E Ap 18 z9.2.2.2.2.2.1) ++ ((arW E Aw 16 z9.2.2.2.2.2.2.1) ++ (arW E Ar 30 z9.2.2.2.2.2.2.2))))))))) (fun u558 => ((arW E Aq 19 u558.1) ++ ((arW E Aa 30 u558.2.1) ++ ((arW E Ae 30 u558.2.2.1) ++ ((arW E An 30 u558.2.2.2.1) ++ ((arW E At 30 u558.2.2.2.2.1) ++ ((arW E Ap 18 u558.2.2.2.2.2.1) ++ ((arW E Aw 16 u558.2.2.2.2.2.2.1) ++ ((arW E Ar 30 u558.2.2.2.2.2.2.2) ++ ((arW E Ac 24 fc) ++ ((xoW E a b) ++ ((hsW E (zh a 1) v) ++ ((rdW E (zh a 30) w) ++ ((hiW E (zh a 33) u) ++ (slW E b q))))))))))))))) (fun z9 => (z_jn2 (z_lla (arW E Aq 19 z9.1)) (z_jn2 (z_lla (arW E Aa 30 z9.2.1)) (z_jn2 (z_lla (arW E Ae 30 z9.2.2.1)) (z_jn2 (z_lla (arW E An 30 z9.2.2.2.1)) (z_jn2 (z_lla (arW E At 30 z9.2.2.2.2.1)) (z_jn2 (z_lla (arW E Ap 18 z9.2.2.2.2.2.1)) (z_jn2 (z_lla (arW E Aw 16 z9.2.2.2.2.2.2.1)) (z_jnl ((arW E Ac 24 fc) ++ ((xoW E a b) ++ ((hsW E (zh a 1) v) ++ ((rdW E (zh a 30) w) ++ ((hiW E (zh a 33) u) ++ (slW E b q)))))) (z_lla (arW E Ar 30 z9.2.2.2.2.2.2.2))))))))))) (fun x z9 h => z_runS (As := [.int x15, .ref (Aq 0), .ref (Aa 0), .ref (Ae 0), .ref (An 0), .ref (At 0), .ref (Ap 0), .ref (Aw 0), .ref (Ar 0)]) (rest := []) X hW hp_558 (c_L_claps l E Aq Aa Ae An At Ap Aw Ar fq fa fe fn ft fp fw fr x15 (x, z9) h _) hy_L_claps gL_law_L_claps rfl rfl ⟨by decide, by decide⟩ rfl hl rfl rfl (Nat.le_of_ble_eq_true rfl) dL_law_558 ⟨Nat.le_refl _, Nat.le_refl _⟩) (fun t558 u558 H locs hr hW => ?_)
                        refine lv_istore (lv' := [(20, .int t558), (0, .ref (E.2.2.2.1 3)), (1, .ref (a 0)), (2, .ref (Aq 0)), (3, .ref (Aa 0)), (4, .ref (Ae 0)), (5, .ref (An 0)), (6, .ref (At 0)), (7, .ref (Ap 0)), (8, .ref (Aw 0)), (9, .ref (Ar 0)), (10, .ref (Ac 0)), (11, .int x11), (12, .int x12), (13, .int x13), (14, .int x14), (15, .int x15), (16, .int x16), (17, .long x17), (19, .int x19)]) X.1 X.2.1 dL_law_561 hl (by decide) rfl (fun ls hl => ?_)
                        refine lv_goto (tgt := 686) X.1 X.2.1 dL_law_563 (by decide) ?_
                        exact J_686 x11 x12 x13 x14 x15 x16 x17 x19 t558 u558.1 u558.2.1 u558.2.2.1 u558.2.2.2.1 u558.2.2.2.2.1 u558.2.2.2.2.2.1 u558.2.2.2.2.2.2.1 u558.2.2.2.2.2.2.2 fc v u _ _ _ hr hW (lv_sub hl [1, 2, 3, 4, 5, 6, 7, 8, 9, 10, 11, 12, 13, 14, 15, 16, 17, 18, 19, 0] rfl)
                    refine z_ifge X 490 hr dL_law_474 (by decide) (fun hr => ?_) (fun hr => ?_)
                    · refine lv_iload X.1 X.2.1 dL_law_490 (lv_at hl 15 rfl) ?_
                      refine lv_bipush (v := 24) X.1 X.2.1 dL_law_492 (by decide) ?_
                      refine z_ishr X hr dL_law_494 (fun t494 hr => ?_)
                      refine lv_iconst (v := 3) X.1 X.2.1 dL_law_495 (by decide) ?_
                      refine z_iand X hr dL_law_496 (fun t496 hr => ?_)
                      refine z_ifne X 534 hr dL_law_497 (by decide) (fun hr => ?_) (fun hr => ?_)
                      · exact J_534 x11 x12 x13 x14 x15 s0 t455 t467 fq fa fe fn ft fp fw fr fc u467.1 u467.2 _ _ _ hr hW (lv_sub hl [3, 4, 5, 6, 7, 8, 9, 10, 11, 12, 13, 14, 15, 16, 17, 18, 2, 1, 0] rfl)
                      · refine lv_aload_n X.1 X.2.1 dL_law_500 rfl (lv_at hl 4 rfl) ?_
                        have hp_501 := (z_spr (arW E Aq 19 fq) (z_spr (arW E Aa 30 fa) (z_spr (arW E Ae 30 fe) (z_spr (arW E An 30 fn) (z_spr (arW E At 30 ft) (z_spr (arW E Ap 18 fp) (z_spr (arW E Aw 16 fw) (z_spr (arW E Ar 30 fr) (z_spr (arW E Ac 24 fc) (z_sp2 (z_all (xoW E a b)) (z_sp2 (z_all (hsW E (zh a 1) u467.1)) (z_sp2 (z_all (rdW E (zh a 30) w)) (z_sp2 (z_all (hiW E (zh a 33) u467.2)) (z_all (slW E b q)))))))))))))))
                        refine z_calli X hW (fun z9 => (z9.1, z9.2)) hr hp_501 (fun z9 => ((xoW E a b) ++ ((hsW E (zh a 1) z9.1) ++ ((rdW E (zh a 30) w) ++ ((hiW E (zh a 33) z9.2) ++ (slW E b q)))))) (fun u501 => ((arW E Aq 19 fq) ++ ((arW E Aa 30 fa) ++ ((arW E Ae 30 fe) ++ ((arW E An 30 fn) ++ ((arW E At 30 ft) ++ ((arW E Ap 18 fp) ++ ((arW E Aw 16 fw) ++ ((arW E Ar 30 fr) ++ ((arW E Ac 24 fc) ++ ((xoW E a b) ++ ((hsW E (zh a 1) u501.1) ++ ((rdW E (zh a 30) w) ++ ((hiW E (zh a 33) u501.2) ++ (slW E b q))))))))))))))) (fun z9 => (z_jnr (arW E Aq 19 fq) (z_jnr (arW E Aa 30 fa) (z_jnr (arW E Ae 30 fe) (z_jnr (arW E An 30 fn) (z_jnr (arW E At 30 ft) (z_jnr (arW E Ap 18 fp) (z_jnr (arW E Aw 16 fw) (z_jnr (arW E Ar 30 fr) (z_jnr (arW E Ac 24 fc) (z_jn2 (z_lla (xoW E a b)) (z_jn2 (z_lla (hsW E (zh a 1) z9.1)) (z_jn2 (z_lla (rdW E (zh a 30) w)) (z_jn2 (z_lla (hiW E (zh a 33) z9.2)) (z_lla (slW E b q)))))))))))))))) (fun x z9 h => z_runV (As := []) (rest := []) X hW hp_501 (c_X7_undo l E a b u467.1 w u467.2 q (x, z9) h _) hy_X7_undo 9 7 (C := RX7) (T := TX7) (N := 5) rfl rfl rfl gL_law_X7_undo rfl rfl ⟨by decide, by decide⟩ rfl hl rfl rfl (Nat.le_of_ble_eq_true rfl) dL_law_501 ⟨Nat.le_refl _, Nat.le_refl _⟩) (fun t501 u501 H locs hr hW => ?_)
                        refine z_iflt X 532 hr dL_law_504 (by decide) (fun hr => ?_) (fun hr => ?_)
                        · refine lv_iconst (v := 0) X.1 X.2.1 dL_law_532 (by decide) ?_
                          exact absurd (Option.some.inj hr) (by rw [h1]; decide)
                        · refine lv_aload_n X.1 X.2.1 dL_law_507 rfl (lv_at hl 4 rfl) ?_
                          have hp_508 := (z_spr (arW E Aq 19 fq) (z_spr (arW E Aa 30 fa) (z_spr (arW E Ae 30 fe) (z_spr (arW E An 30 fn) (z_spr (arW E At 30 ft) (z_spr (arW E Ap 18 fp) (z_spr (arW E Aw 16 fw) (z_spr (arW E Ar 30 fr) (z_spr (arW E Ac 24 fc) (z_sp2 (z_all (xoW E a b)) (z_sp2 (z_all (hsW E (zh a 1) u501.1)) (z_sp2 (z_all (rdW E (zh a 30) w)) (z_sp2 (z_all (hiW E (zh a 33) u501.2)) (z_all (slW E b q)))))))))))))))
                          refine z_calll X hW hr hp_508 (fun x h => z_runS (As := [.ref (a 0)]) (rest := []) X hW hp_508 (c_L_told l E a b u501.1 w u501.2 q x h _) hy_L_told gL_law_L_told rfl rfl ⟨by decide, by decide⟩ rfl hl rfl rfl (Nat.le_of_ble_eq_true rfl) dL_law_508 ⟨Nat.le_refl _, Nat.le_refl _⟩) (fun t508 H locs hr hW => ?_)
                          refine lv_lload X.1 X.2.1 dL_law_511 (lv_at hl 1 rfl) ?_
                          refine z_lcmp X hr dL_law_513 (fun t513 hr => ?_)
                          refine z_ifne X 532 hr dL_law_514 (by decide) (fun hr => ?_) (fun hr => ?_)
                          · refine lv_iconst (v := 0) X.1 X.2.1 dL_law_532 (by decide) ?_
                            exact absurd (Option.some.inj hr) (by rw [h1]; decide)
                          · refine lv_aload_n X.1 X.2.1 dL_law_517 rfl (lv_at hl 4 rfl) ?_
                            refine lv_iload X.1 X.2.1 dL_law_518 (lv_at hl 17 rfl) ?_
                            refine lv_iload X.1 X.2.1 dL_law_520 (lv_at hl 18 rfl) ?_
                            refine lv_iload X.1 X.2.1 dL_law_522 (lv_at hl 2 rfl) ?_
                            have hp_524 := (z_spr (arW E Aq 19 fq) (z_spr (arW E Aa 30 fa) (z_spr (arW E Ae 30 fe) (z_spr (arW E An 30 fn) (z_spr (arW E At 30 ft) (z_spr (arW E Ap 18 fp) (z_spr (arW E Aw 16 fw) (z_spr (arW E Ar 30 fr) (z_spr (arW E Ac 24 fc) (z_sp2 (z_all (xoW E a b)) (z_sp2 (z_all (hsW E (zh a 1) u501.1)) (z_sp2 (z_all (rdW E (zh a 30) w)) (z_sp2 (z_all (hiW E (zh a 33) u501.2)) (z_all (slW E b q)))))))))))))))
                            refine z_calli X hW (fun z9 => (z9.1, z9.2)) hr hp_524 (fun z9 => ((xoW E a b) ++ ((hsW E (zh a 1) z9.1) ++ ((rdW E (zh a 30) w) ++ ((hiW E (zh a 33) z9.2) ++ (slW E b q)))))) (fun u524 => ((arW E Aq 19 fq) ++ ((arW E Aa 30 fa) ++ ((arW E Ae 30 fe) ++ ((arW E An 30 fn) ++ ((arW E At 30 ft) ++ ((arW E Ap 18 fp) ++ ((arW E Aw 16 fw) ++ ((arW E Ar 30 fr) ++ ((arW E Ac 24 fc) ++ ((xoW E a b) ++ ((hsW E (zh a 1) u524.1) ++ ((rdW E (zh a 30) w) ++ ((hiW E (zh a 33) u524.2) ++ (slW E b q))))))))))))))) (fun z9 => (z_jnr (arW E Aq 19 fq) (z_jnr (arW E Aa 30 fa) (z_jnr (arW E Ae 30 fe) (z_jnr (arW E An 30 fn) (z_jnr (arW E At 30 ft) (z_jnr (arW E Ap 18 fp) (z_jnr (arW E Aw 16 fw) (z_jnr (arW E Ar 30 fr) (z_jnr (arW E Ac 24 fc) (z_jn2 (z_lla (xoW E a b)) (z_jn2 (z_lla (hsW E (zh a 1) z9.1)) (z_jn2 (z_lla (rdW E (zh a 30) w)) (z_jn2 (z_lla (hiW E (zh a 33) z9.2)) (z_lla (slW E b q)))))))))))))))) (fun x z9 h => z_runS (As := [.ref (a 0), .int x14, .int x15, .int s0]) (rest := []) X hW hp_524 (c_L_call l E a b u501.1 w u501.2 q x14 x15 s0 (x, z9) h _) hy_L_call gL_law_L_call rfl rfl ⟨by decide, by decide⟩ rfl hl rfl rfl (Nat.le_of_ble_eq_true rfl) dL_law_524 ⟨Nat.le_refl _, Nat.le_refl _⟩) (fun t524 u524 H locs hr hW => ?_)
                            refine lv_iload X.1 X.2.1 dL_law_527 (lv_at hl 0 rfl) ?_
                            refine z_cmpeq X 534 hr dL_law_529 (by decide) (fun hr => ?_) (fun hr => ?_)
                            · exact J_534 x11 x12 x13 x14 x15 s0 t455 t467 fq fa fe fn ft fp fw fr fc u524.1 u524.2 _ _ _ hr hW (lv_sub hl [3, 4, 5, 6, 7, 8, 9, 10, 11, 12, 13, 14, 15, 16, 17, 18, 2, 1, 0] rfl)
                            · refine lv_iconst (v := 0) X.1 X.2.1 dL_law_532 (by decide) ?_
                              exact absurd (Option.some.inj hr) (by rw [h1]; decide)
                    · refine lv_aload_n X.1 X.2.1 dL_law_477 rfl (lv_at hl 4 rfl) ?_
                      have hp_478 := (z_spr (arW E Aq 19 fq) (z_spr (arW E Aa 30 fa) (z_spr (arW E Ae 30 fe) (z_spr (arW E An 30 fn) (z_spr (arW E At 30 ft) (z_spr (arW E Ap 18 fp) (z_spr (arW E Aw 16 fw) (z_spr (arW E Ar 30 fr) (z_spr (arW E Ac 24 fc) (z_sp2 (z_all (xoW E a b)) (z_sp2 (z_all (hsW E (zh a 1) u467.1)) (z_sp2 (z_all (rdW E (zh a 30) w)) (z_sp2 (z_all (hiW E (zh a 33) u467.2)) (z_all (slW E b q)))))))))))))))
                      refine z_calll X hW hr hp_478 (fun x h => z_runS (As := [.ref (a 0)]) (rest := []) X hW hp_478 (c_L_told l E a b u467.1 w u467.2 q x h _) hy_L_told gL_law_L_told rfl rfl ⟨by decide, by decide⟩ rfl hl rfl rfl (Nat.le_of_ble_eq_true rfl) dL_law_478 ⟨Nat.le_refl _, Nat.le_refl _⟩) (fun t478 H locs hr hW => ?_)
                      refine lv_lload X.1 X.2.1 dL_law_481 (lv_at hl 1 rfl) ?_
                      refine z_lcmp X hr dL_law_483 (fun t483 hr => ?_)
                      refine z_ifeq X 534 hr dL_law_484 (by decide) (fun hr => ?_) (fun hr => ?_)
                      · exact J_534 x11 x12 x13 x14 x15 s0 t455 t467 fq fa fe fn ft fp fw fr fc u467.1 u467.2 _ _ _ hr hW (lv_sub hl [3, 4, 5, 6, 7, 8, 9, 10, 11, 12, 13, 14, 15, 16, 17, 18, 2, 1, 0] rfl)
                      · refine lv_goto (tgt := 532) X.1 X.2.1 dL_law_487 (by decide) ?_
                        refine lv_iconst (v := 0) X.1 X.2.1 dL_law_532 (by decide) ?_
                        exact absurd (Option.some.inj hr) (by rw [h1]; decide)
                  refine z_cmpne X 343 hr dL_law_326 (by decide) (fun hr => ?_) (fun hr => ?_)
                  · refine lv_iload X.1 X.2.1 dL_law_343 (lv_at hl 0 rfl) ?_
                    refine z_ifne X 362 hr dL_law_345 (by decide) (fun hr => ?_) (fun hr => ?_)
                    · refine lv_iload X.1 X.2.1 dL_law_362 (lv_at hl 0 rfl) ?_
                      refine lv_iconst (v := 1) X.1 X.2.1 dL_law_364 (by decide) ?_
                      refine z_cmpne X 383 hr dL_law_365 (by decide) (fun hr => ?_) (fun hr => ?_)
                      · refine lv_iload X.1 X.2.1 dL_law_383 (lv_at hl 0 rfl) ?_
                        refine lv_iconst (v := 2) X.1 X.2.1 dL_law_385 (by decide) ?_
                        refine z_cmpne X 403 hr dL_law_386 (by decide) (fun hr => ?_) (fun hr => ?_)
                        · refine lv_iload X.1 X.2.1 dL_law_403 (lv_at hl 0 rfl) ?_
                          refine lv_iconst (v := 3) X.1 X.2.1 dL_law_405 (by decide) ?_
                          refine z_cmpne X 421 hr dL_law_406 (by decide) (fun hr => ?_) (fun hr => ?_)
                          · refine lv_iload X.1 X.2.1 dL_law_421 (lv_at hl 0 rfl) ?_
                            refine lv_iconst (v := 4) X.1 X.2.1 dL_law_423 (by decide) ?_
                            refine z_cmpne X 441 hr dL_law_424 (by decide) (fun hr => ?_) (fun hr => ?_)
                            · refine lv_iconst (v := 1) X.1 X.2.1 dL_law_441 (by decide) ?_
                              refine lv_iload X.1 X.2.1 dL_law_442 (lv_at hl 14 rfl) ?_
                              refine lv_iconst (v := 5) X.1 X.2.1 dL_law_444 (by decide) ?_
                              refine z_ishr X hr dL_law_445 (fun t445 hr => ?_)
                              refine lv_bipush (v := 100) X.1 X.2.1 dL_law_446 (by decide) ?_
                              have hp_448 := (show (((arW E Aq 19 fq) ++ ((arW E Aa 30 fa) ++ ((arW E Ae 30 fe) ++ ((arW E An 30 fn) ++ ((arW E At 30 ft) ++ ((arW E Ap 18 fp) ++ ((arW E Aw 16 fw) ++ ((arW E Ar 30 fr) ++ ((arW E Ac 24 fc) ++ ((xoW E a b) ++ ((hsW E (zh a 1) v) ++ ((rdW E (zh a 30) w) ++ ((hiW E (zh a 33) u) ++ (slW E b q))))))))))))))).Perm (([] : va_W) ++ ((arW E Aq 19 fq) ++ ((arW E Aa 30 fa) ++ ((arW E Ae 30 fe) ++ ((arW E An 30 fn) ++ ((arW E At 30 ft) ++ ((arW E Ap 18 fp) ++ ((arW E Aw 16 fw) ++ ((arW E Ar 30 fr) ++ ((arW E Ac 24 fc) ++ ((xoW E a b) ++ ((hsW E (zh a 1) v) ++ ((rdW E (zh a 30) w) ++ ((hiW E (zh a 33) u) ++ (slW E b q))))))))))))))) from List.Perm.refl _)
                              refine z_callp X hW hr hp_448 (fun x h => z_runS (As := [.int t445, .int 100]) (rest := [.int 1]) X hW hp_448 (c_L_low l E t445 100 x h _) hy_L_low gL_law_L_low rfl rfl ⟨by decide, by decide⟩ rfl hl rfl rfl (Nat.le_of_ble_eq_true rfl) dL_law_448 ⟨Nat.le_refl _, Nat.le_refl _⟩) (fun t448 H locs hr hW => ?_)
                              refine z_iadd X hr dL_law_451 (fun t451 hr => ?_)
                              exact J_452 x11 x12 x13 x14 s0 t451 fq fa fe fn ft fp fw fr fc v u _ _ _ hr hW (lv_sub hl [1, 2, 3, 4, 5, 6, 7, 8, 9, 10, 11, 12, 13, 14, 15, 0] rfl)
                            · refine lv_iconst (v := 1) X.1 X.2.1 dL_law_427 (by decide) ?_
                              refine lv_iload X.1 X.2.1 dL_law_428 (lv_at hl 14 rfl) ?_
                              refine lv_iconst (v := 5) X.1 X.2.1 dL_law_430 (by decide) ?_
                              refine z_ishr X hr dL_law_431 (fun t431 hr => ?_)
                              refine lv_bipush (v := 9) X.1 X.2.1 dL_law_432 (by decide) ?_
                              have hp_434 := (show (((arW E Aq 19 fq) ++ ((arW E Aa 30 fa) ++ ((arW E Ae 30 fe) ++ ((arW E An 30 fn) ++ ((arW E At 30 ft) ++ ((arW E Ap 18 fp) ++ ((arW E Aw 16 fw) ++ ((arW E Ar 30 fr) ++ ((arW E Ac 24 fc) ++ ((xoW E a b) ++ ((hsW E (zh a 1) v) ++ ((rdW E (zh a 30) w) ++ ((hiW E (zh a 33) u) ++ (slW E b q))))))))))))))).Perm (([] : va_W) ++ ((arW E Aq 19 fq) ++ ((arW E Aa 30 fa) ++ ((arW E Ae 30 fe) ++ ((arW E An 30 fn) ++ ((arW E At 30 ft) ++ ((arW E Ap 18 fp) ++ ((arW E Aw 16 fw) ++ ((arW E Ar 30 fr) ++ ((arW E Ac 24 fc) ++ ((xoW E a b) ++ ((hsW E (zh a 1) v) ++ ((rdW E (zh a 30) w) ++ ((hiW E (zh a 33) u) ++ (slW E b q))))))))))))))) from List.Perm.refl _)
                              refine z_callp X hW hr hp_434 (fun x h => z_runS (As := [.int t431, .int 9]) (rest := [.int 1]) X hW hp_434 (c_L_low l E t431 9 x h _) hy_L_low gL_law_L_low rfl rfl ⟨by decide, by decide⟩ rfl hl rfl rfl (Nat.le_of_ble_eq_true rfl) dL_law_434 ⟨Nat.le_refl _, Nat.le_refl _⟩) (fun t434 H locs hr hW => ?_)
                              refine z_iadd X hr dL_law_437 (fun t437 hr => ?_)
                              refine lv_goto (tgt := 452) X.1 X.2.1 dL_law_438 (by decide) ?_
                              exact J_452 x11 x12 x13 x14 s0 t437 fq fa fe fn ft fp fw fr fc v u _ _ _ hr hW (lv_sub hl [1, 2, 3, 4, 5, 6, 7, 8, 9, 10, 11, 12, 13, 14, 15, 0] rfl)
                          · refine lv_iload X.1 X.2.1 dL_law_409 (lv_at hl 14 rfl) ?_
                            refine lv_iconst (v := 5) X.1 X.2.1 dL_law_411 (by decide) ?_
                            refine z_ishr X hr dL_law_412 (fun t412 hr => ?_)
                            refine lv_bipush (v := 10) X.1 X.2.1 dL_law_413 (by decide) ?_
                            have hp_415 := (show (((arW E Aq 19 fq) ++ ((arW E Aa 30 fa) ++ ((arW E Ae 30 fe) ++ ((arW E An 30 fn) ++ ((arW E At 30 ft) ++ ((arW E Ap 18 fp) ++ ((arW E Aw 16 fw) ++ ((arW E Ar 30 fr) ++ ((arW E Ac 24 fc) ++ ((xoW E a b) ++ ((hsW E (zh a 1) v) ++ ((rdW E (zh a 30) w) ++ ((hiW E (zh a 33) u) ++ (slW E b q))))))))))))))).Perm (([] : va_W) ++ ((arW E Aq 19 fq) ++ ((arW E Aa 30 fa) ++ ((arW E Ae 30 fe) ++ ((arW E An 30 fn) ++ ((arW E At 30 ft) ++ ((arW E Ap 18 fp) ++ ((arW E Aw 16 fw) ++ ((arW E Ar 30 fr) ++ ((arW E Ac 24 fc) ++ ((xoW E a b) ++ ((hsW E (zh a 1) v) ++ ((rdW E (zh a 30) w) ++ ((hiW E (zh a 33) u) ++ (slW E b q))))))))))))))) from List.Perm.refl _)
                            refine z_callp X hW hr hp_415 (fun x h => z_runS (As := [.int t412, .int 10]) (rest := []) X hW hp_415 (c_L_low l E t412 10 x h _) hy_L_low gL_law_L_low rfl rfl ⟨by decide, by decide⟩ rfl hl rfl rfl (Nat.le_of_ble_eq_true rfl) dL_law_415 ⟨Nat.le_refl _, Nat.le_refl _⟩) (fun t415 H locs hr hW => ?_)
                            refine lv_goto (tgt := 452) X.1 X.2.1 dL_law_418 (by decide) ?_
                            exact J_452 x11 x12 x13 x14 s0 t415 fq fa fe fn ft fp fw fr fc v u _ _ _ hr hW (lv_sub hl [1, 2, 3, 4, 5, 6, 7, 8, 9, 10, 11, 12, 13, 14, 15, 0] rfl)
                        · refine lv_iconst (v := 1) X.1 X.2.1 dL_law_389 (by decide) ?_
                          refine lv_iload X.1 X.2.1 dL_law_390 (lv_at hl 14 rfl) ?_
                          refine lv_iconst (v := 5) X.1 X.2.1 dL_law_392 (by decide) ?_
                          refine z_ishr X hr dL_law_393 (fun t393 hr => ?_)
                          refine lv_bipush (v := 60) X.1 X.2.1 dL_law_394 (by decide) ?_
                          have hp_396 := (show (((arW E Aq 19 fq) ++ ((arW E Aa 30 fa) ++ ((arW E Ae 30 fe) ++ ((arW E An 30 fn) ++ ((arW E At 30 ft) ++ ((arW E Ap 18 fp) ++ ((arW E Aw 16 fw) ++ ((arW E Ar 30 fr) ++ ((arW E Ac 24 fc) ++ ((xoW E a b) ++ ((hsW E (zh a 1) v) ++ ((rdW E (zh a 30) w) ++ ((hiW E (zh a 33) u) ++ (slW E b q))))))))))))))).Perm (([] : va_W) ++ ((arW E Aq 19 fq) ++ ((arW E Aa 30 fa) ++ ((arW E Ae 30 fe) ++ ((arW E An 30 fn) ++ ((arW E At 30 ft) ++ ((arW E Ap 18 fp) ++ ((arW E Aw 16 fw) ++ ((arW E Ar 30 fr) ++ ((arW E Ac 24 fc) ++ ((xoW E a b) ++ ((hsW E (zh a 1) v) ++ ((rdW E (zh a 30) w) ++ ((hiW E (zh a 33) u) ++ (slW E b q))))))))))))))) from List.Perm.refl _)
                          refine z_callp X hW hr hp_396 (fun x h => z_runS (As := [.int t393, .int 60]) (rest := [.int 1]) X hW hp_396 (c_L_low l E t393 60 x h _) hy_L_low gL_law_L_low rfl rfl ⟨by decide, by decide⟩ rfl hl rfl rfl (Nat.le_of_ble_eq_true rfl) dL_law_396 ⟨Nat.le_refl _, Nat.le_refl _⟩) (fun t396 H locs hr hW => ?_)
                          refine z_iadd X hr dL_law_399 (fun t399 hr => ?_)
                          refine lv_goto (tgt := 452) X.1 X.2.1 dL_law_400 (by decide) ?_
                          exact J_452 x11 x12 x13 x14 s0 t399 fq fa fe fn ft fp fw fr fc v u _ _ _ hr hW (lv_sub hl [1, 2, 3, 4, 5, 6, 7, 8, 9, 10, 11, 12, 13, 14, 15, 0] rfl)
                      · refine lv_bipush (v := 20) X.1 X.2.1 dL_law_368 (by decide) ?_
                        refine lv_iload X.1 X.2.1 dL_law_370 (lv_at hl 14 rfl) ?_
                        refine lv_iconst (v := 5) X.1 X.2.1 dL_law_372 (by decide) ?_
                        refine z_ishr X hr dL_law_373 (fun t373 hr => ?_)
                        refine lv_bipush (v := 100) X.1 X.2.1 dL_law_374 (by decide) ?_
                        have hp_376 := (show (((arW E Aq 19 fq) ++ ((arW E Aa 30 fa) ++ ((arW E Ae 30 fe) ++ ((arW E An 30 fn) ++ ((arW E At 30 ft) ++ ((arW E Ap 18 fp) ++ ((arW E Aw 16 fw) ++ ((arW E Ar 30 fr) ++ ((arW E Ac 24 fc) ++ ((xoW E a b) ++ ((hsW E (zh a 1) v) ++ ((rdW E (zh a 30) w) ++ ((hiW E (zh a 33) u) ++ (slW E b q))))))))))))))).Perm (([] : va_W) ++ ((arW E Aq 19 fq) ++ ((arW E Aa 30 fa) ++ ((arW E Ae 30 fe) ++ ((arW E An 30 fn) ++ ((arW E At 30 ft) ++ ((arW E Ap 18 fp) ++ ((arW E Aw 16 fw) ++ ((arW E Ar 30 fr) ++ ((arW E Ac 24 fc) ++ ((xoW E a b) ++ ((hsW E (zh a 1) v) ++ ((rdW E (zh a 30) w) ++ ((hiW E (zh a 33) u) ++ (slW E b q))))))))))))))) from List.Perm.refl _)
                        refine z_callp X hW hr hp_376 (fun x h => z_runS (As := [.int t373, .int 100]) (rest := [.int 20]) X hW hp_376 (c_L_low l E t373 100 x h _) hy_L_low gL_law_L_low rfl rfl ⟨by decide, by decide⟩ rfl hl rfl rfl (Nat.le_of_ble_eq_true rfl) dL_law_376 ⟨Nat.le_refl _, Nat.le_refl _⟩) (fun t376 H locs hr hW => ?_)
                        refine z_iadd X hr dL_law_379 (fun t379 hr => ?_)
                        refine lv_goto (tgt := 452) X.1 X.2.1 dL_law_380 (by decide) ?_
                        exact J_452 x11 x12 x13 x14 s0 t379 fq fa fe fn ft fp fw fr fc v u _ _ _ hr hW (lv_sub hl [1, 2, 3, 4, 5, 6, 7, 8, 9, 10, 11, 12, 13, 14, 15, 0] rfl)
                    · refine lv_iconst (v := 1) X.1 X.2.1 dL_law_348 (by decide) ?_
                      refine lv_iload X.1 X.2.1 dL_law_349 (lv_at hl 14 rfl) ?_
                      refine lv_iconst (v := 5) X.1 X.2.1 dL_law_351 (by decide) ?_
                      refine z_ishr X hr dL_law_352 (fun t352 hr => ?_)
                      refine lv_bipush (v := 50) X.1 X.2.1 dL_law_353 (by decide) ?_
                      have hp_355 := (show (((arW E Aq 19 fq) ++ ((arW E Aa 30 fa) ++ ((arW E Ae 30 fe) ++ ((arW E An 30 fn) ++ ((arW E At 30 ft) ++ ((arW E Ap 18 fp) ++ ((arW E Aw 16 fw) ++ ((arW E Ar 30 fr) ++ ((arW E Ac 24 fc) ++ ((xoW E a b) ++ ((hsW E (zh a 1) v) ++ ((rdW E (zh a 30) w) ++ ((hiW E (zh a 33) u) ++ (slW E b q))))))))))))))).Perm (([] : va_W) ++ ((arW E Aq 19 fq) ++ ((arW E Aa 30 fa) ++ ((arW E Ae 30 fe) ++ ((arW E An 30 fn) ++ ((arW E At 30 ft) ++ ((arW E Ap 18 fp) ++ ((arW E Aw 16 fw) ++ ((arW E Ar 30 fr) ++ ((arW E Ac 24 fc) ++ ((xoW E a b) ++ ((hsW E (zh a 1) v) ++ ((rdW E (zh a 30) w) ++ ((hiW E (zh a 33) u) ++ (slW E b q))))))))))))))) from List.Perm.refl _)
                      refine z_callp X hW hr hp_355 (fun x h => z_runS (As := [.int t352, .int 50]) (rest := [.int 1]) X hW hp_355 (c_L_low l E t352 50 x h _) hy_L_low gL_law_L_low rfl rfl ⟨by decide, by decide⟩ rfl hl rfl rfl (Nat.le_of_ble_eq_true rfl) dL_law_355 ⟨Nat.le_refl _, Nat.le_refl _⟩) (fun t355 H locs hr hW => ?_)
                      refine z_iadd X hr dL_law_358 (fun t358 hr => ?_)
                      refine lv_goto (tgt := 452) X.1 X.2.1 dL_law_359 (by decide) ?_
                      exact J_452 x11 x12 x13 x14 s0 t358 fq fa fe fn ft fp fw fr fc v u _ _ _ hr hW (lv_sub hl [1, 2, 3, 4, 5, 6, 7, 8, 9, 10, 11, 12, 13, 14, 15, 0] rfl)
                  · refine lv_iconst (v := 1) X.1 X.2.1 dL_law_329 (by decide) ?_
                    refine lv_iload X.1 X.2.1 dL_law_330 (lv_at hl 14 rfl) ?_
                    refine lv_iconst (v := 5) X.1 X.2.1 dL_law_332 (by decide) ?_
                    refine z_ishr X hr dL_law_333 (fun t333 hr => ?_)
                    refine lv_bipush (v := 9) X.1 X.2.1 dL_law_334 (by decide) ?_
                    have hp_336 := (show (((arW E Aq 19 fq) ++ ((arW E Aa 30 fa) ++ ((arW E Ae 30 fe) ++ ((arW E An 30 fn) ++ ((arW E At 30 ft) ++ ((arW E Ap 18 fp) ++ ((arW E Aw 16 fw) ++ ((arW E Ar 30 fr) ++ ((arW E Ac 24 fc) ++ ((xoW E a b) ++ ((hsW E (zh a 1) v) ++ ((rdW E (zh a 30) w) ++ ((hiW E (zh a 33) u) ++ (slW E b q))))))))))))))).Perm (([] : va_W) ++ ((arW E Aq 19 fq) ++ ((arW E Aa 30 fa) ++ ((arW E Ae 30 fe) ++ ((arW E An 30 fn) ++ ((arW E At 30 ft) ++ ((arW E Ap 18 fp) ++ ((arW E Aw 16 fw) ++ ((arW E Ar 30 fr) ++ ((arW E Ac 24 fc) ++ ((xoW E a b) ++ ((hsW E (zh a 1) v) ++ ((rdW E (zh a 30) w) ++ ((hiW E (zh a 33) u) ++ (slW E b q))))))))))))))) from List.Perm.refl _)
                    refine z_callp X hW hr hp_336 (fun x h => z_runS (As := [.int t333, .int 9]) (rest := [.int 1]) X hW hp_336 (c_L_low l E t333 9 x h _) hy_L_low gL_law_L_low rfl rfl ⟨by decide, by decide⟩ rfl hl rfl rfl (Nat.le_of_ble_eq_true rfl) dL_law_336 ⟨Nat.le_refl _, Nat.le_refl _⟩) (fun t336 H locs hr hW => ?_)
                    refine z_iadd X hr dL_law_339 (fun t339 hr => ?_)
                    refine lv_goto (tgt := 452) X.1 X.2.1 dL_law_340 (by decide) ?_
                    exact J_452 x11 x12 x13 x14 s0 t339 fq fa fe fn ft fp fw fr fc v u _ _ _ hr hW (lv_sub hl [1, 2, 3, 4, 5, 6, 7, 8, 9, 10, 11, 12, 13, 14, 15, 0] rfl)
                obtain ⟨j_269, e_269, hr⟩ := zjn_some hr
                have J_269 : ∀ (x11 : Int32) (x12 : Int32) (x13 : Int32) (x14 : Int32) (fq : Nat → Int32) (fa : Nat → Int32) (fe : Nat → Int32) (fn : Nat → Int32) (ft : Nat → Int32) (fp : Nat → Int32) (fw : Nat → Int32) (fr : Nat → Int32) (fc : Nat → Int32) (v : zHV) (u : zHI) (H : Heap) (locs : List Loc) (ls : Array Slot), j_269 x11 x12 x13 x14 fq fa fe fn ft fp fw fr fc v u = some r → zW E A s ((arW E Aq 19 fq) ++ ((arW E Aa 30 fa) ++ ((arW E Ae 30 fe) ++ ((arW E An 30 fn) ++ ((arW E At 30 ft) ++ ((arW E Ap 18 fp) ++ ((arW E Aw 16 fw) ++ ((arW E Ar 30 fr) ++ ((arW E Ac 24 fc) ++ ((xoW E a b) ++ ((hsW E (zh a 1) v) ++ ((rdW E (zh a 30) w) ++ ((hiW E (zh a 33) u) ++ (slW E b q)))))))))))))) H locs → lv_has ls 22 [(0, .ref (E.2.2.2.1 3)), (1, .ref (a 0)), (2, .ref (Aq 0)), (3, .ref (Aa 0)), (4, .ref (Ae 0)), (5, .ref (An 0)), (6, .ref (At 0)), (7, .ref (Ap 0)), (8, .ref (Aw 0)), (9, .ref (Ar 0)), (10, .ref (Ac 0)), (11, .int x11), (12, .int x12), (13, .int x13), (14, .int x14)] → W p l e room_1 s m #[Value.ref (E.2.2.2.1 3)] below meth c H locs 600000 7302250 (lw_Z below #[Value.ref (E.2.2.2.1 3)] s) (F0 m 269 ls []) := by
                  intro x11 x12 x13 x14 fq fa fe fn ft fp fw fr fc v u H locs ls hr hW hl
                  rw [e_269] at hr
                  refine lv_iload X.1 X.2.1 dL_law_269 (lv_at hl 13 rfl) ?_
                  refine lv_bipush (v := 30) X.1 X.2.1 dL_law_271 (by decide) ?_
                  have hp_273 := (show (((arW E Aq 19 fq) ++ ((arW E Aa 30 fa) ++ ((arW E Ae 30 fe) ++ ((arW E An 30 fn) ++ ((arW E At 30 ft) ++ ((arW E Ap 18 fp) ++ ((arW E Aw 16 fw) ++ ((arW E Ar 30 fr) ++ ((arW E Ac 24 fc) ++ ((xoW E a b) ++ ((hsW E (zh a 1) v) ++ ((rdW E (zh a 30) w) ++ ((hiW E (zh a 33) u) ++ (slW E b q))))))))))))))).Perm (([] : va_W) ++ ((arW E Aq 19 fq) ++ ((arW E Aa 30 fa) ++ ((arW E Ae 30 fe) ++ ((arW E An 30 fn) ++ ((arW E At 30 ft) ++ ((arW E Ap 18 fp) ++ ((arW E Aw 16 fw) ++ ((arW E Ar 30 fr) ++ ((arW E Ac 24 fc) ++ ((xoW E a b) ++ ((hsW E (zh a 1) v) ++ ((rdW E (zh a 30) w) ++ ((hiW E (zh a 33) u) ++ (slW E b q))))))))))))))) from List.Perm.refl _)
                  refine z_callp X hW hr hp_273 (fun x h => z_runS (As := [.int x13, .int 30]) (rest := []) X hW hp_273 (c_L_low l E x13 30 x h _) hy_L_low gL_law_L_low rfl rfl ⟨by decide, by decide⟩ rfl hl rfl rfl (Nat.le_of_ble_eq_true rfl) dL_law_273 ⟨Nat.le_refl _, Nat.le_refl _⟩) (fun t273 H locs hr hW => ?_)
                  refine lv_goto (tgt := 320) X.1 X.2.1 dL_law_276 (by decide) ?_
                  exact J_320 x11 x12 x13 x14 t273 fq fa fe fn ft fp fw fr fc v u _ _ _ hr hW (lv_sub hl [0, 1, 2, 3, 4, 5, 6, 7, 8, 9, 10, 11, 12, 13, 14] rfl)
                refine z_ifeq X 269 hr dL_law_252 (by decide) (fun hr => ?_) (fun hr => ?_)
                · exact J_269 x11 x12 x13 s0 fq fa fe fn ft fp fw fr fc v u _ _ _ hr hW (lv_sub hl [1, 2, 3, 4, 5, 6, 7, 8, 9, 10, 11, 12, 13, 14, 0] rfl)
                · refine lv_iload X.1 X.2.1 dL_law_255 (lv_at hl 0 rfl) ?_
                  refine lv_bipush (v := 6) X.1 X.2.1 dL_law_257 (by decide) ?_
                  refine z_cmpeq X 269 hr dL_law_259 (by decide) (fun hr => ?_) (fun hr => ?_)
                  · exact J_269 x11 x12 x13 s0 fq fa fe fn ft fp fw fr fc v u _ _ _ hr hW (lv_sub hl [1, 2, 3, 4, 5, 6, 7, 8, 9, 10, 11, 12, 13, 14, 0] rfl)
                  · refine lv_iload X.1 X.2.1 dL_law_262 (lv_at hl 0 rfl) ?_
                    refine lv_bipush (v := 7) X.1 X.2.1 dL_law_264 (by decide) ?_
                    refine z_cmpne X 279 hr dL_law_266 (by decide) (fun hr => ?_) (fun hr => ?_)
                    · refine lv_iload X.1 X.2.1 dL_law_279 (lv_at hl 0 rfl) ?_
                      refine lv_iconst (v := 2) X.1 X.2.1 dL_law_281 (by decide) ?_
                      refine z_cmpne X 313 hr dL_law_282 (by decide) (fun hr => ?_) (fun hr => ?_)
                      · refine lv_iload X.1 X.2.1 dL_law_313 (lv_at hl 14 rfl) ?_
                        refine lv_bipush (v := 6) X.1 X.2.1 dL_law_315 (by decide) ?_
                        have hp_317 := (show (((arW E Aq 19 fq) ++ ((arW E Aa 30 fa) ++ ((arW E Ae 30 fe) ++ ((arW E An 30 fn) ++ ((arW E At 30 ft) ++ ((arW E Ap 18 fp) ++ ((arW E Aw 16 fw) ++ ((arW E Ar 30 fr) ++ ((arW E Ac 24 fc) ++ ((xoW E a b) ++ ((hsW E (zh a 1) v) ++ ((rdW E (zh a 30) w) ++ ((hiW E (zh a 33) u) ++ (slW E b q))))))))))))))).Perm (([] : va_W) ++ ((arW E Aq 19 fq) ++ ((arW E Aa 30 fa) ++ ((arW E Ae 30 fe) ++ ((arW E An 30 fn) ++ ((arW E At 30 ft) ++ ((arW E Ap 18 fp) ++ ((arW E Aw 16 fw) ++ ((arW E Ar 30 fr) ++ ((arW E Ac 24 fc) ++ ((xoW E a b) ++ ((hsW E (zh a 1) v) ++ ((rdW E (zh a 30) w) ++ ((hiW E (zh a 33) u) ++ (slW E b q))))))))))))))) from List.Perm.refl _)
                        refine z_callp X hW hr hp_317 (fun x h => z_runS (As := [.int x13, .int 6]) (rest := []) X hW hp_317 (c_L_low l E x13 6 x h _) hy_L_low gL_law_L_low rfl rfl ⟨by decide, by decide⟩ rfl hl rfl rfl (Nat.le_of_ble_eq_true rfl) dL_law_317 ⟨Nat.le_refl _, Nat.le_refl _⟩) (fun t317 H locs hr hW => ?_)
                        exact J_320 x11 x12 x13 s0 t317 fq fa fe fn ft fp fw fr fc v u _ _ _ hr hW (lv_sub hl [1, 2, 3, 4, 5, 6, 7, 8, 9, 10, 11, 12, 13, 14, 0] rfl)
                      · refine lv_iconst (v := 1) X.1 X.2.1 dL_law_285 (by decide) ?_
                        refine lv_iload X.1 X.2.1 dL_law_286 (lv_at hl 14 rfl) ?_
                        refine lv_iload X.1 X.2.1 dL_law_288 (lv_at hl 14 rfl) ?_
                        refine lv_bipush (v := 20) X.1 X.2.1 dL_law_290 (by decide) ?_
                        refine z_ishr X hr dL_law_292 (fun t292 hr => ?_)
                        refine lv_iconst (v := 4) X.1 X.2.1 dL_law_293 (by decide) ?_
                        have hp_294 := (show (((arW E Aq 19 fq) ++ ((arW E Aa 30 fa) ++ ((arW E Ae 30 fe) ++ ((arW E An 30 fn) ++ ((arW E At 30 ft) ++ ((arW E Ap 18 fp) ++ ((arW E Aw 16 fw) ++ ((arW E Ar 30 fr) ++ ((arW E Ac 24 fc) ++ ((xoW E a b) ++ ((hsW E (zh a 1) v) ++ ((rdW E (zh a 30) w) ++ ((hiW E (zh a 33) u) ++ (slW E b q))))))))))))))).Perm (([] : va_W) ++ ((arW E Aq 19 fq) ++ ((arW E Aa 30 fa) ++ ((arW E Ae 30 fe) ++ ((arW E An 30 fn) ++ ((arW E At 30 ft) ++ ((arW E Ap 18 fp) ++ ((arW E Aw 16 fw) ++ ((arW E Ar 30 fr) ++ ((arW E Ac 24 fc) ++ ((xoW E a b) ++ ((hsW E (zh a 1) v) ++ ((rdW E (zh a 30) w) ++ ((hiW E (zh a 33) u) ++ (slW E b q))))))))))))))) from List.Perm.refl _)
                        refine z_callp X hW hr hp_294 (fun x h => z_runS (As := [.int t292, .int 4]) (rest := [.int x13, .int 1]) X hW hp_294 (c_L_low l E t292 4 x h _) hy_L_low gL_law_L_low rfl rfl ⟨by decide, by decide⟩ rfl hl rfl rfl (Nat.le_of_ble_eq_true rfl) dL_law_294 ⟨Nat.le_refl _, Nat.le_refl _⟩) (fun t294 H locs hr hW => ?_)
                        obtain ⟨j_306, e_306, hr⟩ := zjn_some hr
                        have J_306 : ∀ (x11 : Int32) (x12 : Int32) (x13 : Int32) (x14 : Int32) (s0 : Int32) (s1 : Int32) (s2 : Int32) (fq : Nat → Int32) (fa : Nat → Int32) (fe : Nat → Int32) (fn : Nat → Int32) (ft : Nat → Int32) (fp : Nat → Int32) (fw : Nat → Int32) (fr : Nat → Int32) (fc : Nat → Int32) (v : zHV) (u : zHI) (H : Heap) (locs : List Loc) (ls : Array Slot), j_306 x11 x12 x13 x14 s0 s1 s2 fq fa fe fn ft fp fw fr fc v u = some r → zW E A s ((arW E Aq 19 fq) ++ ((arW E Aa 30 fa) ++ ((arW E Ae 30 fe) ++ ((arW E An 30 fn) ++ ((arW E At 30 ft) ++ ((arW E Ap 18 fp) ++ ((arW E Aw 16 fw) ++ ((arW E Ar 30 fr) ++ ((arW E Ac 24 fc) ++ ((xoW E a b) ++ ((hsW E (zh a 1) v) ++ ((rdW E (zh a 30) w) ++ ((hiW E (zh a 33) u) ++ (slW E b q)))))))))))))) H locs → lv_has ls 22 [(0, .ref (E.2.2.2.1 3)), (1, .ref (a 0)), (2, .ref (Aq 0)), (3, .ref (Aa 0)), (4, .ref (Ae 0)), (5, .ref (An 0)), (6, .ref (At 0)), (7, .ref (Ap 0)), (8, .ref (Aw 0)), (9, .ref (Ar 0)), (10, .ref (Ac 0)), (11, .int x11), (12, .int x12), (13, .int x13), (14, .int x14)] → W p l e room_1 s m #[Value.ref (E.2.2.2.1 3)] below meth c H locs 600000 7302250 (lw_Z below #[Value.ref (E.2.2.2.1 3)] s) (F0 m 306 ls [.int s0, .int s1, .int s2]) := by
                          intro x11 x12 x13 x14 s0 s1 s2 fq fa fe fn ft fp fw fr fc v u H locs ls hr hW hl
                          rw [e_306] at hr
                          have hp_306 := (show (((arW E Aq 19 fq) ++ ((arW E Aa 30 fa) ++ ((arW E Ae 30 fe) ++ ((arW E An 30 fn) ++ ((arW E At 30 ft) ++ ((arW E Ap 18 fp) ++ ((arW E Aw 16 fw) ++ ((arW E Ar 30 fr) ++ ((arW E Ac 24 fc) ++ ((xoW E a b) ++ ((hsW E (zh a 1) v) ++ ((rdW E (zh a 30) w) ++ ((hiW E (zh a 33) u) ++ (slW E b q))))))))))))))).Perm (([] : va_W) ++ ((arW E Aq 19 fq) ++ ((arW E Aa 30 fa) ++ ((arW E Ae 30 fe) ++ ((arW E An 30 fn) ++ ((arW E At 30 ft) ++ ((arW E Ap 18 fp) ++ ((arW E Aw 16 fw) ++ ((arW E Ar 30 fr) ++ ((arW E Ac 24 fc) ++ ((xoW E a b) ++ ((hsW E (zh a 1) v) ++ ((rdW E (zh a 30) w) ++ ((hiW E (zh a 33) u) ++ (slW E b q))))))))))))))) from List.Perm.refl _)
                          refine z_callp X hW hr hp_306 (fun x h => z_runS (As := [.int s1, .int s0]) (rest := [.int s2]) X hW hp_306 (c_L_low l E s1 s0 x h _) hy_L_low gL_law_L_low rfl rfl ⟨by decide, by decide⟩ rfl hl rfl rfl (Nat.le_of_ble_eq_true rfl) dL_law_306 ⟨Nat.le_refl _, Nat.le_refl _⟩) (fun t306 H locs hr hW => ?_)
                          refine z_iadd X hr dL_law_309 (fun t309 hr => ?_)
                          refine lv_goto (tgt := 320) X.1 X.2.1 dL_law_310 (by decide) ?_
                          exact J_320 x11 x12 x13 x14 t309 fq fa fe fn ft fp fw fr fc v u _ _ _ hr hW (lv_sub hl [0, 1, 2, 3, 4, 5, 6, 7, 8, 9, 10, 11, 12, 13, 14] rfl)
                        refine z_ifne X 305 hr dL_law_297 (by decide) (fun hr => ?_) (fun hr => ?_)
                        · refine lv_iconst (v := 4) X.1 X.2.1 dL_law_305 (by decide) ?_
                          exact J_306 x11 x12 x13 s0 4 x13 1 fq fa fe fn ft fp fw fr fc v u _ _ _ hr hW (lv_sub hl [1, 2, 3, 4, 5, 6, 7, 8, 9, 10, 11, 12, 13, 14, 0] rfl)
                        · refine lv_bipush (v := 99) X.1 X.2.1 dL_law_300 (by decide) ?_
                          refine lv_goto (tgt := 306) X.1 X.2.1 dL_law_302 (by decide) ?_
                          exact J_306 x11 x12 x13 s0 99 x13 1 fq fa fe fn ft fp fw fr fc v u _ _ _ hr hW (lv_sub hl [1, 2, 3, 4, 5, 6, 7, 8, 9, 10, 11, 12, 13, 14, 0] rfl)
                    · exact J_269 x11 x12 x13 s0 fq fa fe fn ft fp fw fr fc v u _ _ _ hr hW (lv_sub hl [1, 2, 3, 4, 5, 6, 7, 8, 9, 10, 11, 12, 13, 14, 0] rfl)
              refine z_cmpge X 167 hr dL_law_160 (by decide) (fun hr => ?_) (fun hr => ?_)
              · refine lv_iload X.1 X.2.1 dL_law_167 (lv_at hl 0 rfl) ?_
                refine lv_bipush (v := 18) X.1 X.2.1 dL_law_169 (by decide) ?_
                refine z_cmpge X 178 hr dL_law_171 (by decide) (fun hr => ?_) (fun hr => ?_)
                · refine lv_iload X.1 X.2.1 dL_law_178 (lv_at hl 0 rfl) ?_
                  refine lv_bipush (v := 21) X.1 X.2.1 dL_law_180 (by decide) ?_
                  refine z_cmpge X 189 hr dL_law_182 (by decide) (fun hr => ?_) (fun hr => ?_)
                  · refine lv_iload X.1 X.2.1 dL_law_189 (lv_at hl 0 rfl) ?_
                    refine lv_bipush (v := 24) X.1 X.2.1 dL_law_191 (by decide) ?_
                    refine z_cmpge X 200 hr dL_law_193 (by decide) (fun hr => ?_) (fun hr => ?_)
                    · refine lv_iload X.1 X.2.1 dL_law_200 (lv_at hl 0 rfl) ?_
                      refine lv_bipush (v := 26) X.1 X.2.1 dL_law_202 (by decide) ?_
                      refine z_cmpge X 211 hr dL_law_204 (by decide) (fun hr => ?_) (fun hr => ?_)
                      · refine lv_iload X.1 X.2.1 dL_law_211 (lv_at hl 0 rfl) ?_
                        refine lv_bipush (v := 26) X.1 X.2.1 dL_law_213 (by decide) ?_
                        refine z_cmpne X 222 hr dL_law_215 (by decide) (fun hr => ?_) (fun hr => ?_)
                        · refine lv_iload X.1 X.2.1 dL_law_222 (lv_at hl 0 rfl) ?_
                          refine lv_bipush (v := 29) X.1 X.2.1 dL_law_224 (by decide) ?_
                          refine z_cmpge X 234 hr dL_law_226 (by decide) (fun hr => ?_) (fun hr => ?_)
                          · refine lv_iload X.1 X.2.1 dL_law_234 (lv_at hl 0 rfl) ?_
                            refine lv_bipush (v := 29) X.1 X.2.1 dL_law_236 (by decide) ?_
                            refine z_cmpne X 246 hr dL_law_238 (by decide) (fun hr => ?_) (fun hr => ?_)
                            · refine lv_bipush (v := 8) X.1 X.2.1 dL_law_246 (by decide) ?_
                              exact J_248 x11 t130 t142 t151 8 fq fa fe fn ft fp fw fr fc v u _ _ _ hr hW (lv_sub hl [3, 4, 5, 6, 7, 8, 9, 10, 11, 12, 13, 14, 2, 1, 0] rfl)
                            · refine lv_bipush (v := 7) X.1 X.2.1 dL_law_241 (by decide) ?_
                              refine lv_goto (tgt := 248) X.1 X.2.1 dL_law_243 (by decide) ?_
                              exact J_248 x11 t130 t142 t151 7 fq fa fe fn ft fp fw fr fc v u _ _ _ hr hW (lv_sub hl [3, 4, 5, 6, 7, 8, 9, 10, 11, 12, 13, 14, 2, 1, 0] rfl)
                          · refine lv_bipush (v := 6) X.1 X.2.1 dL_law_229 (by decide) ?_
                            refine lv_goto (tgt := 248) X.1 X.2.1 dL_law_231 (by decide) ?_
                            exact J_248 x11 t130 t142 t151 6 fq fa fe fn ft fp fw fr fc v u _ _ _ hr hW (lv_sub hl [3, 4, 5, 6, 7, 8, 9, 10, 11, 12, 13, 14, 2, 1, 0] rfl)
                        · refine lv_iconst (v := 5) X.1 X.2.1 dL_law_218 (by decide) ?_
                          refine lv_goto (tgt := 248) X.1 X.2.1 dL_law_219 (by decide) ?_
                          exact J_248 x11 t130 t142 t151 5 fq fa fe fn ft fp fw fr fc v u _ _ _ hr hW (lv_sub hl [3, 4, 5, 6, 7, 8, 9, 10, 11, 12, 13, 14, 2, 1, 0] rfl)
                      · refine lv_iconst (v := 4) X.1 X.2.1 dL_law_207 (by decide) ?_
                        refine lv_goto (tgt := 248) X.1 X.2.1 dL_law_208 (by decide) ?_
                        exact J_248 x11 t130 t142 t151 4 fq fa fe fn ft fp fw fr fc v u _ _ _ hr hW (lv_sub hl [3, 4, 5, 6, 7, 8, 9, 10, 11, 12, 13, 14, 2, 1, 0] rfl)
                    · refine lv_iconst (v := 3) X.1 X.2.1 dL_law_196 (by decide) ?_
                      refine lv_goto (tgt := 248) X.1 X.2.1 dL_law_197 (by decide) ?_
                      exact J_248 x11 t130 t142 t151 3 fq fa fe fn ft fp fw fr fc v u _ _ _ hr hW (lv_sub hl [3, 4, 5, 6, 7, 8, 9, 10, 11, 12, 13, 14, 2, 1, 0] rfl)
                  · refine lv_iconst (v := 2) X.1 X.2.1 dL_law_185 (by decide) ?_
                    refine lv_goto (tgt := 248) X.1 X.2.1 dL_law_186 (by decide) ?_
                    exact J_248 x11 t130 t142 t151 2 fq fa fe fn ft fp fw fr fc v u _ _ _ hr hW (lv_sub hl [3, 4, 5, 6, 7, 8, 9, 10, 11, 12, 13, 14, 2, 1, 0] rfl)
                · refine lv_iconst (v := 1) X.1 X.2.1 dL_law_174 (by decide) ?_
                  refine lv_goto (tgt := 248) X.1 X.2.1 dL_law_175 (by decide) ?_
                  exact J_248 x11 t130 t142 t151 1 fq fa fe fn ft fp fw fr fc v u _ _ _ hr hW (lv_sub hl [3, 4, 5, 6, 7, 8, 9, 10, 11, 12, 13, 14, 2, 1, 0] rfl)
              · refine lv_iconst (v := 0) X.1 X.2.1 dL_law_163 (by decide) ?_
                refine lv_goto (tgt := 248) X.1 X.2.1 dL_law_164 (by decide) ?_
                exact J_248 x11 t130 t142 t151 0 fq fa fe fn ft fp fw fr fc v u _ _ _ hr hW (lv_sub hl [3, 4, 5, 6, 7, 8, 9, 10, 11, 12, 13, 14, 2, 1, 0] rfl)
        exact L_118 _ 0 fq fa fe fn ft fp fw fr fc v u _ _ _ hr hW (lv_sub hl [1, 2, 3, 4, 5, 6, 7, 8, 9, 10, 11, 0] rfl)
      · refine lv_aload_n X.1 X.2.1 dL_law_104 rfl (lv_at hl 3 rfl) ?_
        refine lv_iload X.1 X.2.1 dL_law_105 (lv_at hl 11 rfl) ?_
        refine lv_iconst (v := 3) X.1 X.2.1 dL_law_107 (by decide) ?_
        refine z_ast X hW 1 hr (fun fa108 => ((arW E Aq 19 fq) ++ ((arW E Aa 30 fa108) ++ ((arW E Ae 30 fe) ++ ((arW E An 30 fn) ++ ((arW E At 30 ft) ++ ((arW E Ap 18 fp) ++ ((arW E Aw 16 fw) ++ ((arW E Ar 30 fr) ++ ((arW E Ac 24 fc) ++ ((xoW E a b) ++ ((hsW E (zh a 1) v) ++ ((rdW E (zh a 30) w) ++ ((hiW E (zh a 33) u) ++ (slW E b q))))))))))))))) rfl (fun _ => rfl) dL_law_108 (fun fa108 H locs hr hW => ?_)
        refine z_iinc X (fun x11_109 => [(11, .int x11_109), (0, .ref (E.2.2.2.1 3)), (1, .ref (a 0)), (2, .ref (Aq 0)), (3, .ref (Aa 0)), (4, .ref (Ae 0)), (5, .ref (An 0)), (6, .ref (At 0)), (7, .ref (Ap 0)), (8, .ref (Aw 0)), (9, .ref (Ar 0)), (10, .ref (Ac 0))]) hr hl (k := 11) rfl (by decide) (fun _ => rfl) dL_law_109 (fun x11_109 ls hr hl => ?_)
        refine lv_goto (tgt := 97) X.1 X.2.1 dL_law_112 (by decide) ?_
        exact ih_97 x11_109 fq fa108 fe fn ft fp fw fr fc v u _ _ _ hr hW (lv_sub hl [1, 2, 3, 4, 5, 6, 7, 8, 9, 10, 11, 0] rfl)
  exact L_97 _ 0 fq93 fa fe fn ft fp fw fr fc v u _ _ _ hr hW (lv_sub hl [1, 2, 3, 4, 5, 6, 7, 8, 9, 10, 11, 0] rfl)
