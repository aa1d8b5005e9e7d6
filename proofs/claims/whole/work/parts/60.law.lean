/-! THE CLAIM OUT OF ONE WALK OF THE LAW'S BODY. Your part is whole_start (and what it stands on); all else here is the same for every law, but numbers. -/
def R_law : String := "ApplauseTalliesLaw"
def lw_P (b : Addr) (xs : List Int32) (args : Array Value) (s : State) : Prop := args = #[.ref b] ∧ s.IntsAt b xs ∧ xs.length ≤ 1536 ∧ (Jvm.Cond.and given_1 narrow_1).before args s = true
def lw_Q (_ : Array Value) (s : State) (o : Outcome) (t : State) : Prop := o = .returned (some (.int 1)) ∧ Framed s o t [] 600000 7302250
def lw_Z (below : List Frame) (a : Array Value) (s : State) : State → Prop := fun t => ∃ o, t.status = .running ∧ Ended t below o ∧ lw_Q a s o t
/-- the law's own end, with 1 on the stack, nothing written that was there before, its room as the claim has it -/
theorem lw_ret {p : Program} {l : Launch} {e : Env} {s : State} {m : MethodId} {below : List Frame} {meth : Method} {c : Code} {b : Nat} (hx : p.tables.exec = Jvm.exec) (hb : c.code = code) (hr : meth.sig.returnType = ret) (hlocks : meth.locks = false) {pc : Nat} {H : Heap} {ls : Array Slot} (hdg : decode code pc = .ok (.ireturn, 1)) : W p l e room_1 s m #[Value.ref b] below meth c H [] 600000 7302250 (lw_Z below #[Value.ref b] s) (F0 m pc ls [.int 1]) := by
  intro T hT X
  obtain ⟨fs, hret, hrun, hended, hW, hframe⟩ := X.leave (v := some (.int 1)) (hlocks := hlocks) (fun h => by rw [hr] at h; cases h)
  have hmeth' : T.vm.method? m = some meth := X.method'
  refine ⟨T.setFrames fs, ?_, .returned (some (.int 1)), hrun, hended, rfl, ⟨_, rfl⟩, hW, hframe⟩
  jvm_step X.here [X.here.top, hx, hb, hdg, hmeth', hr, ret, narrow_b1]
  (try refine ⟨rfl, ?_⟩); (try refine ⟨rfl, ?_⟩)
  first | (intro acts; rw [hret _ acts rfl rfl rfl]) | rw [hret _ _ rfl rfl rfl]
  exact Steps.refl _
/-- what holds at the law's entry: the machine, the code, the tables' words (any of lw_tbl by 'hts w (by decide +kernel)'), the script of L ints xs at the cell b, what the Statement gives of the start (any of its parts by flat_of_before) -/
def lw_At (p : Program) (s : State) (m : MethodId) (meth : Method) (c : Code) (b L : Nat) (xs : Nat → Int32) : Prop :=
  p.tables.exec = Jvm.exec ∧ c.code = code ∧ meth.sig.returnType = ret ∧ c.maxLocals = 4 ∧ s.vm.findClass R_law = some m.cls ∧ (∀ w ∈ lw_tbl, w.before #[Value.ref b] s = true) ∧ va_X b L xs s s.heap ∧ b < s.heap.size ∧ meth.locks = false ∧ (Jvm.Cond.and given_1 narrow_1).before #[Value.ref b] s = true

/-! ===== the law: what each call owes (zSt_..), and the law's loop out of it ===== -/
section ZL
variable {p : Program} {l : Launch} {e : Env} {R : Room} {s : State} {m : MethodId} {args : Array Value} {below : List Frame} {meth : Method} {c : Code} {H : Heap} {locs : List Loc} {cells slots : Nat} {Q : State → Prop}
variable {cc : ByteArray} {pc : Nat} {ls : Array Slot} {rest : List Value} {E : zE} {ws : List Cond} {own : String} {nL : Nat} {ret : Option FieldType} {y0 : MethodName} {A : Nat → Prop} {w : va_W}
theorem z_iaddn (X : zX E ws own cc nL ret y0 p s m args meth c A) {a : Nat} (k : Nat) {y : Int32} (hy : y = nI k) (hdg : decode cc pc = .ok (.iadd, 1)) (kk : W p l e R s m args below meth c H locs cells slots Q (F0 m (pc + 1) ls (.int (nI (a + k)) :: rest))) : W p l e R s m args below meth c H locs cells slots Q (F0 m pc ls (.int y :: .int (nI a) :: rest)) := by
  subst hy
  refine lv_iadd X.1 X.2.1 hdg ?_
  rw [nI_add]
  exact kk
theorem z_script (X : zX E ws own cc nL ret y0 p s m args meth c A) {b L : Nat} {xs : Nat → Int32} (hX : va_X b L xs s s.heap) (hbl : b < s.heap.size) (hbA : ¬ A b) (hW : zW E A s w H locs) {i : Nat} (hi : i < L) (hL : L < 2 ^ 31) (hdg : decode cc pc = .ok (.iaload, 1))
    (kk : W p l e R s m args below meth c H locs cells slots Q (F0 m (pc + 1) ls (.int (xs i) :: rest))) : W p l e R s m args below meth c H locs cells slots Q (F0 m pc ls (.int (nI i) :: .ref b :: rest)) := by
  refine va_sld X.1 X.2.1 hX hbl hbA hW.2.2 (vp_in_nI hi hL) hdg ?_
  rw [nI_clamp (by omega)]
  exact kk
end ZL
theorem law_cmp {L j : Nat} (hL : L ≤ 1536) (hj : 3 * j ≤ L) : (nI L - 3 < nI (3 * j)) ↔ L < 3 * j + 3 := by
  by_cases h3 : 3 ≤ L
  · rw [show (3 : Int32) = nI 3 from rfl, pk_sub h3, nI_ltI (by omega) (by omega)]
    omega
  · obtain rfl : j = 0 := by omega
    constructor
    · intro _; omega
    · intro _
      match L, h3 with
      | 0, _ => decide
      | 1, _ => decide
      | 2, _ => decide
      | L + 3, h => omega
set_option maxHeartbeats 8000000 in
set_option maxRecDepth 100000 in
/-- the law's loop, for any relation S that every call keeps -/
theorem law_loop {S : zREL} (hSt : zSteps S) {p : Program} {l : Launch} {e : Env} {s : State} {m : MethodId} {below : List Frame} {meth : Method} {c : Code} {b L : Nat} {xs : Nat → Int32} {E : zE} {y0 : MethodName} (hL : L ≤ 1536) (X : zX E wsL_law RL cL_law 4 ret y0 p s m #[Value.ref b] meth c (fun q : Nat => s.heap.size ≤ q)) (hXs : va_X b L xs s s.heap) (hbl : b < s.heap.size) :
    ∀ (n j : Nat), 3 * j ≤ L → 513 ≤ n + j → ∀ (a b0 am : Nat → Nat) (v w : zHV) (u q : zHI) (μ : zHV) (H : Heap) (locs : List Loc) (ls : Array Slot), S j v w u q μ → zW E (fun q : Nat => s.heap.size ≤ q) s (zXW E a b0 v w u q ++ mdW E am μ) H locs → lv_has ls 4 [(0, .ref b), (1, .ref (a 0)), (2, .ref (am 0)), (3, .int (nI (3 * j)))] → W p l e room_1 s m #[Value.ref b] below meth c H locs (246 + 29 * j) (5126 + 256 * j) (lw_Z below #[Value.ref b] s) (F0 m 18 ls []) := by
  have hbA : ¬ (fun q : Nat => s.heap.size ≤ q) b := Nat.not_le.mpr hbl
  obtain ⟨h_skip, h_set, h_loud, h_pay, h_ends, h_clap, h_pass, h_play, h_call, h_night, h_write, h_of, h_performer, h_owed, h_clapper, h_record, h_sign, h_count, h_quietIn, h_clapsFor, h_lapsesIn, h_calls, h_ifFound, h_put, h_wipe, h_fault, h_carryOut, h_undo, h_save, h_restore⟩ := hSt
  have q_mask : Cond.constantLong RL 104 4294967295 ∈ wsL_law := by decide +kernel
  intro n
  induction n with
  | zero =>
    intro j h1 h2
    omega
  | succ n ih =>
    intro j hj hn a b0 am v w u q μ H locs ls hS hW hl
    refine lv_iload_n X.1 X.2.1 dL_law_18 rfl (lv_at hl 3 rfl) ?_
    refine lv_aload_n X.1 X.2.1 dL_law_19 rfl (lv_at hl 0 rfl) ?_
    refine va_slen X.1 X.2.1 hXs hbl hbA hW.2.2 dL_law_20 ?_
    refine lv_iconst (v := 3) X.1 X.2.1 dL_law_21 (by decide) ?_
    refine lv_isub X.1 X.2.1 dL_law_22 ?_
    refine lv_icmp_gt (tgt := 847) X.1 X.2.1 dL_law_23 (by decide) (fun hc => ?_) (fun hc => ?_)
    · refine lv_iconst (v := 1) X.1 X.2.1 dL_law_847 (by decide) ?_
      refine va_forget (fun q hq => hW.2.2.2.2 q hq) ?_
      refine W.widen (k := 600000) (n := 7302250) (by omega) (by omega) ?_
      exact lw_ret X.1 X.2.1 X.2.2.2.2.2.2.2.1 X.2.2.2.2.2.2.2.2.1 dL_law_848
    have hj3 : 3 * j + 3 ≤ L := Nat.not_lt.mp (fun h => hc ((law_cmp hL hj).mpr h))
    have J_841 : ∀ (b1 : Nat → Nat) (v1 w1 : zHV) (u1 q1 : zHI) (μ1 : zHV) (H : Heap) (locs : List Loc) (ls : Array Slot) (k1 k2 : Nat), k1 ≤ 29 → k2 ≤ 256 → S (j + 1) v1 w1 u1 q1 μ1 → zW E (fun q : Nat => s.heap.size ≤ q) s (zXW E a b1 v1 w1 u1 q1 ++ mdW E am μ1) H locs → lv_has ls 4 [(0, .ref b), (1, .ref (a 0)), (2, .ref (am 0)), (3, .int (nI (3 * j)))] → W p l e room_1 s m #[Value.ref b] below meth c H locs (246 + 29 * j + k1) (5126 + 256 * j + k2) (lw_Z below #[Value.ref b] s) (F0 m 841 ls []) := by
      intro b1 v1 w1 u1 q1 μ1 H locs ls k1 k2 hk1 hk2 hS hW hl
      refine lv_iinc (v := nI (3 * (j + 1))) (lv' := [(3, .int (nI (3 * (j + 1)))), (0, .ref b), (1, .ref (a 0)), (2, .ref (am 0))]) X.1 X.2.1 dL_law_841 hl (k := 3) rfl (by rw [show Int32.ofInt 3 = nI 3 from rfl, nI_add]; congr 1) (by decide) rfl (fun ls hl => ?_)
      refine lv_goto (tgt := 18) X.1 X.2.1 dL_law_844 (by decide) ?_
      refine W.widen (k := 246 + 29 * (j + 1)) (n := 5126 + 256 * (j + 1)) (by omega) (by omega) ?_
      exact ih (j + 1) (by omega) (by omega) a b1 am v1 w1 u1 q1 μ1 _ _ _ hS hW (lv_sub hl [1, 2, 3, 0] rfl)
    refine lv_aload_n X.1 X.2.1 dL_law_26 rfl (lv_at hl 0 rfl) ?_
    refine lv_iload_n X.1 X.2.1 dL_law_27 rfl (lv_at hl 3 rfl) ?_
    refine z_script X hXs hbl hbA hW (i := 3 * j) (by omega) (by omega) dL_law_28 ?_
    refine lv_bipush (v := 31) X.1 X.2.1 dL_law_29 (by decide) ?_
    refine lv_iand X.1 X.2.1 dL_law_31 ?_
    refine lv_topi (fun t et => ?_)
    by_cases e_0 : t = 0
    · clear et
      refine lv_tableIn (off := 132) (tgt := 164) X.1 X.2.1 dL_law_32 (by rw [e_0]; decide) (by rw [e_0]; decide) (by rw [e_0]; rfl) (by decide) ?_
      obtain ⟨r, v1, u1, μ1, hd7, hd8, hS1⟩ := h_set j v w u q μ (xs (3 * j + 1)) (xs (3 * j + 2)) (by omega) hS
      refine lv_aload_n X.1 X.2.1 dL_law_164 rfl (lv_at hl 1 rfl) ?_
      refine lv_aload_n X.1 X.2.1 dL_law_165 rfl (lv_at hl 0 rfl) ?_
      refine lv_iload_n X.1 X.2.1 dL_law_166 rfl (lv_at hl 3 rfl) ?_
      refine lv_iconst (v := 1) X.1 X.2.1 dL_law_167 (by decide) ?_
      refine z_iaddn X 1 rfl dL_law_168 ?_
      refine z_script X hXs hbl hbA hW (i := 3 * j + 1) (by omega) (by omega) dL_law_169 ?_
      refine lv_aload_n X.1 X.2.1 dL_law_170 rfl (lv_at hl 0 rfl) ?_
      refine lv_iload_n X.1 X.2.1 dL_law_171 rfl (lv_at hl 3 rfl) ?_
      refine lv_iconst (v := 2) X.1 X.2.1 dL_law_172 (by decide) ?_
      refine z_iaddn X 2 rfl dL_law_173 ?_
      refine z_script X hXs hbl hbA hW (i := 3 * j + 2) (by omega) (by omega) dL_law_174 ?_
      have hp_175 : (zXW E a b0 v w u q ++ mdW E am μ).Perm (zXW E a b0 v w u q ++ mdW E am μ) := List.Perm.refl _
      refine z_calli X hW (d := d_X7_set v w u q (xs (3 * j + 1)) (xs (3 * j + 2))) (fun z => z) (K := fun x z => some (x, z)) (r := (r, (v1, u1))) (by rw [hd7]; rfl) hp_175 (fun z9 => (zXW E a b0 z9.1 w z9.2 q)) (fun z9 => (zXW E a b0 z9.1 w z9.2 q) ++ mdW E am μ) (fun _ => List.Perm.refl _) (fun x z9 h => z_runV (b := a 0) (As := [.int (xs (3 * j + 1)), .int (xs (3 * j + 2))]) (rest := []) X hW hp_175 (c_X7_set l E a b0 v w u q (xs (3 * j + 1)) (xs (3 * j + 2)) (x, z9) h _) hy_X7_set 0 7 (C := RX7) (T := TX7) (N := 5) rfl rfl rfl gL_law_X7_set rfl rfl ⟨by decide, by decide⟩ rfl hl rfl rfl (Nat.le_of_ble_eq_true rfl) dL_law_175 ⟨by show _ ≤ 600000; omega, by show _ ≤ 7302250; omega⟩) (fun t9 z8 H locs h9 hW => ?_)
      cases h9
      refine lv_aload_n X.1 X.2.1 dL_law_178 rfl (lv_at hl 2 rfl) ?_
      refine lv_aload_n X.1 X.2.1 dL_law_179 rfl (lv_at hl 0 rfl) ?_
      refine lv_iload_n X.1 X.2.1 dL_law_180 rfl (lv_at hl 3 rfl) ?_
      refine lv_iconst (v := 1) X.1 X.2.1 dL_law_181 (by decide) ?_
      refine z_iaddn X 1 rfl dL_law_182 ?_
      refine z_script X hXs hbl hbA hW (i := 3 * j + 1) (by omega) (by omega) dL_law_183 ?_
      refine lv_aload_n X.1 X.2.1 dL_law_184 rfl (lv_at hl 0 rfl) ?_
      refine lv_iload_n X.1 X.2.1 dL_law_185 rfl (lv_at hl 3 rfl) ?_
      refine lv_iconst (v := 2) X.1 X.2.1 dL_law_186 (by decide) ?_
      refine z_iaddn X 2 rfl dL_law_187 ?_
      refine z_script X hXs hbl hbA hW (i := 3 * j + 2) (by omega) (by omega) dL_law_188 ?_
      have hp_189 : ((zXW E a b0 v1 w u1 q) ++ mdW E am μ).Perm (mdW E am μ ++ (zXW E a b0 v1 w u1 q)) := List.perm_append_comm
      obtain ⟨qm, hqm⟩ := z_mem (q := (am 0, .inr (8, _))) hp_189 List.mem_cons_self
      refine z_calli X hW (d := d_X8_set μ (xs (3 * j + 1)) (xs (3 * j + 2))) (fun z => z) (K := fun x z => some (x, z)) (r := (r, μ1)) (by rw [hd8]; rfl) hp_189 (fun z9 => mdW E am z9) (fun z9 => (zXW E a b0 v1 w u1 q) ++ mdW E am z9) (fun _ => List.perm_append_comm) (fun x z9 h => z_runV (b := am 0) (As := [.int (xs (3 * j + 1)), .int (xs (3 * j + 2))]) (rest := [.int r]) X hW hp_189 (c_X8_set l E am μ (xs (3 * j + 1)) (xs (3 * j + 2)) (x, z9) h _) hy_X8_set qm 8 (C := RX8) (T := TX8) (N := 12) rfl hqm rfl gL_law_X8_set rfl rfl ⟨by decide, by decide⟩ rfl hl rfl rfl (Nat.le_of_ble_eq_true rfl) dL_law_189 ⟨by show _ ≤ 600000; omega, by show _ ≤ 7302250; omega⟩) (fun t9 z8 H locs h9 hW => ?_)
      cases h9
      refine lv_icmp_eq (tgt := 841) X.1 X.2.1 dL_law_192 (by decide) (fun _ => ?_) (fun hc => absurd rfl hc)
      exact J_841 b0 v1 w u1 q μ1 _ _ _ 0 0 (by omega) (by omega) hS1 hW hl
    by_cases e_1 : t = 1
    · clear et
      refine lv_tableIn (off := 165) (tgt := 197) X.1 X.2.1 dL_law_32 (by rw [e_1]; decide) (by rw [e_1]; decide) (by rw [e_1]; rfl) (by decide) ?_
      obtain ⟨r, v1, u1, μ1, hd7, hd8, hS1⟩ := h_loud j v w u q μ (xs (3 * j + 1)) (xs (3 * j + 2)) (by omega) hS
      refine lv_aload_n X.1 X.2.1 dL_law_197 rfl (lv_at hl 1 rfl) ?_
      refine lv_aload_n X.1 X.2.1 dL_law_198 rfl (lv_at hl 0 rfl) ?_
      refine lv_iload_n X.1 X.2.1 dL_law_199 rfl (lv_at hl 3 rfl) ?_
      refine lv_iconst (v := 1) X.1 X.2.1 dL_law_200 (by decide) ?_
      refine z_iaddn X 1 rfl dL_law_201 ?_
      refine z_script X hXs hbl hbA hW (i := 3 * j + 1) (by omega) (by omega) dL_law_202 ?_
      refine lv_aload_n X.1 X.2.1 dL_law_203 rfl (lv_at hl 0 rfl) ?_
      refine lv_iload_n X.1 X.2.1 dL_law_204 rfl (lv_at hl 3 rfl) ?_
      refine lv_iconst (v := 2) X.1 X.2.1 dL_law_205 (by decide) ?_
      refine z_iaddn X 2 rfl dL_law_206 ?_
      refine z_script X hXs hbl hbA hW (i := 3 * j + 2) (by omega) (by omega) dL_law_207 ?_
      have hp_208 : (zXW E a b0 v w u q ++ mdW E am μ).Perm (zXW E a b0 v w u q ++ mdW E am μ) := List.Perm.refl _
      refine z_calli X hW (d := d_X7_loud v w u q (xs (3 * j + 1)) (xs (3 * j + 2))) (fun z => z) (K := fun x z => some (x, z)) (r := (r, (v1, u1))) (by rw [hd7]; rfl) hp_208 (fun z9 => (zXW E a b0 z9.1 w z9.2 q)) (fun z9 => (zXW E a b0 z9.1 w z9.2 q) ++ mdW E am μ) (fun _ => List.Perm.refl _) (fun x z9 h => z_runV (b := a 0) (As := [.int (xs (3 * j + 1)), .int (xs (3 * j + 2))]) (rest := []) X hW hp_208 (c_X7_loud l E a b0 v w u q (xs (3 * j + 1)) (xs (3 * j + 2)) (x, z9) h _) hy_X7_loud 0 7 (C := RX7) (T := TX7) (N := 5) rfl rfl rfl gL_law_X7_loud rfl rfl ⟨by decide, by decide⟩ rfl hl rfl rfl (Nat.le_of_ble_eq_true rfl) dL_law_208 ⟨by show _ ≤ 600000; omega, by show _ ≤ 7302250; omega⟩) (fun t9 z8 H locs h9 hW => ?_)
      cases h9
      refine lv_aload_n X.1 X.2.1 dL_law_211 rfl (lv_at hl 2 rfl) ?_
      refine lv_aload_n X.1 X.2.1 dL_law_212 rfl (lv_at hl 0 rfl) ?_
      refine lv_iload_n X.1 X.2.1 dL_law_213 rfl (lv_at hl 3 rfl) ?_
      refine lv_iconst (v := 1) X.1 X.2.1 dL_law_214 (by decide) ?_
      refine z_iaddn X 1 rfl dL_law_215 ?_
      refine z_script X hXs hbl hbA hW (i := 3 * j + 1) (by omega) (by omega) dL_law_216 ?_
      refine lv_aload_n X.1 X.2.1 dL_law_217 rfl (lv_at hl 0 rfl) ?_
      refine lv_iload_n X.1 X.2.1 dL_law_218 rfl (lv_at hl 3 rfl) ?_
      refine lv_iconst (v := 2) X.1 X.2.1 dL_law_219 (by decide) ?_
      refine z_iaddn X 2 rfl dL_law_220 ?_
      refine z_script X hXs hbl hbA hW (i := 3 * j + 2) (by omega) (by omega) dL_law_221 ?_
      have hp_222 : ((zXW E a b0 v1 w u1 q) ++ mdW E am μ).Perm (mdW E am μ ++ (zXW E a b0 v1 w u1 q)) := List.perm_append_comm
      obtain ⟨qm, hqm⟩ := z_mem (q := (am 0, .inr (8, _))) hp_222 List.mem_cons_self
      refine z_calli X hW (d := d_X8_loud μ (xs (3 * j + 1)) (xs (3 * j + 2))) (fun z => z) (K := fun x z => some (x, z)) (r := (r, μ1)) (by rw [hd8]; rfl) hp_222 (fun z9 => mdW E am z9) (fun z9 => (zXW E a b0 v1 w u1 q) ++ mdW E am z9) (fun _ => List.perm_append_comm) (fun x z9 h => z_runV (b := am 0) (As := [.int (xs (3 * j + 1)), .int (xs (3 * j + 2))]) (rest := [.int r]) X hW hp_222 (c_X8_loud l E am μ (xs (3 * j + 1)) (xs (3 * j + 2)) (x, z9) h _) hy_X8_loud qm 8 (C := RX8) (T := TX8) (N := 12) rfl hqm rfl gL_law_X8_loud rfl rfl ⟨by decide, by decide⟩ rfl hl rfl rfl (Nat.le_of_ble_eq_true rfl) dL_law_222 ⟨by show _ ≤ 600000; omega, by show _ ≤ 7302250; omega⟩) (fun t9 z8 H locs h9 hW => ?_)
      cases h9
      refine lv_icmp_eq (tgt := 841) X.1 X.2.1 dL_law_225 (by decide) (fun _ => ?_) (fun hc => absurd rfl hc)
      exact J_841 b0 v1 w u1 q μ1 _ _ _ 0 0 (by omega) (by omega) hS1 hW hl
    by_cases e_2 : t = 2
    · clear et
      refine lv_tableIn (off := 198) (tgt := 230) X.1 X.2.1 dL_law_32 (by rw [e_2]; decide) (by rw [e_2]; decide) (by rw [e_2]; rfl) (by decide) ?_
      obtain ⟨r, v1, u1, μ1, hd7, hd8, hS1⟩ := h_pay j v w u q μ (xs (3 * j + 1)) (by omega) hS
      refine lv_aload_n X.1 X.2.1 dL_law_230 rfl (lv_at hl 1 rfl) ?_
      refine lv_aload_n X.1 X.2.1 dL_law_231 rfl (lv_at hl 0 rfl) ?_
      refine lv_iload_n X.1 X.2.1 dL_law_232 rfl (lv_at hl 3 rfl) ?_
      refine lv_iconst (v := 1) X.1 X.2.1 dL_law_233 (by decide) ?_
      refine z_iaddn X 1 rfl dL_law_234 ?_
      refine z_script X hXs hbl hbA hW (i := 3 * j + 1) (by omega) (by omega) dL_law_235 ?_
      have hp_236 : (zXW E a b0 v w u q ++ mdW E am μ).Perm (zXW E a b0 v w u q ++ mdW E am μ) := List.Perm.refl _
      refine z_calli X hW (d := d_X7_pay v w u q (xs (3 * j + 1))) (fun z => z) (K := fun x z => some (x, z)) (r := (r, (v1, u1))) (by rw [hd7]; rfl) hp_236 (fun z9 => (zXW E a b0 z9.1 w z9.2 q)) (fun z9 => (zXW E a b0 z9.1 w z9.2 q) ++ mdW E am μ) (fun _ => List.Perm.refl _) (fun x z9 h => z_runV (b := a 0) (As := [.int (xs (3 * j + 1))]) (rest := []) X hW hp_236 (c_X7_pay l E a b0 v w u q (xs (3 * j + 1)) (x, z9) h _) hy_X7_pay 0 7 (C := RX7) (T := TX7) (N := 5) rfl rfl rfl gL_law_X7_pay rfl rfl ⟨by decide, by decide⟩ rfl hl rfl rfl (Nat.le_of_ble_eq_true rfl) dL_law_236 ⟨by show _ ≤ 600000; omega, by show _ ≤ 7302250; omega⟩) (fun t9 z8 H locs h9 hW => ?_)
      cases h9
      refine lv_aload_n X.1 X.2.1 dL_law_239 rfl (lv_at hl 2 rfl) ?_
      refine lv_aload_n X.1 X.2.1 dL_law_240 rfl (lv_at hl 0 rfl) ?_
      refine lv_iload_n X.1 X.2.1 dL_law_241 rfl (lv_at hl 3 rfl) ?_
      refine lv_iconst (v := 1) X.1 X.2.1 dL_law_242 (by decide) ?_
      refine z_iaddn X 1 rfl dL_law_243 ?_
      refine z_script X hXs hbl hbA hW (i := 3 * j + 1) (by omega) (by omega) dL_law_244 ?_
      have hp_245 : ((zXW E a b0 v1 w u1 q) ++ mdW E am μ).Perm (mdW E am μ ++ (zXW E a b0 v1 w u1 q)) := List.perm_append_comm
      obtain ⟨qm, hqm⟩ := z_mem (q := (am 0, .inr (8, _))) hp_245 List.mem_cons_self
      refine z_calli X hW (d := d_X8_pay μ (xs (3 * j + 1))) (fun z => z) (K := fun x z => some (x, z)) (r := (r, μ1)) (by rw [hd8]; rfl) hp_245 (fun z9 => mdW E am z9) (fun z9 => (zXW E a b0 v1 w u1 q) ++ mdW E am z9) (fun _ => List.perm_append_comm) (fun x z9 h => z_runV (b := am 0) (As := [.int (xs (3 * j + 1))]) (rest := [.int r]) X hW hp_245 (c_X8_pay l E am μ (xs (3 * j + 1)) (x, z9) h _) hy_X8_pay qm 8 (C := RX8) (T := TX8) (N := 12) rfl hqm rfl gL_law_X8_pay rfl rfl ⟨by decide, by decide⟩ rfl hl rfl rfl (Nat.le_of_ble_eq_true rfl) dL_law_245 ⟨by show _ ≤ 600000; omega, by show _ ≤ 7302250; omega⟩) (fun t9 z8 H locs h9 hW => ?_)
      cases h9
      refine lv_icmp_eq (tgt := 841) X.1 X.2.1 dL_law_248 (by decide) (fun _ => ?_) (fun hc => absurd rfl hc)
      exact J_841 b0 v1 w u1 q μ1 _ _ _ 0 0 (by omega) (by omega) hS1 hW hl
    by_cases e_3 : t = 3
    · clear et
      refine lv_tableIn (off := 221) (tgt := 253) X.1 X.2.1 dL_law_32 (by rw [e_3]; decide) (by rw [e_3]; decide) (by rw [e_3]; rfl) (by decide) ?_
      obtain ⟨r, v1, u1, μ1, hd7, hd8, hS1⟩ := h_ends j v w u q μ (xs (3 * j + 1)) (by omega) hS
      refine lv_aload_n X.1 X.2.1 dL_law_253 rfl (lv_at hl 1 rfl) ?_
      refine lv_aload_n X.1 X.2.1 dL_law_254 rfl (lv_at hl 0 rfl) ?_
      refine lv_iload_n X.1 X.2.1 dL_law_255 rfl (lv_at hl 3 rfl) ?_
      refine lv_iconst (v := 1) X.1 X.2.1 dL_law_256 (by decide) ?_
      refine z_iaddn X 1 rfl dL_law_257 ?_
      refine z_script X hXs hbl hbA hW (i := 3 * j + 1) (by omega) (by omega) dL_law_258 ?_
      have hp_259 : (zXW E a b0 v w u q ++ mdW E am μ).Perm (zXW E a b0 v w u q ++ mdW E am μ) := List.Perm.refl _
      refine z_calli X hW (d := d_X7_ends v w u q (xs (3 * j + 1))) (fun z => z) (K := fun x z => some (x, z)) (r := (r, (v1, u1))) (by rw [hd7]; rfl) hp_259 (fun z9 => (zXW E a b0 z9.1 w z9.2 q)) (fun z9 => (zXW E a b0 z9.1 w z9.2 q) ++ mdW E am μ) (fun _ => List.Perm.refl _) (fun x z9 h => z_runV (b := a 0) (As := [.int (xs (3 * j + 1))]) (rest := []) X hW hp_259 (c_X7_ends l E a b0 v w u q (xs (3 * j + 1)) (x, z9) h _) hy_X7_ends 0 7 (C := RX7) (T := TX7) (N := 5) rfl rfl rfl gL_law_X7_ends rfl rfl ⟨by decide, by decide⟩ rfl hl rfl rfl (Nat.le_of_ble_eq_true rfl) dL_law_259 ⟨by show _ ≤ 600000; omega, by show _ ≤ 7302250; omega⟩) (fun t9 z8 H locs h9 hW => ?_)
      cases h9
      refine lv_aload_n X.1 X.2.1 dL_law_262 rfl (lv_at hl 2 rfl) ?_
      refine lv_aload_n X.1 X.2.1 dL_law_263 rfl (lv_at hl 0 rfl) ?_
      refine lv_iload_n X.1 X.2.1 dL_law_264 rfl (lv_at hl 3 rfl) ?_
      refine lv_iconst (v := 1) X.1 X.2.1 dL_law_265 (by decide) ?_
      refine z_iaddn X 1 rfl dL_law_266 ?_
      refine z_script X hXs hbl hbA hW (i := 3 * j + 1) (by omega) (by omega) dL_law_267 ?_
      have hp_268 : ((zXW E a b0 v1 w u1 q) ++ mdW E am μ).Perm (mdW E am μ ++ (zXW E a b0 v1 w u1 q)) := List.perm_append_comm
      obtain ⟨qm, hqm⟩ := z_mem (q := (am 0, .inr (8, _))) hp_268 List.mem_cons_self
      refine z_calli X hW (d := d_X8_ends μ (xs (3 * j + 1))) (fun z => z) (K := fun x z => some (x, z)) (r := (r, μ1)) (by rw [hd8]; rfl) hp_268 (fun z9 => mdW E am z9) (fun z9 => (zXW E a b0 v1 w u1 q) ++ mdW E am z9) (fun _ => List.perm_append_comm) (fun x z9 h => z_runV (b := am 0) (As := [.int (xs (3 * j + 1))]) (rest := [.int r]) X hW hp_268 (c_X8_ends l E am μ (xs (3 * j + 1)) (x, z9) h _) hy_X8_ends qm 8 (C := RX8) (T := TX8) (N := 12) rfl hqm rfl gL_law_X8_ends rfl rfl ⟨by decide, by decide⟩ rfl hl rfl rfl (Nat.le_of_ble_eq_true rfl) dL_law_268 ⟨by show _ ≤ 600000; omega, by show _ ≤ 7302250; omega⟩) (fun t9 z8 H locs h9 hW => ?_)
      cases h9
      refine lv_icmp_eq (tgt := 841) X.1 X.2.1 dL_law_271 (by decide) (fun _ => ?_) (fun hc => absurd rfl hc)
      exact J_841 b0 v1 w u1 q μ1 _ _ _ 0 0 (by omega) (by omega) hS1 hW hl
    by_cases e_4 : t = 4
    · clear et
      refine lv_tableIn (off := 244) (tgt := 276) X.1 X.2.1 dL_law_32 (by rw [e_4]; decide) (by rw [e_4]; decide) (by rw [e_4]; rfl) (by decide) ?_
      obtain ⟨r, v1, u1, μ1, hd7, hd8, hS1⟩ := h_clap j v w u q μ (xs (3 * j + 1)) (by omega) hS
      refine lv_aload_n X.1 X.2.1 dL_law_276 rfl (lv_at hl 1 rfl) ?_
      refine lv_aload_n X.1 X.2.1 dL_law_277 rfl (lv_at hl 0 rfl) ?_
      refine lv_iload_n X.1 X.2.1 dL_law_278 rfl (lv_at hl 3 rfl) ?_
      refine lv_iconst (v := 1) X.1 X.2.1 dL_law_279 (by decide) ?_
      refine z_iaddn X 1 rfl dL_law_280 ?_
      refine z_script X hXs hbl hbA hW (i := 3 * j + 1) (by omega) (by omega) dL_law_281 ?_
      have hp_282 : (zXW E a b0 v w u q ++ mdW E am μ).Perm (zXW E a b0 v w u q ++ mdW E am μ) := List.Perm.refl _
      refine z_calli X hW (d := d_X7_clap v w u q (xs (3 * j + 1))) (fun z => z) (K := fun x z => some (x, z)) (r := (r, (v1, u1))) (by rw [hd7]; rfl) hp_282 (fun z9 => (zXW E a b0 z9.1 w z9.2 q)) (fun z9 => (zXW E a b0 z9.1 w z9.2 q) ++ mdW E am μ) (fun _ => List.Perm.refl _) (fun x z9 h => z_runV (b := a 0) (As := [.int (xs (3 * j + 1))]) (rest := []) X hW hp_282 (c_X7_clap l E a b0 v w u q (xs (3 * j + 1)) (x, z9) h _) hy_X7_clap 0 7 (C := RX7) (T := TX7) (N := 5) rfl rfl rfl gL_law_X7_clap rfl rfl ⟨by decide, by decide⟩ rfl hl rfl rfl (Nat.le_of_ble_eq_true rfl) dL_law_282 ⟨by show _ ≤ 600000; omega, by show _ ≤ 7302250; omega⟩) (fun t9 z8 H locs h9 hW => ?_)
      cases h9
      refine lv_aload_n X.1 X.2.1 dL_law_285 rfl (lv_at hl 2 rfl) ?_
      refine lv_aload_n X.1 X.2.1 dL_law_286 rfl (lv_at hl 0 rfl) ?_
      refine lv_iload_n X.1 X.2.1 dL_law_287 rfl (lv_at hl 3 rfl) ?_
      refine lv_iconst (v := 1) X.1 X.2.1 dL_law_288 (by decide) ?_
      refine z_iaddn X 1 rfl dL_law_289 ?_
      refine z_script X hXs hbl hbA hW (i := 3 * j + 1) (by omega) (by omega) dL_law_290 ?_
      have hp_291 : ((zXW E a b0 v1 w u1 q) ++ mdW E am μ).Perm (mdW E am μ ++ (zXW E a b0 v1 w u1 q)) := List.perm_append_comm
      obtain ⟨qm, hqm⟩ := z_mem (q := (am 0, .inr (8, _))) hp_291 List.mem_cons_self
      refine z_calli X hW (d := d_X8_clap μ (xs (3 * j + 1))) (fun z => z) (K := fun x z => some (x, z)) (r := (r, μ1)) (by rw [hd8]; rfl) hp_291 (fun z9 => mdW E am z9) (fun z9 => (zXW E a b0 v1 w u1 q) ++ mdW E am z9) (fun _ => List.perm_append_comm) (fun x z9 h => z_runV (b := am 0) (As := [.int (xs (3 * j + 1))]) (rest := [.int r]) X hW hp_291 (c_X8_clap l E am μ (xs (3 * j + 1)) (x, z9) h _) hy_X8_clap qm 8 (C := RX8) (T := TX8) (N := 12) rfl hqm rfl gL_law_X8_clap rfl rfl ⟨by decide, by decide⟩ rfl hl rfl rfl (Nat.le_of_ble_eq_true rfl) dL_law_291 ⟨by show _ ≤ 600000; omega, by show _ ≤ 7302250; omega⟩) (fun t9 z8 H locs h9 hW => ?_)
      cases h9
      refine lv_icmp_eq (tgt := 841) X.1 X.2.1 dL_law_294 (by decide) (fun _ => ?_) (fun hc => absurd rfl hc)
      exact J_841 b0 v1 w u1 q μ1 _ _ _ 0 0 (by omega) (by omega) hS1 hW hl
    by_cases e_5 : t = 5
    · clear et
      refine lv_tableIn (off := 267) (tgt := 299) X.1 X.2.1 dL_law_32 (by rw [e_5]; decide) (by rw [e_5]; decide) (by rw [e_5]; rfl) (by decide) ?_
      obtain ⟨r, v1, u1, μ1, hd7, hd8, hS1⟩ := h_pass j v w u q μ (xs (3 * j + 1)) (by omega) hS
      refine lv_aload_n X.1 X.2.1 dL_law_299 rfl (lv_at hl 1 rfl) ?_
      refine lv_aload_n X.1 X.2.1 dL_law_300 rfl (lv_at hl 0 rfl) ?_
      refine lv_iload_n X.1 X.2.1 dL_law_301 rfl (lv_at hl 3 rfl) ?_
      refine lv_iconst (v := 1) X.1 X.2.1 dL_law_302 (by decide) ?_
      refine z_iaddn X 1 rfl dL_law_303 ?_
      refine z_script X hXs hbl hbA hW (i := 3 * j + 1) (by omega) (by omega) dL_law_304 ?_
      have hp_305 : (zXW E a b0 v w u q ++ mdW E am μ).Perm (zXW E a b0 v w u q ++ mdW E am μ) := List.Perm.refl _
      refine z_calli X hW (d := d_X7_pass v w u q (xs (3 * j + 1))) (fun z => z) (K := fun x z => some (x, z)) (r := (r, (v1, u1))) (by rw [hd7]; rfl) hp_305 (fun z9 => (zXW E a b0 z9.1 w z9.2 q)) (fun z9 => (zXW E a b0 z9.1 w z9.2 q) ++ mdW E am μ) (fun _ => List.Perm.refl _) (fun x z9 h => z_runV (b := a 0) (As := [.int (xs (3 * j + 1))]) (rest := []) X hW hp_305 (c_X7_pass l E a b0 v w u q (xs (3 * j + 1)) (x, z9) h _) hy_X7_pass 0 7 (C := RX7) (T := TX7) (N := 5) rfl rfl rfl gL_law_X7_pass rfl rfl ⟨by decide, by decide⟩ rfl hl rfl rfl (Nat.le_of_ble_eq_true rfl) dL_law_305 ⟨by show _ ≤ 600000; omega, by show _ ≤ 7302250; omega⟩) (fun t9 z8 H locs h9 hW => ?_)
      cases h9
      refine lv_aload_n X.1 X.2.1 dL_law_308 rfl (lv_at hl 2 rfl) ?_
      refine lv_aload_n X.1 X.2.1 dL_law_309 rfl (lv_at hl 0 rfl) ?_
      refine lv_iload_n X.1 X.2.1 dL_law_310 rfl (lv_at hl 3 rfl) ?_
      refine lv_iconst (v := 1) X.1 X.2.1 dL_law_311 (by decide) ?_
      refine z_iaddn X 1 rfl dL_law_312 ?_
      refine z_script X hXs hbl hbA hW (i := 3 * j + 1) (by omega) (by omega) dL_law_313 ?_
      have hp_314 : ((zXW E a b0 v1 w u1 q) ++ mdW E am μ).Perm (mdW E am μ ++ (zXW E a b0 v1 w u1 q)) := List.perm_append_comm
      obtain ⟨qm, hqm⟩ := z_mem (q := (am 0, .inr (8, _))) hp_314 List.mem_cons_self
      refine z_calli X hW (d := d_X8_pass μ (xs (3 * j + 1))) (fun z => z) (K := fun x z => some (x, z)) (r := (r, μ1)) (by rw [hd8]; rfl) hp_314 (fun z9 => mdW E am z9) (fun z9 => (zXW E a b0 v1 w u1 q) ++ mdW E am z9) (fun _ => List.perm_append_comm) (fun x z9 h => z_runV (b := am 0) (As := [.int (xs (3 * j + 1))]) (rest := [.int r]) X hW hp_314 (c_X8_pass l E am μ (xs (3 * j + 1)) (x, z9) h _) hy_X8_pass qm 8 (C := RX8) (T := TX8) (N := 12) rfl hqm rfl gL_law_X8_pass rfl rfl ⟨by decide, by decide⟩ rfl hl rfl rfl (Nat.le_of_ble_eq_true rfl) dL_law_314 ⟨by show _ ≤ 600000; omega, by show _ ≤ 7302250; omega⟩) (fun t9 z8 H locs h9 hW => ?_)
      cases h9
      refine lv_icmp_eq (tgt := 841) X.1 X.2.1 dL_law_317 (by decide) (fun _ => ?_) (fun hc => absurd rfl hc)
      exact J_841 b0 v1 w u1 q μ1 _ _ _ 0 0 (by omega) (by omega) hS1 hW hl
    by_cases e_6 : t = 6
    · clear et
      refine lv_tableIn (off := 290) (tgt := 322) X.1 X.2.1 dL_law_32 (by rw [e_6]; decide) (by rw [e_6]; decide) (by rw [e_6]; rfl) (by decide) ?_
      obtain ⟨r, v1, u1, μ1, hd7, hd8, hS1⟩ := h_play j v w u q μ (xs (3 * j + 1)) (by omega) hS
      refine lv_aload_n X.1 X.2.1 dL_law_322 rfl (lv_at hl 1 rfl) ?_
      refine lv_aload_n X.1 X.2.1 dL_law_323 rfl (lv_at hl 0 rfl) ?_
      refine lv_iload_n X.1 X.2.1 dL_law_324 rfl (lv_at hl 3 rfl) ?_
      refine lv_iconst (v := 1) X.1 X.2.1 dL_law_325 (by decide) ?_
      refine z_iaddn X 1 rfl dL_law_326 ?_
      refine z_script X hXs hbl hbA hW (i := 3 * j + 1) (by omega) (by omega) dL_law_327 ?_
      have hp_328 : (zXW E a b0 v w u q ++ mdW E am μ).Perm (zXW E a b0 v w u q ++ mdW E am μ) := List.Perm.refl _
      refine z_calli X hW (d := d_X7_play v w u q (xs (3 * j + 1))) (fun z => z) (K := fun x z => some (x, z)) (r := (r, (v1, u1))) (by rw [hd7]; rfl) hp_328 (fun z9 => (zXW E a b0 z9.1 w z9.2 q)) (fun z9 => (zXW E a b0 z9.1 w z9.2 q) ++ mdW E am μ) (fun _ => List.Perm.refl _) (fun x z9 h => z_runV (b := a 0) (As := [.int (xs (3 * j + 1))]) (rest := []) X hW hp_328 (c_X7_play l E a b0 v w u q (xs (3 * j + 1)) (x, z9) h _) hy_X7_play 0 7 (C := RX7) (T := TX7) (N := 5) rfl rfl rfl gL_law_X7_play rfl rfl ⟨by decide, by decide⟩ rfl hl rfl rfl (Nat.le_of_ble_eq_true rfl) dL_law_328 ⟨by show _ ≤ 600000; omega, by show _ ≤ 7302250; omega⟩) (fun t9 z8 H locs h9 hW => ?_)
      cases h9
      refine lv_aload_n X.1 X.2.1 dL_law_331 rfl (lv_at hl 2 rfl) ?_
      refine lv_aload_n X.1 X.2.1 dL_law_332 rfl (lv_at hl 0 rfl) ?_
      refine lv_iload_n X.1 X.2.1 dL_law_333 rfl (lv_at hl 3 rfl) ?_
      refine lv_iconst (v := 1) X.1 X.2.1 dL_law_334 (by decide) ?_
      refine z_iaddn X 1 rfl dL_law_335 ?_
      refine z_script X hXs hbl hbA hW (i := 3 * j + 1) (by omega) (by omega) dL_law_336 ?_
      have hp_337 : ((zXW E a b0 v1 w u1 q) ++ mdW E am μ).Perm (mdW E am μ ++ (zXW E a b0 v1 w u1 q)) := List.perm_append_comm
      obtain ⟨qm, hqm⟩ := z_mem (q := (am 0, .inr (8, _))) hp_337 List.mem_cons_self
      refine z_calli X hW (d := d_X8_play μ (xs (3 * j + 1))) (fun z => z) (K := fun x z => some (x, z)) (r := (r, μ1)) (by rw [hd8]; rfl) hp_337 (fun z9 => mdW E am z9) (fun z9 => (zXW E a b0 v1 w u1 q) ++ mdW E am z9) (fun _ => List.perm_append_comm) (fun x z9 h => z_runV (b := am 0) (As := [.int (xs (3 * j + 1))]) (rest := [.int r]) X hW hp_337 (c_X8_play l E am μ (xs (3 * j + 1)) (x, z9) h _) hy_X8_play qm 8 (C := RX8) (T := TX8) (N := 12) rfl hqm rfl gL_law_X8_play rfl rfl ⟨by decide, by decide⟩ rfl hl rfl rfl (Nat.le_of_ble_eq_true rfl) dL_law_337 ⟨by show _ ≤ 600000; omega, by show _ ≤ 7302250; omega⟩) (fun t9 z8 H locs h9 hW => ?_)
      cases h9
      refine lv_icmp_eq (tgt := 841) X.1 X.2.1 dL_law_340 (by decide) (fun _ => ?_) (fun hc => absurd rfl hc)
      exact J_841 b0 v1 w u1 q μ1 _ _ _ 0 0 (by omega) (by omega) hS1 hW hl
    by_cases e_7 : t = 7
    · clear et
      refine lv_tableIn (off := 313) (tgt := 345) X.1 X.2.1 dL_law_32 (by rw [e_7]; decide) (by rw [e_7]; decide) (by rw [e_7]; rfl) (by decide) ?_
      obtain ⟨r, v1, u1, μ1, hd7, hd8, hS1⟩ := h_call j v w u q μ (by omega) hS
      refine lv_aload_n X.1 X.2.1 dL_law_345 rfl (lv_at hl 1 rfl) ?_
      have hp_346 : (zXW E a b0 v w u q ++ mdW E am μ).Perm (zXW E a b0 v w u q ++ mdW E am μ) := List.Perm.refl _
      refine z_calli X hW (d := d_X7_call v w u q ) (fun z => z) (K := fun x z => some (x, z)) (r := (r, (v1, u1))) (by rw [hd7]; rfl) hp_346 (fun z9 => (zXW E a b0 z9.1 w z9.2 q)) (fun z9 => (zXW E a b0 z9.1 w z9.2 q) ++ mdW E am μ) (fun _ => List.Perm.refl _) (fun x z9 h => z_runV (b := a 0) (As := []) (rest := []) X hW hp_346 (c_X7_call l E a b0 v w u q  (x, z9) h _) hy_X7_call 0 7 (C := RX7) (T := TX7) (N := 5) rfl rfl rfl gL_law_X7_call rfl rfl ⟨by decide, by decide⟩ rfl hl rfl rfl (Nat.le_of_ble_eq_true rfl) dL_law_346 ⟨by show _ ≤ 600000; omega, by show _ ≤ 7302250; omega⟩) (fun t9 z8 H locs h9 hW => ?_)
      cases h9
      refine lv_aload_n X.1 X.2.1 dL_law_349 rfl (lv_at hl 2 rfl) ?_
      have hp_350 : ((zXW E a b0 v1 w u1 q) ++ mdW E am μ).Perm (mdW E am μ ++ (zXW E a b0 v1 w u1 q)) := List.perm_append_comm
      obtain ⟨qm, hqm⟩ := z_mem (q := (am 0, .inr (8, _))) hp_350 List.mem_cons_self
      refine z_calli X hW (d := d_X8_call μ ) (fun z => z) (K := fun x z => some (x, z)) (r := (r, μ1)) (by rw [hd8]; rfl) hp_350 (fun z9 => mdW E am z9) (fun z9 => (zXW E a b0 v1 w u1 q) ++ mdW E am z9) (fun _ => List.perm_append_comm) (fun x z9 h => z_runV (b := am 0) (As := []) (rest := [.int r]) X hW hp_350 (c_X8_call l E am μ  (x, z9) h _) hy_X8_call qm 8 (C := RX8) (T := TX8) (N := 12) rfl hqm rfl gL_law_X8_call rfl rfl ⟨by decide, by decide⟩ rfl hl rfl rfl (Nat.le_of_ble_eq_true rfl) dL_law_350 ⟨by show _ ≤ 600000; omega, by show _ ≤ 7302250; omega⟩) (fun t9 z8 H locs h9 hW => ?_)
      cases h9
      refine lv_icmp_eq (tgt := 841) X.1 X.2.1 dL_law_353 (by decide) (fun _ => ?_) (fun hc => absurd rfl hc)
      exact J_841 b0 v1 w u1 q μ1 _ _ _ 0 0 (by omega) (by omega) hS1 hW hl
    by_cases e_8 : t = 8
    · clear et
      refine lv_tableIn (off := 326) (tgt := 358) X.1 X.2.1 dL_law_32 (by rw [e_8]; decide) (by rw [e_8]; decide) (by rw [e_8]; rfl) (by decide) ?_
      obtain ⟨r, v1, u1, μ1, hd7, hd8, hS1⟩ := h_night j v w u q μ (by omega) hS
      refine lv_aload_n X.1 X.2.1 dL_law_358 rfl (lv_at hl 1 rfl) ?_
      have hp_359 : (zXW E a b0 v w u q ++ mdW E am μ).Perm (zXW E a b0 v w u q ++ mdW E am μ) := List.Perm.refl _
      refine z_calli X hW (d := d_X7_night v w u q ) (fun z => z) (K := fun x z => some (x, z)) (r := (r, (v1, u1))) (by rw [hd7]; rfl) hp_359 (fun z9 => (zXW E a b0 z9.1 w z9.2 q)) (fun z9 => (zXW E a b0 z9.1 w z9.2 q) ++ mdW E am μ) (fun _ => List.Perm.refl _) (fun x z9 h => z_runV (b := a 0) (As := []) (rest := []) X hW hp_359 (c_X7_night l E a b0 v w u q  (x, z9) h _) hy_X7_night 0 7 (C := RX7) (T := TX7) (N := 5) rfl rfl rfl gL_law_X7_night rfl rfl ⟨by decide, by decide⟩ rfl hl rfl rfl (Nat.le_of_ble_eq_true rfl) dL_law_359 ⟨by show _ ≤ 600000; omega, by show _ ≤ 7302250; omega⟩) (fun t9 z8 H locs h9 hW => ?_)
      cases h9
      refine lv_aload_n X.1 X.2.1 dL_law_362 rfl (lv_at hl 2 rfl) ?_
      have hp_363 : ((zXW E a b0 v1 w u1 q) ++ mdW E am μ).Perm (mdW E am μ ++ (zXW E a b0 v1 w u1 q)) := List.perm_append_comm
      obtain ⟨qm, hqm⟩ := z_mem (q := (am 0, .inr (8, _))) hp_363 List.mem_cons_self
      refine z_calli X hW (d := d_X8_night μ ) (fun z => z) (K := fun x z => some (x, z)) (r := (r, μ1)) (by rw [hd8]; rfl) hp_363 (fun z9 => mdW E am z9) (fun z9 => (zXW E a b0 v1 w u1 q) ++ mdW E am z9) (fun _ => List.perm_append_comm) (fun x z9 h => z_runV (b := am 0) (As := []) (rest := [.int r]) X hW hp_363 (c_X8_night l E am μ  (x, z9) h _) hy_X8_night qm 8 (C := RX8) (T := TX8) (N := 12) rfl hqm rfl gL_law_X8_night rfl rfl ⟨by decide, by decide⟩ rfl hl rfl rfl (Nat.le_of_ble_eq_true rfl) dL_law_363 ⟨by show _ ≤ 600000; omega, by show _ ≤ 7302250; omega⟩) (fun t9 z8 H locs h9 hW => ?_)
      cases h9
      refine lv_icmp_eq (tgt := 841) X.1 X.2.1 dL_law_366 (by decide) (fun _ => ?_) (fun hc => absurd rfl hc)
      exact J_841 b0 v1 w u1 q μ1 _ _ _ 0 0 (by omega) (by omega) hS1 hW hl
    by_cases e_9 : t = 9
    · clear et
      refine lv_tableIn (off := 339) (tgt := 371) X.1 X.2.1 dL_law_32 (by rw [e_9]; decide) (by rw [e_9]; decide) (by rw [e_9]; rfl) (by decide) ?_
      obtain ⟨r, w1, μ1, hd7, hd8, hS1⟩ := h_write j v w u q μ (by omega) hS
      refine lv_aload_n X.1 X.2.1 dL_law_371 rfl (lv_at hl 1 rfl) ?_
      have hp_372 : (zXW E a b0 v w u q ++ mdW E am μ).Perm (zXW E a b0 v w u q ++ mdW E am μ) := List.Perm.refl _
      refine z_calli X hW (d := d_X7_write v w u q ) (fun z => z) (K := fun x z => some (x, z)) (r := (r, w1)) (by rw [hd7]; rfl) hp_372 (fun z9 => (zXW E a b0 v z9 u q)) (fun z9 => (zXW E a b0 v z9 u q) ++ mdW E am μ) (fun _ => List.Perm.refl _) (fun x z9 h => z_runV (b := a 0) (As := []) (rest := []) X hW hp_372 (c_X7_write l E a b0 v w u q  (x, z9) h _) hy_X7_write 0 7 (C := RX7) (T := TX7) (N := 5) rfl rfl rfl gL_law_X7_write rfl rfl ⟨by decide, by decide⟩ rfl hl rfl rfl (Nat.le_of_ble_eq_true rfl) dL_law_372 ⟨by show _ ≤ 600000; omega, by show _ ≤ 7302250; omega⟩) (fun t9 z8 H locs h9 hW => ?_)
      cases h9
      refine lv_aload_n X.1 X.2.1 dL_law_375 rfl (lv_at hl 2 rfl) ?_
      have hp_376 : ((zXW E a b0 v w1 u q) ++ mdW E am μ).Perm (mdW E am μ ++ (zXW E a b0 v w1 u q)) := List.perm_append_comm
      obtain ⟨qm, hqm⟩ := z_mem (q := (am 0, .inr (8, _))) hp_376 List.mem_cons_self
      refine z_calli X hW (d := d_X8_write μ ) (fun z => z) (K := fun x z => some (x, z)) (r := (r, μ1)) (by rw [hd8]; rfl) hp_376 (fun z9 => mdW E am z9) (fun z9 => (zXW E a b0 v w1 u q) ++ mdW E am z9) (fun _ => List.perm_append_comm) (fun x z9 h => z_runV (b := am 0) (As := []) (rest := [.int r]) X hW hp_376 (c_X8_write l E am μ  (x, z9) h _) hy_X8_write qm 8 (C := RX8) (T := TX8) (N := 12) rfl hqm rfl gL_law_X8_write rfl rfl ⟨by decide, by decide⟩ rfl hl rfl rfl (Nat.le_of_ble_eq_true rfl) dL_law_376 ⟨by show _ ≤ 600000; omega, by show _ ≤ 7302250; omega⟩) (fun t9 z8 H locs h9 hW => ?_)
      cases h9
      refine lv_icmp_eq (tgt := 841) X.1 X.2.1 dL_law_379 (by decide) (fun _ => ?_) (fun hc => absurd rfl hc)
      exact J_841 b0 v w1 u q μ1 _ _ _ 0 0 (by omega) (by omega) hS1 hW hl
    by_cases e_10 : t = 10
    · clear et
      refine lv_tableIn (off := 352) (tgt := 384) X.1 X.2.1 dL_law_32 (by rw [e_10]; decide) (by rw [e_10]; decide) (by rw [e_10]; rfl) (by decide) ?_
      obtain ⟨r, hd7, hd8, hS1⟩ := h_of j v w u q μ (xs (3 * j + 1)) (xs (3 * j + 2)) (by omega) hS
      refine lv_aload_n X.1 X.2.1 dL_law_384 rfl (lv_at hl 1 rfl) ?_
      refine lv_aload_n X.1 X.2.1 dL_law_385 rfl (lv_at hl 0 rfl) ?_
      refine lv_iload_n X.1 X.2.1 dL_law_386 rfl (lv_at hl 3 rfl) ?_
      refine lv_iconst (v := 1) X.1 X.2.1 dL_law_387 (by decide) ?_
      refine z_iaddn X 1 rfl dL_law_388 ?_
      refine z_script X hXs hbl hbA hW (i := 3 * j + 1) (by omega) (by omega) dL_law_389 ?_
      refine lv_aload_n X.1 X.2.1 dL_law_390 rfl (lv_at hl 0 rfl) ?_
      refine lv_iload_n X.1 X.2.1 dL_law_391 rfl (lv_at hl 3 rfl) ?_
      refine lv_iconst (v := 2) X.1 X.2.1 dL_law_392 (by decide) ?_
      refine z_iaddn X 2 rfl dL_law_393 ?_
      refine z_script X hXs hbl hbA hW (i := 3 * j + 2) (by omega) (by omega) dL_law_394 ?_
      have hp_395 : (zXW E a b0 v w u q ++ mdW E am μ).Perm (zXW E a b0 v w u q ++ mdW E am μ) := List.Perm.refl _
      refine z_callp X hW (d := d_X7_of v w u q (xs (3 * j + 1)) (xs (3 * j + 2))) (K := fun x => some x) (r := r) (by rw [hd7]; rfl) hp_395 (fun x h => z_runV (b := a 0) (As := [.int (xs (3 * j + 1)), .int (xs (3 * j + 2))]) (rest := []) X hW hp_395 (c_X7_of l E a b0 v w u q (xs (3 * j + 1)) (xs (3 * j + 2)) x h _) hy_X7_of 0 7 (C := RX7) (T := TX7) (N := 5) rfl rfl rfl gL_law_X7_of rfl rfl ⟨by decide, by decide⟩ rfl hl rfl rfl (Nat.le_of_ble_eq_true rfl) dL_law_395 ⟨by show _ ≤ 600000; omega, by show _ ≤ 7302250; omega⟩) (fun t9 H locs h9 hW => ?_)
      cases h9
      refine lv_aload_n X.1 X.2.1 dL_law_398 rfl (lv_at hl 2 rfl) ?_
      refine lv_aload_n X.1 X.2.1 dL_law_399 rfl (lv_at hl 0 rfl) ?_
      refine lv_iload_n X.1 X.2.1 dL_law_400 rfl (lv_at hl 3 rfl) ?_
      refine lv_iconst (v := 1) X.1 X.2.1 dL_law_401 (by decide) ?_
      refine z_iaddn X 1 rfl dL_law_402 ?_
      refine z_script X hXs hbl hbA hW (i := 3 * j + 1) (by omega) (by omega) dL_law_403 ?_
      refine lv_aload_n X.1 X.2.1 dL_law_404 rfl (lv_at hl 0 rfl) ?_
      refine lv_iload_n X.1 X.2.1 dL_law_405 rfl (lv_at hl 3 rfl) ?_
      refine lv_iconst (v := 2) X.1 X.2.1 dL_law_406 (by decide) ?_
      refine z_iaddn X 2 rfl dL_law_407 ?_
      refine z_script X hXs hbl hbA hW (i := 3 * j + 2) (by omega) (by omega) dL_law_408 ?_
      have hp_409 : ((zXW E a b0 v w u q) ++ mdW E am μ).Perm (mdW E am μ ++ (zXW E a b0 v w u q)) := List.perm_append_comm
      obtain ⟨qm, hqm⟩ := z_mem (q := (am 0, .inr (8, _))) hp_409 List.mem_cons_self
      refine z_callp X hW (d := d_X8_of μ (xs (3 * j + 1)) (xs (3 * j + 2))) (K := fun x => some x) (r := r) (by rw [hd8]; rfl) hp_409 (fun x h => z_runV (b := am 0) (As := [.int (xs (3 * j + 1)), .int (xs (3 * j + 2))]) (rest := [.int r]) X hW hp_409 (c_X8_of l E am μ (xs (3 * j + 1)) (xs (3 * j + 2)) x h _) hy_X8_of qm 8 (C := RX8) (T := TX8) (N := 12) rfl hqm rfl gL_law_X8_of rfl rfl ⟨by decide, by decide⟩ rfl hl rfl rfl (Nat.le_of_ble_eq_true rfl) dL_law_409 ⟨by show _ ≤ 600000; omega, by show _ ≤ 7302250; omega⟩) (fun t9 H locs h9 hW => ?_)
      cases h9
      refine lv_icmp_eq (tgt := 841) X.1 X.2.1 dL_law_412 (by decide) (fun _ => ?_) (fun hc => absurd rfl hc)
      exact J_841 b0 v w u q μ _ _ _ 0 0 (by omega) (by omega) hS1 hW hl
    by_cases e_11 : t = 11
    · clear et
      refine lv_tableIn (off := 385) (tgt := 417) X.1 X.2.1 dL_law_32 (by rw [e_11]; decide) (by rw [e_11]; decide) (by rw [e_11]; rfl) (by decide) ?_
      obtain ⟨r, hd7, hd8, hS1⟩ := h_performer j v w u q μ (xs (3 * j + 1)) (xs (3 * j + 2)) (by omega) hS
      refine lv_aload_n X.1 X.2.1 dL_law_417 rfl (lv_at hl 1 rfl) ?_
      refine lv_aload_n X.1 X.2.1 dL_law_418 rfl (lv_at hl 0 rfl) ?_
      refine lv_iload_n X.1 X.2.1 dL_law_419 rfl (lv_at hl 3 rfl) ?_
      refine lv_iconst (v := 1) X.1 X.2.1 dL_law_420 (by decide) ?_
      refine z_iaddn X 1 rfl dL_law_421 ?_
      refine z_script X hXs hbl hbA hW (i := 3 * j + 1) (by omega) (by omega) dL_law_422 ?_
      refine lv_aload_n X.1 X.2.1 dL_law_423 rfl (lv_at hl 0 rfl) ?_
      refine lv_iload_n X.1 X.2.1 dL_law_424 rfl (lv_at hl 3 rfl) ?_
      refine lv_iconst (v := 2) X.1 X.2.1 dL_law_425 (by decide) ?_
      refine z_iaddn X 2 rfl dL_law_426 ?_
      refine z_script X hXs hbl hbA hW (i := 3 * j + 2) (by omega) (by omega) dL_law_427 ?_
      have hp_428 : (zXW E a b0 v w u q ++ mdW E am μ).Perm (zXW E a b0 v w u q ++ mdW E am μ) := List.Perm.refl _
      refine z_callp X hW (d := d_X7_performer v w u q (xs (3 * j + 1)) (xs (3 * j + 2))) (K := fun x => some x) (r := r) (by rw [hd7]; rfl) hp_428 (fun x h => z_runV (b := a 0) (As := [.int (xs (3 * j + 1)), .int (xs (3 * j + 2))]) (rest := []) X hW hp_428 (c_X7_performer l E a b0 v w u q (xs (3 * j + 1)) (xs (3 * j + 2)) x h _) hy_X7_performer 0 7 (C := RX7) (T := TX7) (N := 5) rfl rfl rfl gL_law_X7_performer rfl rfl ⟨by decide, by decide⟩ rfl hl rfl rfl (Nat.le_of_ble_eq_true rfl) dL_law_428 ⟨by show _ ≤ 600000; omega, by show _ ≤ 7302250; omega⟩) (fun t9 H locs h9 hW => ?_)
      cases h9
      refine lv_aload_n X.1 X.2.1 dL_law_431 rfl (lv_at hl 2 rfl) ?_
      refine lv_aload_n X.1 X.2.1 dL_law_432 rfl (lv_at hl 0 rfl) ?_
      refine lv_iload_n X.1 X.2.1 dL_law_433 rfl (lv_at hl 3 rfl) ?_
      refine lv_iconst (v := 1) X.1 X.2.1 dL_law_434 (by decide) ?_
      refine z_iaddn X 1 rfl dL_law_435 ?_
      refine z_script X hXs hbl hbA hW (i := 3 * j + 1) (by omega) (by omega) dL_law_436 ?_
      refine lv_aload_n X.1 X.2.1 dL_law_437 rfl (lv_at hl 0 rfl) ?_
      refine lv_iload_n X.1 X.2.1 dL_law_438 rfl (lv_at hl 3 rfl) ?_
      refine lv_iconst (v := 2) X.1 X.2.1 dL_law_439 (by decide) ?_
      refine z_iaddn X 2 rfl dL_law_440 ?_
      refine z_script X hXs hbl hbA hW (i := 3 * j + 2) (by omega) (by omega) dL_law_441 ?_
      have hp_442 : ((zXW E a b0 v w u q) ++ mdW E am μ).Perm (mdW E am μ ++ (zXW E a b0 v w u q)) := List.perm_append_comm
      obtain ⟨qm, hqm⟩ := z_mem (q := (am 0, .inr (8, _))) hp_442 List.mem_cons_self
      refine z_callp X hW (d := d_X8_performer μ (xs (3 * j + 1)) (xs (3 * j + 2))) (K := fun x => some x) (r := r) (by rw [hd8]; rfl) hp_442 (fun x h => z_runV (b := am 0) (As := [.int (xs (3 * j + 1)), .int (xs (3 * j + 2))]) (rest := [.int r]) X hW hp_442 (c_X8_performer l E am μ (xs (3 * j + 1)) (xs (3 * j + 2)) x h _) hy_X8_performer qm 8 (C := RX8) (T := TX8) (N := 12) rfl hqm rfl gL_law_X8_performer rfl rfl ⟨by decide, by decide⟩ rfl hl rfl rfl (Nat.le_of_ble_eq_true rfl) dL_law_442 ⟨by show _ ≤ 600000; omega, by show _ ≤ 7302250; omega⟩) (fun t9 H locs h9 hW => ?_)
      cases h9
      refine lv_icmp_eq (tgt := 841) X.1 X.2.1 dL_law_445 (by decide) (fun _ => ?_) (fun hc => absurd rfl hc)
      exact J_841 b0 v w u q μ _ _ _ 0 0 (by omega) (by omega) hS1 hW hl
    by_cases e_12 : t = 12
    · clear et
      refine lv_tableIn (off := 418) (tgt := 450) X.1 X.2.1 dL_law_32 (by rw [e_12]; decide) (by rw [e_12]; decide) (by rw [e_12]; rfl) (by decide) ?_
      obtain ⟨r, hd7, hd8, hS1⟩ := h_owed j v w u q μ (xs (3 * j + 1)) (xs (3 * j + 2)) (by omega) hS
      refine lv_aload_n X.1 X.2.1 dL_law_450 rfl (lv_at hl 1 rfl) ?_
      refine lv_aload_n X.1 X.2.1 dL_law_451 rfl (lv_at hl 0 rfl) ?_
      refine lv_iload_n X.1 X.2.1 dL_law_452 rfl (lv_at hl 3 rfl) ?_
      refine lv_iconst (v := 1) X.1 X.2.1 dL_law_453 (by decide) ?_
      refine z_iaddn X 1 rfl dL_law_454 ?_
      refine z_script X hXs hbl hbA hW (i := 3 * j + 1) (by omega) (by omega) dL_law_455 ?_
      refine lv_aload_n X.1 X.2.1 dL_law_456 rfl (lv_at hl 0 rfl) ?_
      refine lv_iload_n X.1 X.2.1 dL_law_457 rfl (lv_at hl 3 rfl) ?_
      refine lv_iconst (v := 2) X.1 X.2.1 dL_law_458 (by decide) ?_
      refine z_iaddn X 2 rfl dL_law_459 ?_
      refine z_script X hXs hbl hbA hW (i := 3 * j + 2) (by omega) (by omega) dL_law_460 ?_
      have hp_461 : (zXW E a b0 v w u q ++ mdW E am μ).Perm (zXW E a b0 v w u q ++ mdW E am μ) := List.Perm.refl _
      refine z_callp X hW (d := d_X7_owed v w u q (xs (3 * j + 1)) (xs (3 * j + 2))) (K := fun x => some x) (r := r) (by rw [hd7]; rfl) hp_461 (fun x h => z_runV (b := a 0) (As := [.int (xs (3 * j + 1)), .int (xs (3 * j + 2))]) (rest := []) X hW hp_461 (c_X7_owed l E a b0 v w u q (xs (3 * j + 1)) (xs (3 * j + 2)) x h _) hy_X7_owed 0 7 (C := RX7) (T := TX7) (N := 5) rfl rfl rfl gL_law_X7_owed rfl rfl ⟨by decide, by decide⟩ rfl hl rfl rfl (Nat.le_of_ble_eq_true rfl) dL_law_461 ⟨by show _ ≤ 600000; omega, by show _ ≤ 7302250; omega⟩) (fun t9 H locs h9 hW => ?_)
      cases h9
      refine lv_aload_n X.1 X.2.1 dL_law_464 rfl (lv_at hl 2 rfl) ?_
      refine lv_aload_n X.1 X.2.1 dL_law_465 rfl (lv_at hl 0 rfl) ?_
      refine lv_iload_n X.1 X.2.1 dL_law_466 rfl (lv_at hl 3 rfl) ?_
      refine lv_iconst (v := 1) X.1 X.2.1 dL_law_467 (by decide) ?_
      refine z_iaddn X 1 rfl dL_law_468 ?_
      refine z_script X hXs hbl hbA hW (i := 3 * j + 1) (by omega) (by omega) dL_law_469 ?_
      refine lv_aload_n X.1 X.2.1 dL_law_470 rfl (lv_at hl 0 rfl) ?_
      refine lv_iload_n X.1 X.2.1 dL_law_471 rfl (lv_at hl 3 rfl) ?_
      refine lv_iconst (v := 2) X.1 X.2.1 dL_law_472 (by decide) ?_
      refine z_iaddn X 2 rfl dL_law_473 ?_
      refine z_script X hXs hbl hbA hW (i := 3 * j + 2) (by omega) (by omega) dL_law_474 ?_
      have hp_475 : ((zXW E a b0 v w u q) ++ mdW E am μ).Perm (mdW E am μ ++ (zXW E a b0 v w u q)) := List.perm_append_comm
      obtain ⟨qm, hqm⟩ := z_mem (q := (am 0, .inr (8, _))) hp_475 List.mem_cons_self
      refine z_callp X hW (d := d_X8_owed μ (xs (3 * j + 1)) (xs (3 * j + 2))) (K := fun x => some x) (r := r) (by rw [hd8]; rfl) hp_475 (fun x h => z_runV (b := am 0) (As := [.int (xs (3 * j + 1)), .int (xs (3 * j + 2))]) (rest := [.int r]) X hW hp_475 (c_X8_owed l E am μ (xs (3 * j + 1)) (xs (3 * j + 2)) x h _) hy_X8_owed qm 8 (C := RX8) (T := TX8) (N := 12) rfl hqm rfl gL_law_X8_owed rfl rfl ⟨by decide, by decide⟩ rfl hl rfl rfl (Nat.le_of_ble_eq_true rfl) dL_law_475 ⟨by show _ ≤ 600000; omega, by show _ ≤ 7302250; omega⟩) (fun t9 H locs h9 hW => ?_)
      cases h9
      refine lv_icmp_eq (tgt := 841) X.1 X.2.1 dL_law_478 (by decide) (fun _ => ?_) (fun hc => absurd rfl hc)
      exact J_841 b0 v w u q μ _ _ _ 0 0 (by omega) (by omega) hS1 hW hl
    by_cases e_13 : t = 13
    · clear et
      refine lv_tableIn (off := 451) (tgt := 483) X.1 X.2.1 dL_law_32 (by rw [e_13]; decide) (by rw [e_13]; decide) (by rw [e_13]; rfl) (by decide) ?_
      obtain ⟨r, hd7, hd8, hS1⟩ := h_clapper j v w u q μ (xs (3 * j + 1)) (by omega) hS
      refine lv_aload_n X.1 X.2.1 dL_law_483 rfl (lv_at hl 1 rfl) ?_
      refine lv_aload_n X.1 X.2.1 dL_law_484 rfl (lv_at hl 0 rfl) ?_
      refine lv_iload_n X.1 X.2.1 dL_law_485 rfl (lv_at hl 3 rfl) ?_
      refine lv_iconst (v := 1) X.1 X.2.1 dL_law_486 (by decide) ?_
      refine z_iaddn X 1 rfl dL_law_487 ?_
      refine z_script X hXs hbl hbA hW (i := 3 * j + 1) (by omega) (by omega) dL_law_488 ?_
      have hp_489 : (zXW E a b0 v w u q ++ mdW E am μ).Perm (zXW E a b0 v w u q ++ mdW E am μ) := List.Perm.refl _
      refine z_callp X hW (d := d_X7_clapper v w u q (xs (3 * j + 1))) (K := fun x => some x) (r := r) (by rw [hd7]; rfl) hp_489 (fun x h => z_runV (b := a 0) (As := [.int (xs (3 * j + 1))]) (rest := []) X hW hp_489 (c_X7_clapper l E a b0 v w u q (xs (3 * j + 1)) x h _) hy_X7_clapper 0 7 (C := RX7) (T := TX7) (N := 5) rfl rfl rfl gL_law_X7_clapper rfl rfl ⟨by decide, by decide⟩ rfl hl rfl rfl (Nat.le_of_ble_eq_true rfl) dL_law_489 ⟨by show _ ≤ 600000; omega, by show _ ≤ 7302250; omega⟩) (fun t9 H locs h9 hW => ?_)
      cases h9
      refine lv_aload_n X.1 X.2.1 dL_law_492 rfl (lv_at hl 2 rfl) ?_
      refine lv_aload_n X.1 X.2.1 dL_law_493 rfl (lv_at hl 0 rfl) ?_
      refine lv_iload_n X.1 X.2.1 dL_law_494 rfl (lv_at hl 3 rfl) ?_
      refine lv_iconst (v := 1) X.1 X.2.1 dL_law_495 (by decide) ?_
      refine z_iaddn X 1 rfl dL_law_496 ?_
      refine z_script X hXs hbl hbA hW (i := 3 * j + 1) (by omega) (by omega) dL_law_497 ?_
      have hp_498 : ((zXW E a b0 v w u q) ++ mdW E am μ).Perm (mdW E am μ ++ (zXW E a b0 v w u q)) := List.perm_append_comm
      obtain ⟨qm, hqm⟩ := z_mem (q := (am 0, .inr (8, _))) hp_498 List.mem_cons_self
      refine z_callp X hW (d := d_X8_clapper μ (xs (3 * j + 1))) (K := fun x => some x) (r := r) (by rw [hd8]; rfl) hp_498 (fun x h => z_runV (b := am 0) (As := [.int (xs (3 * j + 1))]) (rest := [.int r]) X hW hp_498 (c_X8_clapper l E am μ (xs (3 * j + 1)) x h _) hy_X8_clapper qm 8 (C := RX8) (T := TX8) (N := 12) rfl hqm rfl gL_law_X8_clapper rfl rfl ⟨by decide, by decide⟩ rfl hl rfl rfl (Nat.le_of_ble_eq_true rfl) dL_law_498 ⟨by show _ ≤ 600000; omega, by show _ ≤ 7302250; omega⟩) (fun t9 H locs h9 hW => ?_)
      cases h9
      refine lv_icmp_eq (tgt := 841) X.1 X.2.1 dL_law_501 (by decide) (fun _ => ?_) (fun hc => absurd rfl hc)
      exact J_841 b0 v w u q μ _ _ _ 0 0 (by omega) (by omega) hS1 hW hl
    by_cases e_14 : t = 14
    · clear et
      refine lv_tableIn (off := 474) (tgt := 506) X.1 X.2.1 dL_law_32 (by rw [e_14]; decide) (by rw [e_14]; decide) (by rw [e_14]; rfl) (by decide) ?_
      obtain ⟨r, hd7, hd8, hS1⟩ := h_record j v w u q μ (xs (3 * j + 1)) (xs (3 * j + 2)) (by omega) hS
      refine lv_aload_n X.1 X.2.1 dL_law_506 rfl (lv_at hl 1 rfl) ?_
      refine lv_aload_n X.1 X.2.1 dL_law_507 rfl (lv_at hl 0 rfl) ?_
      refine lv_iload_n X.1 X.2.1 dL_law_508 rfl (lv_at hl 3 rfl) ?_
      refine lv_iconst (v := 1) X.1 X.2.1 dL_law_509 (by decide) ?_
      refine z_iaddn X 1 rfl dL_law_510 ?_
      refine z_script X hXs hbl hbA hW (i := 3 * j + 1) (by omega) (by omega) dL_law_511 ?_
      refine lv_aload_n X.1 X.2.1 dL_law_512 rfl (lv_at hl 0 rfl) ?_
      refine lv_iload_n X.1 X.2.1 dL_law_513 rfl (lv_at hl 3 rfl) ?_
      refine lv_iconst (v := 2) X.1 X.2.1 dL_law_514 (by decide) ?_
      refine z_iaddn X 2 rfl dL_law_515 ?_
      refine z_script X hXs hbl hbA hW (i := 3 * j + 2) (by omega) (by omega) dL_law_516 ?_
      have hp_517 : (zXW E a b0 v w u q ++ mdW E am μ).Perm (zXW E a b0 v w u q ++ mdW E am μ) := List.Perm.refl _
      refine z_callp X hW (d := d_X7_record v w u q (xs (3 * j + 1)) (xs (3 * j + 2))) (K := fun x => some x) (r := r) (by rw [hd7]; rfl) hp_517 (fun x h => z_runV (b := a 0) (As := [.int (xs (3 * j + 1)), .int (xs (3 * j + 2))]) (rest := []) X hW hp_517 (c_X7_record l E a b0 v w u q (xs (3 * j + 1)) (xs (3 * j + 2)) x h _) hy_X7_record 0 7 (C := RX7) (T := TX7) (N := 5) rfl rfl rfl gL_law_X7_record rfl rfl ⟨by decide, by decide⟩ rfl hl rfl rfl (Nat.le_of_ble_eq_true rfl) dL_law_517 ⟨by show _ ≤ 600000; omega, by show _ ≤ 7302250; omega⟩) (fun t9 H locs h9 hW => ?_)
      cases h9
      refine lv_aload_n X.1 X.2.1 dL_law_520 rfl (lv_at hl 2 rfl) ?_
      refine lv_aload_n X.1 X.2.1 dL_law_521 rfl (lv_at hl 0 rfl) ?_
      refine lv_iload_n X.1 X.2.1 dL_law_522 rfl (lv_at hl 3 rfl) ?_
      refine lv_iconst (v := 1) X.1 X.2.1 dL_law_523 (by decide) ?_
      refine z_iaddn X 1 rfl dL_law_524 ?_
      refine z_script X hXs hbl hbA hW (i := 3 * j + 1) (by omega) (by omega) dL_law_525 ?_
      refine lv_aload_n X.1 X.2.1 dL_law_526 rfl (lv_at hl 0 rfl) ?_
      refine lv_iload_n X.1 X.2.1 dL_law_527 rfl (lv_at hl 3 rfl) ?_
      refine lv_iconst (v := 2) X.1 X.2.1 dL_law_528 (by decide) ?_
      refine z_iaddn X 2 rfl dL_law_529 ?_
      refine z_script X hXs hbl hbA hW (i := 3 * j + 2) (by omega) (by omega) dL_law_530 ?_
      have hp_531 : ((zXW E a b0 v w u q) ++ mdW E am μ).Perm (mdW E am μ ++ (zXW E a b0 v w u q)) := List.perm_append_comm
      obtain ⟨qm, hqm⟩ := z_mem (q := (am 0, .inr (8, _))) hp_531 List.mem_cons_self
      refine z_callp X hW (d := d_X8_record μ (xs (3 * j + 1)) (xs (3 * j + 2))) (K := fun x => some x) (r := r) (by rw [hd8]; rfl) hp_531 (fun x h => z_runV (b := am 0) (As := [.int (xs (3 * j + 1)), .int (xs (3 * j + 2))]) (rest := [.int r]) X hW hp_531 (c_X8_record l E am μ (xs (3 * j + 1)) (xs (3 * j + 2)) x h _) hy_X8_record qm 8 (C := RX8) (T := TX8) (N := 12) rfl hqm rfl gL_law_X8_record rfl rfl ⟨by decide, by decide⟩ rfl hl rfl rfl (Nat.le_of_ble_eq_true rfl) dL_law_531 ⟨by show _ ≤ 600000; omega, by show _ ≤ 7302250; omega⟩) (fun t9 H locs h9 hW => ?_)
      cases h9
      refine lv_icmp_eq (tgt := 841) X.1 X.2.1 dL_law_534 (by decide) (fun _ => ?_) (fun hc => absurd rfl hc)
      exact J_841 b0 v w u q μ _ _ _ 0 0 (by omega) (by omega) hS1 hW hl
    by_cases e_15 : t = 15
    · clear et
      refine lv_tableIn (off := 507) (tgt := 539) X.1 X.2.1 dL_law_32 (by rw [e_15]; decide) (by rw [e_15]; decide) (by rw [e_15]; rfl) (by decide) ?_
      obtain ⟨r, hd7, hd8, hS1⟩ := h_sign j v w u q μ (xs (3 * j + 1)) (by omega) hS
      refine lv_aload_n X.1 X.2.1 dL_law_539 rfl (lv_at hl 1 rfl) ?_
      refine lv_aload_n X.1 X.2.1 dL_law_540 rfl (lv_at hl 0 rfl) ?_
      refine lv_iload_n X.1 X.2.1 dL_law_541 rfl (lv_at hl 3 rfl) ?_
      refine lv_iconst (v := 1) X.1 X.2.1 dL_law_542 (by decide) ?_
      refine z_iaddn X 1 rfl dL_law_543 ?_
      refine z_script X hXs hbl hbA hW (i := 3 * j + 1) (by omega) (by omega) dL_law_544 ?_
      have hp_545 : (zXW E a b0 v w u q ++ mdW E am μ).Perm (zXW E a b0 v w u q ++ mdW E am μ) := List.Perm.refl _
      refine z_callp X hW (d := d_X7_sign v w u q (xs (3 * j + 1))) (K := fun x => some x) (r := r) (by rw [hd7]; rfl) hp_545 (fun x h => z_runV (b := a 0) (As := [.int (xs (3 * j + 1))]) (rest := []) X hW hp_545 (c_X7_sign l E a b0 v w u q (xs (3 * j + 1)) x h _) hy_X7_sign 0 7 (C := RX7) (T := TX7) (N := 5) rfl rfl rfl gL_law_X7_sign rfl rfl ⟨by decide, by decide⟩ rfl hl rfl rfl (Nat.le_of_ble_eq_true rfl) dL_law_545 ⟨by show _ ≤ 600000; omega, by show _ ≤ 7302250; omega⟩) (fun t9 H locs h9 hW => ?_)
      cases h9
      refine lv_aload_n X.1 X.2.1 dL_law_548 rfl (lv_at hl 2 rfl) ?_
      refine lv_aload_n X.1 X.2.1 dL_law_549 rfl (lv_at hl 0 rfl) ?_
      refine lv_iload_n X.1 X.2.1 dL_law_550 rfl (lv_at hl 3 rfl) ?_
      refine lv_iconst (v := 1) X.1 X.2.1 dL_law_551 (by decide) ?_
      refine z_iaddn X 1 rfl dL_law_552 ?_
      refine z_script X hXs hbl hbA hW (i := 3 * j + 1) (by omega) (by omega) dL_law_553 ?_
      have hp_554 : ((zXW E a b0 v w u q) ++ mdW E am μ).Perm (mdW E am μ ++ (zXW E a b0 v w u q)) := List.perm_append_comm
      obtain ⟨qm, hqm⟩ := z_mem (q := (am 0, .inr (8, _))) hp_554 List.mem_cons_self
      refine z_callp X hW (d := d_X8_sign μ (xs (3 * j + 1))) (K := fun x => some x) (r := r) (by rw [hd8]; rfl) hp_554 (fun x h => z_runV (b := am 0) (As := [.int (xs (3 * j + 1))]) (rest := [.int r]) X hW hp_554 (c_X8_sign l E am μ (xs (3 * j + 1)) x h _) hy_X8_sign qm 8 (C := RX8) (T := TX8) (N := 12) rfl hqm rfl gL_law_X8_sign rfl rfl ⟨by decide, by decide⟩ rfl hl rfl rfl (Nat.le_of_ble_eq_true rfl) dL_law_554 ⟨by show _ ≤ 600000; omega, by show _ ≤ 7302250; omega⟩) (fun t9 H locs h9 hW => ?_)
      cases h9
      refine lv_icmp_eq (tgt := 841) X.1 X.2.1 dL_law_557 (by decide) (fun _ => ?_) (fun hc => absurd rfl hc)
      exact J_841 b0 v w u q μ _ _ _ 0 0 (by omega) (by omega) hS1 hW hl
    by_cases e_16 : t = 16
    · clear et
      refine lv_tableIn (off := 530) (tgt := 562) X.1 X.2.1 dL_law_32 (by rw [e_16]; decide) (by rw [e_16]; decide) (by rw [e_16]; rfl) (by decide) ?_
      obtain ⟨r, hd7, hd8, hS1⟩ := h_count j v w u q μ (xs (3 * j + 1)) (by omega) hS
      refine lv_aload_n X.1 X.2.1 dL_law_562 rfl (lv_at hl 1 rfl) ?_
      refine lv_aload_n X.1 X.2.1 dL_law_563 rfl (lv_at hl 0 rfl) ?_
      refine lv_iload_n X.1 X.2.1 dL_law_564 rfl (lv_at hl 3 rfl) ?_
      refine lv_iconst (v := 1) X.1 X.2.1 dL_law_565 (by decide) ?_
      refine z_iaddn X 1 rfl dL_law_566 ?_
      refine z_script X hXs hbl hbA hW (i := 3 * j + 1) (by omega) (by omega) dL_law_567 ?_
      have hp_568 : (zXW E a b0 v w u q ++ mdW E am μ).Perm (zXW E a b0 v w u q ++ mdW E am μ) := List.Perm.refl _
      refine z_callp X hW (d := d_X7_count v w u q (xs (3 * j + 1))) (K := fun x => some x) (r := r) (by rw [hd7]; rfl) hp_568 (fun x h => z_runV (b := a 0) (As := [.int (xs (3 * j + 1))]) (rest := []) X hW hp_568 (c_X7_count l E a b0 v w u q (xs (3 * j + 1)) x h _) hy_X7_count 0 7 (C := RX7) (T := TX7) (N := 5) rfl rfl rfl gL_law_X7_count rfl rfl ⟨by decide, by decide⟩ rfl hl rfl rfl (Nat.le_of_ble_eq_true rfl) dL_law_568 ⟨by show _ ≤ 600000; omega, by show _ ≤ 7302250; omega⟩) (fun t9 H locs h9 hW => ?_)
      cases h9
      refine lv_aload_n X.1 X.2.1 dL_law_571 rfl (lv_at hl 2 rfl) ?_
      refine lv_aload_n X.1 X.2.1 dL_law_572 rfl (lv_at hl 0 rfl) ?_
      refine lv_iload_n X.1 X.2.1 dL_law_573 rfl (lv_at hl 3 rfl) ?_
      refine lv_iconst (v := 1) X.1 X.2.1 dL_law_574 (by decide) ?_
      refine z_iaddn X 1 rfl dL_law_575 ?_
      refine z_script X hXs hbl hbA hW (i := 3 * j + 1) (by omega) (by omega) dL_law_576 ?_
      have hp_577 : ((zXW E a b0 v w u q) ++ mdW E am μ).Perm (mdW E am μ ++ (zXW E a b0 v w u q)) := List.perm_append_comm
      obtain ⟨qm, hqm⟩ := z_mem (q := (am 0, .inr (8, _))) hp_577 List.mem_cons_self
      refine z_callp X hW (d := d_X8_count μ (xs (3 * j + 1))) (K := fun x => some x) (r := r) (by rw [hd8]; rfl) hp_577 (fun x h => z_runV (b := am 0) (As := [.int (xs (3 * j + 1))]) (rest := [.int r]) X hW hp_577 (c_X8_count l E am μ (xs (3 * j + 1)) x h _) hy_X8_count qm 8 (C := RX8) (T := TX8) (N := 12) rfl hqm rfl gL_law_X8_count rfl rfl ⟨by decide, by decide⟩ rfl hl rfl rfl (Nat.le_of_ble_eq_true rfl) dL_law_577 ⟨by show _ ≤ 600000; omega, by show _ ≤ 7302250; omega⟩) (fun t9 H locs h9 hW => ?_)
      cases h9
      refine lv_icmp_eq (tgt := 841) X.1 X.2.1 dL_law_580 (by decide) (fun _ => ?_) (fun hc => absurd rfl hc)
      exact J_841 b0 v w u q μ _ _ _ 0 0 (by omega) (by omega) hS1 hW hl
    by_cases e_17 : t = 17
    · clear et
      refine lv_tableIn (off := 553) (tgt := 585) X.1 X.2.1 dL_law_32 (by rw [e_17]; decide) (by rw [e_17]; decide) (by rw [e_17]; rfl) (by decide) ?_
      obtain ⟨r, hd7, hd8, hS1⟩ := h_quietIn j v w u q μ (xs (3 * j + 1)) (by omega) hS
      refine lv_aload_n X.1 X.2.1 dL_law_585 rfl (lv_at hl 1 rfl) ?_
      refine lv_aload_n X.1 X.2.1 dL_law_586 rfl (lv_at hl 0 rfl) ?_
      refine lv_iload_n X.1 X.2.1 dL_law_587 rfl (lv_at hl 3 rfl) ?_
      refine lv_iconst (v := 1) X.1 X.2.1 dL_law_588 (by decide) ?_
      refine z_iaddn X 1 rfl dL_law_589 ?_
      refine z_script X hXs hbl hbA hW (i := 3 * j + 1) (by omega) (by omega) dL_law_590 ?_
      have hp_591 : (zXW E a b0 v w u q ++ mdW E am μ).Perm (zXW E a b0 v w u q ++ mdW E am μ) := List.Perm.refl _
      refine z_callp X hW (d := d_X7_quietIn v w u q (xs (3 * j + 1))) (K := fun x => some x) (r := r) (by rw [hd7]; rfl) hp_591 (fun x h => z_runV (b := a 0) (As := [.int (xs (3 * j + 1))]) (rest := []) X hW hp_591 (c_X7_quietIn l E a b0 v w u q (xs (3 * j + 1)) x h _) hy_X7_quietIn 0 7 (C := RX7) (T := TX7) (N := 5) rfl rfl rfl gL_law_X7_quietIn rfl rfl ⟨by decide, by decide⟩ rfl hl rfl rfl (Nat.le_of_ble_eq_true rfl) dL_law_591 ⟨by show _ ≤ 600000; omega, by show _ ≤ 7302250; omega⟩) (fun t9 H locs h9 hW => ?_)
      cases h9
      refine lv_aload_n X.1 X.2.1 dL_law_594 rfl (lv_at hl 2 rfl) ?_
      refine lv_aload_n X.1 X.2.1 dL_law_595 rfl (lv_at hl 0 rfl) ?_
      refine lv_iload_n X.1 X.2.1 dL_law_596 rfl (lv_at hl 3 rfl) ?_
      refine lv_iconst (v := 1) X.1 X.2.1 dL_law_597 (by decide) ?_
      refine z_iaddn X 1 rfl dL_law_598 ?_
      refine z_script X hXs hbl hbA hW (i := 3 * j + 1) (by omega) (by omega) dL_law_599 ?_
      have hp_600 : ((zXW E a b0 v w u q) ++ mdW E am μ).Perm (mdW E am μ ++ (zXW E a b0 v w u q)) := List.perm_append_comm
      obtain ⟨qm, hqm⟩ := z_mem (q := (am 0, .inr (8, _))) hp_600 List.mem_cons_self
      refine z_callp X hW (d := d_X8_quietIn μ (xs (3 * j + 1))) (K := fun x => some x) (r := r) (by rw [hd8]; rfl) hp_600 (fun x h => z_runV (b := am 0) (As := [.int (xs (3 * j + 1))]) (rest := [.int r]) X hW hp_600 (c_X8_quietIn l E am μ (xs (3 * j + 1)) x h _) hy_X8_quietIn qm 8 (C := RX8) (T := TX8) (N := 12) rfl hqm rfl gL_law_X8_quietIn rfl rfl ⟨by decide, by decide⟩ rfl hl rfl rfl (Nat.le_of_ble_eq_true rfl) dL_law_600 ⟨by show _ ≤ 600000; omega, by show _ ≤ 7302250; omega⟩) (fun t9 H locs h9 hW => ?_)
      cases h9
      refine lv_icmp_eq (tgt := 841) X.1 X.2.1 dL_law_603 (by decide) (fun _ => ?_) (fun hc => absurd rfl hc)
      exact J_841 b0 v w u q μ _ _ _ 0 0 (by omega) (by omega) hS1 hW hl
    by_cases e_18 : t = 18
    · clear et
      refine lv_tableIn (off := 576) (tgt := 608) X.1 X.2.1 dL_law_32 (by rw [e_18]; decide) (by rw [e_18]; decide) (by rw [e_18]; rfl) (by decide) ?_
      obtain ⟨r, hd7, hd8, hS1⟩ := h_clapsFor j v w u q μ (xs (3 * j + 1)) (by omega) hS
      refine lv_aload_n X.1 X.2.1 dL_law_608 rfl (lv_at hl 1 rfl) ?_
      refine lv_aload_n X.1 X.2.1 dL_law_609 rfl (lv_at hl 0 rfl) ?_
      refine lv_iload_n X.1 X.2.1 dL_law_610 rfl (lv_at hl 3 rfl) ?_
      refine lv_iconst (v := 1) X.1 X.2.1 dL_law_611 (by decide) ?_
      refine z_iaddn X 1 rfl dL_law_612 ?_
      refine z_script X hXs hbl hbA hW (i := 3 * j + 1) (by omega) (by omega) dL_law_613 ?_
      have hp_614 : (zXW E a b0 v w u q ++ mdW E am μ).Perm (zXW E a b0 v w u q ++ mdW E am μ) := List.Perm.refl _
      refine z_callp X hW (d := d_X7_clapsFor v w u q (xs (3 * j + 1))) (K := fun x => some x) (r := r) (by rw [hd7]; rfl) hp_614 (fun x h => z_runV (b := a 0) (As := [.int (xs (3 * j + 1))]) (rest := []) X hW hp_614 (c_X7_clapsFor l E a b0 v w u q (xs (3 * j + 1)) x h _) hy_X7_clapsFor 0 7 (C := RX7) (T := TX7) (N := 5) rfl rfl rfl gL_law_X7_clapsFor rfl rfl ⟨by decide, by decide⟩ rfl hl rfl rfl (Nat.le_of_ble_eq_true rfl) dL_law_614 ⟨by show _ ≤ 600000; omega, by show _ ≤ 7302250; omega⟩) (fun t9 H locs h9 hW => ?_)
      cases h9
      refine lv_aload_n X.1 X.2.1 dL_law_617 rfl (lv_at hl 2 rfl) ?_
      refine lv_aload_n X.1 X.2.1 dL_law_618 rfl (lv_at hl 0 rfl) ?_
      refine lv_iload_n X.1 X.2.1 dL_law_619 rfl (lv_at hl 3 rfl) ?_
      refine lv_iconst (v := 1) X.1 X.2.1 dL_law_620 (by decide) ?_
      refine z_iaddn X 1 rfl dL_law_621 ?_
      refine z_script X hXs hbl hbA hW (i := 3 * j + 1) (by omega) (by omega) dL_law_622 ?_
      have hp_623 : ((zXW E a b0 v w u q) ++ mdW E am μ).Perm (mdW E am μ ++ (zXW E a b0 v w u q)) := List.perm_append_comm
      obtain ⟨qm, hqm⟩ := z_mem (q := (am 0, .inr (8, _))) hp_623 List.mem_cons_self
      refine z_callp X hW (d := d_X8_clapsFor μ (xs (3 * j + 1))) (K := fun x => some x) (r := r) (by rw [hd8]; rfl) hp_623 (fun x h => z_runV (b := am 0) (As := [.int (xs (3 * j + 1))]) (rest := [.int r]) X hW hp_623 (c_X8_clapsFor l E am μ (xs (3 * j + 1)) x h _) hy_X8_clapsFor qm 8 (C := RX8) (T := TX8) (N := 12) rfl hqm rfl gL_law_X8_clapsFor rfl rfl ⟨by decide, by decide⟩ rfl hl rfl rfl (Nat.le_of_ble_eq_true rfl) dL_law_623 ⟨by show _ ≤ 600000; omega, by show _ ≤ 7302250; omega⟩) (fun t9 H locs h9 hW => ?_)
      cases h9
      refine lv_icmp_eq (tgt := 841) X.1 X.2.1 dL_law_626 (by decide) (fun _ => ?_) (fun hc => absurd rfl hc)
      exact J_841 b0 v w u q μ _ _ _ 0 0 (by omega) (by omega) hS1 hW hl
    by_cases e_19 : t = 19
    · clear et
      refine lv_tableIn (off := 599) (tgt := 631) X.1 X.2.1 dL_law_32 (by rw [e_19]; decide) (by rw [e_19]; decide) (by rw [e_19]; rfl) (by decide) ?_
      obtain ⟨r, hd7, hd8, hS1⟩ := h_lapsesIn j v w u q μ (xs (3 * j + 1)) (by omega) hS
      refine lv_aload_n X.1 X.2.1 dL_law_631 rfl (lv_at hl 1 rfl) ?_
      refine lv_aload_n X.1 X.2.1 dL_law_632 rfl (lv_at hl 0 rfl) ?_
      refine lv_iload_n X.1 X.2.1 dL_law_633 rfl (lv_at hl 3 rfl) ?_
      refine lv_iconst (v := 1) X.1 X.2.1 dL_law_634 (by decide) ?_
      refine z_iaddn X 1 rfl dL_law_635 ?_
      refine z_script X hXs hbl hbA hW (i := 3 * j + 1) (by omega) (by omega) dL_law_636 ?_
      have hp_637 : (zXW E a b0 v w u q ++ mdW E am μ).Perm (zXW E a b0 v w u q ++ mdW E am μ) := List.Perm.refl _
      refine z_callp X hW (d := d_X7_lapsesIn v w u q (xs (3 * j + 1))) (K := fun x => some x) (r := r) (by rw [hd7]; rfl) hp_637 (fun x h => z_runV (b := a 0) (As := [.int (xs (3 * j + 1))]) (rest := []) X hW hp_637 (c_X7_lapsesIn l E a b0 v w u q (xs (3 * j + 1)) x h _) hy_X7_lapsesIn 0 7 (C := RX7) (T := TX7) (N := 5) rfl rfl rfl gL_law_X7_lapsesIn rfl rfl ⟨by decide, by decide⟩ rfl hl rfl rfl (Nat.le_of_ble_eq_true rfl) dL_law_637 ⟨by show _ ≤ 600000; omega, by show _ ≤ 7302250; omega⟩) (fun t9 H locs h9 hW => ?_)
      cases h9
      refine lv_aload_n X.1 X.2.1 dL_law_640 rfl (lv_at hl 2 rfl) ?_
      refine lv_aload_n X.1 X.2.1 dL_law_641 rfl (lv_at hl 0 rfl) ?_
      refine lv_iload_n X.1 X.2.1 dL_law_642 rfl (lv_at hl 3 rfl) ?_
      refine lv_iconst (v := 1) X.1 X.2.1 dL_law_643 (by decide) ?_
      refine z_iaddn X 1 rfl dL_law_644 ?_
      refine z_script X hXs hbl hbA hW (i := 3 * j + 1) (by omega) (by omega) dL_law_645 ?_
      have hp_646 : ((zXW E a b0 v w u q) ++ mdW E am μ).Perm (mdW E am μ ++ (zXW E a b0 v w u q)) := List.perm_append_comm
      obtain ⟨qm, hqm⟩ := z_mem (q := (am 0, .inr (8, _))) hp_646 List.mem_cons_self
      refine z_callp X hW (d := d_X8_lapsesIn μ (xs (3 * j + 1))) (K := fun x => some x) (r := r) (by rw [hd8]; rfl) hp_646 (fun x h => z_runV (b := am 0) (As := [.int (xs (3 * j + 1))]) (rest := [.int r]) X hW hp_646 (c_X8_lapsesIn l E am μ (xs (3 * j + 1)) x h _) hy_X8_lapsesIn qm 8 (C := RX8) (T := TX8) (N := 12) rfl hqm rfl gL_law_X8_lapsesIn rfl rfl ⟨by decide, by decide⟩ rfl hl rfl rfl (Nat.le_of_ble_eq_true rfl) dL_law_646 ⟨by show _ ≤ 600000; omega, by show _ ≤ 7302250; omega⟩) (fun t9 H locs h9 hW => ?_)
      cases h9
      refine lv_icmp_eq (tgt := 841) X.1 X.2.1 dL_law_649 (by decide) (fun _ => ?_) (fun hc => absurd rfl hc)
      exact J_841 b0 v w u q μ _ _ _ 0 0 (by omega) (by omega) hS1 hW hl
    by_cases e_20 : t = 20
    · clear et
      refine lv_tableIn (off := 622) (tgt := 654) X.1 X.2.1 dL_law_32 (by rw [e_20]; decide) (by rw [e_20]; decide) (by rw [e_20]; rfl) (by decide) ?_
      obtain ⟨r, hd7, hd8, hS1⟩ := h_calls j v w u q μ (by omega) hS
      refine lv_aload_n X.1 X.2.1 dL_law_654 rfl (lv_at hl 1 rfl) ?_
      have hp_655 : (zXW E a b0 v w u q ++ mdW E am μ).Perm (zXW E a b0 v w u q ++ mdW E am μ) := List.Perm.refl _
      refine z_callp X hW (d := d_X7_calls v w u q ) (K := fun x => some x) (r := r) (by rw [hd7]; rfl) hp_655 (fun x h => z_runV (b := a 0) (As := []) (rest := []) X hW hp_655 (c_X7_calls l E a b0 v w u q  x h _) hy_X7_calls 0 7 (C := RX7) (T := TX7) (N := 5) rfl rfl rfl gL_law_X7_calls rfl rfl ⟨by decide, by decide⟩ rfl hl rfl rfl (Nat.le_of_ble_eq_true rfl) dL_law_655 ⟨by show _ ≤ 600000; omega, by show _ ≤ 7302250; omega⟩) (fun t9 H locs h9 hW => ?_)
      cases h9
      refine lv_aload_n X.1 X.2.1 dL_law_658 rfl (lv_at hl 2 rfl) ?_
      have hp_659 : ((zXW E a b0 v w u q) ++ mdW E am μ).Perm (mdW E am μ ++ (zXW E a b0 v w u q)) := List.perm_append_comm
      obtain ⟨qm, hqm⟩ := z_mem (q := (am 0, .inr (8, _))) hp_659 List.mem_cons_self
      refine z_callp X hW (d := d_X8_calls μ ) (K := fun x => some x) (r := r) (by rw [hd8]; rfl) hp_659 (fun x h => z_runV (b := am 0) (As := []) (rest := [.int r]) X hW hp_659 (c_X8_calls l E am μ  x h _) hy_X8_calls qm 8 (C := RX8) (T := TX8) (N := 12) rfl hqm rfl gL_law_X8_calls rfl rfl ⟨by decide, by decide⟩ rfl hl rfl rfl (Nat.le_of_ble_eq_true rfl) dL_law_659 ⟨by show _ ≤ 600000; omega, by show _ ≤ 7302250; omega⟩) (fun t9 H locs h9 hW => ?_)
      cases h9
      refine lv_icmp_eq (tgt := 841) X.1 X.2.1 dL_law_662 (by decide) (fun _ => ?_) (fun hc => absurd rfl hc)
      exact J_841 b0 v w u q μ _ _ _ 0 0 (by omega) (by omega) hS1 hW hl
    by_cases e_21 : t = 21
    · clear et
      refine lv_tableIn (off := 635) (tgt := 667) X.1 X.2.1 dL_law_32 (by rw [e_21]; decide) (by rw [e_21]; decide) (by rw [e_21]; rfl) (by decide) ?_
      obtain ⟨r, hd7, hd8, hS1⟩ := h_ifFound j v w u q μ (xs (3 * j + 1)) (by omega) hS
      refine lv_aload_n X.1 X.2.1 dL_law_667 rfl (lv_at hl 1 rfl) ?_
      refine lv_aload_n X.1 X.2.1 dL_law_668 rfl (lv_at hl 0 rfl) ?_
      refine lv_iload_n X.1 X.2.1 dL_law_669 rfl (lv_at hl 3 rfl) ?_
      refine lv_iconst (v := 1) X.1 X.2.1 dL_law_670 (by decide) ?_
      refine z_iaddn X 1 rfl dL_law_671 ?_
      refine z_script X hXs hbl hbA hW (i := 3 * j + 1) (by omega) (by omega) dL_law_672 ?_
      have hp_673 : (zXW E a b0 v w u q ++ mdW E am μ).Perm (zXW E a b0 v w u q ++ mdW E am μ) := List.Perm.refl _
      refine z_callp X hW (d := d_X7_ifFound v w u q (xs (3 * j + 1))) (K := fun x => some x) (r := r) (by rw [hd7]; rfl) hp_673 (fun x h => z_runV (b := a 0) (As := [.int (xs (3 * j + 1))]) (rest := []) X hW hp_673 (c_X7_ifFound l E a b0 v w u q (xs (3 * j + 1)) x h _) hy_X7_ifFound 0 7 (C := RX7) (T := TX7) (N := 5) rfl rfl rfl gL_law_X7_ifFound rfl rfl ⟨by decide, by decide⟩ rfl hl rfl rfl (Nat.le_of_ble_eq_true rfl) dL_law_673 ⟨by show _ ≤ 600000; omega, by show _ ≤ 7302250; omega⟩) (fun t9 H locs h9 hW => ?_)
      cases h9
      refine lv_aload_n X.1 X.2.1 dL_law_676 rfl (lv_at hl 2 rfl) ?_
      refine lv_aload_n X.1 X.2.1 dL_law_677 rfl (lv_at hl 0 rfl) ?_
      refine lv_iload_n X.1 X.2.1 dL_law_678 rfl (lv_at hl 3 rfl) ?_
      refine lv_iconst (v := 1) X.1 X.2.1 dL_law_679 (by decide) ?_
      refine z_iaddn X 1 rfl dL_law_680 ?_
      refine z_script X hXs hbl hbA hW (i := 3 * j + 1) (by omega) (by omega) dL_law_681 ?_
      have hp_682 : ((zXW E a b0 v w u q) ++ mdW E am μ).Perm (mdW E am μ ++ (zXW E a b0 v w u q)) := List.perm_append_comm
      obtain ⟨qm, hqm⟩ := z_mem (q := (am 0, .inr (8, _))) hp_682 List.mem_cons_self
      refine z_callp X hW (d := d_X8_ifFound μ (xs (3 * j + 1))) (K := fun x => some x) (r := r) (by rw [hd8]; rfl) hp_682 (fun x h => z_runV (b := am 0) (As := [.int (xs (3 * j + 1))]) (rest := [.int r]) X hW hp_682 (c_X8_ifFound l E am μ (xs (3 * j + 1)) x h _) hy_X8_ifFound qm 8 (C := RX8) (T := TX8) (N := 12) rfl hqm rfl gL_law_X8_ifFound rfl rfl ⟨by decide, by decide⟩ rfl hl rfl rfl (Nat.le_of_ble_eq_true rfl) dL_law_682 ⟨by show _ ≤ 600000; omega, by show _ ≤ 7302250; omega⟩) (fun t9 H locs h9 hW => ?_)
      cases h9
      refine lv_icmp_eq (tgt := 841) X.1 X.2.1 dL_law_685 (by decide) (fun _ => ?_) (fun hc => absurd rfl hc)
      exact J_841 b0 v w u q μ _ _ _ 0 0 (by omega) (by omega) hS1 hW hl
    by_cases e_22 : t = 22
    · clear et
      refine lv_tableIn (off := 658) (tgt := 690) X.1 X.2.1 dL_law_32 (by rw [e_22]; decide) (by rw [e_22]; decide) (by rw [e_22]; rfl) (by decide) ?_
      obtain ⟨r, w1, μ1, hd7, hd8, hS1⟩ := h_put j v w u q μ (((xs (3 * j + 1)).toInt64 <<< ((32 : Int32).toInt64 &&& 63)) ||| ((xs (3 * j + 2)).toInt64 &&& 4294967295)) (by omega) hS
      refine lv_aload_n X.1 X.2.1 dL_law_690 rfl (lv_at hl 1 rfl) ?_
      refine lv_aload_n X.1 X.2.1 dL_law_691 rfl (lv_at hl 0 rfl) ?_
      refine lv_iload_n X.1 X.2.1 dL_law_692 rfl (lv_at hl 3 rfl) ?_
      refine lv_iconst (v := 1) X.1 X.2.1 dL_law_693 (by decide) ?_
      refine z_iaddn X 1 rfl dL_law_694 ?_
      refine z_script X hXs hbl hbA hW (i := 3 * j + 1) (by omega) (by omega) dL_law_695 ?_
      refine lv_i2l X.1 X.2.1 dL_law_696 rfl ?_
      refine lv_bipush (v := 32) X.1 X.2.1 dL_law_697 (by decide) ?_
      refine lv_lshl X.1 X.2.1 dL_law_699 rfl ?_
      refine lv_aload_n X.1 X.2.1 dL_law_700 rfl (lv_at hl 0 rfl) ?_
      refine lv_iload_n X.1 X.2.1 dL_law_701 rfl (lv_at hl 3 rfl) ?_
      refine lv_iconst (v := 2) X.1 X.2.1 dL_law_702 (by decide) ?_
      refine z_iaddn X 2 rfl dL_law_703 ?_
      refine z_script X hXs hbl hbA hW (i := 3 * j + 2) (by omega) (by omega) dL_law_704 ?_
      refine lv_i2l X.1 X.2.1 dL_law_705 rfl ?_
      refine lv_ldc2 (v := 4294967295) X.1 X.2.1 X.2.2.2.1 (X.2.2.2.2.1 _ q_mask) dL_law_706 ?_
      refine lv_land X.1 X.2.1 dL_law_709 ?_
      refine lv_lor X.1 X.2.1 dL_law_710 ?_
      have hp_711 : (zXW E a b0 v w u q ++ mdW E am μ).Perm (zXW E a b0 v w u q ++ mdW E am μ) := List.Perm.refl _
      refine z_calli X hW (d := d_X7_put v w u q (((xs (3 * j + 1)).toInt64 <<< ((32 : Int32).toInt64 &&& 63)) ||| ((xs (3 * j + 2)).toInt64 &&& 4294967295))) (fun z => z) (K := fun x z => some (x, z)) (r := (r, w1)) (by rw [hd7]; rfl) hp_711 (fun z9 => (zXW E a b0 v z9 u q)) (fun z9 => (zXW E a b0 v z9 u q) ++ mdW E am μ) (fun _ => List.Perm.refl _) (fun x z9 h => z_runV (b := a 0) (As := [.long (((xs (3 * j + 1)).toInt64 <<< ((32 : Int32).toInt64 &&& 63)) ||| ((xs (3 * j + 2)).toInt64 &&& 4294967295))]) (rest := []) X hW hp_711 (c_X7_put l E a b0 v w u q (((xs (3 * j + 1)).toInt64 <<< ((32 : Int32).toInt64 &&& 63)) ||| ((xs (3 * j + 2)).toInt64 &&& 4294967295)) (x, z9) h _) hy_X7_put 0 7 (C := RX7) (T := TX7) (N := 5) rfl rfl rfl gL_law_X7_put rfl rfl ⟨by decide, by decide⟩ rfl hl rfl rfl (Nat.le_of_ble_eq_true rfl) dL_law_711 ⟨by show _ ≤ 600000; omega, by show _ ≤ 7302250; omega⟩) (fun t9 z8 H locs h9 hW => ?_)
      cases h9
      refine lv_aload_n X.1 X.2.1 dL_law_714 rfl (lv_at hl 2 rfl) ?_
      refine lv_aload_n X.1 X.2.1 dL_law_715 rfl (lv_at hl 0 rfl) ?_
      refine lv_iload_n X.1 X.2.1 dL_law_716 rfl (lv_at hl 3 rfl) ?_
      refine lv_iconst (v := 1) X.1 X.2.1 dL_law_717 (by decide) ?_
      refine z_iaddn X 1 rfl dL_law_718 ?_
      refine z_script X hXs hbl hbA hW (i := 3 * j + 1) (by omega) (by omega) dL_law_719 ?_
      refine lv_i2l X.1 X.2.1 dL_law_720 rfl ?_
      refine lv_bipush (v := 32) X.1 X.2.1 dL_law_721 (by decide) ?_
      refine lv_lshl X.1 X.2.1 dL_law_723 rfl ?_
      refine lv_aload_n X.1 X.2.1 dL_law_724 rfl (lv_at hl 0 rfl) ?_
      refine lv_iload_n X.1 X.2.1 dL_law_725 rfl (lv_at hl 3 rfl) ?_
      refine lv_iconst (v := 2) X.1 X.2.1 dL_law_726 (by decide) ?_
      refine z_iaddn X 2 rfl dL_law_727 ?_
      refine z_script X hXs hbl hbA hW (i := 3 * j + 2) (by omega) (by omega) dL_law_728 ?_
      refine lv_i2l X.1 X.2.1 dL_law_729 rfl ?_
      refine lv_ldc2 (v := 4294967295) X.1 X.2.1 X.2.2.2.1 (X.2.2.2.2.1 _ q_mask) dL_law_730 ?_
      refine lv_land X.1 X.2.1 dL_law_733 ?_
      refine lv_lor X.1 X.2.1 dL_law_734 ?_
      have hp_735 : ((zXW E a b0 v w1 u q) ++ mdW E am μ).Perm (mdW E am μ ++ (zXW E a b0 v w1 u q)) := List.perm_append_comm
      obtain ⟨qm, hqm⟩ := z_mem (q := (am 0, .inr (8, _))) hp_735 List.mem_cons_self
      refine z_calli X hW (d := d_X8_put μ (((xs (3 * j + 1)).toInt64 <<< ((32 : Int32).toInt64 &&& 63)) ||| ((xs (3 * j + 2)).toInt64 &&& 4294967295))) (fun z => z) (K := fun x z => some (x, z)) (r := (r, μ1)) (by rw [hd8]; rfl) hp_735 (fun z9 => mdW E am z9) (fun z9 => (zXW E a b0 v w1 u q) ++ mdW E am z9) (fun _ => List.perm_append_comm) (fun x z9 h => z_runV (b := am 0) (As := [.long (((xs (3 * j + 1)).toInt64 <<< ((32 : Int32).toInt64 &&& 63)) ||| ((xs (3 * j + 2)).toInt64 &&& 4294967295))]) (rest := [.int r]) X hW hp_735 (c_X8_put l E am μ (((xs (3 * j + 1)).toInt64 <<< ((32 : Int32).toInt64 &&& 63)) ||| ((xs (3 * j + 2)).toInt64 &&& 4294967295)) (x, z9) h _) hy_X8_put qm 8 (C := RX8) (T := TX8) (N := 12) rfl hqm rfl gL_law_X8_put rfl rfl ⟨by decide, by decide⟩ rfl hl rfl rfl (Nat.le_of_ble_eq_true rfl) dL_law_735 ⟨by show _ ≤ 600000; omega, by show _ ≤ 7302250; omega⟩) (fun t9 z8 H locs h9 hW => ?_)
      cases h9
      refine lv_icmp_eq (tgt := 841) X.1 X.2.1 dL_law_738 (by decide) (fun _ => ?_) (fun hc => absurd rfl hc)
      exact J_841 b0 v w1 u q μ1 _ _ _ 0 0 (by omega) (by omega) hS1 hW hl
    by_cases e_23 : t = 23
    · clear et
      refine lv_tableIn (off := 711) (tgt := 743) X.1 X.2.1 dL_law_32 (by rw [e_23]; decide) (by rw [e_23]; decide) (by rw [e_23]; rfl) (by decide) ?_
      obtain ⟨r, w1, μ1, hd7, hd8, hS1⟩ := h_wipe j v w u q μ (by omega) hS
      refine lv_aload_n X.1 X.2.1 dL_law_743 rfl (lv_at hl 1 rfl) ?_
      have hp_744 : (zXW E a b0 v w u q ++ mdW E am μ).Perm (zXW E a b0 v w u q ++ mdW E am μ) := List.Perm.refl _
      refine z_calli X hW (d := d_X7_wipe v w u q ) (fun z => z) (K := fun x z => some (x, z)) (r := (r, w1)) (by rw [hd7]; rfl) hp_744 (fun z9 => (zXW E a b0 v z9 u q)) (fun z9 => (zXW E a b0 v z9 u q) ++ mdW E am μ) (fun _ => List.Perm.refl _) (fun x z9 h => z_runV (b := a 0) (As := []) (rest := []) X hW hp_744 (c_X7_wipe l E a b0 v w u q  (x, z9) h _) hy_X7_wipe 0 7 (C := RX7) (T := TX7) (N := 5) rfl rfl rfl gL_law_X7_wipe rfl rfl ⟨by decide, by decide⟩ rfl hl rfl rfl (Nat.le_of_ble_eq_true rfl) dL_law_744 ⟨by show _ ≤ 600000; omega, by show _ ≤ 7302250; omega⟩) (fun t9 z8 H locs h9 hW => ?_)
      cases h9
      refine lv_aload_n X.1 X.2.1 dL_law_747 rfl (lv_at hl 2 rfl) ?_
      have hp_748 : ((zXW E a b0 v w1 u q) ++ mdW E am μ).Perm (mdW E am μ ++ (zXW E a b0 v w1 u q)) := List.perm_append_comm
      obtain ⟨qm, hqm⟩ := z_mem (q := (am 0, .inr (8, _))) hp_748 List.mem_cons_self
      refine z_calli X hW (d := d_X8_wipe μ ) (fun z => z) (K := fun x z => some (x, z)) (r := (r, μ1)) (by rw [hd8]; rfl) hp_748 (fun z9 => mdW E am z9) (fun z9 => (zXW E a b0 v w1 u q) ++ mdW E am z9) (fun _ => List.perm_append_comm) (fun x z9 h => z_runV (b := am 0) (As := []) (rest := [.int r]) X hW hp_748 (c_X8_wipe l E am μ  (x, z9) h _) hy_X8_wipe qm 8 (C := RX8) (T := TX8) (N := 12) rfl hqm rfl gL_law_X8_wipe rfl rfl ⟨by decide, by decide⟩ rfl hl rfl rfl (Nat.le_of_ble_eq_true rfl) dL_law_748 ⟨by show _ ≤ 600000; omega, by show _ ≤ 7302250; omega⟩) (fun t9 z8 H locs h9 hW => ?_)
      cases h9
      refine lv_icmp_eq (tgt := 841) X.1 X.2.1 dL_law_751 (by decide) (fun _ => ?_) (fun hc => absurd rfl hc)
      exact J_841 b0 v w1 u q μ1 _ _ _ 0 0 (by omega) (by omega) hS1 hW hl
    by_cases e_24 : t = 24
    · clear et
      refine lv_tableIn (off := 724) (tgt := 756) X.1 X.2.1 dL_law_32 (by rw [e_24]; decide) (by rw [e_24]; decide) (by rw [e_24]; rfl) (by decide) ?_
      obtain ⟨r, w1, μ1, hd7, hd8, hS1⟩ := h_fault j v w u q μ (by omega) hS
      refine lv_aload_n X.1 X.2.1 dL_law_756 rfl (lv_at hl 1 rfl) ?_
      have hp_757 : (zXW E a b0 v w u q ++ mdW E am μ).Perm (zXW E a b0 v w u q ++ mdW E am μ) := List.Perm.refl _
      refine z_calli X hW (d := d_X7_fault v w u q ) (fun z => z) (K := fun x z => some (x, z)) (r := (r, w1)) (by rw [hd7]; rfl) hp_757 (fun z9 => (zXW E a b0 v z9 u q)) (fun z9 => (zXW E a b0 v z9 u q) ++ mdW E am μ) (fun _ => List.Perm.refl _) (fun x z9 h => z_runV (b := a 0) (As := []) (rest := []) X hW hp_757 (c_X7_fault l E a b0 v w u q  (x, z9) h _) hy_X7_fault 0 7 (C := RX7) (T := TX7) (N := 5) rfl rfl rfl gL_law_X7_fault rfl rfl ⟨by decide, by decide⟩ rfl hl rfl rfl (Nat.le_of_ble_eq_true rfl) dL_law_757 ⟨by show _ ≤ 600000; omega, by show _ ≤ 7302250; omega⟩) (fun t9 z8 H locs h9 hW => ?_)
      cases h9
      refine lv_aload_n X.1 X.2.1 dL_law_760 rfl (lv_at hl 2 rfl) ?_
      have hp_761 : ((zXW E a b0 v w1 u q) ++ mdW E am μ).Perm (mdW E am μ ++ (zXW E a b0 v w1 u q)) := List.perm_append_comm
      obtain ⟨qm, hqm⟩ := z_mem (q := (am 0, .inr (8, _))) hp_761 List.mem_cons_self
      refine z_calli X hW (d := d_X8_fault μ ) (fun z => z) (K := fun x z => some (x, z)) (r := (r, μ1)) (by rw [hd8]; rfl) hp_761 (fun z9 => mdW E am z9) (fun z9 => (zXW E a b0 v w1 u q) ++ mdW E am z9) (fun _ => List.perm_append_comm) (fun x z9 h => z_runV (b := am 0) (As := []) (rest := [.int r]) X hW hp_761 (c_X8_fault l E am μ  (x, z9) h _) hy_X8_fault qm 8 (C := RX8) (T := TX8) (N := 12) rfl hqm rfl gL_law_X8_fault rfl rfl ⟨by decide, by decide⟩ rfl hl rfl rfl (Nat.le_of_ble_eq_true rfl) dL_law_761 ⟨by show _ ≤ 600000; omega, by show _ ≤ 7302250; omega⟩) (fun t9 z8 H locs h9 hW => ?_)
      cases h9
      refine lv_icmp_eq (tgt := 841) X.1 X.2.1 dL_law_764 (by decide) (fun _ => ?_) (fun hc => absurd rfl hc)
      exact J_841 b0 v w1 u q μ1 _ _ _ 0 0 (by omega) (by omega) hS1 hW hl
    by_cases e_25 : t = 25
    · clear et
      refine lv_tableIn (off := 737) (tgt := 769) X.1 X.2.1 dL_law_32 (by rw [e_25]; decide) (by rw [e_25]; decide) (by rw [e_25]; rfl) (by decide) ?_
      obtain ⟨r, v1, w1, u1, μ1, hd7, hd8, hS1⟩ := h_carryOut j v w u q μ (by omega) hS
      refine lv_aload_n X.1 X.2.1 dL_law_769 rfl (lv_at hl 1 rfl) ?_
      have hp_770 : (zXW E a b0 v w u q ++ mdW E am μ).Perm (zXW E a b0 v w u q ++ mdW E am μ) := List.Perm.refl _
      refine z_calli X hW (d := d_X7_carryOut v w u q ) (fun z => z) (K := fun x z => some (x, z)) (r := (r, (v1, w1, u1))) (by rw [hd7]; rfl) hp_770 (fun z9 => (zXW E a b0 z9.1 z9.2.1 z9.2.2 q)) (fun z9 => (zXW E a b0 z9.1 z9.2.1 z9.2.2 q) ++ mdW E am μ) (fun _ => List.Perm.refl _) (fun x z9 h => z_runV (b := a 0) (As := []) (rest := []) X hW hp_770 (c_X7_carryOut l E a b0 v w u q  (x, z9) h _) hy_X7_carryOut 0 7 (C := RX7) (T := TX7) (N := 5) rfl rfl rfl gL_law_X7_carryOut rfl rfl ⟨by decide, by decide⟩ rfl hl rfl rfl (Nat.le_of_ble_eq_true rfl) dL_law_770 ⟨by show _ ≤ 600000; omega, by show _ ≤ 7302250; omega⟩) (fun t9 z8 H locs h9 hW => ?_)
      cases h9
      refine lv_aload_n X.1 X.2.1 dL_law_773 rfl (lv_at hl 2 rfl) ?_
      have hp_774 : ((zXW E a b0 v1 w1 u1 q) ++ mdW E am μ).Perm (mdW E am μ ++ (zXW E a b0 v1 w1 u1 q)) := List.perm_append_comm
      obtain ⟨qm, hqm⟩ := z_mem (q := (am 0, .inr (8, _))) hp_774 List.mem_cons_self
      refine z_calli X hW (d := d_X8_carryOut μ ) (fun z => z) (K := fun x z => some (x, z)) (r := (r, μ1)) (by rw [hd8]; rfl) hp_774 (fun z9 => mdW E am z9) (fun z9 => (zXW E a b0 v1 w1 u1 q) ++ mdW E am z9) (fun _ => List.perm_append_comm) (fun x z9 h => z_runV (b := am 0) (As := []) (rest := [.int r]) X hW hp_774 (c_X8_carryOut l E am μ  (x, z9) h _) hy_X8_carryOut qm 8 (C := RX8) (T := TX8) (N := 12) rfl hqm rfl gL_law_X8_carryOut rfl rfl ⟨by decide, by decide⟩ rfl hl rfl rfl (Nat.le_of_ble_eq_true rfl) dL_law_774 ⟨by show _ ≤ 600000; omega, by show _ ≤ 7302250; omega⟩) (fun t9 z8 H locs h9 hW => ?_)
      cases h9
      refine lv_icmp_eq (tgt := 841) X.1 X.2.1 dL_law_777 (by decide) (fun _ => ?_) (fun hc => absurd rfl hc)
      exact J_841 b0 v1 w1 u1 q μ1 _ _ _ 0 0 (by omega) (by omega) hS1 hW hl
    by_cases e_26 : t = 26
    · clear et
      refine lv_tableIn (off := 750) (tgt := 782) X.1 X.2.1 dL_law_32 (by rw [e_26]; decide) (by rw [e_26]; decide) (by rw [e_26]; rfl) (by decide) ?_
      obtain ⟨r, v1, u1, μ1, hd7, hd8, hS1⟩ := h_undo j v w u q μ (by omega) hS
      refine lv_aload_n X.1 X.2.1 dL_law_782 rfl (lv_at hl 1 rfl) ?_
      have hp_783 : (zXW E a b0 v w u q ++ mdW E am μ).Perm (zXW E a b0 v w u q ++ mdW E am μ) := List.Perm.refl _
      refine z_calli X hW (d := d_X7_undo v w u q ) (fun z => z) (K := fun x z => some (x, z)) (r := (r, (v1, u1))) (by rw [hd7]; rfl) hp_783 (fun z9 => (zXW E a b0 z9.1 w z9.2 q)) (fun z9 => (zXW E a b0 z9.1 w z9.2 q) ++ mdW E am μ) (fun _ => List.Perm.refl _) (fun x z9 h => z_runV (b := a 0) (As := []) (rest := []) X hW hp_783 (c_X7_undo l E a b0 v w u q  (x, z9) h _) hy_X7_undo 0 7 (C := RX7) (T := TX7) (N := 5) rfl rfl rfl gL_law_X7_undo rfl rfl ⟨by decide, by decide⟩ rfl hl rfl rfl (Nat.le_of_ble_eq_true rfl) dL_law_783 ⟨by show _ ≤ 600000; omega, by show _ ≤ 7302250; omega⟩) (fun t9 z8 H locs h9 hW => ?_)
      cases h9
      refine lv_aload_n X.1 X.2.1 dL_law_786 rfl (lv_at hl 2 rfl) ?_
      have hp_787 : ((zXW E a b0 v1 w u1 q) ++ mdW E am μ).Perm (mdW E am μ ++ (zXW E a b0 v1 w u1 q)) := List.perm_append_comm
      obtain ⟨qm, hqm⟩ := z_mem (q := (am 0, .inr (8, _))) hp_787 List.mem_cons_self
      refine z_calli X hW (d := d_X8_undo μ ) (fun z => z) (K := fun x z => some (x, z)) (r := (r, μ1)) (by rw [hd8]; rfl) hp_787 (fun z9 => mdW E am z9) (fun z9 => (zXW E a b0 v1 w u1 q) ++ mdW E am z9) (fun _ => List.perm_append_comm) (fun x z9 h => z_runV (b := am 0) (As := []) (rest := [.int r]) X hW hp_787 (c_X8_undo l E am μ  (x, z9) h _) hy_X8_undo qm 8 (C := RX8) (T := TX8) (N := 12) rfl hqm rfl gL_law_X8_undo rfl rfl ⟨by decide, by decide⟩ rfl hl rfl rfl (Nat.le_of_ble_eq_true rfl) dL_law_787 ⟨by show _ ≤ 600000; omega, by show _ ≤ 7302250; omega⟩) (fun t9 z8 H locs h9 hW => ?_)
      cases h9
      refine lv_icmp_eq (tgt := 841) X.1 X.2.1 dL_law_790 (by decide) (fun _ => ?_) (fun hc => absurd rfl hc)
      exact J_841 b0 v1 w u1 q μ1 _ _ _ 0 0 (by omega) (by omega) hS1 hW hl
    by_cases e_27 : t = 27
    · clear et
      refine lv_tableIn (off := 763) (tgt := 795) X.1 X.2.1 dL_law_32 (by rw [e_27]; decide) (by rw [e_27]; decide) (by rw [e_27]; rfl) (by decide) ?_
      obtain ⟨r, q1, μ1, hd7, hd8, hS1⟩ := h_save j v w u q μ (xs (3 * j + 1)) (by omega) hS
      refine lv_aload_n X.1 X.2.1 dL_law_795 rfl (lv_at hl 1 rfl) ?_
      refine lv_aload_n X.1 X.2.1 dL_law_796 rfl (lv_at hl 0 rfl) ?_
      refine lv_iload_n X.1 X.2.1 dL_law_797 rfl (lv_at hl 3 rfl) ?_
      refine lv_iconst (v := 1) X.1 X.2.1 dL_law_798 (by decide) ?_
      refine z_iaddn X 1 rfl dL_law_799 ?_
      refine z_script X hXs hbl hbA hW (i := 3 * j + 1) (by omega) (by omega) dL_law_800 ?_
      have hp_801 : (zXW E a b0 v w u q ++ mdW E am μ).Perm (zXW E a b0 v w u q ++ mdW E am μ) := List.Perm.refl _
      refine z_calln X hW hp_801 (z_runV (b := a 0) (As := [.int (xs (3 * j + 1))]) (rest := []) X hW hp_801 (c_X7_save l E a b0 v w u q (xs (3 * j + 1)) (r, q1) hd7 _) hy_X7_save 0 7 (C := RX7) (T := TX7) (N := 5) rfl rfl rfl gL_law_X7_save rfl rfl ⟨by decide, by decide⟩ rfl hl rfl rfl (Nat.le_of_ble_eq_true rfl) dL_law_801 ⟨by show _ ≤ 600000; omega, by show _ ≤ 7302250; omega⟩) (fun w9 H locs hw hW => ?_)
      obtain ⟨b1, rfl⟩ := hw
      refine lv_aload_n X.1 X.2.1 dL_law_804 rfl (lv_at hl 2 rfl) ?_
      refine lv_aload_n X.1 X.2.1 dL_law_805 rfl (lv_at hl 0 rfl) ?_
      refine lv_iload_n X.1 X.2.1 dL_law_806 rfl (lv_at hl 3 rfl) ?_
      refine lv_iconst (v := 1) X.1 X.2.1 dL_law_807 (by decide) ?_
      refine z_iaddn X 1 rfl dL_law_808 ?_
      refine z_script X hXs hbl hbA hW (i := 3 * j + 1) (by omega) (by omega) dL_law_809 ?_
      have hp_810 : ((zXW E a b1 v w u q1) ++ mdW E am μ).Perm (mdW E am μ ++ (zXW E a b1 v w u q1)) := List.perm_append_comm
      obtain ⟨qm, hqm⟩ := z_mem (q := (am 0, .inr (8, _))) hp_810 List.mem_cons_self
      refine z_calli X hW (d := d_X8_save μ (xs (3 * j + 1))) (fun z => z) (K := fun x z => some (x, z)) (r := (r, μ1)) (by rw [hd8]; rfl) hp_810 (fun z9 => mdW E am z9) (fun z9 => (zXW E a b1 v w u q1) ++ mdW E am z9) (fun _ => List.perm_append_comm) (fun x z9 h => z_runV (b := am 0) (As := [.int (xs (3 * j + 1))]) (rest := [.int r]) X hW hp_810 (c_X8_save l E am μ (xs (3 * j + 1)) (x, z9) h _) hy_X8_save qm 8 (C := RX8) (T := TX8) (N := 12) rfl hqm rfl gL_law_X8_save rfl rfl ⟨by decide, by decide⟩ rfl hl rfl rfl (Nat.le_of_ble_eq_true rfl) dL_law_810 ⟨by show _ ≤ 600000; omega, by show _ ≤ 7302250; omega⟩) (fun t9 z8 H locs h9 hW => ?_)
      cases h9
      refine lv_icmp_eq (tgt := 841) X.1 X.2.1 dL_law_813 (by decide) (fun _ => ?_) (fun hc => absurd rfl hc)
      exact J_841 b1 v w u q1 μ1 _ _ _ 29 256 (by omega) (by omega) hS1 hW hl
    by_cases e_28 : t = 28
    · clear et
      refine lv_tableIn (off := 786) (tgt := 818) X.1 X.2.1 dL_law_32 (by rw [e_28]; decide) (by rw [e_28]; decide) (by rw [e_28]; rfl) (by decide) ?_
      obtain ⟨r, v1, u1, μ1, hd7, hd8, hS1⟩ := h_restore j v w u q μ (xs (3 * j + 1)) (by omega) hS
      refine lv_aload_n X.1 X.2.1 dL_law_818 rfl (lv_at hl 1 rfl) ?_
      refine lv_aload_n X.1 X.2.1 dL_law_819 rfl (lv_at hl 0 rfl) ?_
      refine lv_iload_n X.1 X.2.1 dL_law_820 rfl (lv_at hl 3 rfl) ?_
      refine lv_iconst (v := 1) X.1 X.2.1 dL_law_821 (by decide) ?_
      refine z_iaddn X 1 rfl dL_law_822 ?_
      refine z_script X hXs hbl hbA hW (i := 3 * j + 1) (by omega) (by omega) dL_law_823 ?_
      have hp_824 : (zXW E a b0 v w u q ++ mdW E am μ).Perm (zXW E a b0 v w u q ++ mdW E am μ) := List.Perm.refl _
      refine z_calli X hW (d := d_X7_restore v w u q (xs (3 * j + 1))) (fun z => z) (K := fun x z => some (x, z)) (r := (r, (v1, u1))) (by rw [hd7]; rfl) hp_824 (fun z9 => (zXW E a b0 z9.1 w z9.2 q)) (fun z9 => (zXW E a b0 z9.1 w z9.2 q) ++ mdW E am μ) (fun _ => List.Perm.refl _) (fun x z9 h => z_runV (b := a 0) (As := [.int (xs (3 * j + 1))]) (rest := []) X hW hp_824 (c_X7_restore l E a b0 v w u q (xs (3 * j + 1)) (x, z9) h _) hy_X7_restore 0 7 (C := RX7) (T := TX7) (N := 5) rfl rfl rfl gL_law_X7_restore rfl rfl ⟨by decide, by decide⟩ rfl hl rfl rfl (Nat.le_of_ble_eq_true rfl) dL_law_824 ⟨by show _ ≤ 600000; omega, by show _ ≤ 7302250; omega⟩) (fun t9 z8 H locs h9 hW => ?_)
      cases h9
      refine lv_aload_n X.1 X.2.1 dL_law_827 rfl (lv_at hl 2 rfl) ?_
      refine lv_aload_n X.1 X.2.1 dL_law_828 rfl (lv_at hl 0 rfl) ?_
      refine lv_iload_n X.1 X.2.1 dL_law_829 rfl (lv_at hl 3 rfl) ?_
      refine lv_iconst (v := 1) X.1 X.2.1 dL_law_830 (by decide) ?_
      refine z_iaddn X 1 rfl dL_law_831 ?_
      refine z_script X hXs hbl hbA hW (i := 3 * j + 1) (by omega) (by omega) dL_law_832 ?_
      have hp_833 : ((zXW E a b0 v1 w u1 q) ++ mdW E am μ).Perm (mdW E am μ ++ (zXW E a b0 v1 w u1 q)) := List.perm_append_comm
      obtain ⟨qm, hqm⟩ := z_mem (q := (am 0, .inr (8, _))) hp_833 List.mem_cons_self
      refine z_calli X hW (d := d_X8_restore μ (xs (3 * j + 1))) (fun z => z) (K := fun x z => some (x, z)) (r := (r, μ1)) (by rw [hd8]; rfl) hp_833 (fun z9 => mdW E am z9) (fun z9 => (zXW E a b0 v1 w u1 q) ++ mdW E am z9) (fun _ => List.perm_append_comm) (fun x z9 h => z_runV (b := am 0) (As := [.int (xs (3 * j + 1))]) (rest := [.int r]) X hW hp_833 (c_X8_restore l E am μ (xs (3 * j + 1)) (x, z9) h _) hy_X8_restore qm 8 (C := RX8) (T := TX8) (N := 12) rfl hqm rfl gL_law_X8_restore rfl rfl ⟨by decide, by decide⟩ rfl hl rfl rfl (Nat.le_of_ble_eq_true rfl) dL_law_833 ⟨by show _ ≤ 600000; omega, by show _ ≤ 7302250; omega⟩) (fun t9 z8 H locs h9 hW => ?_)
      cases h9
      refine lv_icmp_eq (tgt := 841) X.1 X.2.1 dL_law_836 (by decide) (fun _ => ?_) (fun hc => absurd rfl hc)
      exact J_841 b0 v1 w u1 q μ1 _ _ _ 0 0 (by omega) (by omega) hS1 hW hl
    have hout : t.toInt < 0 ∨ 28 < t.toInt := by
      have g_0 := lv_neT e_0 (a := 0) rfl
      have g_1 := lv_neT e_1 (a := 1) rfl
      have g_2 := lv_neT e_2 (a := 2) rfl
      have g_3 := lv_neT e_3 (a := 3) rfl
      have g_4 := lv_neT e_4 (a := 4) rfl
      have g_5 := lv_neT e_5 (a := 5) rfl
      have g_6 := lv_neT e_6 (a := 6) rfl
      have g_7 := lv_neT e_7 (a := 7) rfl
      have g_8 := lv_neT e_8 (a := 8) rfl
      have g_9 := lv_neT e_9 (a := 9) rfl
      have g_10 := lv_neT e_10 (a := 10) rfl
      have g_11 := lv_neT e_11 (a := 11) rfl
      have g_12 := lv_neT e_12 (a := 12) rfl
      have g_13 := lv_neT e_13 (a := 13) rfl
      have g_14 := lv_neT e_14 (a := 14) rfl
      have g_15 := lv_neT e_15 (a := 15) rfl
      have g_16 := lv_neT e_16 (a := 16) rfl
      have g_17 := lv_neT e_17 (a := 17) rfl
      have g_18 := lv_neT e_18 (a := 18) rfl
      have g_19 := lv_neT e_19 (a := 19) rfl
      have g_20 := lv_neT e_20 (a := 20) rfl
      have g_21 := lv_neT e_21 (a := 21) rfl
      have g_22 := lv_neT e_22 (a := 22) rfl
      have g_23 := lv_neT e_23 (a := 23) rfl
      have g_24 := lv_neT e_24 (a := 24) rfl
      have g_25 := lv_neT e_25 (a := 25) rfl
      have g_26 := lv_neT e_26 (a := 26) rfl
      have g_27 := lv_neT e_27 (a := 27) rfl
      have g_28 := lv_neT e_28 (a := 28) rfl
      omega
    refine lv_tableOut (tgt := 841) X.1 X.2.1 dL_law_32 hout (by decide) ?_
    exact J_841 b0 v w u q μ _ _ _ 0 0 (by omega) (by omega) (h_skip j v w u q μ hS) hW hl
