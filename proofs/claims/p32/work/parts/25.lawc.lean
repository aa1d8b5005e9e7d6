abbrev rm_L_isSo : Room := { frames := 5, cells := 0, slots := 0, locals := 106 }
theorem hy_L_isSo : zY yL_isSo wsL_isSo cL_isSo 21 (some .boolean) 11 := ⟨⟨_, rfl⟩, by decide, by decide, by decide +kernel⟩
def lpB_L_isSo_641 (fq : Nat → Int32) (fa : Nat → Int32) (fe : Nat → Int32) (fn : Nat → Int32) (ft : Nat → Int32) (fp : Nat → Int32) (fw : Nat → Int32) (fr : Nat → Int32) (fc : Nat → Int32) (v : zHV) (w : zHV) (u : zHI) (q : zHI) (p1 : Int32)  (k_641 : Int32 → Int32 → Int32 → Int32 → Int32 → Int32 → Int32 → Int32 → Int32 → Int32 → Option (Int32)) (x11 : Int32) (x12 : Int32) (x13 : Int32) (x14 : Int32) (x15 : Int32) (x16 : Int32) (x17 : Int32) (x18 : Int32) (x19 : Int32) (x20 : Int32) : Option (Int32) :=
zld 19 fq 5 fun t645 =>
(if x20 < t645 then
(if x12 = 0 then
some 0
else
zcl (d_X7_quietIn v w u q x17) fun t669 =>
(if t669 = x18 then
zcl (d_X7_calls v w u q) fun t678 =>
(if t678 = x19 then
zlet (p1 >>> (15 &&& 31)) fun t690 =>
zcl (d_L_low t690 30) fun t693 =>
zlet (p1 >>> (20 &&& 31)) fun t699 =>
zcl (d_L_low t699 12) fun t702 =>
zcl (d_L_isSeat fq fa fe fn ft fr v w u q t693 t702) fun t715 =>
(if t715 = 0 then
some 0
else
some 1)
else
some 0)
else
some 0))
else
zlet (x19 + Int32.ofInt 1) fun x19_649 =>
zdv x20 2 fun t655 =>
k_641 x11 x12 x13 x14 x15 x16 x17 x18 x19_649 t655)
def lp_L_isSo_641 (fq : Nat → Int32) (fa : Nat → Int32) (fe : Nat → Int32) (fn : Nat → Int32) (ft : Nat → Int32) (fp : Nat → Int32) (fw : Nat → Int32) (fr : Nat → Int32) (fc : Nat → Int32) (v : zHV) (w : zHV) (u : zHI) (q : zHI) (p1 : Int32)  : Nat → Int32 → Int32 → Int32 → Int32 → Int32 → Int32 → Int32 → Int32 → Int32 → Int32 → Option (Int32)
  | 0 => fun _ _ _ _ _ _ _ _ _ _ => none
  | n_ + 1 => lpB_L_isSo_641 fq fa fe fn ft fp fw fr fc v w u q p1  (lp_L_isSo_641 fq fa fe fn ft fp fw fr fc v w u q p1  n_)
def lpB_L_isSo_614 (fq : Nat → Int32) (fa : Nat → Int32) (fe : Nat → Int32) (fn : Nat → Int32) (ft : Nat → Int32) (fp : Nat → Int32) (fw : Nat → Int32) (fr : Nat → Int32) (fc : Nat → Int32) (v : zHV) (w : zHV) (u : zHI) (q : zHI) (p1 : Int32)  (k_614 : Int32 → Int32 → Int32 → Int32 → Int32 → Int32 → Int32 → Int32 → Int32 → Int32 → Option (Int32)) (x11 : Int32) (x12 : Int32) (x13 : Int32) (x14 : Int32) (x15 : Int32) (x16 : Int32) (x17 : Int32) (x18 : Int32) (x19 : Int32) (x20 : Int32) : Option (Int32) :=
(if x20 ≤ x17 then
zld 19 fq 6 fun t638 =>
lp_L_isSo_641 fq fa fe fn ft fp fw fr fc v w u q p1  zF x11 x12 x13 x14 x15 x16 x17 x18 x19 t638
else
zlet (x18 + Int32.ofInt 1) fun x18_621 =>
zcl (d_L_less fq x20) fun t627 =>
k_614 x11 x12 x13 x14 x15 x16 x17 x18_621 x19 t627)
def lp_L_isSo_614 (fq : Nat → Int32) (fa : Nat → Int32) (fe : Nat → Int32) (fn : Nat → Int32) (ft : Nat → Int32) (fp : Nat → Int32) (fw : Nat → Int32) (fr : Nat → Int32) (fc : Nat → Int32) (v : zHV) (w : zHV) (u : zHI) (q : zHI) (p1 : Int32)  : Nat → Int32 → Int32 → Int32 → Int32 → Int32 → Int32 → Int32 → Int32 → Int32 → Int32 → Option (Int32)
  | 0 => fun _ _ _ _ _ _ _ _ _ _ => none
  | n_ + 1 => lpB_L_isSo_614 fq fa fe fn ft fp fw fr fc v w u q p1  (lp_L_isSo_614 fq fa fe fn ft fp fw fr fc v w u q p1  n_)
def lpB_L_isSo_236 (fq : Nat → Int32) (fa : Nat → Int32) (fe : Nat → Int32) (fn : Nat → Int32) (ft : Nat → Int32) (fp : Nat → Int32) (fw : Nat → Int32) (fr : Nat → Int32) (fc : Nat → Int32) (v : zHV) (w : zHV) (u : zHI) (q : zHI) (p1 : Int32)  (k_236 : Int32 → Int32 → Int32 → Option (Int32)) (x11 : Int32) (x12 : Int32) (x13 : Int32) : Option (Int32) :=
(if 6 ≤ x13 then
zcl (d_L_low p1 6) fun t280 =>
zlet (p1 >>> (3 &&& 31)) fun t287 =>
zcl (d_L_low t287 9) fun t290 =>
zcl (d_L_earliest fq fw t280) fun t300 =>
zjn (fun (x11 : Int32) (x12 : Int32) (x13 : Int32) (x14 : Int32) (x15 : Int32) (s0 : Int32) =>
zjn (fun (x11 : Int32) (x12 : Int32) (x13 : Int32) (x14 : Int32) (x15 : Int32) (x16 : Int32) (s0 : Int32) =>
zjn (fun (x11 : Int32) (x12 : Int32) (x13 : Int32) (x14 : Int32) (x15 : Int32) (x16 : Int32) (s0 : Int32) =>
(zlet (p1 >>> (7 &&& 31)) fun t593 =>
zcl (d_L_low t593 300) fun t597 =>
zld 19 fq 6 fun t611 =>
lp_L_isSo_614 fq fa fe fn ft fp fw fr fc v w u q p1  zF x11 s0 x13 x14 x15 x16 t597 0 0 t611 : Option (Int32))) fun j_588 =>
zjn (fun (x11 : Int32) (x12 : Int32) (x13 : Int32) (x14 : Int32) (x15 : Int32) (x16 : Int32) =>
(j_588 x11 x12 x13 x14 x15 x16 0 : Option (Int32))) fun j_587 =>
(if s0 = 0 then
j_587 x11 s0 x13 x14 x15 x16
else
zcl (d_X7_owed v w u q x14 0) fun t460 =>
zld 19 fq 16 fun t468 =>
zjn (fun (x11 : Int32) (x12 : Int32) (x13 : Int32) (x14 : Int32) (x15 : Int32) (x16 : Int32) (s0 : Int32) (s1 : Int32) =>
(if s1 = s0 then
zcl (d_X7_owed v w u q x14 1) fun t490 =>
zld 19 fq 16 fun t498 =>
zjn (fun (x11 : Int32) (x12 : Int32) (x13 : Int32) (x14 : Int32) (x15 : Int32) (x16 : Int32) (s0 : Int32) (s1 : Int32) =>
(if s1 = s0 then
zrm x13 4 fun t529 =>
zcl (d_X7_record v w u q x14 t529) fun t530 =>
zld 19 fq 18 fun t538 =>
zjn (fun (x11 : Int32) (x12 : Int32) (x13 : Int32) (x14 : Int32) (x15 : Int32) (x16 : Int32) (s0 : Int32) (s1 : Int32) =>
((if s1 = s0 then
zlet (1 + x14) fun t565 =>
zcl (d_X7_ifFound v w u q t565) fun t566 =>
zlet (1 + x14) fun t573 =>
zcl (d_L_seats fa fe 0 t573) fun t577 =>
(if t566 = t577 then
j_588 x11 x12 x13 x14 x15 x16 1
else
j_587 x11 x12 x13 x14 x15 x16)
else
j_587 x11 x12 x13 x14 x15 x16) : Option (Int32))) fun j_558 =>
(if t538 ≤ x14 then
j_558 x11 x12 x13 x14 x15 x16 (-1) t530
else
zlet (4 * x14) fun t547 =>
zrm x13 4 fun t551 =>
zlet (t547 + t551) fun t552 =>
zld 24 fc t552 fun t553 =>
j_558 x11 x12 x13 x14 x15 x16 t553 t530)
else
j_587 x11 x12 x13 x14 x15 x16)) fun j_520 =>
(if t498 ≤ x14 then
j_520 x11 x12 x13 x14 x15 x16 (-1) t490
else
zld 19 fq 7 fun t505 =>
zlet (2 * x14) fun t511 =>
zlet (t511 + 1) fun t513 =>
zld 16 fw t513 fun t514 =>
zlet (t505 - t514) fun t515 =>
j_520 x11 x12 x13 x14 x15 x16 t515 t490)
else
j_587 x11 x12 x13 x14 x15 x16)) fun j_483 =>
(if t468 ≤ x14 then
j_483 x11 s0 x13 x14 x15 x16 (-1) t460
else
zlet (2 * x14) fun t477 =>
zld 16 fw t477 fun t478 =>
j_483 x11 s0 x13 x14 x15 x16 t478 t460))) fun j_449 =>
zjn (fun (x11 : Int32) (x12 : Int32) (x13 : Int32) (x14 : Int32) (x15 : Int32) (x16 : Int32) =>
(j_449 x11 x12 x13 x14 x15 x16 0 : Option (Int32))) fun j_448 =>
(if x12 = 0 then
j_448 x11 x12 x13 x14 x15 s0
else
zcl (d_X7_performer v w u q x13 0) fun t344 =>
zcl (d_L_owes fq fw x13) fun t352 =>
(if t344 = t352 then
zcl (d_X7_performer v w u q x13 1) fun t362 =>
zlet (3 * x13) fun t370 =>
zld 18 fp t370 fun t371 =>
(if t362 = t371 then
zcl (d_X7_performer v w u q x13 2) fun t379 =>
zlet (3 * x13) fun t387 =>
zlet (t387 + 1) fun t389 =>
zld 18 fp t389 fun t390 =>
(if t379 = t390 then
zcl (d_X7_performer v w u q x13 3) fun t398 =>
zlet (3 * x13) fun t406 =>
zlet (t406 + 2) fun t408 =>
zld 18 fp t408 fun t409 =>
(if t398 = t409 then
zcl (d_X7_lapsesIn v w u q x13) fun t416 =>
zjn (fun (x11 : Int32) (x12 : Int32) (x13 : Int32) (x14 : Int32) (x15 : Int32) (x16 : Int32) (s0 : Int32) (s1 : Int32) =>
((if s1 = s0 then
j_449 x11 x12 x13 x14 x15 x16 1
else
j_448 x11 x12 x13 x14 x15 x16) : Option (Int32))) fun j_441 =>
(if 0 ≤ x15 then
(if 1 ≤ s0 then
j_441 x11 x12 x13 x14 x15 s0 s0 t416
else
j_441 x11 x12 x13 x14 x15 s0 1 t416)
else
j_441 x11 x12 x13 x14 x15 s0 (-6) t416)
else
j_448 x11 x12 x13 x14 x15 s0)
else
j_448 x11 x12 x13 x14 x15 s0)
else
j_448 x11 x12 x13 x14 x15 s0)
else
j_448 x11 x12 x13 x14 x15 s0))) fun j_333 =>
(if 0 ≤ t300 then
zld 19 fq 2 fun t317 =>
zld 19 fq 7 fun t321 =>
zlet (t317 - t321) fun t322 =>
zlet (2 * t300) fun t328 =>
zlet (t328 + 1) fun t330 =>
zld 16 fw t330 fun t331 =>
zlet (t322 + t331) fun t332 =>
j_333 x11 x12 t280 t290 t300 t332
else
j_333 x11 x12 t280 t290 t300 (-6))
else
zjn (fun (x11 : Int32) (x12 : Int32) (x13 : Int32) (s0 : Int32) =>
(zlet (x13 + Int32.ofInt 1) fun x13_271 =>
k_236 x11 s0 x13_271 : Option (Int32))) fun j_269 =>
zjn (fun (x11 : Int32) (x12 : Int32) (x13 : Int32) =>
(j_269 x11 x12 x13 0 : Option (Int32))) fun j_268 =>
(if x12 = 0 then
j_268 x11 x12 x13
else
zlet (13 + x13) fun t253 =>
zcl (d_X7_count v w u q t253) fun t254 =>
zld 19 fq x13 fun t260 =>
(if t254 = t260 then
j_269 x11 x12 x13 1
else
j_268 x11 x12 x13)))
def lp_L_isSo_236 (fq : Nat → Int32) (fa : Nat → Int32) (fe : Nat → Int32) (fn : Nat → Int32) (ft : Nat → Int32) (fp : Nat → Int32) (fw : Nat → Int32) (fr : Nat → Int32) (fc : Nat → Int32) (v : zHV) (w : zHV) (u : zHI) (q : zHI) (p1 : Int32)  : Nat → Int32 → Int32 → Int32 → Option (Int32)
  | 0 => fun _ _ _ => none
  | n_ + 1 => lpB_L_isSo_236 fq fa fe fn ft fp fw fr fc v w u q p1  (lp_L_isSo_236 fq fa fe fn ft fp fw fr fc v w u q p1  n_)
def lpB_L_isSo_193 (fq : Nat → Int32) (fa : Nat → Int32) (fe : Nat → Int32) (fn : Nat → Int32) (ft : Nat → Int32) (fp : Nat → Int32) (fw : Nat → Int32) (fr : Nat → Int32) (fc : Nat → Int32) (v : zHV) (w : zHV) (u : zHI) (q : zHI) (p1 : Int32)  (k_193 : Int32 → Int32 → Int32 → Option (Int32)) (x11 : Int32) (x12 : Int32) (x13 : Int32) : Option (Int32) :=
(if 4 ≤ x13 then
lp_L_isSo_236 fq fa fe fn ft fp fw fr fc v w u q p1  zF x11 x12 0
else
zjn (fun (x11 : Int32) (x12 : Int32) (x13 : Int32) (s0 : Int32) =>
(zlet (x13 + Int32.ofInt 1) fun x13_227 =>
k_193 x11 s0 x13_227 : Option (Int32))) fun j_225 =>
zjn (fun (x11 : Int32) (x12 : Int32) (x13 : Int32) =>
(j_225 x11 x12 x13 0 : Option (Int32))) fun j_224 =>
(if x12 = 0 then
j_224 x11 x12 x13
else
zcl (d_X7_count v w u q x13) fun t207 =>
zlet (6 + x13) fun t215 =>
zld 19 fq t215 fun t216 =>
(if t207 = t216 then
j_225 x11 x12 x13 1
else
j_224 x11 x12 x13)))
def lp_L_isSo_193 (fq : Nat → Int32) (fa : Nat → Int32) (fe : Nat → Int32) (fn : Nat → Int32) (ft : Nat → Int32) (fp : Nat → Int32) (fw : Nat → Int32) (fr : Nat → Int32) (fc : Nat → Int32) (v : zHV) (w : zHV) (u : zHI) (q : zHI) (p1 : Int32)  : Nat → Int32 → Int32 → Int32 → Option (Int32)
  | 0 => fun _ _ _ => none
  | n_ + 1 => lpB_L_isSo_193 fq fa fe fn ft fp fw fr fc v w u q p1  (lp_L_isSo_193 fq fa fe fn ft fp fw fr fc v w u q p1  n_)
def d_L_isSo (fq : Nat → Int32) (fa : Nat → Int32) (fe : Nat → Int32) (fn : Nat → Int32) (ft : Nat → Int32) (fp : Nat → Int32) (fw : Nat → Int32) (fr : Nat → Int32) (fc : Nat → Int32) (v : zHV) (w : zHV) (u : zHI) (q : zHI) (p1 : Int32) : Option (Int32) :=
zld 19 fq 13 fun t3 =>
zjn (fun (s0 : Int32) =>
zcl (d_X7_count v w u q 4) fun t16 =>
zld 19 fq 16 fun t22 =>
zjn (fun (x11 : Int32) (s0 : Int32) =>
(lp_L_isSo_193 fq fa fe fn ft fp fw fr fc v w u q p1  zF x11 s0 0 : Option (Int32))) fun j_188 =>
zjn (fun (x11 : Int32) =>
(j_188 x11 0 : Option (Int32))) fun j_187 =>
(if t16 = t22 then
zcl (d_X7_count v w u q 5) fun t28 =>
zcl (d_L_sum fp 0) fun t34 =>
(if t28 = t34 then
zcl (d_X7_count v w u q 6) fun t43 =>
zcl (d_L_sum fp 1) fun t49 =>
(if t43 = t49 then
zcl (d_X7_count v w u q 7) fun t58 =>
zld 19 fq 12 fun t64 =>
(if t58 = t64 then
zcl (d_X7_count v w u q 8) fun t71 =>
zjn (fun (x11 : Int32) (s0 : Int32) (s1 : Int32) =>
(if s1 = s0 then
zcl (d_X7_count v w u q 9) fun t99 =>
zjn (fun (x11 : Int32) (s0 : Int32) (s1 : Int32) =>
(if s1 = s0 then
zcl (d_X7_count v w u q 10) fun t122 =>
zcl (d_L_seats fa fe 1 0) fun t130 =>
(if t122 = t130 then
zcl (d_X7_count v w u q 11) fun t139 =>
zld 19 fq 4 fun t145 =>
zcl (d_L_seats fa fe 0 t145) fun t149 =>
(if t139 = t149 then
zcl (d_X7_count v w u q 12) fun t158 =>
zcl (d_L_seats fa fe 1 0) fun t166 =>
zld 19 fq 4 fun t172 =>
zcl (d_L_seats fa fe 0 t172) fun t176 =>
zlet (t166 &&& t176) fun t179 =>
(if t158 = t179 then
j_188 x11 1
else
j_187 x11)
else
j_187 x11)
else
j_187 x11)
else
j_187 x11)) fun j_116 =>
(if x11 = 0 then
j_116 x11 (-6) t99
else
zld 19 fq 14 fun t110 =>
j_116 x11 t110 t99)
else
j_187 x11)) fun j_93 =>
(if s0 = 0 then
j_93 s0 (-6) t71
else
zld 19 fq 7 fun t82 =>
zld 19 fq 13 fun t86 =>
zlet (t82 - t86) fun t87 =>
j_93 s0 t87 t71)
else
j_187 s0)
else
j_187 s0)
else
j_187 s0)
else
j_187 s0)) fun j_12 =>
(if t3 < 0 then
j_12 0
else
j_12 1)
set_option maxHeartbeats 4000000 in
set_option maxRecDepth 100000 in
theorem c_L_isSo (l : Launch) (E : zE) (Aq Aa Ae An At Ap Aw Ar Ac a b : Nat → Nat) (fq : Nat → Int32) (fa : Nat → Int32) (fe : Nat → Int32) (fn : Nat → Int32) (ft : Nat → Int32) (fp : Nat → Int32) (fw : Nat → Int32) (fr : Nat → Int32) (fc : Nat → Int32) (v : zHV) (w : zHV) (u : zHI) (q : zHI) (p1 : Int32) (r : Int32) (h : d_L_isSo fq fa fe fn ft fp fw fr fc v w u q p1 = some r) : zMi l E yL_isSo wsL_isSo rm_L_isSo [.ref (a 0), .int p1, .ref (Aq 0), .ref (Aa 0), .ref (Ae 0), .ref (An 0), .ref (At 0), .ref (Ap 0), .ref (Aw 0), .ref (Ar 0), .ref (Ac 0)] ((arW E Aq 19 fq) ++ ((arW E Aa 30 fa) ++ ((arW E Ae 30 fe) ++ ((arW E An 30 fn) ++ ((arW E At 30 ft) ++ ((arW E Ap 18 fp) ++ ((arW E Aw 16 fw) ++ ((arW E Ar 30 fr) ++ ((arW E Ac 24 fc) ++ ((xoW E a b) ++ ((hsW E (zh a 1) v) ++ ((rdW E (zh a 30) w) ++ ((hiW E (zh a 33) u) ++ (slW E b q)))))))))))))) r ((arW E Aq 19 fq) ++ ((arW E Aa 30 fa) ++ ((arW E Ae 30 fe) ++ ((arW E An 30 fn) ++ ((arW E At 30 ft) ++ ((arW E Ap 18 fp) ++ ((arW E Aw 16 fw) ++ ((arW E Ar 30 fr) ++ ((arW E Ac 24 fc) ++ ((xoW E a b) ++ ((hsW E (zh a 1) v) ++ ((rdW E (zh a 30) w) ++ ((hiW E (zh a 33) u) ++ (slW E b q)))))))))))))) := by
  intro sz
  refine z_entry (Qc := fun A => zQi E A r ((arW E Aq 19 fq) ++ ((arW E Aa 30 fa) ++ ((arW E Ae 30 fe) ++ ((arW E An 30 fn) ++ ((arW E At 30 ft) ++ ((arW E Ap 18 fp) ++ ((arW E Aw 16 fw) ++ ((arW E Ar 30 fr) ++ ((arW E Ac 24 fc) ++ ((xoW E a b) ++ ((hsW E (zh a 1) v) ++ ((rdW E (zh a 30) w) ++ ((hiW E (zh a 33) u) ++ (slW E b q))))))))))))))) (by decide) rfl (Nat.le_of_ble_eq_true rfl) ?_
  intro p e s m below meth c A X hW ls hl
  have X : zX E wsL_isSo RL cL_isSo 21 (some .boolean) yL_isSo p s m ([.ref (a 0), .int p1, .ref (Aq 0), .ref (Aa 0), .ref (Ae 0), .ref (An 0), .ref (At 0), .ref (Ap 0), .ref (Aw 0), .ref (Ar 0), .ref (Ac 0)] : List Value).toArray meth c A := X
  have hl : lv_has ls 21 [(0, .ref (a 0)), (1, .int p1), (2, .ref (Aq 0)), (3, .ref (Aa 0)), (4, .ref (Ae 0)), (5, .ref (An 0)), (6, .ref (At 0)), (7, .ref (Ap 0)), (8, .ref (Aw 0)), (9, .ref (Ar 0)), (10, .ref (Ac 0))] := hl
  have hr : d_L_isSo fq fa fe fn ft fp fw fr fc v w u q p1 = some r := h
  clear h
  unfold d_L_isSo at hr
  refine lv_aload_n X.1 X.2.1 dL_isSo_0 rfl (lv_at hl 2 rfl) ?_
  refine lv_bipush (v := 13) X.1 X.2.1 dL_isSo_1 (by decide) ?_
  refine z_ald X hW 0 hr rfl dL_isSo_3 (fun t3 hr => ?_)
  obtain ⟨j_12, e_12, hr⟩ := zjn_some hr
  have J_12 : ∀ (s0 : Int32) (H : Heap) (locs : List Loc) (ls : Array Slot), j_12 s0 = some r → zW E A s ((arW E Aq 19 fq) ++ ((arW E Aa 30 fa) ++ ((arW E Ae 30 fe) ++ ((arW E An 30 fn) ++ ((arW E At 30 ft) ++ ((arW E Ap 18 fp) ++ ((arW E Aw 16 fw) ++ ((arW E Ar 30 fr) ++ ((arW E Ac 24 fc) ++ ((xoW E a b) ++ ((hsW E (zh a 1) v) ++ ((rdW E (zh a 30) w) ++ ((hiW E (zh a 33) u) ++ (slW E b q)))))))))))))) H locs → lv_has ls 21 [(0, .ref (a 0)), (1, .int p1), (2, .ref (Aq 0)), (3, .ref (Aa 0)), (4, .ref (Ae 0)), (5, .ref (An 0)), (6, .ref (At 0)), (7, .ref (Ap 0)), (8, .ref (Aw 0)), (9, .ref (Ar 0)), (10, .ref (Ac 0))] → W p l e rm_L_isSo s m ([.ref (a 0), .int p1, .ref (Aq 0), .ref (Aa 0), .ref (Ae 0), .ref (An 0), .ref (At 0), .ref (Ap 0), .ref (Aw 0), .ref (Ar 0), .ref (Ac 0)] : List Value).toArray below meth c H locs 0 0 (MQ below (zQi E A r ((arW E Aq 19 fq) ++ ((arW E Aa 30 fa) ++ ((arW E Ae 30 fe) ++ ((arW E An 30 fn) ++ ((arW E At 30 ft) ++ ((arW E Ap 18 fp) ++ ((arW E Aw 16 fw) ++ ((arW E Ar 30 fr) ++ ((arW E Ac 24 fc) ++ ((xoW E a b) ++ ((hsW E (zh a 1) v) ++ ((rdW E (zh a 30) w) ++ ((hiW E (zh a 33) u) ++ (slW E b q))))))))))))))) ([.ref (a 0), .int p1, .ref (Aq 0), .ref (Aa 0), .ref (Ae 0), .ref (An 0), .ref (At 0), .ref (Ap 0), .ref (Aw 0), .ref (Ar 0), .ref (Ac 0)] : List Value).toArray s 0 0 A) (F0 m 12 ls [.int s0]) := by
    intro s0 H locs ls hr hW hl
    rw [e_12] at hr
    refine lv_istore (lv' := [(11, .int s0), (0, .ref (a 0)), (1, .int p1), (2, .ref (Aq 0)), (3, .ref (Aa 0)), (4, .ref (Ae 0)), (5, .ref (An 0)), (6, .ref (At 0)), (7, .ref (Ap 0)), (8, .ref (Aw 0)), (9, .ref (Ar 0)), (10, .ref (Ac 0))]) X.1 X.2.1 dL_isSo_12 hl (by decide) rfl (fun ls hl => ?_)
    refine lv_aload_n X.1 X.2.1 dL_isSo_14 rfl (lv_at hl 1 rfl) ?_
    refine lv_iconst (v := 4) X.1 X.2.1 dL_isSo_15 (by decide) ?_
    have hp_16 := (z_spr (arW E Aq 19 fq) (z_spr (arW E Aa 30 fa) (z_spr (arW E Ae 30 fe) (z_spr (arW E An 30 fn) (z_spr (arW E At 30 ft) (z_spr (arW E Ap 18 fp) (z_spr (arW E Aw 16 fw) (z_spr (arW E Ar 30 fr) (z_spr (arW E Ac 24 fc) (z_sp2 (z_all (xoW E a b)) (z_sp2 (z_all (hsW E (zh a 1) v)) (z_sp2 (z_all (rdW E (zh a 30) w)) (z_sp2 (z_all (hiW E (zh a 33) u)) (z_all (slW E b q)))))))))))))))
    refine z_callp X hW hr hp_16 (fun x h => z_runV (As := [.int 4]) (rest := []) X hW hp_16 (c_X7_count l E a b v w u q 4 x h _) hy_X7_count 9 7 (C := RX7) (T := TX7) (N := 5) rfl rfl rfl gL_isSo_X7_count rfl rfl ⟨by decide, by decide⟩ rfl hl rfl rfl (Nat.le_of_ble_eq_true rfl) dL_isSo_16 ⟨Nat.zero_le _, Nat.zero_le _⟩) (fun t16 H locs hr hW => ?_)
    refine lv_aload_n X.1 X.2.1 dL_isSo_19 rfl (lv_at hl 3 rfl) ?_
    refine lv_bipush (v := 16) X.1 X.2.1 dL_isSo_20 (by decide) ?_
    refine z_ald X hW 0 hr rfl dL_isSo_22 (fun t22 hr => ?_)
    obtain ⟨j_188, e_188, hr⟩ := zjn_some hr
    have J_188 : ∀ (x11 : Int32) (s0 : Int32) (H : Heap) (locs : List Loc) (ls : Array Slot), j_188 x11 s0 = some r → zW E A s ((arW E Aq 19 fq) ++ ((arW E Aa 30 fa) ++ ((arW E Ae 30 fe) ++ ((arW E An 30 fn) ++ ((arW E At 30 ft) ++ ((arW E Ap 18 fp) ++ ((arW E Aw 16 fw) ++ ((arW E Ar 30 fr) ++ ((arW E Ac 24 fc) ++ ((xoW E a b) ++ ((hsW E (zh a 1) v) ++ ((rdW E (zh a 30) w) ++ ((hiW E (zh a 33) u) ++ (slW E b q)))))))))))))) H locs → lv_has ls 21 [(0, .ref (a 0)), (1, .int p1), (2, .ref (Aq 0)), (3, .ref (Aa 0)), (4, .ref (Ae 0)), (5, .ref (An 0)), (6, .ref (At 0)), (7, .ref (Ap 0)), (8, .ref (Aw 0)), (9, .ref (Ar 0)), (10, .ref (Ac 0)), (11, .int x11)] → W p l e rm_L_isSo s m ([.ref (a 0), .int p1, .ref (Aq 0), .ref (Aa 0), .ref (Ae 0), .ref (An 0), .ref (At 0), .ref (Ap 0), .ref (Aw 0), .ref (Ar 0), .ref (Ac 0)] : List Value).toArray below meth c H locs 0 0 (MQ below (zQi E A r ((arW E Aq 19 fq) ++ ((arW E Aa 30 fa) ++ ((arW E Ae 30 fe) ++ ((arW E An 30 fn) ++ ((arW E At 30 ft) ++ ((arW E Ap 18 fp) ++ ((arW E Aw 16 fw) ++ ((arW E Ar 30 fr) ++ ((arW E Ac 24 fc) ++ ((xoW E a b) ++ ((hsW E (zh a 1) v) ++ ((rdW E (zh a 30) w) ++ ((hiW E (zh a 33) u) ++ (slW E b q))))))))))))))) ([.ref (a 0), .int p1, .ref (Aq 0), .ref (Aa 0), .ref (Ae 0), .ref (An 0), .ref (At 0), .ref (Ap 0), .ref (Aw 0), .ref (Ar 0), .ref (Ac 0)] : List Value).toArray s 0 0 A) (F0 m 188 ls [.int s0]) := by
      intro x11 s0 H locs ls hr hW hl
      rw [e_188] at hr
      refine lv_istore (lv' := [(12, .int s0), (0, .ref (a 0)), (1, .int p1), (2, .ref (Aq 0)), (3, .ref (Aa 0)), (4, .ref (Ae 0)), (5, .ref (An 0)), (6, .ref (At 0)), (7, .ref (Ap 0)), (8, .ref (Aw 0)), (9, .ref (Ar 0)), (10, .ref (Ac 0)), (11, .int x11)]) X.1 X.2.1 dL_isSo_188 hl (by decide) rfl (fun ls hl => ?_)
      refine lv_iconst (v := 0) X.1 X.2.1 dL_isSo_190 (by decide) ?_
      refine lv_istore (lv' := [(13, .int 0), (12, .int s0), (0, .ref (a 0)), (1, .int p1), (2, .ref (Aq 0)), (3, .ref (Aa 0)), (4, .ref (Ae 0)), (5, .ref (An 0)), (6, .ref (At 0)), (7, .ref (Ap 0)), (8, .ref (Aw 0)), (9, .ref (Ar 0)), (10, .ref (Ac 0)), (11, .int x11)]) X.1 X.2.1 dL_isSo_191 hl (by decide) rfl (fun ls hl => ?_)
      have L_193 : ∀ (n_193 : Nat), ∀ (x11 : Int32) (x12 : Int32) (x13 : Int32) (H : Heap) (locs : List Loc) (ls : Array Slot), lp_L_isSo_193 fq fa fe fn ft fp fw fr fc v w u q p1  n_193 x11 x12 x13 = some r → zW E A s ((arW E Aq 19 fq) ++ ((arW E Aa 30 fa) ++ ((arW E Ae 30 fe) ++ ((arW E An 30 fn) ++ ((arW E At 30 ft) ++ ((arW E Ap 18 fp) ++ ((arW E Aw 16 fw) ++ ((arW E Ar 30 fr) ++ ((arW E Ac 24 fc) ++ ((xoW E a b) ++ ((hsW E (zh a 1) v) ++ ((rdW E (zh a 30) w) ++ ((hiW E (zh a 33) u) ++ (slW E b q)))))))))))))) H locs → lv_has ls 21 [(0, .ref (a 0)), (1, .int p1), (2, .ref (Aq 0)), (3, .ref (Aa 0)), (4, .ref (Ae 0)), (5, .ref (An 0)), (6, .ref (At 0)), (7, .ref (Ap 0)), (8, .ref (Aw 0)), (9, .ref (Ar 0)), (10, .ref (Ac 0)), (11, .int x11), (12, .int x12), (13, .int x13)] → W p l e rm_L_isSo s m ([.ref (a 0), .int p1, .ref (Aq 0), .ref (Aa 0), .ref (Ae 0), .ref (An 0), .ref (At 0), .ref (Ap 0), .ref (Aw 0), .ref (Ar 0), .ref (Ac 0)] : List Value).toArray below meth c H locs 0 0 (MQ below (zQi E A r ((arW E Aq 19 fq) ++ ((arW E Aa 30 fa) ++ ((arW E Ae 30 fe) ++ ((arW E An 30 fn) ++ ((arW E At 30 ft) ++ ((arW E Ap 18 fp) ++ ((arW E Aw 16 fw) ++ ((arW E Ar 30 fr) ++ ((arW E Ac 24 fc) ++ ((xoW E a b) ++ ((hsW E (zh a 1) v) ++ ((rdW E (zh a 30) w) ++ ((hiW E (zh a 33) u) ++ (slW E b q))))))))))))))) ([.ref (a 0), .int p1, .ref (Aq 0), .ref (Aa 0), .ref (Ae 0), .ref (An 0), .ref (At 0), .ref (Ap 0), .ref (Aw 0), .ref (Ar 0), .ref (Ac 0)] : List Value).toArray s 0 0 A) (F0 m 193 ls []) := by
        intro n_193
        induction n_193 with
        | zero => exact fun x11 x12 x13 H locs ls hr hW hl => absurd (show (none : Option (Int32)) = some r from hr) (fun h => by cases h)
        | succ n_193 ih_193 =>
          intro x11 x12 x13 H locs ls hr hW hl
          have hr : lpB_L_isSo_193 fq fa fe fn ft fp fw fr fc v w u q p1  (lp_L_isSo_193 fq fa fe fn ft fp fw fr fc v w u q p1  n_193) x11 x12 x13 = some r := hr
          unfold lpB_L_isSo_193 at hr
          refine lv_iload X.1 X.2.1 dL_isSo_193 (lv_at hl 13 rfl) ?_
          refine lv_iconst (v := 4) X.1 X.2.1 dL_isSo_195 (by decide) ?_
          refine z_cmpge X 233 hr dL_isSo_196 (by decide) (fun hr => ?_) (fun hr => ?_)
          · refine lv_iconst (v := 0) X.1 X.2.1 dL_isSo_233 (by decide) ?_
            refine lv_istore (lv' := [(13, .int 0), (0, .ref (a 0)), (1, .int p1), (2, .ref (Aq 0)), (3, .ref (Aa 0)), (4, .ref (Ae 0)), (5, .ref (An 0)), (6, .ref (At 0)), (7, .ref (Ap 0)), (8, .ref (Aw 0)), (9, .ref (Ar 0)), (10, .ref (Ac 0)), (11, .int x11), (12, .int x12)]) X.1 X.2.1 dL_isSo_234 hl (by decide) rfl (fun ls hl => ?_)
            have L_236 : ∀ (n_236 : Nat), ∀ (x11 : Int32) (x12 : Int32) (x13 : Int32) (H : Heap) (locs : List Loc) (ls : Array Slot), lp_L_isSo_236 fq fa fe fn ft fp fw fr fc v w u q p1  n_236 x11 x12 x13 = some r → zW E A s ((arW E Aq 19 fq) ++ ((arW E Aa 30 fa) ++ ((arW E Ae 30 fe) ++ ((arW E An 30 fn) ++ ((arW E At 30 ft) ++ ((arW E Ap 18 fp) ++ ((arW E Aw 16 fw) ++ ((arW E Ar 30 fr) ++ ((arW E Ac 24 fc) ++ ((xoW E a b) ++ ((hsW E (zh a 1) v) ++ ((rdW E (zh a 30) w) ++ ((hiW E (zh a 33) u) ++ (slW E b q)))))))))))))) H locs → lv_has ls 21 [(0, .ref (a 0)), (1, .int p1), (2, .ref (Aq 0)), (3, .ref (Aa 0)), (4, .ref (Ae 0)), (5, .ref (An 0)), (6, .ref (At 0)), (7, .ref (Ap 0)), (8, .ref (Aw 0)), (9, .ref (Ar 0)), (10, .ref (Ac 0)), (11, .int x11), (12, .int x12), (13, .int x13)] → W p l e rm_L_isSo s m ([.ref (a 0), .int p1, .ref (Aq 0), .ref (Aa 0), .ref (Ae 0), .ref (An 0), .ref (At 0), .ref (Ap 0), .ref (Aw 0), .ref (Ar 0), .ref (Ac 0)] : List Value).toArray below meth c H locs 0 0 (MQ below (zQi E A r ((arW E Aq 19 fq) ++ ((arW E Aa 30 fa) ++ ((arW E Ae 30 fe) ++ ((arW E An 30 fn) ++ ((arW E At 30 ft) ++ ((arW E Ap 18 fp) ++ ((arW E Aw 16 fw) ++ ((arW E Ar 30 fr) ++ ((arW E Ac 24 fc) ++ ((xoW E a b) ++ ((hsW E (zh a 1) v) ++ ((rdW E (zh a 30) w) ++ ((hiW E (zh a 33) u) ++ (slW E b q))))))))))))))) ([.ref (a 0), .int p1, .ref (Aq 0), .ref (Aa 0), .ref (Ae 0), .ref (An 0), .ref (At 0), .ref (Ap 0), .ref (Aw 0), .ref (Ar 0), .ref (Ac 0)] : List Value).toArray s 0 0 A) (F0 m 236 ls []) := by
              intro n_236
              induction n_236 with
              | zero => exact fun x11 x12 x13 H locs ls hr hW hl => absurd (show (none : Option (Int32)) = some r from hr) (fun h => by cases h)
              | succ n_236 ih_236 =>
                intro x11 x12 x13 H locs ls hr hW hl
                have hr : lpB_L_isSo_236 fq fa fe fn ft fp fw fr fc v w u q p1  (lp_L_isSo_236 fq fa fe fn ft fp fw fr fc v w u q p1  n_236) x11 x12 x13 = some r := hr
                unfold lpB_L_isSo_236 at hr
                refine lv_iload X.1 X.2.1 dL_isSo_236 (lv_at hl 13 rfl) ?_
                refine lv_bipush (v := 6) X.1 X.2.1 dL_isSo_238 (by decide) ?_
                refine z_cmpge X 277 hr dL_isSo_240 (by decide) (fun hr => ?_) (fun hr => ?_)
                · refine lv_iload_n X.1 X.2.1 dL_isSo_277 rfl (lv_at hl 1 rfl) ?_
                  refine lv_bipush (v := 6) X.1 X.2.1 dL_isSo_278 (by decide) ?_
                  have hp_280 := (show (((arW E Aq 19 fq) ++ ((arW E Aa 30 fa) ++ ((arW E Ae 30 fe) ++ ((arW E An 30 fn) ++ ((arW E At 30 ft) ++ ((arW E Ap 18 fp) ++ ((arW E Aw 16 fw) ++ ((arW E Ar 30 fr) ++ ((arW E Ac 24 fc) ++ ((xoW E a b) ++ ((hsW E (zh a 1) v) ++ ((rdW E (zh a 30) w) ++ ((hiW E (zh a 33) u) ++ (slW E b q))))))))))))))).Perm (([] : va_W) ++ ((arW E Aq 19 fq) ++ ((arW E Aa 30 fa) ++ ((arW E Ae 30 fe) ++ ((arW E An 30 fn) ++ ((arW E At 30 ft) ++ ((arW E Ap 18 fp) ++ ((arW E Aw 16 fw) ++ ((arW E Ar 30 fr) ++ ((arW E Ac 24 fc) ++ ((xoW E a b) ++ ((hsW E (zh a 1) v) ++ ((rdW E (zh a 30) w) ++ ((hiW E (zh a 33) u) ++ (slW E b q))))))))))))))) from List.Perm.refl _)
                  refine z_callp X hW hr hp_280 (fun x h => z_runS (As := [.int p1, .int 6]) (rest := []) X hW hp_280 (c_L_low l E p1 6 x h _) hy_L_low gL_isSo_L_low rfl rfl ⟨by decide, by decide⟩ rfl hl rfl rfl (Nat.le_of_ble_eq_true rfl) dL_isSo_280 ⟨Nat.zero_le _, Nat.zero_le _⟩) (fun t280 H locs hr hW => ?_)
                  refine lv_istore (lv' := [(13, .int t280), (0, .ref (a 0)), (1, .int p1), (2, .ref (Aq 0)), (3, .ref (Aa 0)), (4, .ref (Ae 0)), (5, .ref (An 0)), (6, .ref (At 0)), (7, .ref (Ap 0)), (8, .ref (Aw 0)), (9, .ref (Ar 0)), (10, .ref (Ac 0)), (11, .int x11), (12, .int x12)]) X.1 X.2.1 dL_isSo_283 hl (by decide) rfl (fun ls hl => ?_)
                  refine lv_iload_n X.1 X.2.1 dL_isSo_285 rfl (lv_at hl 2 rfl) ?_
                  refine lv_iconst (v := 3) X.1 X.2.1 dL_isSo_286 (by decide) ?_
                  refine z_ishr X hr dL_isSo_287 (fun t287 hr => ?_)
                  refine lv_bipush (v := 9) X.1 X.2.1 dL_isSo_288 (by decide) ?_
                  have hp_290 := (show (((arW E Aq 19 fq) ++ ((arW E Aa 30 fa) ++ ((arW E Ae 30 fe) ++ ((arW E An 30 fn) ++ ((arW E At 30 ft) ++ ((arW E Ap 18 fp) ++ ((arW E Aw 16 fw) ++ ((arW E Ar 30 fr) ++ ((arW E Ac 24 fc) ++ ((xoW E a b) ++ ((hsW E (zh a 1) v) ++ ((rdW E (zh a 30) w) ++ ((hiW E (zh a 33) u) ++ (slW E b q))))))))))))))).Perm (([] : va_W) ++ ((arW E Aq 19 fq) ++ ((arW E Aa 30 fa) ++ ((arW E Ae 30 fe) ++ ((arW E An 30 fn) ++ ((arW E At 30 ft) ++ ((arW E Ap 18 fp) ++ ((arW E Aw 16 fw) ++ ((arW E Ar 30 fr) ++ ((arW E Ac 24 fc) ++ ((xoW E a b) ++ ((hsW E (zh a 1) v) ++ ((rdW E (zh a 30) w) ++ ((hiW E (zh a 33) u) ++ (slW E b q))))))))))))))) from List.Perm.refl _)
                  refine z_callp X hW hr hp_290 (fun x h => z_runS (As := [.int t287, .int 9]) (rest := []) X hW hp_290 (c_L_low l E t287 9 x h _) hy_L_low gL_isSo_L_low rfl rfl ⟨by decide, by decide⟩ rfl hl rfl rfl (Nat.le_of_ble_eq_true rfl) dL_isSo_290 ⟨Nat.zero_le _, Nat.zero_le _⟩) (fun t290 H locs hr hW => ?_)
                  refine lv_istore (lv' := [(14, .int t290), (13, .int t280), (0, .ref (a 0)), (1, .int p1), (2, .ref (Aq 0)), (3, .ref (Aa 0)), (4, .ref (Ae 0)), (5, .ref (An 0)), (6, .ref (At 0)), (7, .ref (Ap 0)), (8, .ref (Aw 0)), (9, .ref (Ar 0)), (10, .ref (Ac 0)), (11, .int x11), (12, .int x12)]) X.1 X.2.1 dL_isSo_293 hl (by decide) rfl (fun ls hl => ?_)
                  refine lv_iload X.1 X.2.1 dL_isSo_295 (lv_at hl 1 rfl) ?_
                  refine lv_aload_n X.1 X.2.1 dL_isSo_297 rfl (lv_at hl 4 rfl) ?_
                  refine lv_aload X.1 X.2.1 dL_isSo_298 (lv_at hl 10 rfl) ?_
                  have hp_300 := (z_sp2 (z_all (arW E Aq 19 fq)) (z_spr (arW E Aa 30 fa) (z_spr (arW E Ae 30 fe) (z_spr (arW E An 30 fn) (z_spr (arW E At 30 ft) (z_spr (arW E Ap 18 fp) (z_spl ((arW E Ar 30 fr) ++ ((arW E Ac 24 fc) ++ ((xoW E a b) ++ ((hsW E (zh a 1) v) ++ ((rdW E (zh a 30) w) ++ ((hiW E (zh a 33) u) ++ (slW E b q))))))) (z_all (arW E Aw 16 fw)))))))))
                  refine z_callp X hW hr hp_300 (fun x h => z_runS (As := [.int t280, .ref (Aq 0), .ref (Aw 0)]) (rest := []) X hW hp_300 (c_L_earliest l E Aq Aw fq fw t280 x h _) hy_L_earliest gL_isSo_L_earliest rfl rfl ⟨by decide, by decide⟩ rfl hl rfl rfl (Nat.le_of_ble_eq_true rfl) dL_isSo_300 ⟨Nat.zero_le _, Nat.zero_le _⟩) (fun t300 H locs hr hW => ?_)
                  refine lv_istore (lv' := [(15, .int t300), (14, .int t290), (13, .int t280), (0, .ref (a 0)), (1, .int p1), (2, .ref (Aq 0)), (3, .ref (Aa 0)), (4, .ref (Ae 0)), (5, .ref (An 0)), (6, .ref (At 0)), (7, .ref (Ap 0)), (8, .ref (Aw 0)), (9, .ref (Ar 0)), (10, .ref (Ac 0)), (11, .int x11), (12, .int x12)]) X.1 X.2.1 dL_isSo_303 hl (by decide) rfl (fun ls hl => ?_)
                  refine lv_iload X.1 X.2.1 dL_isSo_305 (lv_at hl 0 rfl) ?_
                  obtain ⟨j_333, e_333, hr⟩ := zjn_some hr
                  have J_333 : ∀ (x11 : Int32) (x12 : Int32) (x13 : Int32) (x14 : Int32) (x15 : Int32) (s0 : Int32) (H : Heap) (locs : List Loc) (ls : Array Slot), j_333 x11 x12 x13 x14 x15 s0 = some r → zW E A s ((arW E Aq 19 fq) ++ ((arW E Aa 30 fa) ++ ((arW E Ae 30 fe) ++ ((arW E An 30 fn) ++ ((arW E At 30 ft) ++ ((arW E Ap 18 fp) ++ ((arW E Aw 16 fw) ++ ((arW E Ar 30 fr) ++ ((arW E Ac 24 fc) ++ ((xoW E a b) ++ ((hsW E (zh a 1) v) ++ ((rdW E (zh a 30) w) ++ ((hiW E (zh a 33) u) ++ (slW E b q)))))))))))))) H locs → lv_has ls 21 [(0, .ref (a 0)), (1, .int p1), (2, .ref (Aq 0)), (3, .ref (Aa 0)), (4, .ref (Ae 0)), (5, .ref (An 0)), (6, .ref (At 0)), (7, .ref (Ap 0)), (8, .ref (Aw 0)), (9, .ref (Ar 0)), (10, .ref (Ac 0)), (11, .int x11), (12, .int x12), (13, .int x13), (14, .int x14), (15, .int x15)] → W p l e rm_L_isSo s m ([.ref (a 0), .int p1, .ref (Aq 0), .ref (Aa 0), .ref (Ae 0), .ref (An 0), .ref (At 0), .ref (Ap 0), .ref (Aw 0), .ref (Ar 0), .ref (Ac 0)] : List Value).toArray below meth c H locs 0 0 (MQ below (zQi E A r ((arW E Aq 19 fq) ++ ((arW E Aa 30 fa) ++ ((arW E Ae 30 fe) ++ ((arW E An 30 fn) ++ ((arW E At 30 ft) ++ ((arW E Ap 18 fp) ++ ((arW E Aw 16 fw) ++ ((arW E Ar 30 fr) ++ ((arW E Ac 24 fc) ++ ((xoW E a b) ++ ((hsW E (zh a 1) v) ++ ((rdW E (zh a 30) w) ++ ((hiW E (zh a 33) u) ++ (slW E b q))))))))))))))) ([.ref (a 0), .int p1, .ref (Aq 0), .ref (Aa 0), .ref (Ae 0), .ref (An 0), .ref (At 0), .ref (Ap 0), .ref (Aw 0), .ref (Ar 0), .ref (Ac 0)] : List Value).toArray s 0 0 A) (F0 m 333 ls [.int s0]) := by
                    intro x11 x12 x13 x14 x15 s0 H locs ls hr hW hl
                    rw [e_333] at hr
                    refine lv_istore (lv' := [(16, .int s0), (0, .ref (a 0)), (1, .int p1), (2, .ref (Aq 0)), (3, .ref (Aa 0)), (4, .ref (Ae 0)), (5, .ref (An 0)), (6, .ref (At 0)), (7, .ref (Ap 0)), (8, .ref (Aw 0)), (9, .ref (Ar 0)), (10, .ref (Ac 0)), (11, .int x11), (12, .int x12), (13, .int x13), (14, .int x14), (15, .int x15)]) X.1 X.2.1 dL_isSo_333 hl (by decide) rfl (fun ls hl => ?_)
                    refine lv_iload X.1 X.2.1 dL_isSo_335 (lv_at hl 13 rfl) ?_
                    obtain ⟨j_449, e_449, hr⟩ := zjn_some hr
                    have J_449 : ∀ (x11 : Int32) (x12 : Int32) (x13 : Int32) (x14 : Int32) (x15 : Int32) (x16 : Int32) (s0 : Int32) (H : Heap) (locs : List Loc) (ls : Array Slot), j_449 x11 x12 x13 x14 x15 x16 s0 = some r → zW E A s ((arW E Aq 19 fq) ++ ((arW E Aa 30 fa) ++ ((arW E Ae 30 fe) ++ ((arW E An 30 fn) ++ ((arW E At 30 ft) ++ ((arW E Ap 18 fp) ++ ((arW E Aw 16 fw) ++ ((arW E Ar 30 fr) ++ ((arW E Ac 24 fc) ++ ((xoW E a b) ++ ((hsW E (zh a 1) v) ++ ((rdW E (zh a 30) w) ++ ((hiW E (zh a 33) u) ++ (slW E b q)))))))))))))) H locs → lv_has ls 21 [(0, .ref (a 0)), (1, .int p1), (2, .ref (Aq 0)), (3, .ref (Aa 0)), (4, .ref (Ae 0)), (5, .ref (An 0)), (6, .ref (At 0)), (7, .ref (Ap 0)), (8, .ref (Aw 0)), (9, .ref (Ar 0)), (10, .ref (Ac 0)), (11, .int x11), (12, .int x12), (13, .int x13), (14, .int x14), (15, .int x15), (16, .int x16)] → W p l e rm_L_isSo s m ([.ref (a 0), .int p1, .ref (Aq 0), .ref (Aa 0), .ref (Ae 0), .ref (An 0), .ref (At 0), .ref (Ap 0), .ref (Aw 0), .ref (Ar 0), .ref (Ac 0)] : List Value).toArray below meth c H locs 0 0 (MQ below (zQi E A r ((arW E Aq 19 fq) ++ ((arW E Aa 30 fa) ++ ((arW E Ae 30 fe) ++ ((arW E An 30 fn) ++ ((arW E At 30 ft) ++ ((arW E Ap 18 fp) ++ ((arW E Aw 16 fw) ++ ((arW E Ar 30 fr) ++ ((arW E Ac 24 fc) ++ ((xoW E a b) ++ ((hsW E (zh a 1) v) ++ ((rdW E (zh a 30) w) ++ ((hiW E (zh a 33) u) ++ (slW E b q))))))))))))))) ([.ref (a 0), .int p1, .ref (Aq 0), .ref (Aa 0), .ref (Ae 0), .ref (An 0), .ref (At 0), .ref (Ap 0), .ref (Aw 0), .ref (Ar 0), .ref (Ac 0)] : List Value).toArray s 0 0 A) (F0 m 449 ls [.int s0]) := by
                      intro x11 x12 x13 x14 x15 x16 s0 H locs ls hr hW hl
                      rw [e_449] at hr
                      refine lv_istore (lv' := [(12, .int s0), (0, .ref (a 0)), (1, .int p1), (2, .ref (Aq 0)), (3, .ref (Aa 0)), (4, .ref (Ae 0)), (5, .ref (An 0)), (6, .ref (At 0)), (7, .ref (Ap 0)), (8, .ref (Aw 0)), (9, .ref (Ar 0)), (10, .ref (Ac 0)), (11, .int x11), (13, .int x13), (14, .int x14), (15, .int x15), (16, .int x16)]) X.1 X.2.1 dL_isSo_449 hl (by decide) rfl (fun ls hl => ?_)
                      refine lv_iload X.1 X.2.1 dL_isSo_451 (lv_at hl 0 rfl) ?_
                      obtain ⟨j_588, e_588, hr⟩ := zjn_some hr
                      have J_588 : ∀ (x11 : Int32) (x12 : Int32) (x13 : Int32) (x14 : Int32) (x15 : Int32) (x16 : Int32) (s0 : Int32) (H : Heap) (locs : List Loc) (ls : Array Slot), j_588 x11 x12 x13 x14 x15 x16 s0 = some r → zW E A s ((arW E Aq 19 fq) ++ ((arW E Aa 30 fa) ++ ((arW E Ae 30 fe) ++ ((arW E An 30 fn) ++ ((arW E At 30 ft) ++ ((arW E Ap 18 fp) ++ ((arW E Aw 16 fw) ++ ((arW E Ar 30 fr) ++ ((arW E Ac 24 fc) ++ ((xoW E a b) ++ ((hsW E (zh a 1) v) ++ ((rdW E (zh a 30) w) ++ ((hiW E (zh a 33) u) ++ (slW E b q)))))))))))))) H locs → lv_has ls 21 [(0, .ref (a 0)), (1, .int p1), (2, .ref (Aq 0)), (3, .ref (Aa 0)), (4, .ref (Ae 0)), (5, .ref (An 0)), (6, .ref (At 0)), (7, .ref (Ap 0)), (8, .ref (Aw 0)), (9, .ref (Ar 0)), (10, .ref (Ac 0)), (11, .int x11), (12, .int x12), (13, .int x13), (14, .int x14), (15, .int x15), (16, .int x16)] → W p l e rm_L_isSo s m ([.ref (a 0), .int p1, .ref (Aq 0), .ref (Aa 0), .ref (Ae 0), .ref (An 0), .ref (At 0), .ref (Ap 0), .ref (Aw 0), .ref (Ar 0), .ref (Ac 0)] : List Value).toArray below meth c H locs 0 0 (MQ below (zQi E A r ((arW E Aq 19 fq) ++ ((arW E Aa 30 fa) ++ ((arW E Ae 30 fe) ++ ((arW E An 30 fn) ++ ((arW E At 30 ft) ++ ((arW E Ap 18 fp) ++ ((arW E Aw 16 fw) ++ ((arW E Ar 30 fr) ++ ((arW E Ac 24 fc) ++ ((xoW E a b) ++ ((hsW E (zh a 1) v) ++ ((rdW E (zh a 30) w) ++ ((hiW E (zh a 33) u) ++ (slW E b q))))))))))))))) ([.ref (a 0), .int p1, .ref (Aq 0), .ref (Aa 0), .ref (Ae 0), .ref (An 0), .ref (At 0), .ref (Ap 0), .ref (Aw 0), .ref (Ar 0), .ref (Ac 0)] : List Value).toArray s 0 0 A) (F0 m 588 ls [.int s0]) := by
                        intro x11 x12 x13 x14 x15 x16 s0 H locs ls hr hW hl
                        rw [e_588] at hr
                        refine lv_istore (lv' := [(12, .int s0), (0, .ref (a 0)), (1, .int p1), (2, .ref (Aq 0)), (3, .ref (Aa 0)), (4, .ref (Ae 0)), (5, .ref (An 0)), (6, .ref (At 0)), (7, .ref (Ap 0)), (8, .ref (Aw 0)), (9, .ref (Ar 0)), (10, .ref (Ac 0)), (11, .int x11), (13, .int x13), (14, .int x14), (15, .int x15), (16, .int x16)]) X.1 X.2.1 dL_isSo_588 hl (by decide) rfl (fun ls hl => ?_)
                        refine lv_iload_n X.1 X.2.1 dL_isSo_590 rfl (lv_at hl 2 rfl) ?_
                        refine lv_bipush (v := 7) X.1 X.2.1 dL_isSo_591 (by decide) ?_
                        refine z_ishr X hr dL_isSo_593 (fun t593 hr => ?_)
                        refine lv_sipush (v := 300) X.1 X.2.1 dL_isSo_594 (by decide) ?_
                        have hp_597 := (show (((arW E Aq 19 fq) ++ ((arW E Aa 30 fa) ++ ((arW E Ae 30 fe) ++ ((arW E An 30 fn) ++ ((arW E At 30 ft) ++ ((arW E Ap 18 fp) ++ ((arW E Aw 16 fw) ++ ((arW E Ar 30 fr) ++ ((arW E Ac 24 fc) ++ ((xoW E a b) ++ ((hsW E (zh a 1) v) ++ ((rdW E (zh a 30) w) ++ ((hiW E (zh a 33) u) ++ (slW E b q))))))))))))))).Perm (([] : va_W) ++ ((arW E Aq 19 fq) ++ ((arW E Aa 30 fa) ++ ((arW E Ae 30 fe) ++ ((arW E An 30 fn) ++ ((arW E At 30 ft) ++ ((arW E Ap 18 fp) ++ ((arW E Aw 16 fw) ++ ((arW E Ar 30 fr) ++ ((arW E Ac 24 fc) ++ ((xoW E a b) ++ ((hsW E (zh a 1) v) ++ ((rdW E (zh a 30) w) ++ ((hiW E (zh a 33) u) ++ (slW E b q))))))))))))))) from List.Perm.refl _)
                        refine z_callp X hW hr hp_597 (fun x h => z_runS (As := [.int t593, .int 300]) (rest := []) X hW hp_597 (c_L_low l E t593 300 x h _) hy_L_low gL_isSo_L_low rfl rfl ⟨by decide, by decide⟩ rfl hl rfl rfl (Nat.le_of_ble_eq_true rfl) dL_isSo_597 ⟨Nat.zero_le _, Nat.zero_le _⟩) (fun t597 H locs hr hW => ?_)
                        refine lv_istore (lv' := [(17, .int t597), (12, .int s0), (0, .ref (a 0)), (1, .int p1), (2, .ref (Aq 0)), (3, .ref (Aa 0)), (4, .ref (Ae 0)), (5, .ref (An 0)), (6, .ref (At 0)), (7, .ref (Ap 0)), (8, .ref (Aw 0)), (9, .ref (Ar 0)), (10, .ref (Ac 0)), (11, .int x11), (13, .int x13), (14, .int x14), (15, .int x15), (16, .int x16)]) X.1 X.2.1 dL_isSo_600 hl (by decide) rfl (fun ls hl => ?_)
                        refine lv_iconst (v := 0) X.1 X.2.1 dL_isSo_602 (by decide) ?_
                        refine lv_istore (lv' := [(18, .int 0), (17, .int t597), (12, .int s0), (0, .ref (a 0)), (1, .int p1), (2, .ref (Aq 0)), (3, .ref (Aa 0)), (4, .ref (Ae 0)), (5, .ref (An 0)), (6, .ref (At 0)), (7, .ref (Ap 0)), (8, .ref (Aw 0)), (9, .ref (Ar 0)), (10, .ref (Ac 0)), (11, .int x11), (13, .int x13), (14, .int x14), (15, .int x15), (16, .int x16)]) X.1 X.2.1 dL_isSo_603 hl (by decide) rfl (fun ls hl => ?_)
                        refine lv_iconst (v := 0) X.1 X.2.1 dL_isSo_605 (by decide) ?_
                        refine lv_istore (lv' := [(19, .int 0), (18, .int 0), (17, .int t597), (12, .int s0), (0, .ref (a 0)), (1, .int p1), (2, .ref (Aq 0)), (3, .ref (Aa 0)), (4, .ref (Ae 0)), (5, .ref (An 0)), (6, .ref (At 0)), (7, .ref (Ap 0)), (8, .ref (Aw 0)), (9, .ref (Ar 0)), (10, .ref (Ac 0)), (11, .int x11), (13, .int x13), (14, .int x14), (15, .int x15), (16, .int x16)]) X.1 X.2.1 dL_isSo_606 hl (by decide) rfl (fun ls hl => ?_)
                        refine lv_aload_n X.1 X.2.1 dL_isSo_608 rfl (lv_at hl 6 rfl) ?_
                        refine lv_bipush (v := 6) X.1 X.2.1 dL_isSo_609 (by decide) ?_
                        refine z_ald X hW 0 hr rfl dL_isSo_611 (fun t611 hr => ?_)
                        refine lv_istore (lv' := [(20, .int t611), (19, .int 0), (18, .int 0), (17, .int t597), (12, .int s0), (0, .ref (a 0)), (1, .int p1), (2, .ref (Aq 0)), (3, .ref (Aa 0)), (4, .ref (Ae 0)), (5, .ref (An 0)), (6, .ref (At 0)), (7, .ref (Ap 0)), (8, .ref (Aw 0)), (9, .ref (Ar 0)), (10, .ref (Ac 0)), (11, .int x11), (13, .int x13), (14, .int x14), (15, .int x15), (16, .int x16)]) X.1 X.2.1 dL_isSo_612 hl (by decide) rfl (fun ls hl => ?_)
                        have L_614 : ∀ (n_614 : Nat), ∀ (x11 : Int32) (x12 : Int32) (x13 : Int32) (x14 : Int32) (x15 : Int32) (x16 : Int32) (x17 : Int32) (x18 : Int32) (x19 : Int32) (x20 : Int32) (H : Heap) (locs : List Loc) (ls : Array Slot), lp_L_isSo_614 fq fa fe fn ft fp fw fr fc v w u q p1  n_614 x11 x12 x13 x14 x15 x16 x17 x18 x19 x20 = some r → zW E A s ((arW E Aq 19 fq) ++ ((arW E Aa 30 fa) ++ ((arW E Ae 30 fe) ++ ((arW E An 30 fn) ++ ((arW E At 30 ft) ++ ((arW E Ap 18 fp) ++ ((arW E Aw 16 fw) ++ ((arW E Ar 30 fr) ++ ((arW E Ac 24 fc) ++ ((xoW E a b) ++ ((hsW E (zh a 1) v) ++ ((rdW E (zh a 30) w) ++ ((hiW E (zh a 33) u) ++ (slW E b q)))))))))))))) H locs → lv_has ls 21 [(0, .ref (a 0)), (1, .int p1), (2, .ref (Aq 0)), (3, .ref (Aa 0)), (4, .ref (Ae 0)), (5, .ref (An 0)), (6, .ref (At 0)), (7, .ref (Ap 0)), (8, .ref (Aw 0)), (9, .ref (Ar 0)), (10, .ref (Ac 0)), (11, .int x11), (12, .int x12), (13, .int x13), (14, .int x14), (15, .int x15), (16, .int x16), (17, .int x17), (18, .int x18), (19, .int x19), (20, .int x20)] → W p l e rm_L_isSo s m ([.ref (a 0), .int p1, .ref (Aq 0), .ref (Aa 0), .ref (Ae 0), .ref (An 0), .ref (At 0), .ref (Ap 0), .ref (Aw 0), .ref (Ar 0), .ref (Ac 0)] : List Value).toArray below meth c H locs 0 0 (MQ below (zQi E A r ((arW E Aq 19 fq) ++ ((arW E Aa 30 fa) ++ ((arW E Ae 30 fe) ++ ((arW E An 30 fn) ++ ((arW E At 30 ft) ++ ((arW E Ap 18 fp) ++ ((arW E Aw 16 fw) ++ ((arW E Ar 30 fr) ++ ((arW E Ac 24 fc) ++ ((xoW E a b) ++ ((hsW E (zh a 1) v) ++ ((rdW E (zh a 30) w) ++ ((hiW E (zh a 33) u) ++ (slW E b q))))))))))))))) ([.ref (a 0), .int p1, .ref (Aq 0), .ref (Aa 0), .ref (Ae 0), .ref (An 0), .ref (At 0), .ref (Ap 0), .ref (Aw 0), .ref (Ar 0), .ref (Ac 0)] : List Value).toArray s 0 0 A) (F0 m 614 ls []) := by
                          intro n_614
                          induction n_614 with
                          | zero => exact fun x11 x12 x13 x14 x15 x16 x17 x18 x19 x20 H locs ls hr hW hl => absurd (show (none : Option (Int32)) = some r from hr) (fun h => by cases h)
                          | succ n_614 ih_614 =>
                            intro x11 x12 x13 x14 x15 x16 x17 x18 x19 x20 H locs ls hr hW hl
                            have hr : lpB_L_isSo_614 fq fa fe fn ft fp fw fr fc v w u q p1  (lp_L_isSo_614 fq fa fe fn ft fp fw fr fc v w u q p1  n_614) x11 x12 x13 x14 x15 x16 x17 x18 x19 x20 = some r := hr
                            unfold lpB_L_isSo_614 at hr
                            refine lv_iload X.1 X.2.1 dL_isSo_614 (lv_at hl 20 rfl) ?_
                            refine lv_iload X.1 X.2.1 dL_isSo_616 (lv_at hl 17 rfl) ?_
                            refine z_cmple X 635 hr dL_isSo_618 (by decide) (fun hr => ?_) (fun hr => ?_)
                            · refine lv_aload_n X.1 X.2.1 dL_isSo_635 rfl (lv_at hl 2 rfl) ?_
                              refine lv_bipush (v := 6) X.1 X.2.1 dL_isSo_636 (by decide) ?_
                              refine z_ald X hW 0 hr rfl dL_isSo_638 (fun t638 hr => ?_)
                              refine lv_istore (lv' := [(20, .int t638), (0, .ref (a 0)), (1, .int p1), (2, .ref (Aq 0)), (3, .ref (Aa 0)), (4, .ref (Ae 0)), (5, .ref (An 0)), (6, .ref (At 0)), (7, .ref (Ap 0)), (8, .ref (Aw 0)), (9, .ref (Ar 0)), (10, .ref (Ac 0)), (11, .int x11), (12, .int x12), (13, .int x13), (14, .int x14), (15, .int x15), (16, .int x16), (17, .int x17), (18, .int x18), (19, .int x19)]) X.1 X.2.1 dL_isSo_639 hl (by decide) rfl (fun ls hl => ?_)
                              have L_641 : ∀ (n_641 : Nat), ∀ (x11 : Int32) (x12 : Int32) (x13 : Int32) (x14 : Int32) (x15 : Int32) (x16 : Int32) (x17 : Int32) (x18 : Int32) (x19 : Int32) (x20 : Int32) (H : Heap) (locs : List Loc) (ls : Array Slot), lp_L_isSo_641 fq fa fe fn ft fp fw fr fc v w u q p1  n_641 x11 x12 x13 x14 x15 x16 x17 x18 x19 x20 = some r → zW E A s ((arW E Aq 19 fq) ++ ((arW E Aa 30 fa) ++ ((arW E Ae 30 fe) ++ ((arW E An 30 fn) ++ ((arW E At 30 ft) ++ ((arW E Ap 18 fp) ++ ((arW E Aw 16 fw) ++ ((arW E Ar 30 fr) ++ ((arW E Ac 24 fc) ++ ((xoW E a b) ++ ((hsW E (zh a 1) v) ++ ((rdW E (zh a 30) w) ++ ((hiW E (zh a 33) u) ++ (slW E b q)))))))))))))) H locs → lv_has ls 21 [(0, .ref (a 0)), (1, .int p1), (2, .ref (Aq 0)), (3, .ref (Aa 0)), (4, .ref (Ae 0)), (5, .ref (An 0)), (6, .ref (At 0)), (7, .ref (Ap 0)), (8, .ref (Aw 0)), (9, .ref (Ar 0)), (10, .ref (Ac 0)), (11, .int x11), (12, .int x12), (13, .int x13), (14, .int x14), (15, .int x15), (16, .int x16), (17, .int x17), (18, .int x18), (19, .int x19), (20, .int x20)] → W p l e rm_L_isSo s m ([.ref (a 0), .int p1, .ref (Aq 0), .ref (Aa 0), .ref (Ae 0), .ref (An 0), .ref (At 0), .ref (Ap 0), .ref (Aw 0), .ref (Ar 0), .ref (Ac 0)] : List Value).toArray below meth c H locs 0 0 (MQ below (zQi E A r ((arW E Aq 19 fq) ++ ((arW E Aa 30 fa) ++ ((arW E Ae 30 fe) ++ ((arW E An 30 fn) ++ ((arW E At 30 ft) ++ ((arW E Ap 18 fp) ++ ((arW E Aw 16 fw) ++ ((arW E Ar 30 fr) ++ ((arW E Ac 24 fc) ++ ((xoW E a b) ++ ((hsW E (zh a 1) v) ++ ((rdW E (zh a 30) w) ++ ((hiW E (zh a 33) u) ++ (slW E b q))))))))))))))) ([.ref (a 0), .int p1, .ref (Aq 0), .ref (Aa 0), .ref (Ae 0), .ref (An 0), .ref (At 0), .ref (Ap 0), .ref (Aw 0), .ref (Ar 0), .ref (Ac 0)] : List Value).toArray s 0 0 A) (F0 m 641 ls []) := by
                                intro n_641
                                induction n_641 with
                                | zero => exact fun x11 x12 x13 x14 x15 x16 x17 x18 x19 x20 H locs ls hr hW hl => absurd (show (none : Option (Int32)) = some r from hr) (fun h => by cases h)
                                | succ n_641 ih_641 =>
                                  intro x11 x12 x13 x14 x15 x16 x17 x18 x19 x20 H locs ls hr hW hl
                                  have hr : lpB_L_isSo_641 fq fa fe fn ft fp fw fr fc v w u q p1  (lp_L_isSo_641 fq fa fe fn ft fp fw fr fc v w u q p1  n_641) x11 x12 x13 x14 x15 x16 x17 x18 x19 x20 = some r := hr
                                  unfold lpB_L_isSo_641 at hr
                                  refine lv_iload X.1 X.2.1 dL_isSo_641 (lv_at hl 20 rfl) ?_
                                  refine lv_aload_n X.1 X.2.1 dL_isSo_643 rfl (lv_at hl 2 rfl) ?_
                                  refine lv_iconst (v := 5) X.1 X.2.1 dL_isSo_644 (by decide) ?_
                                  refine z_ald X hW 0 hr rfl dL_isSo_645 (fun t645 hr => ?_)
                                  refine z_cmplt X 661 hr dL_isSo_646 (by decide) (fun hr => ?_) (fun hr => ?_)
                                  · refine lv_iload X.1 X.2.1 dL_isSo_661 (lv_at hl 12 rfl) ?_
                                    refine z_ifeq X 725 hr dL_isSo_663 (by decide) (fun hr => ?_) (fun hr => ?_)
                                    · refine lv_iconst (v := 0) X.1 X.2.1 dL_isSo_725 (by decide) ?_
                                      cases hr
                                      exact z_zret X hW rfl rfl dL_isSo_726
                                    · refine lv_aload_n X.1 X.2.1 dL_isSo_666 rfl (lv_at hl 0 rfl) ?_
                                      refine lv_iload X.1 X.2.1 dL_isSo_667 (lv_at hl 17 rfl) ?_
                                      have hp_669 := (z_spr (arW E Aq 19 fq) (z_spr (arW E Aa 30 fa) (z_spr (arW E Ae 30 fe) (z_spr (arW E An 30 fn) (z_spr (arW E At 30 ft) (z_spr (arW E Ap 18 fp) (z_spr (arW E Aw 16 fw) (z_spr (arW E Ar 30 fr) (z_spr (arW E Ac 24 fc) (z_sp2 (z_all (xoW E a b)) (z_sp2 (z_all (hsW E (zh a 1) v)) (z_sp2 (z_all (rdW E (zh a 30) w)) (z_sp2 (z_all (hiW E (zh a 33) u)) (z_all (slW E b q)))))))))))))))
                                      refine z_callp X hW hr hp_669 (fun x h => z_runV (As := [.int x17]) (rest := []) X hW hp_669 (c_X7_quietIn l E a b v w u q x17 x h _) hy_X7_quietIn 9 7 (C := RX7) (T := TX7) (N := 5) rfl rfl rfl gL_isSo_X7_quietIn rfl rfl ⟨by decide, by decide⟩ rfl hl rfl rfl (Nat.le_of_ble_eq_true rfl) dL_isSo_669 ⟨Nat.zero_le _, Nat.zero_le _⟩) (fun t669 H locs hr hW => ?_)
                                      refine lv_iload X.1 X.2.1 dL_isSo_672 (lv_at hl 18 rfl) ?_
                                      refine z_cmpne X 725 hr dL_isSo_674 (by decide) (fun hr => ?_) (fun hr => ?_)
                                      · refine lv_iconst (v := 0) X.1 X.2.1 dL_isSo_725 (by decide) ?_
                                        cases hr
                                        exact z_zret X hW rfl rfl dL_isSo_726
                                      · refine lv_aload_n X.1 X.2.1 dL_isSo_677 rfl (lv_at hl 0 rfl) ?_
                                        have hp_678 := (z_spr (arW E Aq 19 fq) (z_spr (arW E Aa 30 fa) (z_spr (arW E Ae 30 fe) (z_spr (arW E An 30 fn) (z_spr (arW E At 30 ft) (z_spr (arW E Ap 18 fp) (z_spr (arW E Aw 16 fw) (z_spr (arW E Ar 30 fr) (z_spr (arW E Ac 24 fc) (z_sp2 (z_all (xoW E a b)) (z_sp2 (z_all (hsW E (zh a 1) v)) (z_sp2 (z_all (rdW E (zh a 30) w)) (z_sp2 (z_all (hiW E (zh a 33) u)) (z_all (slW E b q)))))))))))))))
                                        refine z_callp X hW hr hp_678 (fun x h => z_runV (As := []) (rest := []) X hW hp_678 (c_X7_calls l E a b v w u q x h _) hy_X7_calls 9 7 (C := RX7) (T := TX7) (N := 5) rfl rfl rfl gL_isSo_X7_calls rfl rfl ⟨by decide, by decide⟩ rfl hl rfl rfl (Nat.le_of_ble_eq_true rfl) dL_isSo_678 ⟨Nat.zero_le _, Nat.zero_le _⟩) (fun t678 H locs hr hW => ?_)
                                        refine lv_iload X.1 X.2.1 dL_isSo_681 (lv_at hl 19 rfl) ?_
                                        refine z_cmpne X 725 hr dL_isSo_683 (by decide) (fun hr => ?_) (fun hr => ?_)
                                        · refine lv_iconst (v := 0) X.1 X.2.1 dL_isSo_725 (by decide) ?_
                                          cases hr
                                          exact z_zret X hW rfl rfl dL_isSo_726
                                        · refine lv_aload_n X.1 X.2.1 dL_isSo_686 rfl (lv_at hl 0 rfl) ?_
                                          refine lv_iload_n X.1 X.2.1 dL_isSo_687 rfl (lv_at hl 1 rfl) ?_
                                          refine lv_bipush (v := 15) X.1 X.2.1 dL_isSo_688 (by decide) ?_
                                          refine z_ishr X hr dL_isSo_690 (fun t690 hr => ?_)
                                          refine lv_bipush (v := 30) X.1 X.2.1 dL_isSo_691 (by decide) ?_
                                          have hp_693 := (show (((arW E Aq 19 fq) ++ ((arW E Aa 30 fa) ++ ((arW E Ae 30 fe) ++ ((arW E An 30 fn) ++ ((arW E At 30 ft) ++ ((arW E Ap 18 fp) ++ ((arW E Aw 16 fw) ++ ((arW E Ar 30 fr) ++ ((arW E Ac 24 fc) ++ ((xoW E a b) ++ ((hsW E (zh a 1) v) ++ ((rdW E (zh a 30) w) ++ ((hiW E (zh a 33) u) ++ (slW E b q))))))))))))))).Perm (([] : va_W) ++ ((arW E Aq 19 fq) ++ ((arW E Aa 30 fa) ++ ((arW E Ae 30 fe) ++ ((arW E An 30 fn) ++ ((arW E At 30 ft) ++ ((arW E Ap 18 fp) ++ ((arW E Aw 16 fw) ++ ((arW E Ar 30 fr) ++ ((arW E Ac 24 fc) ++ ((xoW E a b) ++ ((hsW E (zh a 1) v) ++ ((rdW E (zh a 30) w) ++ ((hiW E (zh a 33) u) ++ (slW E b q))))))))))))))) from List.Perm.refl _)
                                          refine z_callp X hW hr hp_693 (fun x h => z_runS (As := [.int t690, .int 30]) (rest := [.ref (a 0)]) X hW hp_693 (c_L_low l E t690 30 x h _) hy_L_low gL_isSo_L_low rfl rfl ⟨by decide, by decide⟩ rfl hl rfl rfl (Nat.le_of_ble_eq_true rfl) dL_isSo_693 ⟨Nat.zero_le _, Nat.zero_le _⟩) (fun t693 H locs hr hW => ?_)
                                          refine lv_iload_n X.1 X.2.1 dL_isSo_696 rfl (lv_at hl 1 rfl) ?_
                                          refine lv_bipush (v := 20) X.1 X.2.1 dL_isSo_697 (by decide) ?_
                                          refine z_ishr X hr dL_isSo_699 (fun t699 hr => ?_)
                                          refine lv_bipush (v := 12) X.1 X.2.1 dL_isSo_700 (by decide) ?_
                                          have hp_702 := (show (((arW E Aq 19 fq) ++ ((arW E Aa 30 fa) ++ ((arW E Ae 30 fe) ++ ((arW E An 30 fn) ++ ((arW E At 30 ft) ++ ((arW E Ap 18 fp) ++ ((arW E Aw 16 fw) ++ ((arW E Ar 30 fr) ++ ((arW E Ac 24 fc) ++ ((xoW E a b) ++ ((hsW E (zh a 1) v) ++ ((rdW E (zh a 30) w) ++ ((hiW E (zh a 33) u) ++ (slW E b q))))))))))))))).Perm (([] : va_W) ++ ((arW E Aq 19 fq) ++ ((arW E Aa 30 fa) ++ ((arW E Ae 30 fe) ++ ((arW E An 30 fn) ++ ((arW E At 30 ft) ++ ((arW E Ap 18 fp) ++ ((arW E Aw 16 fw) ++ ((arW E Ar 30 fr) ++ ((arW E Ac 24 fc) ++ ((xoW E a b) ++ ((hsW E (zh a 1) v) ++ ((rdW E (zh a 30) w) ++ ((hiW E (zh a 33) u) ++ (slW E b q))))))))))))))) from List.Perm.refl _)
                                          refine z_callp X hW hr hp_702 (fun x h => z_runS (As := [.int t699, .int 12]) (rest := [.int t693, .ref (a 0)]) X hW hp_702 (c_L_low l E t699 12 x h _) hy_L_low gL_isSo_L_low rfl rfl ⟨by decide, by decide⟩ rfl hl rfl rfl (Nat.le_of_ble_eq_true rfl) dL_isSo_702 ⟨Nat.zero_le _, Nat.zero_le _⟩) (fun t702 H locs hr hW => ?_)
                                          refine lv_aload_n X.1 X.2.1 dL_isSo_705 rfl (lv_at hl 2 rfl) ?_
                                          refine lv_aload_n X.1 X.2.1 dL_isSo_706 rfl (lv_at hl 3 rfl) ?_
                                          refine lv_aload X.1 X.2.1 dL_isSo_707 (lv_at hl 4 rfl) ?_
                                          refine lv_aload X.1 X.2.1 dL_isSo_709 (lv_at hl 5 rfl) ?_
                                          refine lv_aload X.1 X.2.1 dL_isSo_711 (lv_at hl 6 rfl) ?_
                                          refine lv_aload X.1 X.2.1 dL_isSo_713 (lv_at hl 9 rfl) ?_
                                          have hp_715 := (z_sp2 (z_all (arW E Aq 19 fq)) (z_sp2 (z_all (arW E Aa 30 fa)) (z_sp2 (z_all (arW E Ae 30 fe)) (z_sp2 (z_all (arW E An 30 fn)) (z_sp2 (z_all (arW E At 30 ft)) (z_spr (arW E Ap 18 fp) (z_spr (arW E Aw 16 fw) (z_sp2 (z_all (arW E Ar 30 fr)) (z_spr (arW E Ac 24 fc) (z_sp2 (z_all (xoW E a b)) (z_sp2 (z_all (hsW E (zh a 1) v)) (z_sp2 (z_all (rdW E (zh a 30) w)) (z_sp2 (z_all (hiW E (zh a 33) u)) (z_all (slW E b q)))))))))))))))
                                          refine z_callp X hW hr hp_715 (fun x h => z_runS (As := [.ref (a 0), .int t693, .int t702, .ref (Aq 0), .ref (Aa 0), .ref (Ae 0), .ref (An 0), .ref (At 0), .ref (Ar 0)]) (rest := []) X hW hp_715 (c_L_isSeat l E Aq Aa Ae An At Ar a b fq fa fe fn ft fr v w u q t693 t702 x h _) hy_L_isSeat gL_isSo_L_isSeat rfl rfl ⟨by decide, by decide⟩ rfl hl rfl rfl (Nat.le_of_ble_eq_true rfl) dL_isSo_715 ⟨Nat.zero_le _, Nat.zero_le _⟩) (fun t715 H locs hr hW => ?_)
                                          refine z_ifeq X 725 hr dL_isSo_718 (by decide) (fun hr => ?_) (fun hr => ?_)
                                          · refine lv_iconst (v := 0) X.1 X.2.1 dL_isSo_725 (by decide) ?_
                                            cases hr
                                            exact z_zret X hW rfl rfl dL_isSo_726
                                          · refine lv_iconst (v := 1) X.1 X.2.1 dL_isSo_721 (by decide) ?_
                                            refine lv_goto (tgt := 726) X.1 X.2.1 dL_isSo_722 (by decide) ?_
                                            cases hr
                                            exact z_zret X hW rfl rfl dL_isSo_726
                                  · refine z_iinc X (fun x19_649 => [(19, .int x19_649), (0, .ref (a 0)), (1, .int p1), (2, .ref (Aq 0)), (3, .ref (Aa 0)), (4, .ref (Ae 0)), (5, .ref (An 0)), (6, .ref (At 0)), (7, .ref (Ap 0)), (8, .ref (Aw 0)), (9, .ref (Ar 0)), (10, .ref (Ac 0)), (11, .int x11), (12, .int x12), (13, .int x13), (14, .int x14), (15, .int x15), (16, .int x16), (17, .int x17), (18, .int x18), (20, .int x20)]) hr hl (k := 19) rfl (by decide) (fun _ => rfl) dL_isSo_649 (fun x19_649 ls hr hl => ?_)
                                    refine lv_iload X.1 X.2.1 dL_isSo_652 (lv_at hl 20 rfl) ?_
                                    refine lv_iconst (v := 2) X.1 X.2.1 dL_isSo_654 (by decide) ?_
                                    refine z_idiv X hr dL_isSo_655 (fun t655 hr => ?_)
                                    refine lv_istore (lv' := [(20, .int t655), (19, .int x19_649), (0, .ref (a 0)), (1, .int p1), (2, .ref (Aq 0)), (3, .ref (Aa 0)), (4, .ref (Ae 0)), (5, .ref (An 0)), (6, .ref (At 0)), (7, .ref (Ap 0)), (8, .ref (Aw 0)), (9, .ref (Ar 0)), (10, .ref (Ac 0)), (11, .int x11), (12, .int x12), (13, .int x13), (14, .int x14), (15, .int x15), (16, .int x16), (17, .int x17), (18, .int x18)]) X.1 X.2.1 dL_isSo_656 hl (by decide) rfl (fun ls hl => ?_)
                                    refine lv_goto (tgt := 641) X.1 X.2.1 dL_isSo_658 (by decide) ?_
                                    exact ih_641 x11 x12 x13 x14 x15 x16 x17 x18 x19_649 t655 _ _ _ hr hW (lv_sub hl [2, 3, 4, 5, 6, 7, 8, 9, 10, 11, 12, 13, 14, 15, 16, 17, 18, 19, 20, 1, 0] rfl)
                              exact L_641 _ x11 x12 x13 x14 x15 x16 x17 x18 x19 t638 _ _ _ hr hW (lv_sub hl [1, 2, 3, 4, 5, 6, 7, 8, 9, 10, 11, 12, 13, 14, 15, 16, 17, 18, 19, 20, 0] rfl)
                            · refine z_iinc X (fun x18_621 => [(18, .int x18_621), (0, .ref (a 0)), (1, .int p1), (2, .ref (Aq 0)), (3, .ref (Aa 0)), (4, .ref (Ae 0)), (5, .ref (An 0)), (6, .ref (At 0)), (7, .ref (Ap 0)), (8, .ref (Aw 0)), (9, .ref (Ar 0)), (10, .ref (Ac 0)), (11, .int x11), (12, .int x12), (13, .int x13), (14, .int x14), (15, .int x15), (16, .int x16), (17, .int x17), (19, .int x19), (20, .int x20)]) hr hl (k := 18) rfl (by decide) (fun _ => rfl) dL_isSo_621 (fun x18_621 ls hr hl => ?_)
                              refine lv_iload X.1 X.2.1 dL_isSo_624 (lv_at hl 20 rfl) ?_
                              refine lv_aload_n X.1 X.2.1 dL_isSo_626 rfl (lv_at hl 3 rfl) ?_
                              have hp_627 := (z_spl ((arW E Aa 30 fa) ++ ((arW E Ae 30 fe) ++ ((arW E An 30 fn) ++ ((arW E At 30 ft) ++ ((arW E Ap 18 fp) ++ ((arW E Aw 16 fw) ++ ((arW E Ar 30 fr) ++ ((arW E Ac 24 fc) ++ ((xoW E a b) ++ ((hsW E (zh a 1) v) ++ ((rdW E (zh a 30) w) ++ ((hiW E (zh a 33) u) ++ (slW E b q))))))))))))) (z_all (arW E Aq 19 fq)))
                              refine z_callp X hW hr hp_627 (fun x h => z_runS (As := [.int x20, .ref (Aq 0)]) (rest := []) X hW hp_627 (c_L_less l E Aq fq x20 x h _) hy_L_less gL_isSo_L_less rfl rfl ⟨by decide, by decide⟩ rfl hl rfl rfl (Nat.le_of_ble_eq_true rfl) dL_isSo_627 ⟨Nat.zero_le _, Nat.zero_le _⟩) (fun t627 H locs hr hW => ?_)
                              refine lv_istore (lv' := [(20, .int t627), (18, .int x18_621), (0, .ref (a 0)), (1, .int p1), (2, .ref (Aq 0)), (3, .ref (Aa 0)), (4, .ref (Ae 0)), (5, .ref (An 0)), (6, .ref (At 0)), (7, .ref (Ap 0)), (8, .ref (Aw 0)), (9, .ref (Ar 0)), (10, .ref (Ac 0)), (11, .int x11), (12, .int x12), (13, .int x13), (14, .int x14), (15, .int x15), (16, .int x16), (17, .int x17), (19, .int x19)]) X.1 X.2.1 dL_isSo_630 hl (by decide) rfl (fun ls hl => ?_)
                              refine lv_goto (tgt := 614) X.1 X.2.1 dL_isSo_632 (by decide) ?_
                              exact ih_614 x11 x12 x13 x14 x15 x16 x17 x18_621 x19 t627 _ _ _ hr hW (lv_sub hl [2, 3, 4, 5, 6, 7, 8, 9, 10, 11, 12, 13, 14, 15, 16, 17, 18, 19, 1, 20, 0] rfl)
                        exact L_614 _ x11 s0 x13 x14 x15 x16 t597 0 0 t611 _ _ _ hr hW (lv_sub hl [5, 6, 7, 8, 9, 10, 11, 12, 13, 14, 15, 16, 4, 17, 18, 19, 20, 3, 2, 1, 0] rfl)
                      obtain ⟨j_587, e_587, hr⟩ := zjn_some hr
                      have J_587 : ∀ (x11 : Int32) (x12 : Int32) (x13 : Int32) (x14 : Int32) (x15 : Int32) (x16 : Int32) (H : Heap) (locs : List Loc) (ls : Array Slot), j_587 x11 x12 x13 x14 x15 x16 = some r → zW E A s ((arW E Aq 19 fq) ++ ((arW E Aa 30 fa) ++ ((arW E Ae 30 fe) ++ ((arW E An 30 fn) ++ ((arW E At 30 ft) ++ ((arW E Ap 18 fp) ++ ((arW E Aw 16 fw) ++ ((arW E Ar 30 fr) ++ ((arW E Ac 24 fc) ++ ((xoW E a b) ++ ((hsW E (zh a 1) v) ++ ((rdW E (zh a 30) w) ++ ((hiW E (zh a 33) u) ++ (slW E b q)))))))))))))) H locs → lv_has ls 21 [(0, .ref (a 0)), (1, .int p1), (2, .ref (Aq 0)), (3, .ref (Aa 0)), (4, .ref (Ae 0)), (5, .ref (An 0)), (6, .ref (At 0)), (7, .ref (Ap 0)), (8, .ref (Aw 0)), (9, .ref (Ar 0)), (10, .ref (Ac 0)), (11, .int x11), (12, .int x12), (13, .int x13), (14, .int x14), (15, .int x15), (16, .int x16)] → W p l e rm_L_isSo s m ([.ref (a 0), .int p1, .ref (Aq 0), .ref (Aa 0), .ref (Ae 0), .ref (An 0), .ref (At 0), .ref (Ap 0), .ref (Aw 0), .ref (Ar 0), .ref (Ac 0)] : List Value).toArray below meth c H locs 0 0 (MQ below (zQi E A r ((arW E Aq 19 fq) ++ ((arW E Aa 30 fa) ++ ((arW E Ae 30 fe) ++ ((arW E An 30 fn) ++ ((arW E At 30 ft) ++ ((arW E Ap 18 fp) ++ ((arW E Aw 16 fw) ++ ((arW E Ar 30 fr) ++ ((arW E Ac 24 fc) ++ ((xoW E a b) ++ ((hsW E (zh a 1) v) ++ ((rdW E (zh a 30) w) ++ ((hiW E (zh a 33) u) ++ (slW E b q))))))))))))))) ([.ref (a 0), .int p1, .ref (Aq 0), .ref (Aa 0), .ref (Ae 0), .ref (An 0), .ref (At 0), .ref (Ap 0), .ref (Aw 0), .ref (Ar 0), .ref (Ac 0)] : List Value).toArray s 0 0 A) (F0 m 587 ls []) := by
                        intro x11 x12 x13 x14 x15 x16 H locs ls hr hW hl
                        rw [e_587] at hr
                        refine lv_iconst (v := 0) X.1 X.2.1 dL_isSo_587 (by decide) ?_
                        exact J_588 x11 x12 x13 x14 x15 x16 0 _ _ _ hr hW (lv_sub hl [0, 1, 2, 3, 4, 5, 6, 7, 8, 9, 10, 11, 12, 13, 14, 15, 16] rfl)
                      refine z_ifeq X 587 hr dL_isSo_453 (by decide) (fun hr => ?_) (fun hr => ?_)
                      · exact J_587 x11 s0 x13 x14 x15 x16 _ _ _ hr hW (lv_sub hl [1, 2, 3, 4, 5, 6, 7, 8, 9, 10, 11, 12, 0, 13, 14, 15, 16] rfl)
                      · refine lv_aload_n X.1 X.2.1 dL_isSo_456 rfl (lv_at hl 1 rfl) ?_
                        refine lv_iload X.1 X.2.1 dL_isSo_457 (lv_at hl 14 rfl) ?_
                        refine lv_iconst (v := 0) X.1 X.2.1 dL_isSo_459 (by decide) ?_
                        have hp_460 := (z_spr (arW E Aq 19 fq) (z_spr (arW E Aa 30 fa) (z_spr (arW E Ae 30 fe) (z_spr (arW E An 30 fn) (z_spr (arW E At 30 ft) (z_spr (arW E Ap 18 fp) (z_spr (arW E Aw 16 fw) (z_spr (arW E Ar 30 fr) (z_spr (arW E Ac 24 fc) (z_sp2 (z_all (xoW E a b)) (z_sp2 (z_all (hsW E (zh a 1) v)) (z_sp2 (z_all (rdW E (zh a 30) w)) (z_sp2 (z_all (hiW E (zh a 33) u)) (z_all (slW E b q)))))))))))))))
                        refine z_callp X hW hr hp_460 (fun x h => z_runV (As := [.int x14, .int 0]) (rest := []) X hW hp_460 (c_X7_owed l E a b v w u q x14 0 x h _) hy_X7_owed 9 7 (C := RX7) (T := TX7) (N := 5) rfl rfl rfl gL_isSo_X7_owed rfl rfl ⟨by decide, by decide⟩ rfl hl rfl rfl (Nat.le_of_ble_eq_true rfl) dL_isSo_460 ⟨Nat.zero_le _, Nat.zero_le _⟩) (fun t460 H locs hr hW => ?_)
                        refine lv_iload X.1 X.2.1 dL_isSo_463 (lv_at hl 14 rfl) ?_
                        refine lv_aload_n X.1 X.2.1 dL_isSo_465 rfl (lv_at hl 3 rfl) ?_
                        refine lv_bipush (v := 16) X.1 X.2.1 dL_isSo_466 (by decide) ?_
                        refine z_ald X hW 0 hr rfl dL_isSo_468 (fun t468 hr => ?_)
                        obtain ⟨j_483, e_483, hr⟩ := zjn_some hr
                        have J_483 : ∀ (x11 : Int32) (x12 : Int32) (x13 : Int32) (x14 : Int32) (x15 : Int32) (x16 : Int32) (s0 : Int32) (s1 : Int32) (H : Heap) (locs : List Loc) (ls : Array Slot), j_483 x11 x12 x13 x14 x15 x16 s0 s1 = some r → zW E A s ((arW E Aq 19 fq) ++ ((arW E Aa 30 fa) ++ ((arW E Ae 30 fe) ++ ((arW E An 30 fn) ++ ((arW E At 30 ft) ++ ((arW E Ap 18 fp) ++ ((arW E Aw 16 fw) ++ ((arW E Ar 30 fr) ++ ((arW E Ac 24 fc) ++ ((xoW E a b) ++ ((hsW E (zh a 1) v) ++ ((rdW E (zh a 30) w) ++ ((hiW E (zh a 33) u) ++ (slW E b q)))))))))))))) H locs → lv_has ls 21 [(0, .ref (a 0)), (1, .int p1), (2, .ref (Aq 0)), (3, .ref (Aa 0)), (4, .ref (Ae 0)), (5, .ref (An 0)), (6, .ref (At 0)), (7, .ref (Ap 0)), (8, .ref (Aw 0)), (9, .ref (Ar 0)), (10, .ref (Ac 0)), (11, .int x11), (12, .int x12), (13, .int x13), (14, .int x14), (15, .int x15), (16, .int x16)] → W p l e rm_L_isSo s m ([.ref (a 0), .int p1, .ref (Aq 0), .ref (Aa 0), .ref (Ae 0), .ref (An 0), .ref (At 0), .ref (Ap 0), .ref (Aw 0), .ref (Ar 0), .ref (Ac 0)] : List Value).toArray below meth c H locs 0 0 (MQ below (zQi E A r ((arW E Aq 19 fq) ++ ((arW E Aa 30 fa) ++ ((arW E Ae 30 fe) ++ ((arW E An 30 fn) ++ ((arW E At 30 ft) ++ ((arW E Ap 18 fp) ++ ((arW E Aw 16 fw) ++ ((arW E Ar 30 fr) ++ ((arW E Ac 24 fc) ++ ((xoW E a b) ++ ((hsW E (zh a 1) v) ++ ((rdW E (zh a 30) w) ++ ((hiW E (zh a 33) u) ++ (slW E b q))))))))))))))) ([.ref (a 0), .int p1, .ref (Aq 0), .ref (Aa 0), .ref (Ae 0), .ref (An 0), .ref (At 0), .ref (Ap 0), .ref (Aw 0), .ref (Ar 0), .ref (Ac 0)] : List Value).toArray s 0 0 A) (F0 m 483 ls [.int s0, .int s1]) := by
                          intro x11 x12 x13 x14 x15 x16 s0 s1 H locs ls hr hW hl
                          rw [e_483] at hr
                          refine z_cmpne X 587 hr dL_isSo_483 (by decide) (fun hr => ?_) (fun hr => ?_)
                          · exact J_587 x11 x12 x13 x14 x15 x16 _ _ _ hr hW (lv_sub hl [0, 1, 2, 3, 4, 5, 6, 7, 8, 9, 10, 11, 12, 13, 14, 15, 16] rfl)
                          · refine lv_aload_n X.1 X.2.1 dL_isSo_486 rfl (lv_at hl 0 rfl) ?_
                            refine lv_iload X.1 X.2.1 dL_isSo_487 (lv_at hl 14 rfl) ?_
                            refine lv_iconst (v := 1) X.1 X.2.1 dL_isSo_489 (by decide) ?_
                            have hp_490 := (z_spr (arW E Aq 19 fq) (z_spr (arW E Aa 30 fa) (z_spr (arW E Ae 30 fe) (z_spr (arW E An 30 fn) (z_spr (arW E At 30 ft) (z_spr (arW E Ap 18 fp) (z_spr (arW E Aw 16 fw) (z_spr (arW E Ar 30 fr) (z_spr (arW E Ac 24 fc) (z_sp2 (z_all (xoW E a b)) (z_sp2 (z_all (hsW E (zh a 1) v)) (z_sp2 (z_all (rdW E (zh a 30) w)) (z_sp2 (z_all (hiW E (zh a 33) u)) (z_all (slW E b q)))))))))))))))
                            refine z_callp X hW hr hp_490 (fun x h => z_runV (As := [.int x14, .int 1]) (rest := []) X hW hp_490 (c_X7_owed l E a b v w u q x14 1 x h _) hy_X7_owed 9 7 (C := RX7) (T := TX7) (N := 5) rfl rfl rfl gL_isSo_X7_owed rfl rfl ⟨by decide, by decide⟩ rfl hl rfl rfl (Nat.le_of_ble_eq_true rfl) dL_isSo_490 ⟨Nat.zero_le _, Nat.zero_le _⟩) (fun t490 H locs hr hW => ?_)
                            refine lv_iload X.1 X.2.1 dL_isSo_493 (lv_at hl 14 rfl) ?_
                            refine lv_aload_n X.1 X.2.1 dL_isSo_495 rfl (lv_at hl 2 rfl) ?_
                            refine lv_bipush (v := 16) X.1 X.2.1 dL_isSo_496 (by decide) ?_
                            refine z_ald X hW 0 hr rfl dL_isSo_498 (fun t498 hr => ?_)
                            obtain ⟨j_520, e_520, hr⟩ := zjn_some hr
                            have J_520 : ∀ (x11 : Int32) (x12 : Int32) (x13 : Int32) (x14 : Int32) (x15 : Int32) (x16 : Int32) (s0 : Int32) (s1 : Int32) (H : Heap) (locs : List Loc) (ls : Array Slot), j_520 x11 x12 x13 x14 x15 x16 s0 s1 = some r → zW E A s ((arW E Aq 19 fq) ++ ((arW E Aa 30 fa) ++ ((arW E Ae 30 fe) ++ ((arW E An 30 fn) ++ ((arW E At 30 ft) ++ ((arW E Ap 18 fp) ++ ((arW E Aw 16 fw) ++ ((arW E Ar 30 fr) ++ ((arW E Ac 24 fc) ++ ((xoW E a b) ++ ((hsW E (zh a 1) v) ++ ((rdW E (zh a 30) w) ++ ((hiW E (zh a 33) u) ++ (slW E b q)))))))))))))) H locs → lv_has ls 21 [(0, .ref (a 0)), (1, .int p1), (2, .ref (Aq 0)), (3, .ref (Aa 0)), (4, .ref (Ae 0)), (5, .ref (An 0)), (6, .ref (At 0)), (7, .ref (Ap 0)), (8, .ref (Aw 0)), (9, .ref (Ar 0)), (10, .ref (Ac 0)), (11, .int x11), (12, .int x12), (13, .int x13), (14, .int x14), (15, .int x15), (16, .int x16)] → W p l e rm_L_isSo s m ([.ref (a 0), .int p1, .ref (Aq 0), .ref (Aa 0), .ref (Ae 0), .ref (An 0), .ref (At 0), .ref (Ap 0), .ref (Aw 0), .ref (Ar 0), .ref (Ac 0)] : List Value).toArray below meth c H locs 0 0 (MQ below (zQi E A r ((arW E Aq 19 fq) ++ ((arW E Aa 30 fa) ++ ((arW E Ae 30 fe) ++ ((arW E An 30 fn) ++ ((arW E At 30 ft) ++ ((arW E Ap 18 fp) ++ ((arW E Aw 16 fw) ++ ((arW E Ar 30 fr) ++ ((arW E Ac 24 fc) ++ ((xoW E a b) ++ ((hsW E (zh a 1) v) ++ ((rdW E (zh a 30) w) ++ ((hiW E (zh a 33) u) ++ (slW E b q))))))))))))))) ([.ref (a 0), .int p1, .ref (Aq 0), .ref (Aa 0), .ref (Ae 0), .ref (An 0), .ref (At 0), .ref (Ap 0), .ref (Aw 0), .ref (Ar 0), .ref (Ac 0)] : List Value).toArray s 0 0 A) (F0 m 520 ls [.int s0, .int s1]) := by
                              intro x11 x12 x13 x14 x15 x16 s0 s1 H locs ls hr hW hl
                              rw [e_520] at hr
                              refine z_cmpne X 587 hr dL_isSo_520 (by decide) (fun hr => ?_) (fun hr => ?_)
                              · exact J_587 x11 x12 x13 x14 x15 x16 _ _ _ hr hW (lv_sub hl [0, 1, 2, 3, 4, 5, 6, 7, 8, 9, 10, 11, 12, 13, 14, 15, 16] rfl)
                              · refine lv_aload_n X.1 X.2.1 dL_isSo_523 rfl (lv_at hl 0 rfl) ?_
                                refine lv_iload X.1 X.2.1 dL_isSo_524 (lv_at hl 14 rfl) ?_
                                refine lv_iload X.1 X.2.1 dL_isSo_526 (lv_at hl 13 rfl) ?_
                                refine lv_iconst (v := 4) X.1 X.2.1 dL_isSo_528 (by decide) ?_
                                refine z_irem X hr dL_isSo_529 (fun t529 hr => ?_)
                                have hp_530 := (z_spr (arW E Aq 19 fq) (z_spr (arW E Aa 30 fa) (z_spr (arW E Ae 30 fe) (z_spr (arW E An 30 fn) (z_spr (arW E At 30 ft) (z_spr (arW E Ap 18 fp) (z_spr (arW E Aw 16 fw) (z_spr (arW E Ar 30 fr) (z_spr (arW E Ac 24 fc) (z_sp2 (z_all (xoW E a b)) (z_sp2 (z_all (hsW E (zh a 1) v)) (z_sp2 (z_all (rdW E (zh a 30) w)) (z_sp2 (z_all (hiW E (zh a 33) u)) (z_all (slW E b q)))))))))))))))
                                refine z_callp X hW hr hp_530 (fun x h => z_runV (As := [.int x14, .int t529]) (rest := []) X hW hp_530 (c_X7_record l E a b v w u q x14 t529 x h _) hy_X7_record 9 7 (C := RX7) (T := TX7) (N := 5) rfl rfl rfl gL_isSo_X7_record rfl rfl ⟨by decide, by decide⟩ rfl hl rfl rfl (Nat.le_of_ble_eq_true rfl) dL_isSo_530 ⟨Nat.zero_le _, Nat.zero_le _⟩) (fun t530 H locs hr hW => ?_)
                                refine lv_iload X.1 X.2.1 dL_isSo_533 (lv_at hl 14 rfl) ?_
                                refine lv_aload_n X.1 X.2.1 dL_isSo_535 rfl (lv_at hl 2 rfl) ?_
                                refine lv_bipush (v := 18) X.1 X.2.1 dL_isSo_536 (by decide) ?_
                                refine z_ald X hW 0 hr rfl dL_isSo_538 (fun t538 hr => ?_)
                                obtain ⟨j_558, e_558, hr⟩ := zjn_some hr
                                have J_558 : ∀ (x11 : Int32) (x12 : Int32) (x13 : Int32) (x14 : Int32) (x15 : Int32) (x16 : Int32) (s0 : Int32) (s1 : Int32) (H : Heap) (locs : List Loc) (ls : Array Slot), j_558 x11 x12 x13 x14 x15 x16 s0 s1 = some r → zW E A s ((arW E Aq 19 fq) ++ ((arW E Aa 30 fa) ++ ((arW E Ae 30 fe) ++ ((arW E An 30 fn) ++ ((arW E At 30 ft) ++ ((arW E Ap 18 fp) ++ ((arW E Aw 16 fw) ++ ((arW E Ar 30 fr) ++ ((arW E Ac 24 fc) ++ ((xoW E a b) ++ ((hsW E (zh a 1) v) ++ ((rdW E (zh a 30) w) ++ ((hiW E (zh a 33) u) ++ (slW E b q)))))))))))))) H locs → lv_has ls 21 [(0, .ref (a 0)), (1, .int p1), (2, .ref (Aq 0)), (3, .ref (Aa 0)), (4, .ref (Ae 0)), (5, .ref (An 0)), (6, .ref (At 0)), (7, .ref (Ap 0)), (8, .ref (Aw 0)), (9, .ref (Ar 0)), (10, .ref (Ac 0)), (11, .int x11), (12, .int x12), (13, .int x13), (14, .int x14), (15, .int x15), (16, .int x16)] → W p l e rm_L_isSo s m ([.ref (a 0), .int p1, .ref (Aq 0), .ref (Aa 0), .ref (Ae 0), .ref (An 0), .ref (At 0), .ref (Ap 0), .ref (Aw 0), .ref (Ar 0), .ref (Ac 0)] : List Value).toArray below meth c H locs 0 0 (MQ below (zQi E A r ((arW E Aq 19 fq) ++ ((arW E Aa 30 fa) ++ ((arW E Ae 30 fe) ++ ((arW E An 30 fn) ++ ((arW E At 30 ft) ++ ((arW E Ap 18 fp) ++ ((arW E Aw 16 fw) ++ ((arW E Ar 30 fr) ++ ((arW E Ac 24 fc) ++ ((xoW E a b) ++ ((hsW E (zh a 1) v) ++ ((rdW E (zh a 30) w) ++ ((hiW E (zh a 33) u) ++ (slW E b q))))))))))))))) ([.ref (a 0), .int p1, .ref (Aq 0), .ref (Aa 0), .ref (Ae 0), .ref (An 0), .ref (At 0), .ref (Ap 0), .ref (Aw 0), .ref (Ar 0), .ref (Ac 0)] : List Value).toArray s 0 0 A) (F0 m 558 ls [.int s0, .int s1]) := by
                                  intro x11 x12 x13 x14 x15 x16 s0 s1 H locs ls hr hW hl
                                  rw [e_558] at hr
                                  refine z_cmpne X 587 hr dL_isSo_558 (by decide) (fun hr => ?_) (fun hr => ?_)
                                  · exact J_587 x11 x12 x13 x14 x15 x16 _ _ _ hr hW (lv_sub hl [0, 1, 2, 3, 4, 5, 6, 7, 8, 9, 10, 11, 12, 13, 14, 15, 16] rfl)
                                  · refine lv_aload_n X.1 X.2.1 dL_isSo_561 rfl (lv_at hl 0 rfl) ?_
                                    refine lv_iconst (v := 1) X.1 X.2.1 dL_isSo_562 (by decide) ?_
                                    refine lv_iload X.1 X.2.1 dL_isSo_563 (lv_at hl 14 rfl) ?_
                                    refine z_iadd X hr dL_isSo_565 (fun t565 hr => ?_)
                                    have hp_566 := (z_spr (arW E Aq 19 fq) (z_spr (arW E Aa 30 fa) (z_spr (arW E Ae 30 fe) (z_spr (arW E An 30 fn) (z_spr (arW E At 30 ft) (z_spr (arW E Ap 18 fp) (z_spr (arW E Aw 16 fw) (z_spr (arW E Ar 30 fr) (z_spr (arW E Ac 24 fc) (z_sp2 (z_all (xoW E a b)) (z_sp2 (z_all (hsW E (zh a 1) v)) (z_sp2 (z_all (rdW E (zh a 30) w)) (z_sp2 (z_all (hiW E (zh a 33) u)) (z_all (slW E b q)))))))))))))))
                                    refine z_callp X hW hr hp_566 (fun x h => z_runV (As := [.int t565]) (rest := []) X hW hp_566 (c_X7_ifFound l E a b v w u q t565 x h _) hy_X7_ifFound 9 7 (C := RX7) (T := TX7) (N := 5) rfl rfl rfl gL_isSo_X7_ifFound rfl rfl ⟨by decide, by decide⟩ rfl hl rfl rfl (Nat.le_of_ble_eq_true rfl) dL_isSo_566 ⟨Nat.zero_le _, Nat.zero_le _⟩) (fun t566 H locs hr hW => ?_)
                                    refine lv_iconst (v := 0) X.1 X.2.1 dL_isSo_569 (by decide) ?_
                                    refine lv_iconst (v := 1) X.1 X.2.1 dL_isSo_570 (by decide) ?_
                                    refine lv_iload X.1 X.2.1 dL_isSo_571 (lv_at hl 14 rfl) ?_
                                    refine z_iadd X hr dL_isSo_573 (fun t573 hr => ?_)
                                    refine lv_aload_n X.1 X.2.1 dL_isSo_574 rfl (lv_at hl 3 rfl) ?_
                                    refine lv_aload X.1 X.2.1 dL_isSo_575 (lv_at hl 4 rfl) ?_
                                    have hp_577 := (z_spr (arW E Aq 19 fq) (z_sp2 (z_all (arW E Aa 30 fa)) (z_spl ((arW E An 30 fn) ++ ((arW E At 30 ft) ++ ((arW E Ap 18 fp) ++ ((arW E Aw 16 fw) ++ ((arW E Ar 30 fr) ++ ((arW E Ac 24 fc) ++ ((xoW E a b) ++ ((hsW E (zh a 1) v) ++ ((rdW E (zh a 30) w) ++ ((hiW E (zh a 33) u) ++ (slW E b q))))))))))) (z_all (arW E Ae 30 fe)))))
                                    refine z_callp X hW hr hp_577 (fun x h => z_runS (As := [.int 0, .int t573, .ref (Aa 0), .ref (Ae 0)]) (rest := [.int t566]) X hW hp_577 (c_L_seats l E Aa Ae fa fe 0 t573 x h _) hy_L_seats gL_isSo_L_seats rfl rfl ⟨by decide, by decide⟩ rfl hl rfl rfl (Nat.le_of_ble_eq_true rfl) dL_isSo_577 ⟨Nat.zero_le _, Nat.zero_le _⟩) (fun t577 H locs hr hW => ?_)
                                    refine z_cmpne X 587 hr dL_isSo_580 (by decide) (fun hr => ?_) (fun hr => ?_)
                                    · exact J_587 x11 x12 x13 x14 x15 x16 _ _ _ hr hW (lv_sub hl [0, 1, 2, 3, 4, 5, 6, 7, 8, 9, 10, 11, 12, 13, 14, 15, 16] rfl)
                                    · refine lv_iconst (v := 1) X.1 X.2.1 dL_isSo_583 (by decide) ?_
                                      refine lv_goto (tgt := 588) X.1 X.2.1 dL_isSo_584 (by decide) ?_
                                      exact J_588 x11 x12 x13 x14 x15 x16 1 _ _ _ hr hW (lv_sub hl [0, 1, 2, 3, 4, 5, 6, 7, 8, 9, 10, 11, 12, 13, 14, 15, 16] rfl)
                                refine z_cmpge X 557 hr dL_isSo_539 (by decide) (fun hr => ?_) (fun hr => ?_)
                                · refine lv_iconst (v := (-1)) X.1 X.2.1 dL_isSo_557 (by decide) ?_
                                  exact J_558 x11 x12 x13 x14 x15 x16 (-1) t530 _ _ _ hr hW (lv_sub hl [0, 1, 2, 3, 4, 5, 6, 7, 8, 9, 10, 11, 12, 13, 14, 15, 16] rfl)
                                · refine lv_aload X.1 X.2.1 dL_isSo_542 (lv_at hl 10 rfl) ?_
                                  refine lv_iconst (v := 4) X.1 X.2.1 dL_isSo_544 (by decide) ?_
                                  refine lv_iload X.1 X.2.1 dL_isSo_545 (lv_at hl 14 rfl) ?_
                                  refine z_imul X hr dL_isSo_547 (fun t547 hr => ?_)
                                  refine lv_iload X.1 X.2.1 dL_isSo_548 (lv_at hl 13 rfl) ?_
                                  refine lv_iconst (v := 4) X.1 X.2.1 dL_isSo_550 (by decide) ?_
                                  refine z_irem X hr dL_isSo_551 (fun t551 hr => ?_)
                                  refine z_iadd X hr dL_isSo_552 (fun t552 hr => ?_)
                                  refine z_ald X hW 8 hr rfl dL_isSo_553 (fun t553 hr => ?_)
                                  refine lv_goto (tgt := 558) X.1 X.2.1 dL_isSo_554 (by decide) ?_
                                  exact J_558 x11 x12 x13 x14 x15 x16 t553 t530 _ _ _ hr hW (lv_sub hl [0, 1, 2, 3, 4, 5, 6, 7, 8, 9, 10, 11, 12, 13, 14, 15, 16] rfl)
                            refine z_cmpge X 519 hr dL_isSo_499 (by decide) (fun hr => ?_) (fun hr => ?_)
                            · refine lv_iconst (v := (-1)) X.1 X.2.1 dL_isSo_519 (by decide) ?_
                              exact J_520 x11 x12 x13 x14 x15 x16 (-1) t490 _ _ _ hr hW (lv_sub hl [0, 1, 2, 3, 4, 5, 6, 7, 8, 9, 10, 11, 12, 13, 14, 15, 16] rfl)
                            · refine lv_aload_n X.1 X.2.1 dL_isSo_502 rfl (lv_at hl 2 rfl) ?_
                              refine lv_bipush (v := 7) X.1 X.2.1 dL_isSo_503 (by decide) ?_
                              refine z_ald X hW 0 hr rfl dL_isSo_505 (fun t505 hr => ?_)
                              refine lv_aload X.1 X.2.1 dL_isSo_506 (lv_at hl 8 rfl) ?_
                              refine lv_iconst (v := 2) X.1 X.2.1 dL_isSo_508 (by decide) ?_
                              refine lv_iload X.1 X.2.1 dL_isSo_509 (lv_at hl 14 rfl) ?_
                              refine z_imul X hr dL_isSo_511 (fun t511 hr => ?_)
                              refine lv_iconst (v := 1) X.1 X.2.1 dL_isSo_512 (by decide) ?_
                              refine z_iadd X hr dL_isSo_513 (fun t513 hr => ?_)
                              refine z_ald X hW 6 hr rfl dL_isSo_514 (fun t514 hr => ?_)
                              refine z_isub X hr dL_isSo_515 (fun t515 hr => ?_)
                              refine lv_goto (tgt := 520) X.1 X.2.1 dL_isSo_516 (by decide) ?_
                              exact J_520 x11 x12 x13 x14 x15 x16 t515 t490 _ _ _ hr hW (lv_sub hl [0, 1, 2, 3, 4, 5, 6, 7, 8, 9, 10, 11, 12, 13, 14, 15, 16] rfl)
                        refine z_cmpge X 482 hr dL_isSo_469 (by decide) (fun hr => ?_) (fun hr => ?_)
                        · refine lv_iconst (v := (-1)) X.1 X.2.1 dL_isSo_482 (by decide) ?_
                          exact J_483 x11 s0 x13 x14 x15 x16 (-1) t460 _ _ _ hr hW (lv_sub hl [1, 2, 3, 4, 5, 6, 7, 8, 9, 10, 11, 12, 0, 13, 14, 15, 16] rfl)
                        · refine lv_aload X.1 X.2.1 dL_isSo_472 (lv_at hl 9 rfl) ?_
                          refine lv_iconst (v := 2) X.1 X.2.1 dL_isSo_474 (by decide) ?_
                          refine lv_iload X.1 X.2.1 dL_isSo_475 (lv_at hl 14 rfl) ?_
                          refine z_imul X hr dL_isSo_477 (fun t477 hr => ?_)
                          refine z_ald X hW 6 hr rfl dL_isSo_478 (fun t478 hr => ?_)
                          refine lv_goto (tgt := 483) X.1 X.2.1 dL_isSo_479 (by decide) ?_
                          exact J_483 x11 s0 x13 x14 x15 x16 t478 t460 _ _ _ hr hW (lv_sub hl [1, 2, 3, 4, 5, 6, 7, 8, 9, 10, 11, 12, 0, 13, 14, 15, 16] rfl)
                    obtain ⟨j_448, e_448, hr⟩ := zjn_some hr
                    have J_448 : ∀ (x11 : Int32) (x12 : Int32) (x13 : Int32) (x14 : Int32) (x15 : Int32) (x16 : Int32) (H : Heap) (locs : List Loc) (ls : Array Slot), j_448 x11 x12 x13 x14 x15 x16 = some r → zW E A s ((arW E Aq 19 fq) ++ ((arW E Aa 30 fa) ++ ((arW E Ae 30 fe) ++ ((arW E An 30 fn) ++ ((arW E At 30 ft) ++ ((arW E Ap 18 fp) ++ ((arW E Aw 16 fw) ++ ((arW E Ar 30 fr) ++ ((arW E Ac 24 fc) ++ ((xoW E a b) ++ ((hsW E (zh a 1) v) ++ ((rdW E (zh a 30) w) ++ ((hiW E (zh a 33) u) ++ (slW E b q)))))))))))))) H locs → lv_has ls 21 [(0, .ref (a 0)), (1, .int p1), (2, .ref (Aq 0)), (3, .ref (Aa 0)), (4, .ref (Ae 0)), (5, .ref (An 0)), (6, .ref (At 0)), (7, .ref (Ap 0)), (8, .ref (Aw 0)), (9, .ref (Ar 0)), (10, .ref (Ac 0)), (11, .int x11), (12, .int x12), (13, .int x13), (14, .int x14), (15, .int x15), (16, .int x16)] → W p l e rm_L_isSo s m ([.ref (a 0), .int p1, .ref (Aq 0), .ref (Aa 0), .ref (Ae 0), .ref (An 0), .ref (At 0), .ref (Ap 0), .ref (Aw 0), .ref (Ar 0), .ref (Ac 0)] : List Value).toArray below meth c H locs 0 0 (MQ below (zQi E A r ((arW E Aq 19 fq) ++ ((arW E Aa 30 fa) ++ ((arW E Ae 30 fe) ++ ((arW E An 30 fn) ++ ((arW E At 30 ft) ++ ((arW E Ap 18 fp) ++ ((arW E Aw 16 fw) ++ ((arW E Ar 30 fr) ++ ((arW E Ac 24 fc) ++ ((xoW E a b) ++ ((hsW E (zh a 1) v) ++ ((rdW E (zh a 30) w) ++ ((hiW E (zh a 33) u) ++ (slW E b q))))))))))))))) ([.ref (a 0), .int p1, .ref (Aq 0), .ref (Aa 0), .ref (Ae 0), .ref (An 0), .ref (At 0), .ref (Ap 0), .ref (Aw 0), .ref (Ar 0), .ref (Ac 0)] : List Value).toArray s 0 0 A) (F0 m 448 ls []) := by
                      intro x11 x12 x13 x14 x15 x16 H locs ls hr hW hl
                      rw [e_448] at hr
                      refine lv_iconst (v := 0) X.1 X.2.1 dL_isSo_448 (by decide) ?_
                      exact J_449 x11 x12 x13 x14 x15 x16 0 _ _ _ hr hW (lv_sub hl [0, 1, 2, 3, 4, 5, 6, 7, 8, 9, 10, 11, 12, 13, 14, 15, 16] rfl)
                    refine z_ifeq X 448 hr dL_isSo_337 (by decide) (fun hr => ?_) (fun hr => ?_)
                    · exact J_448 x11 x12 x13 x14 x15 s0 _ _ _ hr hW (lv_sub hl [1, 2, 3, 4, 5, 6, 7, 8, 9, 10, 11, 12, 13, 14, 15, 16, 0] rfl)
                    · refine lv_aload_n X.1 X.2.1 dL_isSo_340 rfl (lv_at hl 1 rfl) ?_
                      refine lv_iload X.1 X.2.1 dL_isSo_341 (lv_at hl 14 rfl) ?_
                      refine lv_iconst (v := 0) X.1 X.2.1 dL_isSo_343 (by decide) ?_
                      have hp_344 := (z_spr (arW E Aq 19 fq) (z_spr (arW E Aa 30 fa) (z_spr (arW E Ae 30 fe) (z_spr (arW E An 30 fn) (z_spr (arW E At 30 ft) (z_spr (arW E Ap 18 fp) (z_spr (arW E Aw 16 fw) (z_spr (arW E Ar 30 fr) (z_spr (arW E Ac 24 fc) (z_sp2 (z_all (xoW E a b)) (z_sp2 (z_all (hsW E (zh a 1) v)) (z_sp2 (z_all (rdW E (zh a 30) w)) (z_sp2 (z_all (hiW E (zh a 33) u)) (z_all (slW E b q)))))))))))))))
                      refine z_callp X hW hr hp_344 (fun x h => z_runV (As := [.int x13, .int 0]) (rest := []) X hW hp_344 (c_X7_performer l E a b v w u q x13 0 x h _) hy_X7_performer 9 7 (C := RX7) (T := TX7) (N := 5) rfl rfl rfl gL_isSo_X7_performer rfl rfl ⟨by decide, by decide⟩ rfl hl rfl rfl (Nat.le_of_ble_eq_true rfl) dL_isSo_344 ⟨Nat.zero_le _, Nat.zero_le _⟩) (fun t344 H locs hr hW => ?_)
                      refine lv_iload X.1 X.2.1 dL_isSo_347 (lv_at hl 14 rfl) ?_
                      refine lv_aload_n X.1 X.2.1 dL_isSo_349 rfl (lv_at hl 3 rfl) ?_
                      refine lv_aload X.1 X.2.1 dL_isSo_350 (lv_at hl 9 rfl) ?_
                      have hp_352 := (z_sp2 (z_all (arW E Aq 19 fq)) (z_spr (arW E Aa 30 fa) (z_spr (arW E Ae 30 fe) (z_spr (arW E An 30 fn) (z_spr (arW E At 30 ft) (z_spr (arW E Ap 18 fp) (z_spl ((arW E Ar 30 fr) ++ ((arW E Ac 24 fc) ++ ((xoW E a b) ++ ((hsW E (zh a 1) v) ++ ((rdW E (zh a 30) w) ++ ((hiW E (zh a 33) u) ++ (slW E b q))))))) (z_all (arW E Aw 16 fw)))))))))
                      refine z_callp X hW hr hp_352 (fun x h => z_runS (As := [.int x13, .ref (Aq 0), .ref (Aw 0)]) (rest := [.int t344]) X hW hp_352 (c_L_owes l E Aq Aw fq fw x13 x h _) hy_L_owes gL_isSo_L_owes rfl rfl ⟨by decide, by decide⟩ rfl hl rfl rfl (Nat.le_of_ble_eq_true rfl) dL_isSo_352 ⟨Nat.zero_le _, Nat.zero_le _⟩) (fun t352 H locs hr hW => ?_)
                      refine z_cmpne X 448 hr dL_isSo_355 (by decide) (fun hr => ?_) (fun hr => ?_)
                      · exact J_448 x11 x12 x13 x14 x15 s0 _ _ _ hr hW (lv_sub hl [1, 2, 3, 4, 5, 6, 7, 8, 9, 10, 11, 12, 13, 14, 15, 16, 0] rfl)
                      · refine lv_aload_n X.1 X.2.1 dL_isSo_358 rfl (lv_at hl 1 rfl) ?_
                        refine lv_iload X.1 X.2.1 dL_isSo_359 (lv_at hl 14 rfl) ?_
                        refine lv_iconst (v := 1) X.1 X.2.1 dL_isSo_361 (by decide) ?_
                        have hp_362 := (z_spr (arW E Aq 19 fq) (z_spr (arW E Aa 30 fa) (z_spr (arW E Ae 30 fe) (z_spr (arW E An 30 fn) (z_spr (arW E At 30 ft) (z_spr (arW E Ap 18 fp) (z_spr (arW E Aw 16 fw) (z_spr (arW E Ar 30 fr) (z_spr (arW E Ac 24 fc) (z_sp2 (z_all (xoW E a b)) (z_sp2 (z_all (hsW E (zh a 1) v)) (z_sp2 (z_all (rdW E (zh a 30) w)) (z_sp2 (z_all (hiW E (zh a 33) u)) (z_all (slW E b q)))))))))))))))
                        refine z_callp X hW hr hp_362 (fun x h => z_runV (As := [.int x13, .int 1]) (rest := []) X hW hp_362 (c_X7_performer l E a b v w u q x13 1 x h _) hy_X7_performer 9 7 (C := RX7) (T := TX7) (N := 5) rfl rfl rfl gL_isSo_X7_performer rfl rfl ⟨by decide, by decide⟩ rfl hl rfl rfl (Nat.le_of_ble_eq_true rfl) dL_isSo_362 ⟨Nat.zero_le _, Nat.zero_le _⟩) (fun t362 H locs hr hW => ?_)
                        refine lv_aload X.1 X.2.1 dL_isSo_365 (lv_at hl 8 rfl) ?_
                        refine lv_iconst (v := 3) X.1 X.2.1 dL_isSo_367 (by decide) ?_
                        refine lv_iload X.1 X.2.1 dL_isSo_368 (lv_at hl 14 rfl) ?_
                        refine z_imul X hr dL_isSo_370 (fun t370 hr => ?_)
                        refine z_ald X hW 5 hr rfl dL_isSo_371 (fun t371 hr => ?_)
                        refine z_cmpne X 448 hr dL_isSo_372 (by decide) (fun hr => ?_) (fun hr => ?_)
                        · exact J_448 x11 x12 x13 x14 x15 s0 _ _ _ hr hW (lv_sub hl [1, 2, 3, 4, 5, 6, 7, 8, 9, 10, 11, 12, 13, 14, 15, 16, 0] rfl)
                        · refine lv_aload_n X.1 X.2.1 dL_isSo_375 rfl (lv_at hl 1 rfl) ?_
                          refine lv_iload X.1 X.2.1 dL_isSo_376 (lv_at hl 14 rfl) ?_
                          refine lv_iconst (v := 2) X.1 X.2.1 dL_isSo_378 (by decide) ?_
                          have hp_379 := (z_spr (arW E Aq 19 fq) (z_spr (arW E Aa 30 fa) (z_spr (arW E Ae 30 fe) (z_spr (arW E An 30 fn) (z_spr (arW E At 30 ft) (z_spr (arW E Ap 18 fp) (z_spr (arW E Aw 16 fw) (z_spr (arW E Ar 30 fr) (z_spr (arW E Ac 24 fc) (z_sp2 (z_all (xoW E a b)) (z_sp2 (z_all (hsW E (zh a 1) v)) (z_sp2 (z_all (rdW E (zh a 30) w)) (z_sp2 (z_all (hiW E (zh a 33) u)) (z_all (slW E b q)))))))))))))))
                          refine z_callp X hW hr hp_379 (fun x h => z_runV (As := [.int x13, .int 2]) (rest := []) X hW hp_379 (c_X7_performer l E a b v w u q x13 2 x h _) hy_X7_performer 9 7 (C := RX7) (T := TX7) (N := 5) rfl rfl rfl gL_isSo_X7_performer rfl rfl ⟨by decide, by decide⟩ rfl hl rfl rfl (Nat.le_of_ble_eq_true rfl) dL_isSo_379 ⟨Nat.zero_le _, Nat.zero_le _⟩) (fun t379 H locs hr hW => ?_)
                          refine lv_aload X.1 X.2.1 dL_isSo_382 (lv_at hl 8 rfl) ?_
                          refine lv_iconst (v := 3) X.1 X.2.1 dL_isSo_384 (by decide) ?_
                          refine lv_iload X.1 X.2.1 dL_isSo_385 (lv_at hl 14 rfl) ?_
                          refine z_imul X hr dL_isSo_387 (fun t387 hr => ?_)
                          refine lv_iconst (v := 1) X.1 X.2.1 dL_isSo_388 (by decide) ?_
                          refine z_iadd X hr dL_isSo_389 (fun t389 hr => ?_)
                          refine z_ald X hW 5 hr rfl dL_isSo_390 (fun t390 hr => ?_)
                          refine z_cmpne X 448 hr dL_isSo_391 (by decide) (fun hr => ?_) (fun hr => ?_)
                          · exact J_448 x11 x12 x13 x14 x15 s0 _ _ _ hr hW (lv_sub hl [1, 2, 3, 4, 5, 6, 7, 8, 9, 10, 11, 12, 13, 14, 15, 16, 0] rfl)
                          · refine lv_aload_n X.1 X.2.1 dL_isSo_394 rfl (lv_at hl 1 rfl) ?_
                            refine lv_iload X.1 X.2.1 dL_isSo_395 (lv_at hl 14 rfl) ?_
                            refine lv_iconst (v := 3) X.1 X.2.1 dL_isSo_397 (by decide) ?_
                            have hp_398 := (z_spr (arW E Aq 19 fq) (z_spr (arW E Aa 30 fa) (z_spr (arW E Ae 30 fe) (z_spr (arW E An 30 fn) (z_spr (arW E At 30 ft) (z_spr (arW E Ap 18 fp) (z_spr (arW E Aw 16 fw) (z_spr (arW E Ar 30 fr) (z_spr (arW E Ac 24 fc) (z_sp2 (z_all (xoW E a b)) (z_sp2 (z_all (hsW E (zh a 1) v)) (z_sp2 (z_all (rdW E (zh a 30) w)) (z_sp2 (z_all (hiW E (zh a 33) u)) (z_all (slW E b q)))))))))))))))
                            refine z_callp X hW hr hp_398 (fun x h => z_runV (As := [.int x13, .int 3]) (rest := []) X hW hp_398 (c_X7_performer l E a b v w u q x13 3 x h _) hy_X7_performer 9 7 (C := RX7) (T := TX7) (N := 5) rfl rfl rfl gL_isSo_X7_performer rfl rfl ⟨by decide, by decide⟩ rfl hl rfl rfl (Nat.le_of_ble_eq_true rfl) dL_isSo_398 ⟨Nat.zero_le _, Nat.zero_le _⟩) (fun t398 H locs hr hW => ?_)
                            refine lv_aload X.1 X.2.1 dL_isSo_401 (lv_at hl 8 rfl) ?_
                            refine lv_iconst (v := 3) X.1 X.2.1 dL_isSo_403 (by decide) ?_
                            refine lv_iload X.1 X.2.1 dL_isSo_404 (lv_at hl 14 rfl) ?_
                            refine z_imul X hr dL_isSo_406 (fun t406 hr => ?_)
                            refine lv_iconst (v := 2) X.1 X.2.1 dL_isSo_407 (by decide) ?_
                            refine z_iadd X hr dL_isSo_408 (fun t408 hr => ?_)
                            refine z_ald X hW 5 hr rfl dL_isSo_409 (fun t409 hr => ?_)
                            refine z_cmpne X 448 hr dL_isSo_410 (by decide) (fun hr => ?_) (fun hr => ?_)
                            · exact J_448 x11 x12 x13 x14 x15 s0 _ _ _ hr hW (lv_sub hl [1, 2, 3, 4, 5, 6, 7, 8, 9, 10, 11, 12, 13, 14, 15, 16, 0] rfl)
                            · refine lv_aload_n X.1 X.2.1 dL_isSo_413 rfl (lv_at hl 1 rfl) ?_
                              refine lv_iload X.1 X.2.1 dL_isSo_414 (lv_at hl 14 rfl) ?_
                              have hp_416 := (z_spr (arW E Aq 19 fq) (z_spr (arW E Aa 30 fa) (z_spr (arW E Ae 30 fe) (z_spr (arW E An 30 fn) (z_spr (arW E At 30 ft) (z_spr (arW E Ap 18 fp) (z_spr (arW E Aw 16 fw) (z_spr (arW E Ar 30 fr) (z_spr (arW E Ac 24 fc) (z_sp2 (z_all (xoW E a b)) (z_sp2 (z_all (hsW E (zh a 1) v)) (z_sp2 (z_all (rdW E (zh a 30) w)) (z_sp2 (z_all (hiW E (zh a 33) u)) (z_all (slW E b q)))))))))))))))
                              refine z_callp X hW hr hp_416 (fun x h => z_runV (As := [.int x13]) (rest := []) X hW hp_416 (c_X7_lapsesIn l E a b v w u q x13 x h _) hy_X7_lapsesIn 9 7 (C := RX7) (T := TX7) (N := 5) rfl rfl rfl gL_isSo_X7_lapsesIn rfl rfl ⟨by decide, by decide⟩ rfl hl rfl rfl (Nat.le_of_ble_eq_true rfl) dL_isSo_416 ⟨Nat.zero_le _, Nat.zero_le _⟩) (fun t416 H locs hr hW => ?_)
                              refine lv_iload X.1 X.2.1 dL_isSo_419 (lv_at hl 16 rfl) ?_
                              obtain ⟨j_441, e_441, hr⟩ := zjn_some hr
                              have J_441 : ∀ (x11 : Int32) (x12 : Int32) (x13 : Int32) (x14 : Int32) (x15 : Int32) (x16 : Int32) (s0 : Int32) (s1 : Int32) (H : Heap) (locs : List Loc) (ls : Array Slot), j_441 x11 x12 x13 x14 x15 x16 s0 s1 = some r → zW E A s ((arW E Aq 19 fq) ++ ((arW E Aa 30 fa) ++ ((arW E Ae 30 fe) ++ ((arW E An 30 fn) ++ ((arW E At 30 ft) ++ ((arW E Ap 18 fp) ++ ((arW E Aw 16 fw) ++ ((arW E Ar 30 fr) ++ ((arW E Ac 24 fc) ++ ((xoW E a b) ++ ((hsW E (zh a 1) v) ++ ((rdW E (zh a 30) w) ++ ((hiW E (zh a 33) u) ++ (slW E b q)))))))))))))) H locs → lv_has ls 21 [(0, .ref (a 0)), (1, .int p1), (2, .ref (Aq 0)), (3, .ref (Aa 0)), (4, .ref (Ae 0)), (5, .ref (An 0)), (6, .ref (At 0)), (7, .ref (Ap 0)), (8, .ref (Aw 0)), (9, .ref (Ar 0)), (10, .ref (Ac 0)), (11, .int x11), (12, .int x12), (13, .int x13), (14, .int x14), (15, .int x15), (16, .int x16)] → W p l e rm_L_isSo s m ([.ref (a 0), .int p1, .ref (Aq 0), .ref (Aa 0), .ref (Ae 0), .ref (An 0), .ref (At 0), .ref (Ap 0), .ref (Aw 0), .ref (Ar 0), .ref (Ac 0)] : List Value).toArray below meth c H locs 0 0 (MQ below (zQi E A r ((arW E Aq 19 fq) ++ ((arW E Aa 30 fa) ++ ((arW E Ae 30 fe) ++ ((arW E An 30 fn) ++ ((arW E At 30 ft) ++ ((arW E Ap 18 fp) ++ ((arW E Aw 16 fw) ++ ((arW E Ar 30 fr) ++ ((arW E Ac 24 fc) ++ ((xoW E a b) ++ ((hsW E (zh a 1) v) ++ ((rdW E (zh a 30) w) ++ ((hiW E (zh a 33) u) ++ (slW E b q))))))))))))))) ([.ref (a 0), .int p1, .ref (Aq 0), .ref (Aa 0), .ref (Ae 0), .ref (An 0), .ref (At 0), .ref (Ap 0), .ref (Aw 0), .ref (Ar 0), .ref (Ac 0)] : List Value).toArray s 0 0 A) (F0 m 441 ls [.int s0, .int s1]) := by
                                intro x11 x12 x13 x14 x15 x16 s0 s1 H locs ls hr hW hl
                                rw [e_441] at hr
                                refine z_cmpne X 448 hr dL_isSo_441 (by decide) (fun hr => ?_) (fun hr => ?_)
                                · exact J_448 x11 x12 x13 x14 x15 x16 _ _ _ hr hW (lv_sub hl [0, 1, 2, 3, 4, 5, 6, 7, 8, 9, 10, 11, 12, 13, 14, 15, 16] rfl)
                                · refine lv_iconst (v := 1) X.1 X.2.1 dL_isSo_444 (by decide) ?_
                                  refine lv_goto (tgt := 449) X.1 X.2.1 dL_isSo_445 (by decide) ?_
                                  exact J_449 x11 x12 x13 x14 x15 x16 1 _ _ _ hr hW (lv_sub hl [0, 1, 2, 3, 4, 5, 6, 7, 8, 9, 10, 11, 12, 13, 14, 15, 16] rfl)
                              refine z_ifge X 429 hr dL_isSo_421 (by decide) (fun hr => ?_) (fun hr => ?_)
                              · refine lv_iload X.1 X.2.1 dL_isSo_429 (lv_at hl 0 rfl) ?_
                                refine lv_iconst (v := 1) X.1 X.2.1 dL_isSo_431 (by decide) ?_
                                refine z_cmpge X 439 hr dL_isSo_432 (by decide) (fun hr => ?_) (fun hr => ?_)
                                · refine lv_iload X.1 X.2.1 dL_isSo_439 (lv_at hl 0 rfl) ?_
                                  exact J_441 x11 x12 x13 x14 x15 s0 s0 t416 _ _ _ hr hW (lv_sub hl [1, 2, 3, 4, 5, 6, 7, 8, 9, 10, 11, 12, 13, 14, 15, 16, 0] rfl)
                                · refine lv_iconst (v := 1) X.1 X.2.1 dL_isSo_435 (by decide) ?_
                                  refine lv_goto (tgt := 441) X.1 X.2.1 dL_isSo_436 (by decide) ?_
                                  exact J_441 x11 x12 x13 x14 x15 s0 1 t416 _ _ _ hr hW (lv_sub hl [1, 2, 3, 4, 5, 6, 7, 8, 9, 10, 11, 12, 13, 14, 15, 16, 0] rfl)
                              · refine lv_bipush (v := (-6)) X.1 X.2.1 dL_isSo_424 (by decide) ?_
                                refine lv_goto (tgt := 441) X.1 X.2.1 dL_isSo_426 (by decide) ?_
                                exact J_441 x11 x12 x13 x14 x15 s0 (-6) t416 _ _ _ hr hW (lv_sub hl [1, 2, 3, 4, 5, 6, 7, 8, 9, 10, 11, 12, 13, 14, 15, 16, 0] rfl)
                  refine z_ifge X 315 hr dL_isSo_307 (by decide) (fun hr => ?_) (fun hr => ?_)
                  · refine lv_aload_n X.1 X.2.1 dL_isSo_315 rfl (lv_at hl 5 rfl) ?_
                    refine lv_iconst (v := 2) X.1 X.2.1 dL_isSo_316 (by decide) ?_
                    refine z_ald X hW 0 hr rfl dL_isSo_317 (fun t317 hr => ?_)
                    refine lv_aload_n X.1 X.2.1 dL_isSo_318 rfl (lv_at hl 5 rfl) ?_
                    refine lv_bipush (v := 7) X.1 X.2.1 dL_isSo_319 (by decide) ?_
                    refine z_ald X hW 0 hr rfl dL_isSo_321 (fun t321 hr => ?_)
                    refine z_isub X hr dL_isSo_322 (fun t322 hr => ?_)
                    refine lv_aload X.1 X.2.1 dL_isSo_323 (lv_at hl 11 rfl) ?_
                    refine lv_iconst (v := 2) X.1 X.2.1 dL_isSo_325 (by decide) ?_
                    refine lv_iload X.1 X.2.1 dL_isSo_326 (lv_at hl 0 rfl) ?_
                    refine z_imul X hr dL_isSo_328 (fun t328 hr => ?_)
                    refine lv_iconst (v := 1) X.1 X.2.1 dL_isSo_329 (by decide) ?_
                    refine z_iadd X hr dL_isSo_330 (fun t330 hr => ?_)
                    refine z_ald X hW 6 hr rfl dL_isSo_331 (fun t331 hr => ?_)
                    refine z_iadd X hr dL_isSo_332 (fun t332 hr => ?_)
                    exact J_333 x11 x12 t280 t290 t300 t332 _ _ _ hr hW (lv_sub hl [3, 4, 5, 6, 7, 8, 9, 10, 11, 12, 13, 14, 15, 2, 1, 0] rfl)
                  · refine lv_bipush (v := (-6)) X.1 X.2.1 dL_isSo_310 (by decide) ?_
                    refine lv_goto (tgt := 333) X.1 X.2.1 dL_isSo_312 (by decide) ?_
                    exact J_333 x11 x12 t280 t290 t300 (-6) _ _ _ hr hW (lv_sub hl [3, 4, 5, 6, 7, 8, 9, 10, 11, 12, 13, 14, 15, 2, 1, 0] rfl)
                · refine lv_iload X.1 X.2.1 dL_isSo_243 (lv_at hl 12 rfl) ?_
                  obtain ⟨j_269, e_269, hr⟩ := zjn_some hr
                  have J_269 : ∀ (x11 : Int32) (x12 : Int32) (x13 : Int32) (s0 : Int32) (H : Heap) (locs : List Loc) (ls : Array Slot), j_269 x11 x12 x13 s0 = some r → zW E A s ((arW E Aq 19 fq) ++ ((arW E Aa 30 fa) ++ ((arW E Ae 30 fe) ++ ((arW E An 30 fn) ++ ((arW E At 30 ft) ++ ((arW E Ap 18 fp) ++ ((arW E Aw 16 fw) ++ ((arW E Ar 30 fr) ++ ((arW E Ac 24 fc) ++ ((xoW E a b) ++ ((hsW E (zh a 1) v) ++ ((rdW E (zh a 30) w) ++ ((hiW E (zh a 33) u) ++ (slW E b q)))))))))))))) H locs → lv_has ls 21 [(0, .ref (a 0)), (1, .int p1), (2, .ref (Aq 0)), (3, .ref (Aa 0)), (4, .ref (Ae 0)), (5, .ref (An 0)), (6, .ref (At 0)), (7, .ref (Ap 0)), (8, .ref (Aw 0)), (9, .ref (Ar 0)), (10, .ref (Ac 0)), (11, .int x11), (12, .int x12), (13, .int x13)] → W p l e rm_L_isSo s m ([.ref (a 0), .int p1, .ref (Aq 0), .ref (Aa 0), .ref (Ae 0), .ref (An 0), .ref (At 0), .ref (Ap 0), .ref (Aw 0), .ref (Ar 0), .ref (Ac 0)] : List Value).toArray below meth c H locs 0 0 (MQ below (zQi E A r ((arW E Aq 19 fq) ++ ((arW E Aa 30 fa) ++ ((arW E Ae 30 fe) ++ ((arW E An 30 fn) ++ ((arW E At 30 ft) ++ ((arW E Ap 18 fp) ++ ((arW E Aw 16 fw) ++ ((arW E Ar 30 fr) ++ ((arW E Ac 24 fc) ++ ((xoW E a b) ++ ((hsW E (zh a 1) v) ++ ((rdW E (zh a 30) w) ++ ((hiW E (zh a 33) u) ++ (slW E b q))))))))))))))) ([.ref (a 0), .int p1, .ref (Aq 0), .ref (Aa 0), .ref (Ae 0), .ref (An 0), .ref (At 0), .ref (Ap 0), .ref (Aw 0), .ref (Ar 0), .ref (Ac 0)] : List Value).toArray s 0 0 A) (F0 m 269 ls [.int s0]) := by
                    intro x11 x12 x13 s0 H locs ls hr hW hl
                    rw [e_269] at hr
                    refine lv_istore (lv' := [(12, .int s0), (0, .ref (a 0)), (1, .int p1), (2, .ref (Aq 0)), (3, .ref (Aa 0)), (4, .ref (Ae 0)), (5, .ref (An 0)), (6, .ref (At 0)), (7, .ref (Ap 0)), (8, .ref (Aw 0)), (9, .ref (Ar 0)), (10, .ref (Ac 0)), (11, .int x11), (13, .int x13)]) X.1 X.2.1 dL_isSo_269 hl (by decide) rfl (fun ls hl => ?_)
                    refine z_iinc X (fun x13_271 => [(13, .int x13_271), (12, .int s0), (0, .ref (a 0)), (1, .int p1), (2, .ref (Aq 0)), (3, .ref (Aa 0)), (4, .ref (Ae 0)), (5, .ref (An 0)), (6, .ref (At 0)), (7, .ref (Ap 0)), (8, .ref (Aw 0)), (9, .ref (Ar 0)), (10, .ref (Ac 0)), (11, .int x11)]) hr hl (k := 13) rfl (by decide) (fun _ => rfl) dL_isSo_271 (fun x13_271 ls hr hl => ?_)
                    refine lv_goto (tgt := 236) X.1 X.2.1 dL_isSo_274 (by decide) ?_
                    exact ih_236 x11 s0 x13_271 _ _ _ hr hW (lv_sub hl [2, 3, 4, 5, 6, 7, 8, 9, 10, 11, 12, 13, 1, 0] rfl)
                  obtain ⟨j_268, e_268, hr⟩ := zjn_some hr
                  have J_268 : ∀ (x11 : Int32) (x12 : Int32) (x13 : Int32) (H : Heap) (locs : List Loc) (ls : Array Slot), j_268 x11 x12 x13 = some r → zW E A s ((arW E Aq 19 fq) ++ ((arW E Aa 30 fa) ++ ((arW E Ae 30 fe) ++ ((arW E An 30 fn) ++ ((arW E At 30 ft) ++ ((arW E Ap 18 fp) ++ ((arW E Aw 16 fw) ++ ((arW E Ar 30 fr) ++ ((arW E Ac 24 fc) ++ ((xoW E a b) ++ ((hsW E (zh a 1) v) ++ ((rdW E (zh a 30) w) ++ ((hiW E (zh a 33) u) ++ (slW E b q)))))))))))))) H locs → lv_has ls 21 [(0, .ref (a 0)), (1, .int p1), (2, .ref (Aq 0)), (3, .ref (Aa 0)), (4, .ref (Ae 0)), (5, .ref (An 0)), (6, .ref (At 0)), (7, .ref (Ap 0)), (8, .ref (Aw 0)), (9, .ref (Ar 0)), (10, .ref (Ac 0)), (11, .int x11), (12, .int x12), (13, .int x13)] → W p l e rm_L_isSo s m ([.ref (a 0), .int p1, .ref (Aq 0), .ref (Aa 0), .ref (Ae 0), .ref (An 0), .ref (At 0), .ref (Ap 0), .ref (Aw 0), .ref (Ar 0), .ref (Ac 0)] : List Value).toArray below meth c H locs 0 0 (MQ below (zQi E A r ((arW E Aq 19 fq) ++ ((arW E Aa 30 fa) ++ ((arW E Ae 30 fe) ++ ((arW E An 30 fn) ++ ((arW E At 30 ft) ++ ((arW E Ap 18 fp) ++ ((arW E Aw 16 fw) ++ ((arW E Ar 30 fr) ++ ((arW E Ac 24 fc) ++ ((xoW E a b) ++ ((hsW E (zh a 1) v) ++ ((rdW E (zh a 30) w) ++ ((hiW E (zh a 33) u) ++ (slW E b q))))))))))))))) ([.ref (a 0), .int p1, .ref (Aq 0), .ref (Aa 0), .ref (Ae 0), .ref (An 0), .ref (At 0), .ref (Ap 0), .ref (Aw 0), .ref (Ar 0), .ref (Ac 0)] : List Value).toArray s 0 0 A) (F0 m 268 ls []) := by
                    intro x11 x12 x13 H locs ls hr hW hl
                    rw [e_268] at hr
                    refine lv_iconst (v := 0) X.1 X.2.1 dL_isSo_268 (by decide) ?_
                    exact J_269 x11 x12 x13 0 _ _ _ hr hW (lv_sub hl [0, 1, 2, 3, 4, 5, 6, 7, 8, 9, 10, 11, 12, 13] rfl)
                  refine z_ifeq X 268 hr dL_isSo_245 (by decide) (fun hr => ?_) (fun hr => ?_)
                  · exact J_268 x11 x12 x13 _ _ _ hr hW (lv_sub hl [0, 1, 2, 3, 4, 5, 6, 7, 8, 9, 10, 11, 12, 13] rfl)
                  · refine lv_aload_n X.1 X.2.1 dL_isSo_248 rfl (lv_at hl 0 rfl) ?_
                    refine lv_bipush (v := 13) X.1 X.2.1 dL_isSo_249 (by decide) ?_
                    refine lv_iload X.1 X.2.1 dL_isSo_251 (lv_at hl 13 rfl) ?_
                    refine z_iadd X hr dL_isSo_253 (fun t253 hr => ?_)
                    have hp_254 := (z_spr (arW E Aq 19 fq) (z_spr (arW E Aa 30 fa) (z_spr (arW E Ae 30 fe) (z_spr (arW E An 30 fn) (z_spr (arW E At 30 ft) (z_spr (arW E Ap 18 fp) (z_spr (arW E Aw 16 fw) (z_spr (arW E Ar 30 fr) (z_spr (arW E Ac 24 fc) (z_sp2 (z_all (xoW E a b)) (z_sp2 (z_all (hsW E (zh a 1) v)) (z_sp2 (z_all (rdW E (zh a 30) w)) (z_sp2 (z_all (hiW E (zh a 33) u)) (z_all (slW E b q)))))))))))))))
                    refine z_callp X hW hr hp_254 (fun x h => z_runV (As := [.int t253]) (rest := []) X hW hp_254 (c_X7_count l E a b v w u q t253 x h _) hy_X7_count 9 7 (C := RX7) (T := TX7) (N := 5) rfl rfl rfl gL_isSo_X7_count rfl rfl ⟨by decide, by decide⟩ rfl hl rfl rfl (Nat.le_of_ble_eq_true rfl) dL_isSo_254 ⟨Nat.zero_le _, Nat.zero_le _⟩) (fun t254 H locs hr hW => ?_)
                    refine lv_aload_n X.1 X.2.1 dL_isSo_257 rfl (lv_at hl 2 rfl) ?_
                    refine lv_iload X.1 X.2.1 dL_isSo_258 (lv_at hl 13 rfl) ?_
                    refine z_ald X hW 0 hr rfl dL_isSo_260 (fun t260 hr => ?_)
                    refine z_cmpne X 268 hr dL_isSo_261 (by decide) (fun hr => ?_) (fun hr => ?_)
                    · exact J_268 x11 x12 x13 _ _ _ hr hW (lv_sub hl [0, 1, 2, 3, 4, 5, 6, 7, 8, 9, 10, 11, 12, 13] rfl)
                    · refine lv_iconst (v := 1) X.1 X.2.1 dL_isSo_264 (by decide) ?_
                      refine lv_goto (tgt := 269) X.1 X.2.1 dL_isSo_265 (by decide) ?_
                      exact J_269 x11 x12 x13 1 _ _ _ hr hW (lv_sub hl [0, 1, 2, 3, 4, 5, 6, 7, 8, 9, 10, 11, 12, 13] rfl)
            exact L_236 _ x11 x12 0 _ _ _ hr hW (lv_sub hl [1, 2, 3, 4, 5, 6, 7, 8, 9, 10, 11, 12, 13, 0] rfl)
          · refine lv_iload X.1 X.2.1 dL_isSo_199 (lv_at hl 12 rfl) ?_
            obtain ⟨j_225, e_225, hr⟩ := zjn_some hr
            have J_225 : ∀ (x11 : Int32) (x12 : Int32) (x13 : Int32) (s0 : Int32) (H : Heap) (locs : List Loc) (ls : Array Slot), j_225 x11 x12 x13 s0 = some r → zW E A s ((arW E Aq 19 fq) ++ ((arW E Aa 30 fa) ++ ((arW E Ae 30 fe) ++ ((arW E An 30 fn) ++ ((arW E At 30 ft) ++ ((arW E Ap 18 fp) ++ ((arW E Aw 16 fw) ++ ((arW E Ar 30 fr) ++ ((arW E Ac 24 fc) ++ ((xoW E a b) ++ ((hsW E (zh a 1) v) ++ ((rdW E (zh a 30) w) ++ ((hiW E (zh a 33) u) ++ (slW E b q)))))))))))))) H locs → lv_has ls 21 [(0, .ref (a 0)), (1, .int p1), (2, .ref (Aq 0)), (3, .ref (Aa 0)), (4, .ref (Ae 0)), (5, .ref (An 0)), (6, .ref (At 0)), (7, .ref (Ap 0)), (8, .ref (Aw 0)), (9, .ref (Ar 0)), (10, .ref (Ac 0)), (11, .int x11), (12, .int x12), (13, .int x13)] → W p l e rm_L_isSo s m ([.ref (a 0), .int p1, .ref (Aq 0), .ref (Aa 0), .ref (Ae 0), .ref (An 0), .ref (At 0), .ref (Ap 0), .ref (Aw 0), .ref (Ar 0), .ref (Ac 0)] : List Value).toArray below meth c H locs 0 0 (MQ below (zQi E A r ((arW E Aq 19 fq) ++ ((arW E Aa 30 fa) ++ ((arW E Ae 30 fe) ++ ((arW E An 30 fn) ++ ((arW E At 30 ft) ++ ((arW E Ap 18 fp) ++ ((arW E Aw 16 fw) ++ ((arW E Ar 30 fr) ++ ((arW E Ac 24 fc) ++ ((xoW E a b) ++ ((hsW E (zh a 1) v) ++ ((rdW E (zh a 30) w) ++ ((hiW E (zh a 33) u) ++ (slW E b q))))))))))))))) ([.ref (a 0), .int p1, .ref (Aq 0), .ref (Aa 0), .ref (Ae 0), .ref (An 0), .ref (At 0), .ref (Ap 0), .ref (Aw 0), .ref (Ar 0), .ref (Ac 0)] : List Value).toArray s 0 0 A) (F0 m 225 ls [.int s0]) := by
              intro x11 x12 x13 s0 H locs ls hr hW hl
              rw [e_225] at hr
              refine lv_istore (lv' := [(12, .int s0), (0, .ref (a 0)), (1, .int p1), (2, .ref (Aq 0)), (3, .ref (Aa 0)), (4, .ref (Ae 0)), (5, .ref (An 0)), (6, .ref (At 0)), (7, .ref (Ap 0)), (8, .ref (Aw 0)), (9, .ref (Ar 0)), (10, .ref (Ac 0)), (11, .int x11), (13, .int x13)]) X.1 X.2.1 dL_isSo_225 hl (by decide) rfl (fun ls hl => ?_)
              refine z_iinc X (fun x13_227 => [(13, .int x13_227), (12, .int s0), (0, .ref (a 0)), (1, .int p1), (2, .ref (Aq 0)), (3, .ref (Aa 0)), (4, .ref (Ae 0)), (5, .ref (An 0)), (6, .ref (At 0)), (7, .ref (Ap 0)), (8, .ref (Aw 0)), (9, .ref (Ar 0)), (10, .ref (Ac 0)), (11, .int x11)]) hr hl (k := 13) rfl (by decide) (fun _ => rfl) dL_isSo_227 (fun x13_227 ls hr hl => ?_)
              refine lv_goto (tgt := 193) X.1 X.2.1 dL_isSo_230 (by decide) ?_
              exact ih_193 x11 s0 x13_227 _ _ _ hr hW (lv_sub hl [2, 3, 4, 5, 6, 7, 8, 9, 10, 11, 12, 13, 1, 0] rfl)
            obtain ⟨j_224, e_224, hr⟩ := zjn_some hr
            have J_224 : ∀ (x11 : Int32) (x12 : Int32) (x13 : Int32) (H : Heap) (locs : List Loc) (ls : Array Slot), j_224 x11 x12 x13 = some r → zW E A s ((arW E Aq 19 fq) ++ ((arW E Aa 30 fa) ++ ((arW E Ae 30 fe) ++ ((arW E An 30 fn) ++ ((arW E At 30 ft) ++ ((arW E Ap 18 fp) ++ ((arW E Aw 16 fw) ++ ((arW E Ar 30 fr) ++ ((arW E Ac 24 fc) ++ ((xoW E a b) ++ ((hsW E (zh a 1) v) ++ ((rdW E (zh a 30) w) ++ ((hiW E (zh a 33) u) ++ (slW E b q)))))))))))))) H locs → lv_has ls 21 [(0, .ref (a 0)), (1, .int p1), (2, .ref (Aq 0)), (3, .ref (Aa 0)), (4, .ref (Ae 0)), (5, .ref (An 0)), (6, .ref (At 0)), (7, .ref (Ap 0)), (8, .ref (Aw 0)), (9, .ref (Ar 0)), (10, .ref (Ac 0)), (11, .int x11), (12, .int x12), (13, .int x13)] → W p l e rm_L_isSo s m ([.ref (a 0), .int p1, .ref (Aq 0), .ref (Aa 0), .ref (Ae 0), .ref (An 0), .ref (At 0), .ref (Ap 0), .ref (Aw 0), .ref (Ar 0), .ref (Ac 0)] : List Value).toArray below meth c H locs 0 0 (MQ below (zQi E A r ((arW E Aq 19 fq) ++ ((arW E Aa 30 fa) ++ ((arW E Ae 30 fe) ++ ((arW E An 30 fn) ++ ((arW E At 30 ft) ++ ((arW E Ap 18 fp) ++ ((arW E Aw 16 fw) ++ ((arW E Ar 30 fr) ++ ((arW E Ac 24 fc) ++ ((xoW E a b) ++ ((hsW E (zh a 1) v) ++ ((rdW E (zh a 30) w) ++ ((hiW E (zh a 33) u) ++ (slW E b q))))))))))))))) ([.ref (a 0), .int p1, .ref (Aq 0), .ref (Aa 0), .ref (Ae 0), .ref (An 0), .ref (At 0), .ref (Ap 0), .ref (Aw 0), .ref (Ar 0), .ref (Ac 0)] : List Value).toArray s 0 0 A) (F0 m 224 ls []) := by
              intro x11 x12 x13 H locs ls hr hW hl
              rw [e_224] at hr
              refine lv_iconst (v := 0) X.1 X.2.1 dL_isSo_224 (by decide) ?_
              exact J_225 x11 x12 x13 0 _ _ _ hr hW (lv_sub hl [0, 1, 2, 3, 4, 5, 6, 7, 8, 9, 10, 11, 12, 13] rfl)
            refine z_ifeq X 224 hr dL_isSo_201 (by decide) (fun hr => ?_) (fun hr => ?_)
            · exact J_224 x11 x12 x13 _ _ _ hr hW (lv_sub hl [0, 1, 2, 3, 4, 5, 6, 7, 8, 9, 10, 11, 12, 13] rfl)
            · refine lv_aload_n X.1 X.2.1 dL_isSo_204 rfl (lv_at hl 0 rfl) ?_
              refine lv_iload X.1 X.2.1 dL_isSo_205 (lv_at hl 13 rfl) ?_
              have hp_207 := (z_spr (arW E Aq 19 fq) (z_spr (arW E Aa 30 fa) (z_spr (arW E Ae 30 fe) (z_spr (arW E An 30 fn) (z_spr (arW E At 30 ft) (z_spr (arW E Ap 18 fp) (z_spr (arW E Aw 16 fw) (z_spr (arW E Ar 30 fr) (z_spr (arW E Ac 24 fc) (z_sp2 (z_all (xoW E a b)) (z_sp2 (z_all (hsW E (zh a 1) v)) (z_sp2 (z_all (rdW E (zh a 30) w)) (z_sp2 (z_all (hiW E (zh a 33) u)) (z_all (slW E b q)))))))))))))))
              refine z_callp X hW hr hp_207 (fun x h => z_runV (As := [.int x13]) (rest := []) X hW hp_207 (c_X7_count l E a b v w u q x13 x h _) hy_X7_count 9 7 (C := RX7) (T := TX7) (N := 5) rfl rfl rfl gL_isSo_X7_count rfl rfl ⟨by decide, by decide⟩ rfl hl rfl rfl (Nat.le_of_ble_eq_true rfl) dL_isSo_207 ⟨Nat.zero_le _, Nat.zero_le _⟩) (fun t207 H locs hr hW => ?_)
              refine lv_aload_n X.1 X.2.1 dL_isSo_210 rfl (lv_at hl 2 rfl) ?_
              refine lv_bipush (v := 6) X.1 X.2.1 dL_isSo_211 (by decide) ?_
              refine lv_iload X.1 X.2.1 dL_isSo_213 (lv_at hl 13 rfl) ?_
              refine z_iadd X hr dL_isSo_215 (fun t215 hr => ?_)
              refine z_ald X hW 0 hr rfl dL_isSo_216 (fun t216 hr => ?_)
              refine z_cmpne X 224 hr dL_isSo_217 (by decide) (fun hr => ?_) (fun hr => ?_)
              · exact J_224 x11 x12 x13 _ _ _ hr hW (lv_sub hl [0, 1, 2, 3, 4, 5, 6, 7, 8, 9, 10, 11, 12, 13] rfl)
              · refine lv_iconst (v := 1) X.1 X.2.1 dL_isSo_220 (by decide) ?_
                refine lv_goto (tgt := 225) X.1 X.2.1 dL_isSo_221 (by decide) ?_
                exact J_225 x11 x12 x13 1 _ _ _ hr hW (lv_sub hl [0, 1, 2, 3, 4, 5, 6, 7, 8, 9, 10, 11, 12, 13] rfl)
      exact L_193 _ x11 s0 0 _ _ _ hr hW (lv_sub hl [2, 3, 4, 5, 6, 7, 8, 9, 10, 11, 12, 13, 1, 0] rfl)
    obtain ⟨j_187, e_187, hr⟩ := zjn_some hr
    have J_187 : ∀ (x11 : Int32) (H : Heap) (locs : List Loc) (ls : Array Slot), j_187 x11 = some r → zW E A s ((arW E Aq 19 fq) ++ ((arW E Aa 30 fa) ++ ((arW E Ae 30 fe) ++ ((arW E An 30 fn) ++ ((arW E At 30 ft) ++ ((arW E Ap 18 fp) ++ ((arW E Aw 16 fw) ++ ((arW E Ar 30 fr) ++ ((arW E Ac 24 fc) ++ ((xoW E a b) ++ ((hsW E (zh a 1) v) ++ ((rdW E (zh a 30) w) ++ ((hiW E (zh a 33) u) ++ (slW E b q)))))))))))))) H locs → lv_has ls 21 [(0, .ref (a 0)), (1, .int p1), (2, .ref (Aq 0)), (3, .ref (Aa 0)), (4, .ref (Ae 0)), (5, .ref (An 0)), (6, .ref (At 0)), (7, .ref (Ap 0)), (8, .ref (Aw 0)), (9, .ref (Ar 0)), (10, .ref (Ac 0)), (11, .int x11)] → W p l e rm_L_isSo s m ([.ref (a 0), .int p1, .ref (Aq 0), .ref (Aa 0), .ref (Ae 0), .ref (An 0), .ref (At 0), .ref (Ap 0), .ref (Aw 0), .ref (Ar 0), .ref (Ac 0)] : List Value).toArray below meth c H locs 0 0 (MQ below (zQi E A r ((arW E Aq 19 fq) ++ ((arW E Aa 30 fa) ++ ((arW E Ae 30 fe) ++ ((arW E An 30 fn) ++ ((arW E At 30 ft) ++ ((arW E Ap 18 fp) ++ ((arW E Aw 16 fw) ++ ((arW E Ar 30 fr) ++ ((arW E Ac 24 fc) ++ ((xoW E a b) ++ ((hsW E (zh a 1) v) ++ ((rdW E (zh a 30) w) ++ ((hiW E (zh a 33) u) ++ (slW E b q))))))))))))))) ([.ref (a 0), .int p1, .ref (Aq 0), .ref (Aa 0), .ref (Ae 0), .ref (An 0), .ref (At 0), .ref (Ap 0), .ref (Aw 0), .ref (Ar 0), .ref (Ac 0)] : List Value).toArray s 0 0 A) (F0 m 187 ls []) := by
      intro x11 H locs ls hr hW hl
      rw [e_187] at hr
      refine lv_iconst (v := 0) X.1 X.2.1 dL_isSo_187 (by decide) ?_
      exact J_188 x11 0 _ _ _ hr hW (lv_sub hl [0, 1, 2, 3, 4, 5, 6, 7, 8, 9, 10, 11] rfl)
    refine z_cmpne X 187 hr dL_isSo_23 (by decide) (fun hr => ?_) (fun hr => ?_)
    · exact J_187 s0 _ _ _ hr hW (lv_sub hl [1, 2, 3, 4, 5, 6, 7, 8, 9, 10, 11, 0] rfl)
    · refine lv_aload_n X.1 X.2.1 dL_isSo_26 rfl (lv_at hl 1 rfl) ?_
      refine lv_iconst (v := 5) X.1 X.2.1 dL_isSo_27 (by decide) ?_
      have hp_28 := (z_spr (arW E Aq 19 fq) (z_spr (arW E Aa 30 fa) (z_spr (arW E Ae 30 fe) (z_spr (arW E An 30 fn) (z_spr (arW E At 30 ft) (z_spr (arW E Ap 18 fp) (z_spr (arW E Aw 16 fw) (z_spr (arW E Ar 30 fr) (z_spr (arW E Ac 24 fc) (z_sp2 (z_all (xoW E a b)) (z_sp2 (z_all (hsW E (zh a 1) v)) (z_sp2 (z_all (rdW E (zh a 30) w)) (z_sp2 (z_all (hiW E (zh a 33) u)) (z_all (slW E b q)))))))))))))))
      refine z_callp X hW hr hp_28 (fun x h => z_runV (As := [.int 5]) (rest := []) X hW hp_28 (c_X7_count l E a b v w u q 5 x h _) hy_X7_count 9 7 (C := RX7) (T := TX7) (N := 5) rfl rfl rfl gL_isSo_X7_count rfl rfl ⟨by decide, by decide⟩ rfl hl rfl rfl (Nat.le_of_ble_eq_true rfl) dL_isSo_28 ⟨Nat.zero_le _, Nat.zero_le _⟩) (fun t28 H locs hr hW => ?_)
      refine lv_iconst (v := 0) X.1 X.2.1 dL_isSo_31 (by decide) ?_
      refine lv_aload X.1 X.2.1 dL_isSo_32 (lv_at hl 8 rfl) ?_
      have hp_34 := (z_spr (arW E Aq 19 fq) (z_spr (arW E Aa 30 fa) (z_spr (arW E Ae 30 fe) (z_spr (arW E An 30 fn) (z_spr (arW E At 30 ft) (z_spl ((arW E Aw 16 fw) ++ ((arW E Ar 30 fr) ++ ((arW E Ac 24 fc) ++ ((xoW E a b) ++ ((hsW E (zh a 1) v) ++ ((rdW E (zh a 30) w) ++ ((hiW E (zh a 33) u) ++ (slW E b q)))))))) (z_all (arW E Ap 18 fp))))))))
      refine z_callp X hW hr hp_34 (fun x h => z_runS (As := [.int 0, .ref (Ap 0)]) (rest := [.int t28]) X hW hp_34 (c_L_sum l E Ap fp 0 x h _) hy_L_sum gL_isSo_L_sum rfl rfl ⟨by decide, by decide⟩ rfl hl rfl rfl (Nat.le_of_ble_eq_true rfl) dL_isSo_34 ⟨Nat.zero_le _, Nat.zero_le _⟩) (fun t34 H locs hr hW => ?_)
      refine z_cmpne X 187 hr dL_isSo_37 (by decide) (fun hr => ?_) (fun hr => ?_)
      · exact J_187 s0 _ _ _ hr hW (lv_sub hl [1, 2, 3, 4, 5, 6, 7, 8, 9, 10, 11, 0] rfl)
      · refine lv_aload_n X.1 X.2.1 dL_isSo_40 rfl (lv_at hl 1 rfl) ?_
        refine lv_bipush (v := 6) X.1 X.2.1 dL_isSo_41 (by decide) ?_
        have hp_43 := (z_spr (arW E Aq 19 fq) (z_spr (arW E Aa 30 fa) (z_spr (arW E Ae 30 fe) (z_spr (arW E An 30 fn) (z_spr (arW E At 30 ft) (z_spr (arW E Ap 18 fp) (z_spr (arW E Aw 16 fw) (z_spr (arW E Ar 30 fr) (z_spr (arW E Ac 24 fc) (z_sp2 (z_all (xoW E a b)) (z_sp2 (z_all (hsW E (zh a 1) v)) (z_sp2 (z_all (rdW E (zh a 30) w)) (z_sp2 (z_all (hiW E (zh a 33) u)) (z_all (slW E b q)))))))))))))))
        refine z_callp X hW hr hp_43 (fun x h => z_runV (As := [.int 6]) (rest := []) X hW hp_43 (c_X7_count l E a b v w u q 6 x h _) hy_X7_count 9 7 (C := RX7) (T := TX7) (N := 5) rfl rfl rfl gL_isSo_X7_count rfl rfl ⟨by decide, by decide⟩ rfl hl rfl rfl (Nat.le_of_ble_eq_true rfl) dL_isSo_43 ⟨Nat.zero_le _, Nat.zero_le _⟩) (fun t43 H locs hr hW => ?_)
        refine lv_iconst (v := 1) X.1 X.2.1 dL_isSo_46 (by decide) ?_
        refine lv_aload X.1 X.2.1 dL_isSo_47 (lv_at hl 8 rfl) ?_
        have hp_49 := (z_spr (arW E Aq 19 fq) (z_spr (arW E Aa 30 fa) (z_spr (arW E Ae 30 fe) (z_spr (arW E An 30 fn) (z_spr (arW E At 30 ft) (z_spl ((arW E Aw 16 fw) ++ ((arW E Ar 30 fr) ++ ((arW E Ac 24 fc) ++ ((xoW E a b) ++ ((hsW E (zh a 1) v) ++ ((rdW E (zh a 30) w) ++ ((hiW E (zh a 33) u) ++ (slW E b q)))))))) (z_all (arW E Ap 18 fp))))))))
        refine z_callp X hW hr hp_49 (fun x h => z_runS (As := [.int 1, .ref (Ap 0)]) (rest := [.int t43]) X hW hp_49 (c_L_sum l E Ap fp 1 x h _) hy_L_sum gL_isSo_L_sum rfl rfl ⟨by decide, by decide⟩ rfl hl rfl rfl (Nat.le_of_ble_eq_true rfl) dL_isSo_49 ⟨Nat.zero_le _, Nat.zero_le _⟩) (fun t49 H locs hr hW => ?_)
        refine z_cmpne X 187 hr dL_isSo_52 (by decide) (fun hr => ?_) (fun hr => ?_)
        · exact J_187 s0 _ _ _ hr hW (lv_sub hl [1, 2, 3, 4, 5, 6, 7, 8, 9, 10, 11, 0] rfl)
        · refine lv_aload_n X.1 X.2.1 dL_isSo_55 rfl (lv_at hl 1 rfl) ?_
          refine lv_bipush (v := 7) X.1 X.2.1 dL_isSo_56 (by decide) ?_
          have hp_58 := (z_spr (arW E Aq 19 fq) (z_spr (arW E Aa 30 fa) (z_spr (arW E Ae 30 fe) (z_spr (arW E An 30 fn) (z_spr (arW E At 30 ft) (z_spr (arW E Ap 18 fp) (z_spr (arW E Aw 16 fw) (z_spr (arW E Ar 30 fr) (z_spr (arW E Ac 24 fc) (z_sp2 (z_all (xoW E a b)) (z_sp2 (z_all (hsW E (zh a 1) v)) (z_sp2 (z_all (rdW E (zh a 30) w)) (z_sp2 (z_all (hiW E (zh a 33) u)) (z_all (slW E b q)))))))))))))))
          refine z_callp X hW hr hp_58 (fun x h => z_runV (As := [.int 7]) (rest := []) X hW hp_58 (c_X7_count l E a b v w u q 7 x h _) hy_X7_count 9 7 (C := RX7) (T := TX7) (N := 5) rfl rfl rfl gL_isSo_X7_count rfl rfl ⟨by decide, by decide⟩ rfl hl rfl rfl (Nat.le_of_ble_eq_true rfl) dL_isSo_58 ⟨Nat.zero_le _, Nat.zero_le _⟩) (fun t58 H locs hr hW => ?_)
          refine lv_aload_n X.1 X.2.1 dL_isSo_61 rfl (lv_at hl 3 rfl) ?_
          refine lv_bipush (v := 12) X.1 X.2.1 dL_isSo_62 (by decide) ?_
          refine z_ald X hW 0 hr rfl dL_isSo_64 (fun t64 hr => ?_)
          refine z_cmpne X 187 hr dL_isSo_65 (by decide) (fun hr => ?_) (fun hr => ?_)
          · exact J_187 s0 _ _ _ hr hW (lv_sub hl [1, 2, 3, 4, 5, 6, 7, 8, 9, 10, 11, 0] rfl)
          · refine lv_aload_n X.1 X.2.1 dL_isSo_68 rfl (lv_at hl 1 rfl) ?_
            refine lv_bipush (v := 8) X.1 X.2.1 dL_isSo_69 (by decide) ?_
            have hp_71 := (z_spr (arW E Aq 19 fq) (z_spr (arW E Aa 30 fa) (z_spr (arW E Ae 30 fe) (z_spr (arW E An 30 fn) (z_spr (arW E At 30 ft) (z_spr (arW E Ap 18 fp) (z_spr (arW E Aw 16 fw) (z_spr (arW E Ar 30 fr) (z_spr (arW E Ac 24 fc) (z_sp2 (z_all (xoW E a b)) (z_sp2 (z_all (hsW E (zh a 1) v)) (z_sp2 (z_all (rdW E (zh a 30) w)) (z_sp2 (z_all (hiW E (zh a 33) u)) (z_all (slW E b q)))))))))))))))
            refine z_callp X hW hr hp_71 (fun x h => z_runV (As := [.int 8]) (rest := []) X hW hp_71 (c_X7_count l E a b v w u q 8 x h _) hy_X7_count 9 7 (C := RX7) (T := TX7) (N := 5) rfl rfl rfl gL_isSo_X7_count rfl rfl ⟨by decide, by decide⟩ rfl hl rfl rfl (Nat.le_of_ble_eq_true rfl) dL_isSo_71 ⟨Nat.zero_le _, Nat.zero_le _⟩) (fun t71 H locs hr hW => ?_)
            refine lv_iload X.1 X.2.1 dL_isSo_74 (lv_at hl 0 rfl) ?_
            obtain ⟨j_93, e_93, hr⟩ := zjn_some hr
            have J_93 : ∀ (x11 : Int32) (s0 : Int32) (s1 : Int32) (H : Heap) (locs : List Loc) (ls : Array Slot), j_93 x11 s0 s1 = some r → zW E A s ((arW E Aq 19 fq) ++ ((arW E Aa 30 fa) ++ ((arW E Ae 30 fe) ++ ((arW E An 30 fn) ++ ((arW E At 30 ft) ++ ((arW E Ap 18 fp) ++ ((arW E Aw 16 fw) ++ ((arW E Ar 30 fr) ++ ((arW E Ac 24 fc) ++ ((xoW E a b) ++ ((hsW E (zh a 1) v) ++ ((rdW E (zh a 30) w) ++ ((hiW E (zh a 33) u) ++ (slW E b q)))))))))))))) H locs → lv_has ls 21 [(0, .ref (a 0)), (1, .int p1), (2, .ref (Aq 0)), (3, .ref (Aa 0)), (4, .ref (Ae 0)), (5, .ref (An 0)), (6, .ref (At 0)), (7, .ref (Ap 0)), (8, .ref (Aw 0)), (9, .ref (Ar 0)), (10, .ref (Ac 0)), (11, .int x11)] → W p l e rm_L_isSo s m ([.ref (a 0), .int p1, .ref (Aq 0), .ref (Aa 0), .ref (Ae 0), .ref (An 0), .ref (At 0), .ref (Ap 0), .ref (Aw 0), .ref (Ar 0), .ref (Ac 0)] : List Value).toArray below meth c H locs 0 0 (MQ below (zQi E A r ((arW E Aq 19 fq) ++ ((arW E Aa 30 fa) ++ ((arW E Ae 30 fe) ++ ((arW E An 30 fn) ++ ((arW E At 30 ft) ++ ((arW E Ap 18 fp) ++ ((arW E Aw 16 fw) ++ ((arW E Ar 30 fr) ++ ((arW E Ac 24 fc) ++ ((xoW E a b) ++ ((hsW E (zh a 1) v) ++ ((rdW E (zh a 30) w) ++ ((hiW E (zh a 33) u) ++ (slW E b q))))))))))))))) ([.ref (a 0), .int p1, .ref (Aq 0), .ref (Aa 0), .ref (Ae 0), .ref (An 0), .ref (At 0), .ref (Ap 0), .ref (Aw 0), .ref (Ar 0), .ref (Ac 0)] : List Value).toArray s 0 0 A) (F0 m 93 ls [.int s0, .int s1]) := by
              intro x11 s0 s1 H locs ls hr hW hl
              rw [e_93] at hr
              refine z_cmpne X 187 hr dL_isSo_93 (by decide) (fun hr => ?_) (fun hr => ?_)
              · exact J_187 x11 _ _ _ hr hW (lv_sub hl [0, 1, 2, 3, 4, 5, 6, 7, 8, 9, 10, 11] rfl)
              · refine lv_aload_n X.1 X.2.1 dL_isSo_96 rfl (lv_at hl 0 rfl) ?_
                refine lv_bipush (v := 9) X.1 X.2.1 dL_isSo_97 (by decide) ?_
                have hp_99 := (z_spr (arW E Aq 19 fq) (z_spr (arW E Aa 30 fa) (z_spr (arW E Ae 30 fe) (z_spr (arW E An 30 fn) (z_spr (arW E At 30 ft) (z_spr (arW E Ap 18 fp) (z_spr (arW E Aw 16 fw) (z_spr (arW E Ar 30 fr) (z_spr (arW E Ac 24 fc) (z_sp2 (z_all (xoW E a b)) (z_sp2 (z_all (hsW E (zh a 1) v)) (z_sp2 (z_all (rdW E (zh a 30) w)) (z_sp2 (z_all (hiW E (zh a 33) u)) (z_all (slW E b q)))))))))))))))
                refine z_callp X hW hr hp_99 (fun x h => z_runV (As := [.int 9]) (rest := []) X hW hp_99 (c_X7_count l E a b v w u q 9 x h _) hy_X7_count 9 7 (C := RX7) (T := TX7) (N := 5) rfl rfl rfl gL_isSo_X7_count rfl rfl ⟨by decide, by decide⟩ rfl hl rfl rfl (Nat.le_of_ble_eq_true rfl) dL_isSo_99 ⟨Nat.zero_le _, Nat.zero_le _⟩) (fun t99 H locs hr hW => ?_)
                refine lv_iload X.1 X.2.1 dL_isSo_102 (lv_at hl 11 rfl) ?_
                obtain ⟨j_116, e_116, hr⟩ := zjn_some hr
                have J_116 : ∀ (x11 : Int32) (s0 : Int32) (s1 : Int32) (H : Heap) (locs : List Loc) (ls : Array Slot), j_116 x11 s0 s1 = some r → zW E A s ((arW E Aq 19 fq) ++ ((arW E Aa 30 fa) ++ ((arW E Ae 30 fe) ++ ((arW E An 30 fn) ++ ((arW E At 30 ft) ++ ((arW E Ap 18 fp) ++ ((arW E Aw 16 fw) ++ ((arW E Ar 30 fr) ++ ((arW E Ac 24 fc) ++ ((xoW E a b) ++ ((hsW E (zh a 1) v) ++ ((rdW E (zh a 30) w) ++ ((hiW E (zh a 33) u) ++ (slW E b q)))))))))))))) H locs → lv_has ls 21 [(0, .ref (a 0)), (1, .int p1), (2, .ref (Aq 0)), (3, .ref (Aa 0)), (4, .ref (Ae 0)), (5, .ref (An 0)), (6, .ref (At 0)), (7, .ref (Ap 0)), (8, .ref (Aw 0)), (9, .ref (Ar 0)), (10, .ref (Ac 0)), (11, .int x11)] → W p l e rm_L_isSo s m ([.ref (a 0), .int p1, .ref (Aq 0), .ref (Aa 0), .ref (Ae 0), .ref (An 0), .ref (At 0), .ref (Ap 0), .ref (Aw 0), .ref (Ar 0), .ref (Ac 0)] : List Value).toArray below meth c H locs 0 0 (MQ below (zQi E A r ((arW E Aq 19 fq) ++ ((arW E Aa 30 fa) ++ ((arW E Ae 30 fe) ++ ((arW E An 30 fn) ++ ((arW E At 30 ft) ++ ((arW E Ap 18 fp) ++ ((arW E Aw 16 fw) ++ ((arW E Ar 30 fr) ++ ((arW E Ac 24 fc) ++ ((xoW E a b) ++ ((hsW E (zh a 1) v) ++ ((rdW E (zh a 30) w) ++ ((hiW E (zh a 33) u) ++ (slW E b q))))))))))))))) ([.ref (a 0), .int p1, .ref (Aq 0), .ref (Aa 0), .ref (Ae 0), .ref (An 0), .ref (At 0), .ref (Ap 0), .ref (Aw 0), .ref (Ar 0), .ref (Ac 0)] : List Value).toArray s 0 0 A) (F0 m 116 ls [.int s0, .int s1]) := by
                  intro x11 s0 s1 H locs ls hr hW hl
                  rw [e_116] at hr
                  refine z_cmpne X 187 hr dL_isSo_116 (by decide) (fun hr => ?_) (fun hr => ?_)
                  · exact J_187 x11 _ _ _ hr hW (lv_sub hl [0, 1, 2, 3, 4, 5, 6, 7, 8, 9, 10, 11] rfl)
                  · refine lv_aload_n X.1 X.2.1 dL_isSo_119 rfl (lv_at hl 0 rfl) ?_
                    refine lv_bipush (v := 10) X.1 X.2.1 dL_isSo_120 (by decide) ?_
                    have hp_122 := (z_spr (arW E Aq 19 fq) (z_spr (arW E Aa 30 fa) (z_spr (arW E Ae 30 fe) (z_spr (arW E An 30 fn) (z_spr (arW E At 30 ft) (z_spr (arW E Ap 18 fp) (z_spr (arW E Aw 16 fw) (z_spr (arW E Ar 30 fr) (z_spr (arW E Ac 24 fc) (z_sp2 (z_all (xoW E a b)) (z_sp2 (z_all (hsW E (zh a 1) v)) (z_sp2 (z_all (rdW E (zh a 30) w)) (z_sp2 (z_all (hiW E (zh a 33) u)) (z_all (slW E b q)))))))))))))))
                    refine z_callp X hW hr hp_122 (fun x h => z_runV (As := [.int 10]) (rest := []) X hW hp_122 (c_X7_count l E a b v w u q 10 x h _) hy_X7_count 9 7 (C := RX7) (T := TX7) (N := 5) rfl rfl rfl gL_isSo_X7_count rfl rfl ⟨by decide, by decide⟩ rfl hl rfl rfl (Nat.le_of_ble_eq_true rfl) dL_isSo_122 ⟨Nat.zero_le _, Nat.zero_le _⟩) (fun t122 H locs hr hW => ?_)
                    refine lv_iconst (v := 1) X.1 X.2.1 dL_isSo_125 (by decide) ?_
                    refine lv_iconst (v := 0) X.1 X.2.1 dL_isSo_126 (by decide) ?_
                    refine lv_aload_n X.1 X.2.1 dL_isSo_127 rfl (lv_at hl 3 rfl) ?_
                    refine lv_aload X.1 X.2.1 dL_isSo_128 (lv_at hl 4 rfl) ?_
                    have hp_130 := (z_spr (arW E Aq 19 fq) (z_sp2 (z_all (arW E Aa 30 fa)) (z_spl ((arW E An 30 fn) ++ ((arW E At 30 ft) ++ ((arW E Ap 18 fp) ++ ((arW E Aw 16 fw) ++ ((arW E Ar 30 fr) ++ ((arW E Ac 24 fc) ++ ((xoW E a b) ++ ((hsW E (zh a 1) v) ++ ((rdW E (zh a 30) w) ++ ((hiW E (zh a 33) u) ++ (slW E b q))))))))))) (z_all (arW E Ae 30 fe)))))
                    refine z_callp X hW hr hp_130 (fun x h => z_runS (As := [.int 1, .int 0, .ref (Aa 0), .ref (Ae 0)]) (rest := [.int t122]) X hW hp_130 (c_L_seats l E Aa Ae fa fe 1 0 x h _) hy_L_seats gL_isSo_L_seats rfl rfl ⟨by decide, by decide⟩ rfl hl rfl rfl (Nat.le_of_ble_eq_true rfl) dL_isSo_130 ⟨Nat.zero_le _, Nat.zero_le _⟩) (fun t130 H locs hr hW => ?_)
                    refine z_cmpne X 187 hr dL_isSo_133 (by decide) (fun hr => ?_) (fun hr => ?_)
                    · exact J_187 x11 _ _ _ hr hW (lv_sub hl [0, 1, 2, 3, 4, 5, 6, 7, 8, 9, 10, 11] rfl)
                    · refine lv_aload_n X.1 X.2.1 dL_isSo_136 rfl (lv_at hl 0 rfl) ?_
                      refine lv_bipush (v := 11) X.1 X.2.1 dL_isSo_137 (by decide) ?_
                      have hp_139 := (z_spr (arW E Aq 19 fq) (z_spr (arW E Aa 30 fa) (z_spr (arW E Ae 30 fe) (z_spr (arW E An 30 fn) (z_spr (arW E At 30 ft) (z_spr (arW E Ap 18 fp) (z_spr (arW E Aw 16 fw) (z_spr (arW E Ar 30 fr) (z_spr (arW E Ac 24 fc) (z_sp2 (z_all (xoW E a b)) (z_sp2 (z_all (hsW E (zh a 1) v)) (z_sp2 (z_all (rdW E (zh a 30) w)) (z_sp2 (z_all (hiW E (zh a 33) u)) (z_all (slW E b q)))))))))))))))
                      refine z_callp X hW hr hp_139 (fun x h => z_runV (As := [.int 11]) (rest := []) X hW hp_139 (c_X7_count l E a b v w u q 11 x h _) hy_X7_count 9 7 (C := RX7) (T := TX7) (N := 5) rfl rfl rfl gL_isSo_X7_count rfl rfl ⟨by decide, by decide⟩ rfl hl rfl rfl (Nat.le_of_ble_eq_true rfl) dL_isSo_139 ⟨Nat.zero_le _, Nat.zero_le _⟩) (fun t139 H locs hr hW => ?_)
                      refine lv_iconst (v := 0) X.1 X.2.1 dL_isSo_142 (by decide) ?_
                      refine lv_aload_n X.1 X.2.1 dL_isSo_143 rfl (lv_at hl 2 rfl) ?_
                      refine lv_iconst (v := 4) X.1 X.2.1 dL_isSo_144 (by decide) ?_
                      refine z_ald X hW 0 hr rfl dL_isSo_145 (fun t145 hr => ?_)
                      refine lv_aload_n X.1 X.2.1 dL_isSo_146 rfl (lv_at hl 3 rfl) ?_
                      refine lv_aload X.1 X.2.1 dL_isSo_147 (lv_at hl 4 rfl) ?_
                      have hp_149 := (z_spr (arW E Aq 19 fq) (z_sp2 (z_all (arW E Aa 30 fa)) (z_spl ((arW E An 30 fn) ++ ((arW E At 30 ft) ++ ((arW E Ap 18 fp) ++ ((arW E Aw 16 fw) ++ ((arW E Ar 30 fr) ++ ((arW E Ac 24 fc) ++ ((xoW E a b) ++ ((hsW E (zh a 1) v) ++ ((rdW E (zh a 30) w) ++ ((hiW E (zh a 33) u) ++ (slW E b q))))))))))) (z_all (arW E Ae 30 fe)))))
                      refine z_callp X hW hr hp_149 (fun x h => z_runS (As := [.int 0, .int t145, .ref (Aa 0), .ref (Ae 0)]) (rest := [.int t139]) X hW hp_149 (c_L_seats l E Aa Ae fa fe 0 t145 x h _) hy_L_seats gL_isSo_L_seats rfl rfl ⟨by decide, by decide⟩ rfl hl rfl rfl (Nat.le_of_ble_eq_true rfl) dL_isSo_149 ⟨Nat.zero_le _, Nat.zero_le _⟩) (fun t149 H locs hr hW => ?_)
                      refine z_cmpne X 187 hr dL_isSo_152 (by decide) (fun hr => ?_) (fun hr => ?_)
                      · exact J_187 x11 _ _ _ hr hW (lv_sub hl [0, 1, 2, 3, 4, 5, 6, 7, 8, 9, 10, 11] rfl)
                      · refine lv_aload_n X.1 X.2.1 dL_isSo_155 rfl (lv_at hl 0 rfl) ?_
                        refine lv_bipush (v := 12) X.1 X.2.1 dL_isSo_156 (by decide) ?_
                        have hp_158 := (z_spr (arW E Aq 19 fq) (z_spr (arW E Aa 30 fa) (z_spr (arW E Ae 30 fe) (z_spr (arW E An 30 fn) (z_spr (arW E At 30 ft) (z_spr (arW E Ap 18 fp) (z_spr (arW E Aw 16 fw) (z_spr (arW E Ar 30 fr) (z_spr (arW E Ac 24 fc) (z_sp2 (z_all (xoW E a b)) (z_sp2 (z_all (hsW E (zh a 1) v)) (z_sp2 (z_all (rdW E (zh a 30) w)) (z_sp2 (z_all (hiW E (zh a 33) u)) (z_all (slW E b q)))))))))))))))
                        refine z_callp X hW hr hp_158 (fun x h => z_runV (As := [.int 12]) (rest := []) X hW hp_158 (c_X7_count l E a b v w u q 12 x h _) hy_X7_count 9 7 (C := RX7) (T := TX7) (N := 5) rfl rfl rfl gL_isSo_X7_count rfl rfl ⟨by decide, by decide⟩ rfl hl rfl rfl (Nat.le_of_ble_eq_true rfl) dL_isSo_158 ⟨Nat.zero_le _, Nat.zero_le _⟩) (fun t158 H locs hr hW => ?_)
                        refine lv_iconst (v := 1) X.1 X.2.1 dL_isSo_161 (by decide) ?_
                        refine lv_iconst (v := 0) X.1 X.2.1 dL_isSo_162 (by decide) ?_
                        refine lv_aload_n X.1 X.2.1 dL_isSo_163 rfl (lv_at hl 3 rfl) ?_
                        refine lv_aload X.1 X.2.1 dL_isSo_164 (lv_at hl 4 rfl) ?_
                        have hp_166 := (z_spr (arW E Aq 19 fq) (z_sp2 (z_all (arW E Aa 30 fa)) (z_spl ((arW E An 30 fn) ++ ((arW E At 30 ft) ++ ((arW E Ap 18 fp) ++ ((arW E Aw 16 fw) ++ ((arW E Ar 30 fr) ++ ((arW E Ac 24 fc) ++ ((xoW E a b) ++ ((hsW E (zh a 1) v) ++ ((rdW E (zh a 30) w) ++ ((hiW E (zh a 33) u) ++ (slW E b q))))))))))) (z_all (arW E Ae 30 fe)))))
                        refine z_callp X hW hr hp_166 (fun x h => z_runS (As := [.int 1, .int 0, .ref (Aa 0), .ref (Ae 0)]) (rest := [.int t158]) X hW hp_166 (c_L_seats l E Aa Ae fa fe 1 0 x h _) hy_L_seats gL_isSo_L_seats rfl rfl ⟨by decide, by decide⟩ rfl hl rfl rfl (Nat.le_of_ble_eq_true rfl) dL_isSo_166 ⟨Nat.zero_le _, Nat.zero_le _⟩) (fun t166 H locs hr hW => ?_)
                        refine lv_iconst (v := 0) X.1 X.2.1 dL_isSo_169 (by decide) ?_
                        refine lv_aload_n X.1 X.2.1 dL_isSo_170 rfl (lv_at hl 2 rfl) ?_
                        refine lv_iconst (v := 4) X.1 X.2.1 dL_isSo_171 (by decide) ?_
                        refine z_ald X hW 0 hr rfl dL_isSo_172 (fun t172 hr => ?_)
                        refine lv_aload_n X.1 X.2.1 dL_isSo_173 rfl (lv_at hl 3 rfl) ?_
                        refine lv_aload X.1 X.2.1 dL_isSo_174 (lv_at hl 4 rfl) ?_
                        have hp_176 := (z_spr (arW E Aq 19 fq) (z_sp2 (z_all (arW E Aa 30 fa)) (z_spl ((arW E An 30 fn) ++ ((arW E At 30 ft) ++ ((arW E Ap 18 fp) ++ ((arW E Aw 16 fw) ++ ((arW E Ar 30 fr) ++ ((arW E Ac 24 fc) ++ ((xoW E a b) ++ ((hsW E (zh a 1) v) ++ ((rdW E (zh a 30) w) ++ ((hiW E (zh a 33) u) ++ (slW E b q))))))))))) (z_all (arW E Ae 30 fe)))))
                        refine z_callp X hW hr hp_176 (fun x h => z_runS (As := [.int 0, .int t172, .ref (Aa 0), .ref (Ae 0)]) (rest := [.int t166, .int t158]) X hW hp_176 (c_L_seats l E Aa Ae fa fe 0 t172 x h _) hy_L_seats gL_isSo_L_seats rfl rfl ⟨by decide, by decide⟩ rfl hl rfl rfl (Nat.le_of_ble_eq_true rfl) dL_isSo_176 ⟨Nat.zero_le _, Nat.zero_le _⟩) (fun t176 H locs hr hW => ?_)
                        refine z_iand X hr dL_isSo_179 (fun t179 hr => ?_)
                        refine z_cmpne X 187 hr dL_isSo_180 (by decide) (fun hr => ?_) (fun hr => ?_)
                        · exact J_187 x11 _ _ _ hr hW (lv_sub hl [0, 1, 2, 3, 4, 5, 6, 7, 8, 9, 10, 11] rfl)
                        · refine lv_iconst (v := 1) X.1 X.2.1 dL_isSo_183 (by decide) ?_
                          refine lv_goto (tgt := 188) X.1 X.2.1 dL_isSo_184 (by decide) ?_
                          exact J_188 x11 1 _ _ _ hr hW (lv_sub hl [0, 1, 2, 3, 4, 5, 6, 7, 8, 9, 10, 11] rfl)
                refine z_ifeq X 114 hr dL_isSo_104 (by decide) (fun hr => ?_) (fun hr => ?_)
                · refine lv_bipush (v := (-6)) X.1 X.2.1 dL_isSo_114 (by decide) ?_
                  exact J_116 x11 (-6) t99 _ _ _ hr hW (lv_sub hl [0, 1, 2, 3, 4, 5, 6, 7, 8, 9, 10, 11] rfl)
                · refine lv_aload_n X.1 X.2.1 dL_isSo_107 rfl (lv_at hl 2 rfl) ?_
                  refine lv_bipush (v := 14) X.1 X.2.1 dL_isSo_108 (by decide) ?_
                  refine z_ald X hW 0 hr rfl dL_isSo_110 (fun t110 hr => ?_)
                  refine lv_goto (tgt := 116) X.1 X.2.1 dL_isSo_111 (by decide) ?_
                  exact J_116 x11 t110 t99 _ _ _ hr hW (lv_sub hl [0, 1, 2, 3, 4, 5, 6, 7, 8, 9, 10, 11] rfl)
            refine z_ifeq X 91 hr dL_isSo_76 (by decide) (fun hr => ?_) (fun hr => ?_)
            · refine lv_bipush (v := (-6)) X.1 X.2.1 dL_isSo_91 (by decide) ?_
              exact J_93 s0 (-6) t71 _ _ _ hr hW (lv_sub hl [1, 2, 3, 4, 5, 6, 7, 8, 9, 10, 11, 0] rfl)
            · refine lv_aload_n X.1 X.2.1 dL_isSo_79 rfl (lv_at hl 3 rfl) ?_
              refine lv_bipush (v := 7) X.1 X.2.1 dL_isSo_80 (by decide) ?_
              refine z_ald X hW 0 hr rfl dL_isSo_82 (fun t82 hr => ?_)
              refine lv_aload_n X.1 X.2.1 dL_isSo_83 rfl (lv_at hl 3 rfl) ?_
              refine lv_bipush (v := 13) X.1 X.2.1 dL_isSo_84 (by decide) ?_
              refine z_ald X hW 0 hr rfl dL_isSo_86 (fun t86 hr => ?_)
              refine z_isub X hr dL_isSo_87 (fun t87 hr => ?_)
              refine lv_goto (tgt := 93) X.1 X.2.1 dL_isSo_88 (by decide) ?_
              exact J_93 s0 t87 t71 _ _ _ hr hW (lv_sub hl [1, 2, 3, 4, 5, 6, 7, 8, 9, 10, 11, 0] rfl)
  refine z_iflt X 11 hr dL_isSo_4 (by decide) (fun hr => ?_) (fun hr => ?_)
  · refine lv_iconst (v := 0) X.1 X.2.1 dL_isSo_11 (by decide) ?_
    exact J_12 0 _ _ _ hr hW (lv_sub hl [0, 1, 2, 3, 4, 5, 6, 7, 8, 9, 10] rfl)
  · refine lv_iconst (v := 1) X.1 X.2.1 dL_isSo_7 (by decide) ?_
    refine lv_goto (tgt := 12) X.1 X.2.1 dL_isSo_8 (by decide) ?_
    exact J_12 1 _ _ _ hr hW (lv_sub hl [0, 1, 2, 3, 4, 5, 6, 7, 8, 9, 10] rfl)
