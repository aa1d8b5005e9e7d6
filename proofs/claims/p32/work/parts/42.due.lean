/-! ===== what the law holds due, and the act of each kind ===== -/
def zDue (E : zE) (w : zHV) (q : zHI) (k_118 : Int32 → zTA) (j_686 : Int32 → Int32 → Int32 → Int32 → Int32 → Int32 → Int64 → Int32 → Int32 → zTA) (x11 x12 x13 x14 x15 x16 : Int32) (x17 : Int64) (x19 : Int32) (fq : Nat → Int32) (fa : Nat → Int32) (fe : Nat → Int32) (fn : Nat → Int32) (ft : Nat → Int32) (fp : Nat → Int32) (fw : Nat → Int32) (fr : Nat → Int32) (fc : Nat → Int32) (v : zHV) (u : zHI) : Option Int32 :=
(if x14 = 0 then
zup2 (d_L_claps fq fa fe fn ft fp fw fr x15) (fun z9 => (z9.1, z9.2.1, z9.2.2.1, z9.2.2.2.1, z9.2.2.2.2.1, z9.2.2.2.2.2.1, z9.2.2.2.2.2.2.1, z9.2.2.2.2.2.2.2)) fun t558 u558 =>
j_686 x11 x12 x13 x14 x15 x16 x17 x19 t558 u558.1 u558.2.1 u558.2.2.1 u558.2.2.2.1 u558.2.2.2.2.1 u558.2.2.2.2.2.1 u558.2.2.2.2.2.2.1 u558.2.2.2.2.2.2.2 fc v u
else
(if x14 = 1 then
zup2 (d_L_ends fq fa fp x15) (fun z9 => (z9.1, z9.2.1, z9.2.2)) fun t578 u578 =>
j_686 x11 x12 x13 x14 x15 x16 x17 x19 t578 u578.1 u578.2.1 fe fn ft u578.2.2 fw fr fc v u
else
(if x14 = 2 then
lp_L_law_595 E w q k_118 j_686 zF x11 x12 x13 x14 x15 x16 x17 x19 0 0 fq fa fe fn ft fp fw fr fc v u
else
(if x14 = 3 then
zup2 (d_L_plays fq fa fp fw x15) (fun z9 => (z9.1, z9.2.1, z9.2.2.1, z9.2.2.2)) fun t639 u639 =>
j_686 x11 x12 x13 x14 x15 x16 x17 x19 t639 u639.1 u639.2.1 fe fn ft u639.2.2.1 u639.2.2.2 fr fc v u
else
(if x14 = 5 then
zup2 (d_L_nights fq fa fn fp fw fc) (fun z9 => (z9.1, z9.2.1, z9.2.2.1, z9.2.2.2.1, z9.2.2.2.2)) fun t663 u663 =>
j_686 x11 x12 x13 x14 x15 x16 x17 x19 t663 u663.1 u663.2.1 fe u663.2.2.1 ft u663.2.2.2.1 fw fr u663.2.2.2.2 v u
else
zup2 (d_L_ofRest fq fa fe x14 x15 x16) (fun z9 => (z9.1, z9.2)) fun t681 u681 =>
j_686 x11 x12 x13 x14 x15 x16 x17 x19 t681 u681.1 u681.2 fe fn ft fp fw fr fc v u)))))
def zOk (kd : Nat) (p2 p3 : Int32) : Prop := match kd with
  | 0 => ∃ k, k < 30 ∧ p2 = nI k
  | 1 => ∃ k, k < 6 ∧ p2 = nI k
  | 2 => ∃ k, 1 ≤ k ∧ k ≤ 99 ∧ p2 = nI k
  | 3 => ∃ k, k < 6 ∧ p2 = nI k
  | 4 => True
  | 5 => True
  | 6 => (∃ k, k < 30 ∧ p2 = nI k) ∧ ∃ y, 1 ≤ y ∧ y ≤ 9 ∧ p3 = nI y
  | 7 => ∃ k, k < 30 ∧ p2 = nI k
  | _ => ∃ k, k < 6 ∧ p2 = nI k ∧ ∃ y, zSlo k ≤ y ∧ y ≤ zShi k ∧ p3 = nI y
theorem o_due {m A T N n : Nat} {v : zHV} {q a e nn t p w r c : Nat → Int32} (hm : m < 100000000) (h : zLR m A T N n v (z9 q a e nn t p w r c)) (hT : T + 99 ≤ 99999) (hN : N < 99) {kd : Nat} (hkd : kd < 9) {p2 p3 : Int32} (hok : zOk kd p2 p3) :
    ∃ x v' q' a' e' nn' t' p' w' r' c', zact kd v p2 p3 = some (x, v') ∧ zOut m T N x v' (z9 q a e nn t p w r c) (z9 q' a' e' nn' t' p' w' r' c') ∧
      ∀ (E : zE) (w9 : zHV) (q9 : zHI) (k118 : Int32 → zTA) (j686 : Int32 → Int32 → Int32 → Int32 → Int32 → Int32 → Int64 → Int32 → Int32 → zTA) (x11 x12 x13 : Int32) (x17 : Int64) (x19 : Int32) (vv : zHV) (uu : zHI),
        zDue E w9 q9 k118 j686 x11 x12 x13 (nI kd) p2 p3 x17 x19 q a e nn t p w r c vv uu = j686 x11 x12 x13 (nI kd) p2 p3 x17 x19 x q' a' e' nn' t' p' w' r' c' vv uu := by
  match kd, hkd with
  | 0, _ =>
    obtain ⟨k, hk, rfl⟩ := hok
    obtain ⟨x, v', q', a', e', nn', t', p', w', r', g1, g2, g3⟩ := o_clap hm h hk
    refine ⟨x, v', q', a', e', nn', t', p', w', r', c, g1, g3, fun E w9 q9 k118 j686 x11 x12 x13 x17 x19 vv uu => ?_⟩
    unfold zDue
    rw [if_pos (by decide), g2, zup2_e]
  | 1, _ =>
    obtain ⟨k, hk, rfl⟩ := hok
    obtain ⟨x, v', q', a', p', g1, g2, g3⟩ := o_ends h hk
    refine ⟨x, v', q', a', e, nn, t, p', w, r, c, g1, g3, fun E w9 q9 k118 j686 x11 x12 x13 x17 x19 vv uu => ?_⟩
    unfold zDue
    rw [if_neg (by decide), if_pos (by decide), g2, zup2_e]
  | 2, _ =>
    obtain ⟨k, hk1, hk, rfl⟩ := hok
    obtain ⟨x, v', q', p', w', g1, g2, g3⟩ := o_pass h hk1 hk hT
    refine ⟨x, v', q', a, e, nn, t, p', w', r, c, g1, g3, fun E w9 q9 k118 j686 x11 x12 x13 x17 x19 vv uu => ?_⟩
    unfold zDue
    rw [if_neg (by decide), if_neg (by decide), if_pos (by decide), g2]
  | 3, _ =>
    obtain ⟨k, hk, rfl⟩ := hok
    obtain ⟨x, v', q', a', p', w', g1, g2, g3⟩ := o_play h hk
    refine ⟨x, v', q', a', e, nn, t, p', w', r, c, g1, g3, fun E w9 q9 k118 j686 x11 x12 x13 x17 x19 vv uu => ?_⟩
    unfold zDue
    rw [if_neg (by decide), if_neg (by decide), if_neg (by decide), if_pos (by decide), g2, zup2_e]
  | 4, _ =>
    obtain ⟨x, v', q', g1, g2, g3⟩ := o_call h
    refine ⟨x, v', q', a, e, nn, t, p, w, r, c, g1, g3, fun E w9 q9 k118 j686 x11 x12 x13 x17 x19 vv uu => ?_⟩
    unfold zDue
    rw [if_neg (by decide), if_neg (by decide), if_neg (by decide), if_neg (by decide), if_neg (by decide), show d_L_ofRest q a e (nI 4) p2 p3 = some (x, q', a) from g2 p2 p3, zup2_e]
  | 5, _ =>
    obtain ⟨x, v', q', a', nn', p', c', g1, g2, g3⟩ := o_night h hN
    refine ⟨x, v', q', a', e, nn', t, p', w, r, c', g1, g3, fun E w9 q9 k118 j686 x11 x12 x13 x17 x19 vv uu => ?_⟩
    unfold zDue
    rw [if_neg (by decide), if_neg (by decide), if_neg (by decide), if_neg (by decide), if_pos (by decide), g2, zup2_e]
  | 6, _ =>
    obtain ⟨⟨k, hk, rfl⟩, y, y1, y2, rfl⟩ := hok
    obtain ⟨x, v', a', g1, g2, g3⟩ := o_loud h hk y1 y2
    refine ⟨x, v', q, a', e, nn, t, p, w, r, c, g1, g3, fun E w9 q9 k118 j686 x11 x12 x13 x17 x19 vv uu => ?_⟩
    unfold zDue
    rw [if_neg (by decide), if_neg (by decide), if_neg (by decide), if_neg (by decide), if_neg (by decide), show d_L_ofRest q a e (nI 6) (nI k) (nI y) = some (x, q, a') from g2, zup2_e]
  | 7, _ =>
    obtain ⟨k, hk, rfl⟩ := hok
    obtain ⟨x, v', a', g1, g2, g3⟩ := o_pay h hk
    refine ⟨x, v', q, a', e, nn, t, p, w, r, c, g1, g3, fun E w9 q9 k118 j686 x11 x12 x13 x17 x19 vv uu => ?_⟩
    unfold zDue
    rw [if_neg (by decide), if_neg (by decide), if_neg (by decide), if_neg (by decide), if_neg (by decide), show d_L_ofRest q a e (nI 7) (nI k) p3 = some (x, q, a') from g2 p3, zup2_e]
  | 8, _ =>
    obtain ⟨k, hk, rfl, y, y1, y2, rfl⟩ := hok
    obtain ⟨x, v', q', g1, g2, g3⟩ := o_set h hk y1 y2
    refine ⟨x, v', q', a, e, nn, t, p, w, r, c, g1, g3, fun E w9 q9 k118 j686 x11 x12 x13 x17 x19 vv uu => ?_⟩
    unfold zDue
    rw [if_neg (by decide), if_neg (by decide), if_neg (by decide), if_neg (by decide), if_neg (by decide), show d_L_ofRest q a e (nI 8) (nI k) (nI y) = some (x, q', a) from g2, zup2_e]
