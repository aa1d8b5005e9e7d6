/-! ===== history: a change is recorded, and undone ===== -/
def zHk (u : zHI) : Prop := ∃ K x, K ≤ 6 ∧ x ≤ 6 ∧ u 7 0 1 = nI K ∧ u 7 0 0 = nI x
def zSame (v v' : zHV) : Prop := ∀ i k, k < zN5 i → v' i k = v i k
/-- a call of the public object, out of what it does to the house -/
def zCl (v : zHV) (u : zHI) (d : Option (Int32 × zHV)) : Option (Int32 × zHV × zHI) :=
  zup (d_X1_setAside v u) (fun z9 => z9) fun u8 => zup2 d (fun z9 => z9) fun t20 v20 => zup2 (d_X1_keepUnlessError u8 t20) (fun z9 => z9) fun t23 u23 => some (t23, v20, u23)
theorem b_rec {v v' : zHV} {u : zHI} {x : Int32} (hen : v 15 5 = 0 ∨ v 15 5 = 1) (hu : zHk u) :
    ∃ u', zCl v u (some (x, v')) = some (x, v', u') ∧ zHk u' ∧ (¬ x < 0 → ∃ y v2 u2, d_X1_takeBack v' u' = some (y, v2, u2) ∧ ¬ y < 0 ∧ zSame v v2 ∧ zHk u2) := by
  obtain ⟨K, i, hK, hi, k1, k0⟩ := hu
  obtain ⟨hh, h1, h2⟩ := b_copy (u i) v hen
  have ha : d_X1_setAside v u = some (zui u i hh) := by
    unfold d_X1_setAside
    rw [k0, zk7_nI _ (by omega), h1, zcl_e]
  have a0 : zui u i hh 7 = u 7 := by
    unfold zui
    rw [if_neg (by omega)]
  unfold zCl
  rw [ha, zup_e, zup2_e]
  by_cases hx : x < 0
  · refine ⟨zui u i hh, ?_, ⟨K, i, hK, hi, by rw [a0, k1], by rw [a0, k0]⟩, fun q => absurd hx q⟩
    unfold d_X1_keepUnlessError
    rw [if_pos hx, zup2_e]
  · have hk : d_X1_keepUnlessError (zui u i hh) x = some (x, zsi (zsi (zui u i hh) 0 (nI ((i + 1) % 7))) 1 (nI (min (K + 1) 6))) := by
      unfold d_X1_keepUnlessError
      rw [if_neg hx, a0, k0, nI_1, zlet_n]
      unfold zrm
      rw [if_neg (by decide), show (7 : Int32) = nI 7 from rfl, pk_rem (by omega) (by decide) (by decide)]
      simp only [zlet_n]
      have a1 : zsi (zui u i hh) 0 (nI ((i + 1) % 7)) 7 0 1 = nI K := by
        unfold zsi
        rw [if_pos rfl, zs_at, if_pos rfl, if_neg (by decide), a0, k1]
      rw [a1, nI_1]
      have a2 : (if 6 < nI (K + 1) then 6 else nI (K + 1)) = nI (min (K + 1) 6) := by
        by_cases c : K + 1 ≤ 6
        · rw [if_neg (show ¬ 6 < nI (K + 1) from nI_nlt (a := 6) c (by decide)), Nat.min_eq_left c]
        · rw [if_pos (show 6 < nI (K + 1) from nI_lt (a := 6) (by omega) (by omega)), Nat.min_eq_right (by omega)]; rfl
      rw [a2]
    obtain ⟨u', eu⟩ : ∃ u', u' = zsi (zsi (zui u i hh) 0 (nI ((i + 1) % 7))) 1 (nI (min (K + 1) 6)) := ⟨_, rfl⟩
    have e1 : u' 7 0 1 = nI (min (K + 1) 6) := by
      rw [eu]; unfold zsi
      rw [if_pos rfl, zs_at, if_pos rfl, if_pos rfl]
    have e0 : u' 7 0 0 = nI ((i + 1) % 7) := by
      rw [eu]; unfold zsi
      rw [if_pos rfl, zs_at, if_pos rfl, if_neg (by decide), if_pos rfl, zs_at, if_pos rfl, if_pos rfl]
    have ei : u' i = hh := by
      rw [eu]; unfold zsi
      rw [if_neg (by omega), if_neg (by omega)]
      unfold zui
      rw [if_pos rfl]
    rw [hk, ← eu, zup2_e]
    refine ⟨u', rfl, ⟨min (K + 1) 6, (i + 1) % 7, by omega, by omega, e1, e0⟩, fun _ => ?_⟩
    have hen' : u' i 15 5 = 0 ∨ u' i 15 5 = 1 := by rw [ei, h2 15 5 (by decide)]; exact hen
    obtain ⟨h3, g1, g2⟩ := b_copy v' (u' i) hen'
    obtain ⟨K', eK⟩ : ∃ K', min (K + 1) 6 = K' + 1 := ⟨min (K + 1) 6 - 1, by omega⟩
    rw [eK] at e1
    refine ⟨nI K', h3, zsi (zsi u' 0 (nI i)) 1 (nI K'), ?_, nI_pos (by omega), fun a b hb => by rw [g2 a b hb, ei]; exact h2 a b hb, ⟨K', i, by omega, hi, ?_, ?_⟩⟩
    · unfold d_X1_takeBack
      rw [e0, e1]
      simp only [zlet_n]
      rw [nR_add, show (1 : Int32) = nI 1 from rfl, pk_sub (by omega)]
      unfold zrm
      rw [if_neg (by decide), show (7 : Int32) = nI 7 from rfl, pk_rem (by omega) (by decide) (by decide), show ((i + 1) % 7 + 7 - 1) % 7 = i by omega]
      dsimp only
      rw [zk7_nI _ (by omega), if_neg (show ¬ nI (K' + 1) ≤ 0 from nI_nle (by omega) (by omega)), g1, zup_e]
      have hu1 : zsi u' 0 (nI i) 7 0 1 = nI (K' + 1) := by
        unfold zsi
        rw [if_pos rfl, zs_at, if_pos rfl, if_neg (by decide), e1]
      rw [hu1, pk_sub (by omega), show K' + 1 - 1 = K' by omega]
      have hu2 : zsi (zsi u' 0 (nI i)) 1 (nI K') 7 0 1 = nI K' := by
        unfold zsi
        rw [if_pos rfl, zs_at, if_pos rfl, if_pos rfl]
      rw [hu2]
    · unfold zsi
      rw [if_pos rfl, zs_at, if_pos rfl, if_pos rfl]
    · unfold zsi
      rw [if_pos rfl, zs_at, if_pos rfl, if_neg (by decide), if_pos rfl, zs_at, if_pos rfl, if_pos rfl]
/-- what a call of kind kd does to the house -/
def zact (kd : Nat) (v : zHV) (p2 p3 : Int32) : Option (Int32 × zHV) := match kd with
  | 0 => d_X2_takeClap v p2
  | 1 => d_X2_endPiece v p2
  | 2 => d_X2_letPass v p2
  | 3 => d_X2_playEncore v p2
  | 4 => d_X2_takeCurtain v
  | 5 => d_X2_endNight v
  | 6 => d_X2_changeLoudness v p2 p3
  | 7 => d_X2_switchPay v p2
  | _ => d_X2_changeSetting v p2 p3
theorem e_call (v w : zHV) (u q : zHI) {kd : Nat} (hk : kd < 9) (p2 p3 : Int32) {x : Int32} {v' : zHV} {u' : zHI} (h : zCl v u (zact kd v p2 p3) = some (x, v', u')) : d_L_call v w u q (nI kd) p2 p3 = some (x, v', u') := by
  unfold d_L_call
  match kd, hk with
  | 0, _ => rw [if_pos (by decide), show d_X7_clap v w u q p2 = some (x, v', u') from h, zup2_e]
  | 1, _ => rw [if_neg (by decide), if_pos (by decide), show d_X7_ends v w u q p2 = some (x, v', u') from h, zup2_e]
  | 2, _ => rw [if_neg (by decide), if_neg (by decide), if_pos (by decide), show d_X7_pass v w u q p2 = some (x, v', u') from h, zup2_e]
  | 3, _ => rw [if_neg (by decide), if_neg (by decide), if_neg (by decide), if_pos (by decide), show d_X7_play v w u q p2 = some (x, v', u') from h, zup2_e]
  | 4, _ => rw [if_neg (by decide), if_neg (by decide), if_neg (by decide), if_neg (by decide), if_pos (by decide), show d_X7_call v w u q = some (x, v', u') from h, zup2_e]
  | 5, _ => rw [if_neg (by decide), if_neg (by decide), if_neg (by decide), if_neg (by decide), if_neg (by decide), if_pos (by decide), show d_X7_night v w u q = some (x, v', u') from h, zup2_e]
  | 6, _ => rw [if_neg (by decide), if_neg (by decide), if_neg (by decide), if_neg (by decide), if_neg (by decide), if_neg (by decide), if_pos (by decide), show d_X7_loud v w u q p2 p3 = some (x, v', u') from h, zup2_e]
  | 7, _ => rw [if_neg (by decide), if_neg (by decide), if_neg (by decide), if_neg (by decide), if_neg (by decide), if_neg (by decide), if_neg (by decide), if_pos (by decide), show d_X7_pay v w u q p2 = some (x, v', u') from h, zup2_e]
  | 8, _ => rw [if_neg (by decide), if_neg (by decide), if_neg (by decide), if_neg (by decide), if_neg (by decide), if_neg (by decide), if_neg (by decide), if_neg (by decide), show d_X7_set v w u q p2 p3 = some (x, v', u') from h, zup2_e]
