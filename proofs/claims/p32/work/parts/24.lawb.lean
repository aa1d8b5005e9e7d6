abbrev rm_L_call : Room := { frames := 6, cells := 0, slots := 0, locals := 145 }
theorem hy_L_call : zY yL_call wsL_call cL_call 4 (some .int) 4 := ⟨⟨_, rfl⟩, by decide, by decide, by decide +kernel⟩
def d_L_call (v : zHV) (w : zHV) (u : zHI) (q : zHI) (p1 : Int32) (p2 : Int32) (p3 : Int32) : Option (Int32 × zHV × zHI) :=
(if p1 = 0 then
zup2 (d_X7_clap v w u q p2) (fun z9 => (z9.1, z9.2)) fun t50 u50 =>
some (t50, u50.1, u50.2)
else
(if p1 = 1 then
zup2 (d_X7_ends v w u q p2) (fun z9 => (z9.1, z9.2)) fun t56 u56 =>
some (t56, u56.1, u56.2)
else
(if p1 = 2 then
zup2 (d_X7_pass v w u q p2) (fun z9 => (z9.1, z9.2)) fun t62 u62 =>
some (t62, u62.1, u62.2)
else
(if p1 = 3 then
zup2 (d_X7_play v w u q p2) (fun z9 => (z9.1, z9.2)) fun t68 u68 =>
some (t68, u68.1, u68.2)
else
(if p1 = 4 then
zup2 (d_X7_call v w u q) (fun z9 => (z9.1, z9.2)) fun t73 u73 =>
some (t73, u73.1, u73.2)
else
(if p1 = 5 then
zup2 (d_X7_night v w u q) (fun z9 => (z9.1, z9.2)) fun t78 u78 =>
some (t78, u78.1, u78.2)
else
(if p1 = 6 then
zup2 (d_X7_loud v w u q p2 p3) (fun z9 => (z9.1, z9.2)) fun t85 u85 =>
some (t85, u85.1, u85.2)
else
(if p1 = 7 then
zup2 (d_X7_pay v w u q p2) (fun z9 => (z9.1, z9.2)) fun t91 u91 =>
some (t91, u91.1, u91.2)
else
zup2 (d_X7_set v w u q p2 p3) (fun z9 => (z9.1, z9.2)) fun t98 u98 =>
some (t98, u98.1, u98.2)))))))))
set_option maxHeartbeats 4000000 in
set_option maxRecDepth 100000 in
theorem c_L_call (l : Launch) (E : zE) (a b : Nat → Nat) (v : zHV) (w : zHV) (u : zHI) (q : zHI) (p1 : Int32) (p2 : Int32) (p3 : Int32) (r : Int32 × zHV × zHI) (h : d_L_call v w u q p1 p2 p3 = some r) : zMi l E yL_call wsL_call rm_L_call [.ref (a 0), .int p1, .int p2, .int p3] ((xoW E a b) ++ ((hsW E (zh a 1) v) ++ ((rdW E (zh a 30) w) ++ ((hiW E (zh a 33) u) ++ (slW E b q))))) r.1 ((xoW E a b) ++ ((hsW E (zh a 1) r.2.1) ++ ((rdW E (zh a 30) w) ++ ((hiW E (zh a 33) r.2.2) ++ (slW E b q))))) := by
  intro sz
  refine z_entry (Qc := fun A => zQi E A r.1 ((xoW E a b) ++ ((hsW E (zh a 1) r.2.1) ++ ((rdW E (zh a 30) w) ++ ((hiW E (zh a 33) r.2.2) ++ (slW E b q)))))) (by decide) rfl (Nat.le_of_ble_eq_true rfl) ?_
  intro p e s m below meth c A X hW ls hl
  have X : zX E wsL_call RL cL_call 4 (some .int) yL_call p s m ([.ref (a 0), .int p1, .int p2, .int p3] : List Value).toArray meth c A := X
  have hl : lv_has ls 4 [(0, .ref (a 0)), (1, .int p1), (2, .int p2), (3, .int p3)] := hl
  have hr : d_L_call v w u q p1 p2 p3 = some r := h
  clear h
  unfold d_L_call at hr
  refine lv_iload_n X.1 X.2.1 dL_call_0 rfl (lv_at hl 1 rfl) ?_
  refine z_if hr (fun h_0 hr => ?_) (fun h_0 hr => ?_)
  · refine lv_tableIn (off := 47) (tgt := 48) X.1 X.2.1 dL_call_1 (by rw [h_0]; decide) (by rw [h_0]; decide) (by rw [h_0]; rfl) (by decide) ?_
    refine lv_aload_n X.1 X.2.1 dL_call_48 rfl (lv_at hl 0 rfl) ?_
    refine lv_iload_n X.1 X.2.1 dL_call_49 rfl (lv_at hl 2 rfl) ?_
    have hp_50 := (z_sp2 (z_all (xoW E a b)) (z_sp2 (z_all (hsW E (zh a 1) v)) (z_sp2 (z_all (rdW E (zh a 30) w)) (z_sp2 (z_all (hiW E (zh a 33) u)) (z_all (slW E b q))))))
    refine z_calli X hW (fun z9 => (z9.1, z9.2)) hr hp_50 (fun z9 => ((xoW E a b) ++ ((hsW E (zh a 1) z9.1) ++ ((rdW E (zh a 30) w) ++ ((hiW E (zh a 33) z9.2) ++ (slW E b q)))))) (fun u50 => ((xoW E a b) ++ ((hsW E (zh a 1) u50.1) ++ ((rdW E (zh a 30) w) ++ ((hiW E (zh a 33) u50.2) ++ (slW E b q)))))) (fun z9 => (z_jn2 (z_lla (xoW E a b)) (z_jn2 (z_lla (hsW E (zh a 1) z9.1)) (z_jn2 (z_lla (rdW E (zh a 30) w)) (z_jn2 (z_lla (hiW E (zh a 33) z9.2)) (z_lla (slW E b q))))))) (fun x z9 h => z_runV (As := [.int p2]) (rest := []) X hW hp_50 (c_X7_clap l E a b v w u q p2 (x, z9) h _) hy_X7_clap 0 7 (C := RX7) (T := TX7) (N := 5) rfl rfl rfl gL_call_X7_clap rfl rfl ⟨by decide, by decide⟩ rfl hl rfl rfl (Nat.le_of_ble_eq_true rfl) dL_call_50 ⟨Nat.zero_le _, Nat.zero_le _⟩) (fun t50 u50 H locs hr hW => ?_)
    cases hr
    exact z_iret X hW rfl dL_call_53
  · refine z_if hr (fun h_1 hr => ?_) (fun h_1 hr => ?_)
    · refine lv_tableIn (off := 53) (tgt := 54) X.1 X.2.1 dL_call_1 (by rw [h_1]; decide) (by rw [h_1]; decide) (by rw [h_1]; rfl) (by decide) ?_
      refine lv_aload_n X.1 X.2.1 dL_call_54 rfl (lv_at hl 0 rfl) ?_
      refine lv_iload_n X.1 X.2.1 dL_call_55 rfl (lv_at hl 2 rfl) ?_
      have hp_56 := (z_sp2 (z_all (xoW E a b)) (z_sp2 (z_all (hsW E (zh a 1) v)) (z_sp2 (z_all (rdW E (zh a 30) w)) (z_sp2 (z_all (hiW E (zh a 33) u)) (z_all (slW E b q))))))
      refine z_calli X hW (fun z9 => (z9.1, z9.2)) hr hp_56 (fun z9 => ((xoW E a b) ++ ((hsW E (zh a 1) z9.1) ++ ((rdW E (zh a 30) w) ++ ((hiW E (zh a 33) z9.2) ++ (slW E b q)))))) (fun u56 => ((xoW E a b) ++ ((hsW E (zh a 1) u56.1) ++ ((rdW E (zh a 30) w) ++ ((hiW E (zh a 33) u56.2) ++ (slW E b q)))))) (fun z9 => (z_jn2 (z_lla (xoW E a b)) (z_jn2 (z_lla (hsW E (zh a 1) z9.1)) (z_jn2 (z_lla (rdW E (zh a 30) w)) (z_jn2 (z_lla (hiW E (zh a 33) z9.2)) (z_lla (slW E b q))))))) (fun x z9 h => z_runV (As := [.int p2]) (rest := []) X hW hp_56 (c_X7_ends l E a b v w u q p2 (x, z9) h _) hy_X7_ends 0 7 (C := RX7) (T := TX7) (N := 5) rfl rfl rfl gL_call_X7_ends rfl rfl ⟨by decide, by decide⟩ rfl hl rfl rfl (Nat.le_of_ble_eq_true rfl) dL_call_56 ⟨Nat.zero_le _, Nat.zero_le _⟩) (fun t56 u56 H locs hr hW => ?_)
      cases hr
      exact z_iret X hW rfl dL_call_59
    · refine z_if hr (fun h_2 hr => ?_) (fun h_2 hr => ?_)
      · refine lv_tableIn (off := 59) (tgt := 60) X.1 X.2.1 dL_call_1 (by rw [h_2]; decide) (by rw [h_2]; decide) (by rw [h_2]; rfl) (by decide) ?_
        refine lv_aload_n X.1 X.2.1 dL_call_60 rfl (lv_at hl 0 rfl) ?_
        refine lv_iload_n X.1 X.2.1 dL_call_61 rfl (lv_at hl 2 rfl) ?_
        have hp_62 := (z_sp2 (z_all (xoW E a b)) (z_sp2 (z_all (hsW E (zh a 1) v)) (z_sp2 (z_all (rdW E (zh a 30) w)) (z_sp2 (z_all (hiW E (zh a 33) u)) (z_all (slW E b q))))))
        refine z_calli X hW (fun z9 => (z9.1, z9.2)) hr hp_62 (fun z9 => ((xoW E a b) ++ ((hsW E (zh a 1) z9.1) ++ ((rdW E (zh a 30) w) ++ ((hiW E (zh a 33) z9.2) ++ (slW E b q)))))) (fun u62 => ((xoW E a b) ++ ((hsW E (zh a 1) u62.1) ++ ((rdW E (zh a 30) w) ++ ((hiW E (zh a 33) u62.2) ++ (slW E b q)))))) (fun z9 => (z_jn2 (z_lla (xoW E a b)) (z_jn2 (z_lla (hsW E (zh a 1) z9.1)) (z_jn2 (z_lla (rdW E (zh a 30) w)) (z_jn2 (z_lla (hiW E (zh a 33) z9.2)) (z_lla (slW E b q))))))) (fun x z9 h => z_runV (As := [.int p2]) (rest := []) X hW hp_62 (c_X7_pass l E a b v w u q p2 (x, z9) h _) hy_X7_pass 0 7 (C := RX7) (T := TX7) (N := 5) rfl rfl rfl gL_call_X7_pass rfl rfl ⟨by decide, by decide⟩ rfl hl rfl rfl (Nat.le_of_ble_eq_true rfl) dL_call_62 ⟨Nat.zero_le _, Nat.zero_le _⟩) (fun t62 u62 H locs hr hW => ?_)
        cases hr
        exact z_iret X hW rfl dL_call_65
      · refine z_if hr (fun h_3 hr => ?_) (fun h_3 hr => ?_)
        · refine lv_tableIn (off := 65) (tgt := 66) X.1 X.2.1 dL_call_1 (by rw [h_3]; decide) (by rw [h_3]; decide) (by rw [h_3]; rfl) (by decide) ?_
          refine lv_aload_n X.1 X.2.1 dL_call_66 rfl (lv_at hl 0 rfl) ?_
          refine lv_iload_n X.1 X.2.1 dL_call_67 rfl (lv_at hl 2 rfl) ?_
          have hp_68 := (z_sp2 (z_all (xoW E a b)) (z_sp2 (z_all (hsW E (zh a 1) v)) (z_sp2 (z_all (rdW E (zh a 30) w)) (z_sp2 (z_all (hiW E (zh a 33) u)) (z_all (slW E b q))))))
          refine z_calli X hW (fun z9 => (z9.1, z9.2)) hr hp_68 (fun z9 => ((xoW E a b) ++ ((hsW E (zh a 1) z9.1) ++ ((rdW E (zh a 30) w) ++ ((hiW E (zh a 33) z9.2) ++ (slW E b q)))))) (fun u68 => ((xoW E a b) ++ ((hsW E (zh a 1) u68.1) ++ ((rdW E (zh a 30) w) ++ ((hiW E (zh a 33) u68.2) ++ (slW E b q)))))) (fun z9 => (z_jn2 (z_lla (xoW E a b)) (z_jn2 (z_lla (hsW E (zh a 1) z9.1)) (z_jn2 (z_lla (rdW E (zh a 30) w)) (z_jn2 (z_lla (hiW E (zh a 33) z9.2)) (z_lla (slW E b q))))))) (fun x z9 h => z_runV (As := [.int p2]) (rest := []) X hW hp_68 (c_X7_play l E a b v w u q p2 (x, z9) h _) hy_X7_play 0 7 (C := RX7) (T := TX7) (N := 5) rfl rfl rfl gL_call_X7_play rfl rfl ⟨by decide, by decide⟩ rfl hl rfl rfl (Nat.le_of_ble_eq_true rfl) dL_call_68 ⟨Nat.zero_le _, Nat.zero_le _⟩) (fun t68 u68 H locs hr hW => ?_)
          cases hr
          exact z_iret X hW rfl dL_call_71
        · refine z_if hr (fun h_4 hr => ?_) (fun h_4 hr => ?_)
          · refine lv_tableIn (off := 71) (tgt := 72) X.1 X.2.1 dL_call_1 (by rw [h_4]; decide) (by rw [h_4]; decide) (by rw [h_4]; rfl) (by decide) ?_
            refine lv_aload_n X.1 X.2.1 dL_call_72 rfl (lv_at hl 0 rfl) ?_
            have hp_73 := (z_sp2 (z_all (xoW E a b)) (z_sp2 (z_all (hsW E (zh a 1) v)) (z_sp2 (z_all (rdW E (zh a 30) w)) (z_sp2 (z_all (hiW E (zh a 33) u)) (z_all (slW E b q))))))
            refine z_calli X hW (fun z9 => (z9.1, z9.2)) hr hp_73 (fun z9 => ((xoW E a b) ++ ((hsW E (zh a 1) z9.1) ++ ((rdW E (zh a 30) w) ++ ((hiW E (zh a 33) z9.2) ++ (slW E b q)))))) (fun u73 => ((xoW E a b) ++ ((hsW E (zh a 1) u73.1) ++ ((rdW E (zh a 30) w) ++ ((hiW E (zh a 33) u73.2) ++ (slW E b q)))))) (fun z9 => (z_jn2 (z_lla (xoW E a b)) (z_jn2 (z_lla (hsW E (zh a 1) z9.1)) (z_jn2 (z_lla (rdW E (zh a 30) w)) (z_jn2 (z_lla (hiW E (zh a 33) z9.2)) (z_lla (slW E b q))))))) (fun x z9 h => z_runV (As := []) (rest := []) X hW hp_73 (c_X7_call l E a b v w u q (x, z9) h _) hy_X7_call 0 7 (C := RX7) (T := TX7) (N := 5) rfl rfl rfl gL_call_X7_call rfl rfl ⟨by decide, by decide⟩ rfl hl rfl rfl (Nat.le_of_ble_eq_true rfl) dL_call_73 ⟨Nat.zero_le _, Nat.zero_le _⟩) (fun t73 u73 H locs hr hW => ?_)
            cases hr
            exact z_iret X hW rfl dL_call_76
          · refine z_if hr (fun h_5 hr => ?_) (fun h_5 hr => ?_)
            · refine lv_tableIn (off := 76) (tgt := 77) X.1 X.2.1 dL_call_1 (by rw [h_5]; decide) (by rw [h_5]; decide) (by rw [h_5]; rfl) (by decide) ?_
              refine lv_aload_n X.1 X.2.1 dL_call_77 rfl (lv_at hl 0 rfl) ?_
              have hp_78 := (z_sp2 (z_all (xoW E a b)) (z_sp2 (z_all (hsW E (zh a 1) v)) (z_sp2 (z_all (rdW E (zh a 30) w)) (z_sp2 (z_all (hiW E (zh a 33) u)) (z_all (slW E b q))))))
              refine z_calli X hW (fun z9 => (z9.1, z9.2)) hr hp_78 (fun z9 => ((xoW E a b) ++ ((hsW E (zh a 1) z9.1) ++ ((rdW E (zh a 30) w) ++ ((hiW E (zh a 33) z9.2) ++ (slW E b q)))))) (fun u78 => ((xoW E a b) ++ ((hsW E (zh a 1) u78.1) ++ ((rdW E (zh a 30) w) ++ ((hiW E (zh a 33) u78.2) ++ (slW E b q)))))) (fun z9 => (z_jn2 (z_lla (xoW E a b)) (z_jn2 (z_lla (hsW E (zh a 1) z9.1)) (z_jn2 (z_lla (rdW E (zh a 30) w)) (z_jn2 (z_lla (hiW E (zh a 33) z9.2)) (z_lla (slW E b q))))))) (fun x z9 h => z_runV (As := []) (rest := []) X hW hp_78 (c_X7_night l E a b v w u q (x, z9) h _) hy_X7_night 0 7 (C := RX7) (T := TX7) (N := 5) rfl rfl rfl gL_call_X7_night rfl rfl ⟨by decide, by decide⟩ rfl hl rfl rfl (Nat.le_of_ble_eq_true rfl) dL_call_78 ⟨Nat.zero_le _, Nat.zero_le _⟩) (fun t78 u78 H locs hr hW => ?_)
              cases hr
              exact z_iret X hW rfl dL_call_81
            · refine z_if hr (fun h_6 hr => ?_) (fun h_6 hr => ?_)
              · refine lv_tableIn (off := 81) (tgt := 82) X.1 X.2.1 dL_call_1 (by rw [h_6]; decide) (by rw [h_6]; decide) (by rw [h_6]; rfl) (by decide) ?_
                refine lv_aload_n X.1 X.2.1 dL_call_82 rfl (lv_at hl 0 rfl) ?_
                refine lv_iload_n X.1 X.2.1 dL_call_83 rfl (lv_at hl 2 rfl) ?_
                refine lv_iload_n X.1 X.2.1 dL_call_84 rfl (lv_at hl 3 rfl) ?_
                have hp_85 := (z_sp2 (z_all (xoW E a b)) (z_sp2 (z_all (hsW E (zh a 1) v)) (z_sp2 (z_all (rdW E (zh a 30) w)) (z_sp2 (z_all (hiW E (zh a 33) u)) (z_all (slW E b q))))))
                refine z_calli X hW (fun z9 => (z9.1, z9.2)) hr hp_85 (fun z9 => ((xoW E a b) ++ ((hsW E (zh a 1) z9.1) ++ ((rdW E (zh a 30) w) ++ ((hiW E (zh a 33) z9.2) ++ (slW E b q)))))) (fun u85 => ((xoW E a b) ++ ((hsW E (zh a 1) u85.1) ++ ((rdW E (zh a 30) w) ++ ((hiW E (zh a 33) u85.2) ++ (slW E b q)))))) (fun z9 => (z_jn2 (z_lla (xoW E a b)) (z_jn2 (z_lla (hsW E (zh a 1) z9.1)) (z_jn2 (z_lla (rdW E (zh a 30) w)) (z_jn2 (z_lla (hiW E (zh a 33) z9.2)) (z_lla (slW E b q))))))) (fun x z9 h => z_runV (As := [.int p2, .int p3]) (rest := []) X hW hp_85 (c_X7_loud l E a b v w u q p2 p3 (x, z9) h _) hy_X7_loud 0 7 (C := RX7) (T := TX7) (N := 5) rfl rfl rfl gL_call_X7_loud rfl rfl ⟨by decide, by decide⟩ rfl hl rfl rfl (Nat.le_of_ble_eq_true rfl) dL_call_85 ⟨Nat.zero_le _, Nat.zero_le _⟩) (fun t85 u85 H locs hr hW => ?_)
                cases hr
                exact z_iret X hW rfl dL_call_88
              · refine z_if hr (fun h_7 hr => ?_) (fun h_7 hr => ?_)
                · refine lv_tableIn (off := 88) (tgt := 89) X.1 X.2.1 dL_call_1 (by rw [h_7]; decide) (by rw [h_7]; decide) (by rw [h_7]; rfl) (by decide) ?_
                  refine lv_aload_n X.1 X.2.1 dL_call_89 rfl (lv_at hl 0 rfl) ?_
                  refine lv_iload_n X.1 X.2.1 dL_call_90 rfl (lv_at hl 2 rfl) ?_
                  have hp_91 := (z_sp2 (z_all (xoW E a b)) (z_sp2 (z_all (hsW E (zh a 1) v)) (z_sp2 (z_all (rdW E (zh a 30) w)) (z_sp2 (z_all (hiW E (zh a 33) u)) (z_all (slW E b q))))))
                  refine z_calli X hW (fun z9 => (z9.1, z9.2)) hr hp_91 (fun z9 => ((xoW E a b) ++ ((hsW E (zh a 1) z9.1) ++ ((rdW E (zh a 30) w) ++ ((hiW E (zh a 33) z9.2) ++ (slW E b q)))))) (fun u91 => ((xoW E a b) ++ ((hsW E (zh a 1) u91.1) ++ ((rdW E (zh a 30) w) ++ ((hiW E (zh a 33) u91.2) ++ (slW E b q)))))) (fun z9 => (z_jn2 (z_lla (xoW E a b)) (z_jn2 (z_lla (hsW E (zh a 1) z9.1)) (z_jn2 (z_lla (rdW E (zh a 30) w)) (z_jn2 (z_lla (hiW E (zh a 33) z9.2)) (z_lla (slW E b q))))))) (fun x z9 h => z_runV (As := [.int p2]) (rest := []) X hW hp_91 (c_X7_pay l E a b v w u q p2 (x, z9) h _) hy_X7_pay 0 7 (C := RX7) (T := TX7) (N := 5) rfl rfl rfl gL_call_X7_pay rfl rfl ⟨by decide, by decide⟩ rfl hl rfl rfl (Nat.le_of_ble_eq_true rfl) dL_call_91 ⟨Nat.zero_le _, Nat.zero_le _⟩) (fun t91 u91 H locs hr hW => ?_)
                  cases hr
                  exact z_iret X hW rfl dL_call_94
                · have e_0 := lv_neT h_0 (a := 0) rfl
                  have e_1 := lv_neT h_1 (a := 1) rfl
                  have e_2 := lv_neT h_2 (a := 2) rfl
                  have e_3 := lv_neT h_3 (a := 3) rfl
                  have e_4 := lv_neT h_4 (a := 4) rfl
                  have e_5 := lv_neT h_5 (a := 5) rfl
                  have e_6 := lv_neT h_6 (a := 6) rfl
                  have e_7 := lv_neT h_7 (a := 7) rfl
                  refine lv_tableOut (tgt := 95) X.1 X.2.1 dL_call_1 (by omega) (by decide) ?_
                  refine lv_aload_n X.1 X.2.1 dL_call_95 rfl (lv_at hl 0 rfl) ?_
                  refine lv_iload_n X.1 X.2.1 dL_call_96 rfl (lv_at hl 2 rfl) ?_
                  refine lv_iload_n X.1 X.2.1 dL_call_97 rfl (lv_at hl 3 rfl) ?_
                  have hp_98 := (z_sp2 (z_all (xoW E a b)) (z_sp2 (z_all (hsW E (zh a 1) v)) (z_sp2 (z_all (rdW E (zh a 30) w)) (z_sp2 (z_all (hiW E (zh a 33) u)) (z_all (slW E b q))))))
                  refine z_calli X hW (fun z9 => (z9.1, z9.2)) hr hp_98 (fun z9 => ((xoW E a b) ++ ((hsW E (zh a 1) z9.1) ++ ((rdW E (zh a 30) w) ++ ((hiW E (zh a 33) z9.2) ++ (slW E b q)))))) (fun u98 => ((xoW E a b) ++ ((hsW E (zh a 1) u98.1) ++ ((rdW E (zh a 30) w) ++ ((hiW E (zh a 33) u98.2) ++ (slW E b q)))))) (fun z9 => (z_jn2 (z_lla (xoW E a b)) (z_jn2 (z_lla (hsW E (zh a 1) z9.1)) (z_jn2 (z_lla (rdW E (zh a 30) w)) (z_jn2 (z_lla (hiW E (zh a 33) z9.2)) (z_lla (slW E b q))))))) (fun x z9 h => z_runV (As := [.int p2, .int p3]) (rest := []) X hW hp_98 (c_X7_set l E a b v w u q p2 p3 (x, z9) h _) hy_X7_set 0 7 (C := RX7) (T := TX7) (N := 5) rfl rfl rfl gL_call_X7_set rfl rfl ⟨by decide, by decide⟩ rfl hl rfl rfl (Nat.le_of_ble_eq_true rfl) dL_call_98 ⟨Nat.zero_le _, Nat.zero_le _⟩) (fun t98 u98 H locs hr hW => ?_)
                  cases hr
                  exact z_iret X hW rfl dL_call_101
abbrev rm_L_told : Room := { frames := 5, cells := 0, slots := 0, locals := 106 }
theorem hy_L_told : zY yL_told wsL_told cL_told 4 (some .long) 1 := ⟨⟨_, rfl⟩, by decide, by decide, by decide +kernel⟩
def lpB_L_told_33 (v : zHV) (w : zHV) (u : zHI) (q : zHI)  (k_33 : Int64 → Int32 → Option (Int64)) (x1 : Int64) (x3 : Int32) : Option (Int64) :=
(if 30 ≤ x3 then
some x1
else
zlet ((31 * x1 : Int64)) fun t46 =>
zcl (d_X7_of v w u q x3 0) fun t50 =>
zlet ((t50 : Int32).toInt64) fun t53 =>
zlet ((t46 + t53 : Int64)) fun t54 =>
zcl (d_X7_of v w u q x3 3) fun t61 =>
zlet ((t61 : Int32).toInt64) fun t64 =>
zlet ((100 * t64 : Int64)) fun t65 =>
zlet ((t54 + t65 : Int64)) fun t66 =>
zlet ((31 * t66 : Int64)) fun t67 =>
zcl (d_X7_of v w u q x3 4) fun t71 =>
zlet ((t71 : Int32).toInt64) fun t74 =>
zlet ((t67 + t74 : Int64)) fun t75 =>
zcl (d_X7_of v w u q x3 5) fun t82 =>
zlet ((t82 : Int32).toInt64) fun t85 =>
zlet ((100 * t85 : Int64)) fun t86 =>
zlet ((t75 + t86 : Int64)) fun t87 =>
zcl (d_X7_of v w u q x3 6) fun t95 =>
zlet ((t95 : Int32).toInt64) fun t98 =>
zlet ((1000 * t98 : Int64)) fun t99 =>
zlet ((t87 + t99 : Int64)) fun t100 =>
zlet ((31 * t100 : Int64)) fun t109 =>
zcl (d_X7_clapper v w u q x3) fun t112 =>
zlet ((t112 : Int32).toInt64) fun t115 =>
zlet ((t109 + t115 : Int64)) fun t116 =>
zlet ((31 * t116 : Int64)) fun t117 =>
zrm x3 6 fun t122 =>
zdv x3 6 fun t126 =>
zrm t126 4 fun t128 =>
zcl (d_X7_performer v w u q t122 t128) fun t129 =>
zlet ((t129 : Int32).toInt64) fun t132 =>
zlet ((t117 + t132 : Int64)) fun t133 =>
zlet ((31 * t133 : Int64)) fun t142 =>
zdv x3 2 fun t146 =>
zrm x3 2 fun t149 =>
zcl (d_X7_owed v w u q t146 t149) fun t150 =>
zlet ((t150 : Int32).toInt64) fun t153 =>
zlet ((t142 + t153 : Int64)) fun t154 =>
zlet ((31 * t154 : Int64)) fun t155 =>
zdv x3 4 fun t159 =>
zrm x3 4 fun t162 =>
zcl (d_X7_record v w u q t159 t162) fun t163 =>
zlet ((t163 : Int32).toInt64) fun t166 =>
zlet ((t155 + t166 : Int64)) fun t167 =>
zlet (x3 + Int32.ofInt 1) fun x3_169 =>
k_33 t167 x3_169)
def lp_L_told_33 (v : zHV) (w : zHV) (u : zHI) (q : zHI)  : Nat → Int64 → Int32 → Option (Int64)
  | 0 => fun _ _ => none
  | n_ + 1 => lpB_L_told_33 v w u q  (lp_L_told_33 v w u q  n_)
def lpB_L_told_6 (v : zHV) (w : zHV) (u : zHI) (q : zHI)  (k_6 : Int64 → Int32 → Option (Int64)) (x1 : Int64) (x3 : Int32) : Option (Int64) :=
(if 19 ≤ x3 then
lp_L_told_33 v w u q  zF x1 0
else
zlet ((31 * x1 : Int64)) fun t16 =>
zcl (d_X7_count v w u q x3) fun t19 =>
zlet ((t19 : Int32).toInt64) fun t22 =>
zlet ((t16 + t22 : Int64)) fun t23 =>
zlet (x3 + Int32.ofInt 1) fun x3_25 =>
k_6 t23 x3_25)
def lp_L_told_6 (v : zHV) (w : zHV) (u : zHI) (q : zHI)  : Nat → Int64 → Int32 → Option (Int64)
  | 0 => fun _ _ => none
  | n_ + 1 => lpB_L_told_6 v w u q  (lp_L_told_6 v w u q  n_)
def d_L_told (v : zHV) (w : zHV) (u : zHI) (q : zHI) : Option (Int64) :=
lp_L_told_6 v w u q  zF 229 0
set_option maxHeartbeats 4000000 in
set_option maxRecDepth 100000 in
theorem c_L_told (l : Launch) (E : zE) (a b : Nat → Nat) (v : zHV) (w : zHV) (u : zHI) (q : zHI) (r : Int64) (h : d_L_told v w u q = some r) : zMl l E yL_told wsL_told rm_L_told [.ref (a 0)] ((xoW E a b) ++ ((hsW E (zh a 1) v) ++ ((rdW E (zh a 30) w) ++ ((hiW E (zh a 33) u) ++ (slW E b q))))) r ((xoW E a b) ++ ((hsW E (zh a 1) v) ++ ((rdW E (zh a 30) w) ++ ((hiW E (zh a 33) u) ++ (slW E b q))))) := by
  intro sz
  refine z_entry (Qc := fun A => zQl E A r ((xoW E a b) ++ ((hsW E (zh a 1) v) ++ ((rdW E (zh a 30) w) ++ ((hiW E (zh a 33) u) ++ (slW E b q)))))) (by decide) rfl (Nat.le_of_ble_eq_true rfl) ?_
  intro p e s m below meth c A X hW ls hl
  have X : zX E wsL_told RL cL_told 4 (some .long) yL_told p s m ([.ref (a 0)] : List Value).toArray meth c A := X
  have hl : lv_has ls 4 [(0, .ref (a 0))] := hl
  have hr : d_L_told v w u q = some r := h
  clear h
  have q_0 : Cond.constantLong RL 112 229 ∈ wsL_told := List.mem_of_getElem? (i := 1) rfl
  have q_1 : Cond.constantLong RL 114 31 ∈ wsL_told := List.mem_of_getElem? (i := 2) rfl
  have q_2 : Cond.constantLong RL 116 100 ∈ wsL_told := List.mem_of_getElem? (i := 3) rfl
  have q_3 : Cond.constantLong RL 118 1000 ∈ wsL_told := List.mem_of_getElem? (i := 4) rfl
  unfold d_L_told at hr
  refine lv_ldc2 (v := 229) X.1 X.2.1 X.2.2.2.1 (X.2.2.2.2.1 _ q_0) dL_told_0 ?_
  refine lv_lstore_n (lv' := [(1, .long 229), (0, .ref (a 0))]) X.1 X.2.1 dL_told_3 rfl hl (by decide) rfl (fun ls hl => ?_)
  refine lv_iconst (v := 0) X.1 X.2.1 dL_told_4 (by decide) ?_
  refine lv_istore_n (lv' := [(3, .int 0), (1, .long 229), (0, .ref (a 0))]) X.1 X.2.1 dL_told_5 rfl hl (by decide) rfl (fun ls hl => ?_)
  have L_6 : ∀ (n_6 : Nat), ∀ (x1 : Int64) (x3 : Int32) (H : Heap) (locs : List Loc) (ls : Array Slot), lp_L_told_6 v w u q  n_6 x1 x3 = some r → zW E A s ((xoW E a b) ++ ((hsW E (zh a 1) v) ++ ((rdW E (zh a 30) w) ++ ((hiW E (zh a 33) u) ++ (slW E b q))))) H locs → lv_has ls 4 [(0, .ref (a 0)), (1, .long x1), (3, .int x3)] → W p l e rm_L_told s m ([.ref (a 0)] : List Value).toArray below meth c H locs 0 0 (MQ below (zQl E A r ((xoW E a b) ++ ((hsW E (zh a 1) v) ++ ((rdW E (zh a 30) w) ++ ((hiW E (zh a 33) u) ++ (slW E b q)))))) ([.ref (a 0)] : List Value).toArray s 0 0 A) (F0 m 6 ls []) := by
    intro n_6
    induction n_6 with
    | zero => exact fun x1 x3 H locs ls hr hW hl => absurd (show (none : Option (Int64)) = some r from hr) (fun h => by cases h)
    | succ n_6 ih_6 =>
      intro x1 x3 H locs ls hr hW hl
      have hr : lpB_L_told_6 v w u q  (lp_L_told_6 v w u q  n_6) x1 x3 = some r := hr
      unfold lpB_L_told_6 at hr
      refine lv_iload_n X.1 X.2.1 dL_told_6 rfl (lv_at hl 2 rfl) ?_
      refine lv_bipush (v := 19) X.1 X.2.1 dL_told_7 (by decide) ?_
      refine z_cmpge X 31 hr dL_told_9 (by decide) (fun hr => ?_) (fun hr => ?_)
      · refine lv_iconst (v := 0) X.1 X.2.1 dL_told_31 (by decide) ?_
        refine lv_istore_n (lv' := [(3, .int 0), (0, .ref (a 0)), (1, .long x1)]) X.1 X.2.1 dL_told_32 rfl hl (by decide) rfl (fun ls hl => ?_)
        have L_33 : ∀ (n_33 : Nat), ∀ (x1 : Int64) (x3 : Int32) (H : Heap) (locs : List Loc) (ls : Array Slot), lp_L_told_33 v w u q  n_33 x1 x3 = some r → zW E A s ((xoW E a b) ++ ((hsW E (zh a 1) v) ++ ((rdW E (zh a 30) w) ++ ((hiW E (zh a 33) u) ++ (slW E b q))))) H locs → lv_has ls 4 [(0, .ref (a 0)), (1, .long x1), (3, .int x3)] → W p l e rm_L_told s m ([.ref (a 0)] : List Value).toArray below meth c H locs 0 0 (MQ below (zQl E A r ((xoW E a b) ++ ((hsW E (zh a 1) v) ++ ((rdW E (zh a 30) w) ++ ((hiW E (zh a 33) u) ++ (slW E b q)))))) ([.ref (a 0)] : List Value).toArray s 0 0 A) (F0 m 33 ls []) := by
          intro n_33
          induction n_33 with
          | zero => exact fun x1 x3 H locs ls hr hW hl => absurd (show (none : Option (Int64)) = some r from hr) (fun h => by cases h)
          | succ n_33 ih_33 =>
            intro x1 x3 H locs ls hr hW hl
            have hr : lpB_L_told_33 v w u q  (lp_L_told_33 v w u q  n_33) x1 x3 = some r := hr
            unfold lpB_L_told_33 at hr
            refine lv_iload_n X.1 X.2.1 dL_told_33 rfl (lv_at hl 2 rfl) ?_
            refine lv_bipush (v := 30) X.1 X.2.1 dL_told_34 (by decide) ?_
            refine z_cmpge X 175 hr dL_told_36 (by decide) (fun hr => ?_) (fun hr => ?_)
            · refine lv_lload_n X.1 X.2.1 dL_told_175 rfl (lv_at hl 1 rfl) ?_
              cases hr
              exact z_lret X hW rfl dL_told_176
            · refine lv_ldc2 (v := 31) X.1 X.2.1 X.2.2.2.1 (X.2.2.2.2.1 _ q_1) dL_told_39 ?_
              refine lv_ldc2 (v := 31) X.1 X.2.1 X.2.2.2.1 (X.2.2.2.2.1 _ q_1) dL_told_42 ?_
              refine lv_lload_n X.1 X.2.1 dL_told_45 rfl (lv_at hl 1 rfl) ?_
              refine z_lmul X hr dL_told_46 (fun t46 hr => ?_)
              refine lv_aload_n X.1 X.2.1 dL_told_47 rfl (lv_at hl 0 rfl) ?_
              refine lv_iload_n X.1 X.2.1 dL_told_48 rfl (lv_at hl 2 rfl) ?_
              refine lv_iconst (v := 0) X.1 X.2.1 dL_told_49 (by decide) ?_
              have hp_50 := (z_sp2 (z_all (xoW E a b)) (z_sp2 (z_all (hsW E (zh a 1) v)) (z_sp2 (z_all (rdW E (zh a 30) w)) (z_sp2 (z_all (hiW E (zh a 33) u)) (z_all (slW E b q))))))
              refine z_callp X hW hr hp_50 (fun x h => z_runV (As := [.int x3, .int 0]) (rest := [.long t46, .long 31]) X hW hp_50 (c_X7_of l E a b v w u q x3 0 x h _) hy_X7_of 0 7 (C := RX7) (T := TX7) (N := 5) rfl rfl rfl gL_told_X7_of rfl rfl ⟨by decide, by decide⟩ rfl hl rfl rfl (Nat.le_of_ble_eq_true rfl) dL_told_50 ⟨Nat.zero_le _, Nat.zero_le _⟩) (fun t50 H locs hr hW => ?_)
              refine z_i2l X hr dL_told_53 (fun t53 hr => ?_)
              refine z_ladd X hr dL_told_54 (fun t54 hr => ?_)
              refine lv_ldc2 (v := 100) X.1 X.2.1 X.2.2.2.1 (X.2.2.2.2.1 _ q_2) dL_told_55 ?_
              refine lv_aload_n X.1 X.2.1 dL_told_58 rfl (lv_at hl 0 rfl) ?_
              refine lv_iload_n X.1 X.2.1 dL_told_59 rfl (lv_at hl 2 rfl) ?_
              refine lv_iconst (v := 3) X.1 X.2.1 dL_told_60 (by decide) ?_
              have hp_61 := (z_sp2 (z_all (xoW E a b)) (z_sp2 (z_all (hsW E (zh a 1) v)) (z_sp2 (z_all (rdW E (zh a 30) w)) (z_sp2 (z_all (hiW E (zh a 33) u)) (z_all (slW E b q))))))
              refine z_callp X hW hr hp_61 (fun x h => z_runV (As := [.int x3, .int 3]) (rest := [.long 100, .long t54, .long 31]) X hW hp_61 (c_X7_of l E a b v w u q x3 3 x h _) hy_X7_of 0 7 (C := RX7) (T := TX7) (N := 5) rfl rfl rfl gL_told_X7_of rfl rfl ⟨by decide, by decide⟩ rfl hl rfl rfl (Nat.le_of_ble_eq_true rfl) dL_told_61 ⟨Nat.zero_le _, Nat.zero_le _⟩) (fun t61 H locs hr hW => ?_)
              refine z_i2l X hr dL_told_64 (fun t64 hr => ?_)
              refine z_lmul X hr dL_told_65 (fun t65 hr => ?_)
              refine z_ladd X hr dL_told_66 (fun t66 hr => ?_)
              refine z_lmul X hr dL_told_67 (fun t67 hr => ?_)
              refine lv_aload_n X.1 X.2.1 dL_told_68 rfl (lv_at hl 0 rfl) ?_
              refine lv_iload_n X.1 X.2.1 dL_told_69 rfl (lv_at hl 2 rfl) ?_
              refine lv_iconst (v := 4) X.1 X.2.1 dL_told_70 (by decide) ?_
              have hp_71 := (z_sp2 (z_all (xoW E a b)) (z_sp2 (z_all (hsW E (zh a 1) v)) (z_sp2 (z_all (rdW E (zh a 30) w)) (z_sp2 (z_all (hiW E (zh a 33) u)) (z_all (slW E b q))))))
              refine z_callp X hW hr hp_71 (fun x h => z_runV (As := [.int x3, .int 4]) (rest := [.long t67]) X hW hp_71 (c_X7_of l E a b v w u q x3 4 x h _) hy_X7_of 0 7 (C := RX7) (T := TX7) (N := 5) rfl rfl rfl gL_told_X7_of rfl rfl ⟨by decide, by decide⟩ rfl hl rfl rfl (Nat.le_of_ble_eq_true rfl) dL_told_71 ⟨Nat.zero_le _, Nat.zero_le _⟩) (fun t71 H locs hr hW => ?_)
              refine z_i2l X hr dL_told_74 (fun t74 hr => ?_)
              refine z_ladd X hr dL_told_75 (fun t75 hr => ?_)
              refine lv_ldc2 (v := 100) X.1 X.2.1 X.2.2.2.1 (X.2.2.2.2.1 _ q_2) dL_told_76 ?_
              refine lv_aload_n X.1 X.2.1 dL_told_79 rfl (lv_at hl 0 rfl) ?_
              refine lv_iload_n X.1 X.2.1 dL_told_80 rfl (lv_at hl 2 rfl) ?_
              refine lv_iconst (v := 5) X.1 X.2.1 dL_told_81 (by decide) ?_
              have hp_82 := (z_sp2 (z_all (xoW E a b)) (z_sp2 (z_all (hsW E (zh a 1) v)) (z_sp2 (z_all (rdW E (zh a 30) w)) (z_sp2 (z_all (hiW E (zh a 33) u)) (z_all (slW E b q))))))
              refine z_callp X hW hr hp_82 (fun x h => z_runV (As := [.int x3, .int 5]) (rest := [.long 100, .long t75]) X hW hp_82 (c_X7_of l E a b v w u q x3 5 x h _) hy_X7_of 0 7 (C := RX7) (T := TX7) (N := 5) rfl rfl rfl gL_told_X7_of rfl rfl ⟨by decide, by decide⟩ rfl hl rfl rfl (Nat.le_of_ble_eq_true rfl) dL_told_82 ⟨Nat.zero_le _, Nat.zero_le _⟩) (fun t82 H locs hr hW => ?_)
              refine z_i2l X hr dL_told_85 (fun t85 hr => ?_)
              refine z_lmul X hr dL_told_86 (fun t86 hr => ?_)
              refine z_ladd X hr dL_told_87 (fun t87 hr => ?_)
              refine lv_ldc2 (v := 1000) X.1 X.2.1 X.2.2.2.1 (X.2.2.2.2.1 _ q_3) dL_told_88 ?_
              refine lv_aload_n X.1 X.2.1 dL_told_91 rfl (lv_at hl 0 rfl) ?_
              refine lv_iload_n X.1 X.2.1 dL_told_92 rfl (lv_at hl 2 rfl) ?_
              refine lv_bipush (v := 6) X.1 X.2.1 dL_told_93 (by decide) ?_
              have hp_95 := (z_sp2 (z_all (xoW E a b)) (z_sp2 (z_all (hsW E (zh a 1) v)) (z_sp2 (z_all (rdW E (zh a 30) w)) (z_sp2 (z_all (hiW E (zh a 33) u)) (z_all (slW E b q))))))
              refine z_callp X hW hr hp_95 (fun x h => z_runV (As := [.int x3, .int 6]) (rest := [.long 1000, .long t87]) X hW hp_95 (c_X7_of l E a b v w u q x3 6 x h _) hy_X7_of 0 7 (C := RX7) (T := TX7) (N := 5) rfl rfl rfl gL_told_X7_of rfl rfl ⟨by decide, by decide⟩ rfl hl rfl rfl (Nat.le_of_ble_eq_true rfl) dL_told_95 ⟨Nat.zero_le _, Nat.zero_le _⟩) (fun t95 H locs hr hW => ?_)
              refine z_i2l X hr dL_told_98 (fun t98 hr => ?_)
              refine z_lmul X hr dL_told_99 (fun t99 hr => ?_)
              refine z_ladd X hr dL_told_100 (fun t100 hr => ?_)
              refine lv_lstore_n (lv' := [(1, .long t100), (0, .ref (a 0)), (3, .int x3)]) X.1 X.2.1 dL_told_101 rfl hl (by decide) rfl (fun ls hl => ?_)
              refine lv_ldc2 (v := 31) X.1 X.2.1 X.2.2.2.1 (X.2.2.2.2.1 _ q_1) dL_told_102 ?_
              refine lv_ldc2 (v := 31) X.1 X.2.1 X.2.2.2.1 (X.2.2.2.2.1 _ q_1) dL_told_105 ?_
              refine lv_lload_n X.1 X.2.1 dL_told_108 rfl (lv_at hl 0 rfl) ?_
              refine z_lmul X hr dL_told_109 (fun t109 hr => ?_)
              refine lv_aload_n X.1 X.2.1 dL_told_110 rfl (lv_at hl 1 rfl) ?_
              refine lv_iload_n X.1 X.2.1 dL_told_111 rfl (lv_at hl 2 rfl) ?_
              have hp_112 := (z_sp2 (z_all (xoW E a b)) (z_sp2 (z_all (hsW E (zh a 1) v)) (z_sp2 (z_all (rdW E (zh a 30) w)) (z_sp2 (z_all (hiW E (zh a 33) u)) (z_all (slW E b q))))))
              refine z_callp X hW hr hp_112 (fun x h => z_runV (As := [.int x3]) (rest := [.long t109, .long 31]) X hW hp_112 (c_X7_clapper l E a b v w u q x3 x h _) hy_X7_clapper 0 7 (C := RX7) (T := TX7) (N := 5) rfl rfl rfl gL_told_X7_clapper rfl rfl ⟨by decide, by decide⟩ rfl hl rfl rfl (Nat.le_of_ble_eq_true rfl) dL_told_112 ⟨Nat.zero_le _, Nat.zero_le _⟩) (fun t112 H locs hr hW => ?_)
              refine z_i2l X hr dL_told_115 (fun t115 hr => ?_)
              refine z_ladd X hr dL_told_116 (fun t116 hr => ?_)
              refine z_lmul X hr dL_told_117 (fun t117 hr => ?_)
              refine lv_aload_n X.1 X.2.1 dL_told_118 rfl (lv_at hl 1 rfl) ?_
              refine lv_iload_n X.1 X.2.1 dL_told_119 rfl (lv_at hl 2 rfl) ?_
              refine lv_bipush (v := 6) X.1 X.2.1 dL_told_120 (by decide) ?_
              refine z_irem X hr dL_told_122 (fun t122 hr => ?_)
              refine lv_iload_n X.1 X.2.1 dL_told_123 rfl (lv_at hl 2 rfl) ?_
              refine lv_bipush (v := 6) X.1 X.2.1 dL_told_124 (by decide) ?_
              refine z_idiv X hr dL_told_126 (fun t126 hr => ?_)
              refine lv_iconst (v := 4) X.1 X.2.1 dL_told_127 (by decide) ?_
              refine z_irem X hr dL_told_128 (fun t128 hr => ?_)
              have hp_129 := (z_sp2 (z_all (xoW E a b)) (z_sp2 (z_all (hsW E (zh a 1) v)) (z_sp2 (z_all (rdW E (zh a 30) w)) (z_sp2 (z_all (hiW E (zh a 33) u)) (z_all (slW E b q))))))
              refine z_callp X hW hr hp_129 (fun x h => z_runV (As := [.int t122, .int t128]) (rest := [.long t117]) X hW hp_129 (c_X7_performer l E a b v w u q t122 t128 x h _) hy_X7_performer 0 7 (C := RX7) (T := TX7) (N := 5) rfl rfl rfl gL_told_X7_performer rfl rfl ⟨by decide, by decide⟩ rfl hl rfl rfl (Nat.le_of_ble_eq_true rfl) dL_told_129 ⟨Nat.zero_le _, Nat.zero_le _⟩) (fun t129 H locs hr hW => ?_)
              refine z_i2l X hr dL_told_132 (fun t132 hr => ?_)
              refine z_ladd X hr dL_told_133 (fun t133 hr => ?_)
              refine lv_lstore_n (lv' := [(1, .long t133), (0, .ref (a 0)), (3, .int x3)]) X.1 X.2.1 dL_told_134 rfl hl (by decide) rfl (fun ls hl => ?_)
              refine lv_ldc2 (v := 31) X.1 X.2.1 X.2.2.2.1 (X.2.2.2.2.1 _ q_1) dL_told_135 ?_
              refine lv_ldc2 (v := 31) X.1 X.2.1 X.2.2.2.1 (X.2.2.2.2.1 _ q_1) dL_told_138 ?_
              refine lv_lload_n X.1 X.2.1 dL_told_141 rfl (lv_at hl 0 rfl) ?_
              refine z_lmul X hr dL_told_142 (fun t142 hr => ?_)
              refine lv_aload_n X.1 X.2.1 dL_told_143 rfl (lv_at hl 1 rfl) ?_
              refine lv_iload_n X.1 X.2.1 dL_told_144 rfl (lv_at hl 2 rfl) ?_
              refine lv_iconst (v := 2) X.1 X.2.1 dL_told_145 (by decide) ?_
              refine z_idiv X hr dL_told_146 (fun t146 hr => ?_)
              refine lv_iload_n X.1 X.2.1 dL_told_147 rfl (lv_at hl 2 rfl) ?_
              refine lv_iconst (v := 2) X.1 X.2.1 dL_told_148 (by decide) ?_
              refine z_irem X hr dL_told_149 (fun t149 hr => ?_)
              have hp_150 := (z_sp2 (z_all (xoW E a b)) (z_sp2 (z_all (hsW E (zh a 1) v)) (z_sp2 (z_all (rdW E (zh a 30) w)) (z_sp2 (z_all (hiW E (zh a 33) u)) (z_all (slW E b q))))))
              refine z_callp X hW hr hp_150 (fun x h => z_runV (As := [.int t146, .int t149]) (rest := [.long t142, .long 31]) X hW hp_150 (c_X7_owed l E a b v w u q t146 t149 x h _) hy_X7_owed 0 7 (C := RX7) (T := TX7) (N := 5) rfl rfl rfl gL_told_X7_owed rfl rfl ⟨by decide, by decide⟩ rfl hl rfl rfl (Nat.le_of_ble_eq_true rfl) dL_told_150 ⟨Nat.zero_le _, Nat.zero_le _⟩) (fun t150 H locs hr hW => ?_)
              refine z_i2l X hr dL_told_153 (fun t153 hr => ?_)
              refine z_ladd X hr dL_told_154 (fun t154 hr => ?_)
              refine z_lmul X hr dL_told_155 (fun t155 hr => ?_)
              refine lv_aload_n X.1 X.2.1 dL_told_156 rfl (lv_at hl 1 rfl) ?_
              refine lv_iload_n X.1 X.2.1 dL_told_157 rfl (lv_at hl 2 rfl) ?_
              refine lv_iconst (v := 4) X.1 X.2.1 dL_told_158 (by decide) ?_
              refine z_idiv X hr dL_told_159 (fun t159 hr => ?_)
              refine lv_iload_n X.1 X.2.1 dL_told_160 rfl (lv_at hl 2 rfl) ?_
              refine lv_iconst (v := 4) X.1 X.2.1 dL_told_161 (by decide) ?_
              refine z_irem X hr dL_told_162 (fun t162 hr => ?_)
              have hp_163 := (z_sp2 (z_all (xoW E a b)) (z_sp2 (z_all (hsW E (zh a 1) v)) (z_sp2 (z_all (rdW E (zh a 30) w)) (z_sp2 (z_all (hiW E (zh a 33) u)) (z_all (slW E b q))))))
              refine z_callp X hW hr hp_163 (fun x h => z_runV (As := [.int t159, .int t162]) (rest := [.long t155]) X hW hp_163 (c_X7_record l E a b v w u q t159 t162 x h _) hy_X7_record 0 7 (C := RX7) (T := TX7) (N := 5) rfl rfl rfl gL_told_X7_record rfl rfl ⟨by decide, by decide⟩ rfl hl rfl rfl (Nat.le_of_ble_eq_true rfl) dL_told_163 ⟨Nat.zero_le _, Nat.zero_le _⟩) (fun t163 H locs hr hW => ?_)
              refine z_i2l X hr dL_told_166 (fun t166 hr => ?_)
              refine z_ladd X hr dL_told_167 (fun t167 hr => ?_)
              refine lv_lstore_n (lv' := [(1, .long t167), (0, .ref (a 0)), (3, .int x3)]) X.1 X.2.1 dL_told_168 rfl hl (by decide) rfl (fun ls hl => ?_)
              refine z_iinc X (fun x3_169 => [(3, .int x3_169), (1, .long t167), (0, .ref (a 0))]) hr hl (k := 2) rfl (by decide) (fun _ => rfl) dL_told_169 (fun x3_169 ls hr hl => ?_)
              refine lv_goto (tgt := 33) X.1 X.2.1 dL_told_172 (by decide) ?_
              exact ih_33 t167 x3_169 _ _ _ hr hW (lv_sub hl [2, 1, 0] rfl)
        exact L_33 _ x1 0 _ _ _ hr hW (lv_sub hl [1, 2, 0] rfl)
      · refine lv_ldc2 (v := 31) X.1 X.2.1 X.2.2.2.1 (X.2.2.2.2.1 _ q_1) dL_told_12 ?_
        refine lv_lload_n X.1 X.2.1 dL_told_15 rfl (lv_at hl 1 rfl) ?_
        refine z_lmul X hr dL_told_16 (fun t16 hr => ?_)
        refine lv_aload_n X.1 X.2.1 dL_told_17 rfl (lv_at hl 0 rfl) ?_
        refine lv_iload_n X.1 X.2.1 dL_told_18 rfl (lv_at hl 2 rfl) ?_
        have hp_19 := (z_sp2 (z_all (xoW E a b)) (z_sp2 (z_all (hsW E (zh a 1) v)) (z_sp2 (z_all (rdW E (zh a 30) w)) (z_sp2 (z_all (hiW E (zh a 33) u)) (z_all (slW E b q))))))
        refine z_callp X hW hr hp_19 (fun x h => z_runV (As := [.int x3]) (rest := [.long t16]) X hW hp_19 (c_X7_count l E a b v w u q x3 x h _) hy_X7_count 0 7 (C := RX7) (T := TX7) (N := 5) rfl rfl rfl gL_told_X7_count rfl rfl ⟨by decide, by decide⟩ rfl hl rfl rfl (Nat.le_of_ble_eq_true rfl) dL_told_19 ⟨Nat.zero_le _, Nat.zero_le _⟩) (fun t19 H locs hr hW => ?_)
        refine z_i2l X hr dL_told_22 (fun t22 hr => ?_)
        refine z_ladd X hr dL_told_23 (fun t23 hr => ?_)
        refine lv_lstore_n (lv' := [(1, .long t23), (0, .ref (a 0)), (3, .int x3)]) X.1 X.2.1 dL_told_24 rfl hl (by decide) rfl (fun ls hl => ?_)
        refine z_iinc X (fun x3_25 => [(3, .int x3_25), (1, .long t23), (0, .ref (a 0))]) hr hl (k := 2) rfl (by decide) (fun _ => rfl) dL_told_25 (fun x3_25 ls hr hl => ?_)
        refine lv_goto (tgt := 6) X.1 X.2.1 dL_told_28 (by decide) ?_
        exact ih_6 t23 x3_25 _ _ _ hr hW (lv_sub hl [2, 1, 0] rfl)
  exact L_6 _ 229 0 _ _ _ hr hW (lv_sub hl [2, 1, 0] rfl)
abbrev rm_L_isSeat : Room := { frames := 3, cells := 0, slots := 0, locals := 65 }
theorem hy_L_isSeat : zY yL_isSeat wsL_isSeat cL_isSeat 13 (some .boolean) 9 := ⟨⟨_, rfl⟩, by decide, by decide, by decide +kernel⟩
def d_L_isSeat (fq : Nat → Int32) (fa : Nat → Int32) (fe : Nat → Int32) (fn : Nat → Int32) (ft : Nat → Int32) (fr : Nat → Int32) (v : zHV) (w : zHV) (u : zHI) (q : zHI) (p1 : Int32) (p2 : Int32) : Option (Int32) :=
zld 30 fa p1 fun t5 =>
zlet (t5 &&& 15) fun t8 =>
zlet (10 * t8) fun t9 =>
zld 19 fq 1 fun t14 =>
zld 19 fq 6 fun t18 =>
zlet (t14 - t18) fun t19 =>
zlet (t19 + t9) fun t22 =>
zlet (t22 - 1) fun t24 =>
zdv t24 t9 fun t27 =>
zld 19 fq 13 fun t33 =>
zjn (fun (x9 : Int32) (x10 : Int32) (s0 : Int32) =>
zcl (d_X7_of v w u q p1 0) fun t54 =>
zld 30 fa p1 fun t60 =>
zlet (t60 &&& 15) fun t63 =>
zjn (fun (x9 : Int32) (x10 : Int32) (x11 : Int32) (s0 : Int32) =>
(if s0 = 0 then
some 0
else
zcl (d_X7_clapsFor v w u q p1) fun t177 =>
zjn (fun (x9 : Int32) (x10 : Int32) (x11 : Int32) (x12 : Int32) (s0 : Int32) (s1 : Int32) =>
((if s1 = s0 then
zcl (d_X7_clapper v w u q p2) fun t207 =>
zld 19 fq 17 fun t214 =>
zjn (fun (x9 : Int32) (x10 : Int32) (x11 : Int32) (x12 : Int32) (s0 : Int32) (s1 : Int32) =>
((if s1 = s0 then
some 1
else
some 0) : Option (Int32))) fun j_226 =>
(if t214 ≤ p2 then
j_226 x9 x10 x11 x12 (-1) t207
else
zld 30 fr p2 fun t221 =>
j_226 x9 x10 x11 x12 t221 t207)
else
some 0) : Option (Int32))) fun j_202 =>
(if x11 = 0 then
j_202 x9 x10 x11 s0 (-5) t177
else
(if 1 ≤ x10 then
j_202 x9 x10 x11 s0 x10 t177
else
j_202 x9 x10 x11 s0 1 t177)))) fun j_168 =>
zjn (fun (x9 : Int32) (x10 : Int32) (x11 : Int32) =>
(j_168 x9 x10 x11 0 : Option (Int32))) fun j_167 =>
(if t54 = t63 then
zcl (d_X7_of v w u q p1 1) fun t70 =>
zld 30 fa p1 fun t76 =>
zlet (t76 >>> (4 &&& 31)) fun t78 =>
zlet (t78 &&& 1) fun t80 =>
(if t70 = t80 then
zcl (d_X7_of v w u q p1 2) fun t87 =>
zld 30 fe p1 fun t93 =>
zld 19 fq 4 fun t96 =>
zjn (fun (x9 : Int32) (x10 : Int32) (x11 : Int32) (s0 : Int32) (s1 : Int32) =>
(if s1 = s0 then
zcl (d_X7_of v w u q p1 3) fun t111 =>
zld 30 fe p1 fun t117 =>
(if t111 = t117 then
zcl (d_X7_of v w u q p1 4) fun t124 =>
zld 30 fn p1 fun t130 =>
(if t124 = t130 then
zcl (d_X7_of v w u q p1 5) fun t137 =>
zld 30 fa p1 fun t143 =>
zlet (t143 >>> (5 &&& 31)) fun t145 =>
(if t137 = t145 then
zcl (d_X7_of v w u q p1 6) fun t153 =>
zld 30 ft p1 fun t159 =>
(if t153 = t159 then
j_168 x9 x10 x11 1
else
j_167 x9 x10 x11)
else
j_167 x9 x10 x11)
else
j_167 x9 x10 x11)
else
j_167 x9 x10 x11)
else
j_167 x9 x10 x11)) fun j_105 =>
(if t93 < t96 then
j_105 x9 x10 s0 0 t87
else
j_105 x9 x10 s0 1 t87)
else
j_167 x9 x10 s0)
else
j_167 x9 x10 s0)) fun j_49 =>
zjn (fun (x9 : Int32) (x10 : Int32) =>
(j_49 x9 x10 0 : Option (Int32))) fun j_48 =>
(if t33 < 0 then
j_48 t9 t27
else
zld 19 fq 15 fun t40 =>
(if t40 = 0 then
j_49 t9 t27 1
else
j_48 t9 t27))
set_option maxHeartbeats 4000000 in
set_option maxRecDepth 100000 in
theorem c_L_isSeat (l : Launch) (E : zE) (Aq Aa Ae An At Ar a b : Nat → Nat) (fq : Nat → Int32) (fa : Nat → Int32) (fe : Nat → Int32) (fn : Nat → Int32) (ft : Nat → Int32) (fr : Nat → Int32) (v : zHV) (w : zHV) (u : zHI) (q : zHI) (p1 : Int32) (p2 : Int32) (r : Int32) (h : d_L_isSeat fq fa fe fn ft fr v w u q p1 p2 = some r) : zMi l E yL_isSeat wsL_isSeat rm_L_isSeat [.ref (a 0), .int p1, .int p2, .ref (Aq 0), .ref (Aa 0), .ref (Ae 0), .ref (An 0), .ref (At 0), .ref (Ar 0)] ((arW E Aq 19 fq) ++ ((arW E Aa 30 fa) ++ ((arW E Ae 30 fe) ++ ((arW E An 30 fn) ++ ((arW E At 30 ft) ++ ((arW E Ar 30 fr) ++ ((xoW E a b) ++ ((hsW E (zh a 1) v) ++ ((rdW E (zh a 30) w) ++ ((hiW E (zh a 33) u) ++ (slW E b q))))))))))) r ((arW E Aq 19 fq) ++ ((arW E Aa 30 fa) ++ ((arW E Ae 30 fe) ++ ((arW E An 30 fn) ++ ((arW E At 30 ft) ++ ((arW E Ar 30 fr) ++ ((xoW E a b) ++ ((hsW E (zh a 1) v) ++ ((rdW E (zh a 30) w) ++ ((hiW E (zh a 33) u) ++ (slW E b q))))))))))) := by
  intro sz
  refine z_entry (Qc := fun A => zQi E A r ((arW E Aq 19 fq) ++ ((arW E Aa 30 fa) ++ ((arW E Ae 30 fe) ++ ((arW E An 30 fn) ++ ((arW E At 30 ft) ++ ((arW E Ar 30 fr) ++ ((xoW E a b) ++ ((hsW E (zh a 1) v) ++ ((rdW E (zh a 30) w) ++ ((hiW E (zh a 33) u) ++ (slW E b q)))))))))))) (by decide) rfl (Nat.le_of_ble_eq_true rfl) ?_
  intro p e s m below meth c A X hW ls hl
  have X : zX E wsL_isSeat RL cL_isSeat 13 (some .boolean) yL_isSeat p s m ([.ref (a 0), .int p1, .int p2, .ref (Aq 0), .ref (Aa 0), .ref (Ae 0), .ref (An 0), .ref (At 0), .ref (Ar 0)] : List Value).toArray meth c A := X
  have hl : lv_has ls 13 [(0, .ref (a 0)), (1, .int p1), (2, .int p2), (3, .ref (Aq 0)), (4, .ref (Aa 0)), (5, .ref (Ae 0)), (6, .ref (An 0)), (7, .ref (At 0)), (8, .ref (Ar 0))] := hl
  have hr : d_L_isSeat fq fa fe fn ft fr v w u q p1 p2 = some r := h
  clear h
  unfold d_L_isSeat at hr
  refine lv_bipush (v := 10) X.1 X.2.1 dL_isSeat_0 (by decide) ?_
  refine lv_aload X.1 X.2.1 dL_isSeat_2 (lv_at hl 4 rfl) ?_
  refine lv_iload_n X.1 X.2.1 dL_isSeat_4 rfl (lv_at hl 1 rfl) ?_
  refine z_ald X hW 1 hr rfl dL_isSeat_5 (fun t5 hr => ?_)
  refine lv_bipush (v := 15) X.1 X.2.1 dL_isSeat_6 (by decide) ?_
  refine z_iand X hr dL_isSeat_8 (fun t8 hr => ?_)
  refine z_imul X hr dL_isSeat_9 (fun t9 hr => ?_)
  refine lv_istore (lv' := [(9, .int t9), (0, .ref (a 0)), (1, .int p1), (2, .int p2), (3, .ref (Aq 0)), (4, .ref (Aa 0)), (5, .ref (Ae 0)), (6, .ref (An 0)), (7, .ref (At 0)), (8, .ref (Ar 0))]) X.1 X.2.1 dL_isSeat_10 hl (by decide) rfl (fun ls hl => ?_)
  refine lv_aload_n X.1 X.2.1 dL_isSeat_12 rfl (lv_at hl 4 rfl) ?_
  refine lv_iconst (v := 1) X.1 X.2.1 dL_isSeat_13 (by decide) ?_
  refine z_ald X hW 0 hr rfl dL_isSeat_14 (fun t14 hr => ?_)
  refine lv_aload_n X.1 X.2.1 dL_isSeat_15 rfl (lv_at hl 4 rfl) ?_
  refine lv_bipush (v := 6) X.1 X.2.1 dL_isSeat_16 (by decide) ?_
  refine z_ald X hW 0 hr rfl dL_isSeat_18 (fun t18 hr => ?_)
  refine z_isub X hr dL_isSeat_19 (fun t19 hr => ?_)
  refine lv_iload X.1 X.2.1 dL_isSeat_20 (lv_at hl 0 rfl) ?_
  refine z_iadd X hr dL_isSeat_22 (fun t22 hr => ?_)
  refine lv_iconst (v := 1) X.1 X.2.1 dL_isSeat_23 (by decide) ?_
  refine z_isub X hr dL_isSeat_24 (fun t24 hr => ?_)
  refine lv_iload X.1 X.2.1 dL_isSeat_25 (lv_at hl 0 rfl) ?_
  refine z_idiv X hr dL_isSeat_27 (fun t27 hr => ?_)
  refine lv_istore (lv' := [(10, .int t27), (9, .int t9), (0, .ref (a 0)), (1, .int p1), (2, .int p2), (3, .ref (Aq 0)), (4, .ref (Aa 0)), (5, .ref (Ae 0)), (6, .ref (An 0)), (7, .ref (At 0)), (8, .ref (Ar 0))]) X.1 X.2.1 dL_isSeat_28 hl (by decide) rfl (fun ls hl => ?_)
  refine lv_aload_n X.1 X.2.1 dL_isSeat_30 rfl (lv_at hl 5 rfl) ?_
  refine lv_bipush (v := 13) X.1 X.2.1 dL_isSeat_31 (by decide) ?_
  refine z_ald X hW 0 hr rfl dL_isSeat_33 (fun t33 hr => ?_)
  obtain ⟨j_49, e_49, hr⟩ := zjn_some hr
  have J_49 : ∀ (x9 : Int32) (x10 : Int32) (s0 : Int32) (H : Heap) (locs : List Loc) (ls : Array Slot), j_49 x9 x10 s0 = some r → zW E A s ((arW E Aq 19 fq) ++ ((arW E Aa 30 fa) ++ ((arW E Ae 30 fe) ++ ((arW E An 30 fn) ++ ((arW E At 30 ft) ++ ((arW E Ar 30 fr) ++ ((xoW E a b) ++ ((hsW E (zh a 1) v) ++ ((rdW E (zh a 30) w) ++ ((hiW E (zh a 33) u) ++ (slW E b q))))))))))) H locs → lv_has ls 13 [(0, .ref (a 0)), (1, .int p1), (2, .int p2), (3, .ref (Aq 0)), (4, .ref (Aa 0)), (5, .ref (Ae 0)), (6, .ref (An 0)), (7, .ref (At 0)), (8, .ref (Ar 0)), (9, .int x9), (10, .int x10)] → W p l e rm_L_isSeat s m ([.ref (a 0), .int p1, .int p2, .ref (Aq 0), .ref (Aa 0), .ref (Ae 0), .ref (An 0), .ref (At 0), .ref (Ar 0)] : List Value).toArray below meth c H locs 0 0 (MQ below (zQi E A r ((arW E Aq 19 fq) ++ ((arW E Aa 30 fa) ++ ((arW E Ae 30 fe) ++ ((arW E An 30 fn) ++ ((arW E At 30 ft) ++ ((arW E Ar 30 fr) ++ ((xoW E a b) ++ ((hsW E (zh a 1) v) ++ ((rdW E (zh a 30) w) ++ ((hiW E (zh a 33) u) ++ (slW E b q)))))))))))) ([.ref (a 0), .int p1, .int p2, .ref (Aq 0), .ref (Aa 0), .ref (Ae 0), .ref (An 0), .ref (At 0), .ref (Ar 0)] : List Value).toArray s 0 0 A) (F0 m 49 ls [.int s0]) := by
    intro x9 x10 s0 H locs ls hr hW hl
    rw [e_49] at hr
    refine lv_istore (lv' := [(11, .int s0), (0, .ref (a 0)), (1, .int p1), (2, .int p2), (3, .ref (Aq 0)), (4, .ref (Aa 0)), (5, .ref (Ae 0)), (6, .ref (An 0)), (7, .ref (At 0)), (8, .ref (Ar 0)), (9, .int x9), (10, .int x10)]) X.1 X.2.1 dL_isSeat_49 hl (by decide) rfl (fun ls hl => ?_)
    refine lv_aload_n X.1 X.2.1 dL_isSeat_51 rfl (lv_at hl 1 rfl) ?_
    refine lv_iload_n X.1 X.2.1 dL_isSeat_52 rfl (lv_at hl 2 rfl) ?_
    refine lv_iconst (v := 0) X.1 X.2.1 dL_isSeat_53 (by decide) ?_
    have hp_54 := (z_spr (arW E Aq 19 fq) (z_spr (arW E Aa 30 fa) (z_spr (arW E Ae 30 fe) (z_spr (arW E An 30 fn) (z_spr (arW E At 30 ft) (z_spr (arW E Ar 30 fr) (z_sp2 (z_all (xoW E a b)) (z_sp2 (z_all (hsW E (zh a 1) v)) (z_sp2 (z_all (rdW E (zh a 30) w)) (z_sp2 (z_all (hiW E (zh a 33) u)) (z_all (slW E b q))))))))))))
    refine z_callp X hW hr hp_54 (fun x h => z_runV (As := [.int p1, .int 0]) (rest := []) X hW hp_54 (c_X7_of l E a b v w u q p1 0 x h _) hy_X7_of 6 7 (C := RX7) (T := TX7) (N := 5) rfl rfl rfl gL_isSeat_X7_of rfl rfl ⟨by decide, by decide⟩ rfl hl rfl rfl (Nat.le_of_ble_eq_true rfl) dL_isSeat_54 ⟨Nat.zero_le _, Nat.zero_le _⟩) (fun t54 H locs hr hW => ?_)
    refine lv_aload X.1 X.2.1 dL_isSeat_57 (lv_at hl 5 rfl) ?_
    refine lv_iload_n X.1 X.2.1 dL_isSeat_59 rfl (lv_at hl 2 rfl) ?_
    refine z_ald X hW 1 hr rfl dL_isSeat_60 (fun t60 hr => ?_)
    refine lv_bipush (v := 15) X.1 X.2.1 dL_isSeat_61 (by decide) ?_
    refine z_iand X hr dL_isSeat_63 (fun t63 hr => ?_)
    obtain ⟨j_168, e_168, hr⟩ := zjn_some hr
    have J_168 : ∀ (x9 : Int32) (x10 : Int32) (x11 : Int32) (s0 : Int32) (H : Heap) (locs : List Loc) (ls : Array Slot), j_168 x9 x10 x11 s0 = some r → zW E A s ((arW E Aq 19 fq) ++ ((arW E Aa 30 fa) ++ ((arW E Ae 30 fe) ++ ((arW E An 30 fn) ++ ((arW E At 30 ft) ++ ((arW E Ar 30 fr) ++ ((xoW E a b) ++ ((hsW E (zh a 1) v) ++ ((rdW E (zh a 30) w) ++ ((hiW E (zh a 33) u) ++ (slW E b q))))))))))) H locs → lv_has ls 13 [(0, .ref (a 0)), (1, .int p1), (2, .int p2), (3, .ref (Aq 0)), (4, .ref (Aa 0)), (5, .ref (Ae 0)), (6, .ref (An 0)), (7, .ref (At 0)), (8, .ref (Ar 0)), (9, .int x9), (10, .int x10), (11, .int x11)] → W p l e rm_L_isSeat s m ([.ref (a 0), .int p1, .int p2, .ref (Aq 0), .ref (Aa 0), .ref (Ae 0), .ref (An 0), .ref (At 0), .ref (Ar 0)] : List Value).toArray below meth c H locs 0 0 (MQ below (zQi E A r ((arW E Aq 19 fq) ++ ((arW E Aa 30 fa) ++ ((arW E Ae 30 fe) ++ ((arW E An 30 fn) ++ ((arW E At 30 ft) ++ ((arW E Ar 30 fr) ++ ((xoW E a b) ++ ((hsW E (zh a 1) v) ++ ((rdW E (zh a 30) w) ++ ((hiW E (zh a 33) u) ++ (slW E b q)))))))))))) ([.ref (a 0), .int p1, .int p2, .ref (Aq 0), .ref (Aa 0), .ref (Ae 0), .ref (An 0), .ref (At 0), .ref (Ar 0)] : List Value).toArray s 0 0 A) (F0 m 168 ls [.int s0]) := by
      intro x9 x10 x11 s0 H locs ls hr hW hl
      rw [e_168] at hr
      refine lv_istore (lv' := [(12, .int s0), (0, .ref (a 0)), (1, .int p1), (2, .int p2), (3, .ref (Aq 0)), (4, .ref (Aa 0)), (5, .ref (Ae 0)), (6, .ref (An 0)), (7, .ref (At 0)), (8, .ref (Ar 0)), (9, .int x9), (10, .int x10), (11, .int x11)]) X.1 X.2.1 dL_isSeat_168 hl (by decide) rfl (fun ls hl => ?_)
      refine lv_iload X.1 X.2.1 dL_isSeat_170 (lv_at hl 0 rfl) ?_
      refine z_ifeq X 233 hr dL_isSeat_172 (by decide) (fun hr => ?_) (fun hr => ?_)
      · refine lv_iconst (v := 0) X.1 X.2.1 dL_isSeat_233 (by decide) ?_
        cases hr
        exact z_zret X hW rfl rfl dL_isSeat_234
      · refine lv_aload_n X.1 X.2.1 dL_isSeat_175 rfl (lv_at hl 1 rfl) ?_
        refine lv_iload_n X.1 X.2.1 dL_isSeat_176 rfl (lv_at hl 2 rfl) ?_
        have hp_177 := (z_spr (arW E Aq 19 fq) (z_spr (arW E Aa 30 fa) (z_spr (arW E Ae 30 fe) (z_spr (arW E An 30 fn) (z_spr (arW E At 30 ft) (z_spr (arW E Ar 30 fr) (z_sp2 (z_all (xoW E a b)) (z_sp2 (z_all (hsW E (zh a 1) v)) (z_sp2 (z_all (rdW E (zh a 30) w)) (z_sp2 (z_all (hiW E (zh a 33) u)) (z_all (slW E b q))))))))))))
        refine z_callp X hW hr hp_177 (fun x h => z_runV (As := [.int p1]) (rest := []) X hW hp_177 (c_X7_clapsFor l E a b v w u q p1 x h _) hy_X7_clapsFor 6 7 (C := RX7) (T := TX7) (N := 5) rfl rfl rfl gL_isSeat_X7_clapsFor rfl rfl ⟨by decide, by decide⟩ rfl hl rfl rfl (Nat.le_of_ble_eq_true rfl) dL_isSeat_177 ⟨Nat.zero_le _, Nat.zero_le _⟩) (fun t177 H locs hr hW => ?_)
        refine lv_iload X.1 X.2.1 dL_isSeat_180 (lv_at hl 12 rfl) ?_
        obtain ⟨j_202, e_202, hr⟩ := zjn_some hr
        have J_202 : ∀ (x9 : Int32) (x10 : Int32) (x11 : Int32) (x12 : Int32) (s0 : Int32) (s1 : Int32) (H : Heap) (locs : List Loc) (ls : Array Slot), j_202 x9 x10 x11 x12 s0 s1 = some r → zW E A s ((arW E Aq 19 fq) ++ ((arW E Aa 30 fa) ++ ((arW E Ae 30 fe) ++ ((arW E An 30 fn) ++ ((arW E At 30 ft) ++ ((arW E Ar 30 fr) ++ ((xoW E a b) ++ ((hsW E (zh a 1) v) ++ ((rdW E (zh a 30) w) ++ ((hiW E (zh a 33) u) ++ (slW E b q))))))))))) H locs → lv_has ls 13 [(0, .ref (a 0)), (1, .int p1), (2, .int p2), (3, .ref (Aq 0)), (4, .ref (Aa 0)), (5, .ref (Ae 0)), (6, .ref (An 0)), (7, .ref (At 0)), (8, .ref (Ar 0)), (9, .int x9), (10, .int x10), (11, .int x11), (12, .int x12)] → W p l e rm_L_isSeat s m ([.ref (a 0), .int p1, .int p2, .ref (Aq 0), .ref (Aa 0), .ref (Ae 0), .ref (An 0), .ref (At 0), .ref (Ar 0)] : List Value).toArray below meth c H locs 0 0 (MQ below (zQi E A r ((arW E Aq 19 fq) ++ ((arW E Aa 30 fa) ++ ((arW E Ae 30 fe) ++ ((arW E An 30 fn) ++ ((arW E At 30 ft) ++ ((arW E Ar 30 fr) ++ ((xoW E a b) ++ ((hsW E (zh a 1) v) ++ ((rdW E (zh a 30) w) ++ ((hiW E (zh a 33) u) ++ (slW E b q)))))))))))) ([.ref (a 0), .int p1, .int p2, .ref (Aq 0), .ref (Aa 0), .ref (Ae 0), .ref (An 0), .ref (At 0), .ref (Ar 0)] : List Value).toArray s 0 0 A) (F0 m 202 ls [.int s0, .int s1]) := by
          intro x9 x10 x11 x12 s0 s1 H locs ls hr hW hl
          rw [e_202] at hr
          refine z_cmpne X 233 hr dL_isSeat_202 (by decide) (fun hr => ?_) (fun hr => ?_)
          · refine lv_iconst (v := 0) X.1 X.2.1 dL_isSeat_233 (by decide) ?_
            cases hr
            exact z_zret X hW rfl rfl dL_isSeat_234
          · refine lv_aload_n X.1 X.2.1 dL_isSeat_205 rfl (lv_at hl 0 rfl) ?_
            refine lv_iload_n X.1 X.2.1 dL_isSeat_206 rfl (lv_at hl 2 rfl) ?_
            have hp_207 := (z_spr (arW E Aq 19 fq) (z_spr (arW E Aa 30 fa) (z_spr (arW E Ae 30 fe) (z_spr (arW E An 30 fn) (z_spr (arW E At 30 ft) (z_spr (arW E Ar 30 fr) (z_sp2 (z_all (xoW E a b)) (z_sp2 (z_all (hsW E (zh a 1) v)) (z_sp2 (z_all (rdW E (zh a 30) w)) (z_sp2 (z_all (hiW E (zh a 33) u)) (z_all (slW E b q))))))))))))
            refine z_callp X hW hr hp_207 (fun x h => z_runV (As := [.int p2]) (rest := []) X hW hp_207 (c_X7_clapper l E a b v w u q p2 x h _) hy_X7_clapper 6 7 (C := RX7) (T := TX7) (N := 5) rfl rfl rfl gL_isSeat_X7_clapper rfl rfl ⟨by decide, by decide⟩ rfl hl rfl rfl (Nat.le_of_ble_eq_true rfl) dL_isSeat_207 ⟨Nat.zero_le _, Nat.zero_le _⟩) (fun t207 H locs hr hW => ?_)
            refine lv_iload_n X.1 X.2.1 dL_isSeat_210 rfl (lv_at hl 2 rfl) ?_
            refine lv_aload_n X.1 X.2.1 dL_isSeat_211 rfl (lv_at hl 3 rfl) ?_
            refine lv_bipush (v := 17) X.1 X.2.1 dL_isSeat_212 (by decide) ?_
            refine z_ald X hW 0 hr rfl dL_isSeat_214 (fun t214 hr => ?_)
            obtain ⟨j_226, e_226, hr⟩ := zjn_some hr
            have J_226 : ∀ (x9 : Int32) (x10 : Int32) (x11 : Int32) (x12 : Int32) (s0 : Int32) (s1 : Int32) (H : Heap) (locs : List Loc) (ls : Array Slot), j_226 x9 x10 x11 x12 s0 s1 = some r → zW E A s ((arW E Aq 19 fq) ++ ((arW E Aa 30 fa) ++ ((arW E Ae 30 fe) ++ ((arW E An 30 fn) ++ ((arW E At 30 ft) ++ ((arW E Ar 30 fr) ++ ((xoW E a b) ++ ((hsW E (zh a 1) v) ++ ((rdW E (zh a 30) w) ++ ((hiW E (zh a 33) u) ++ (slW E b q))))))))))) H locs → lv_has ls 13 [(0, .ref (a 0)), (1, .int p1), (2, .int p2), (3, .ref (Aq 0)), (4, .ref (Aa 0)), (5, .ref (Ae 0)), (6, .ref (An 0)), (7, .ref (At 0)), (8, .ref (Ar 0)), (9, .int x9), (10, .int x10), (11, .int x11), (12, .int x12)] → W p l e rm_L_isSeat s m ([.ref (a 0), .int p1, .int p2, .ref (Aq 0), .ref (Aa 0), .ref (Ae 0), .ref (An 0), .ref (At 0), .ref (Ar 0)] : List Value).toArray below meth c H locs 0 0 (MQ below (zQi E A r ((arW E Aq 19 fq) ++ ((arW E Aa 30 fa) ++ ((arW E Ae 30 fe) ++ ((arW E An 30 fn) ++ ((arW E At 30 ft) ++ ((arW E Ar 30 fr) ++ ((xoW E a b) ++ ((hsW E (zh a 1) v) ++ ((rdW E (zh a 30) w) ++ ((hiW E (zh a 33) u) ++ (slW E b q)))))))))))) ([.ref (a 0), .int p1, .int p2, .ref (Aq 0), .ref (Aa 0), .ref (Ae 0), .ref (An 0), .ref (At 0), .ref (Ar 0)] : List Value).toArray s 0 0 A) (F0 m 226 ls [.int s0, .int s1]) := by
              intro x9 x10 x11 x12 s0 s1 H locs ls hr hW hl
              rw [e_226] at hr
              refine z_cmpne X 233 hr dL_isSeat_226 (by decide) (fun hr => ?_) (fun hr => ?_)
              · refine lv_iconst (v := 0) X.1 X.2.1 dL_isSeat_233 (by decide) ?_
                cases hr
                exact z_zret X hW rfl rfl dL_isSeat_234
              · refine lv_iconst (v := 1) X.1 X.2.1 dL_isSeat_229 (by decide) ?_
                refine lv_goto (tgt := 234) X.1 X.2.1 dL_isSeat_230 (by decide) ?_
                cases hr
                exact z_zret X hW rfl rfl dL_isSeat_234
            refine z_cmpge X 225 hr dL_isSeat_215 (by decide) (fun hr => ?_) (fun hr => ?_)
            · refine lv_iconst (v := (-1)) X.1 X.2.1 dL_isSeat_225 (by decide) ?_
              exact J_226 x9 x10 x11 x12 (-1) t207 _ _ _ hr hW (lv_sub hl [0, 1, 2, 3, 4, 5, 6, 7, 8, 9, 10, 11, 12] rfl)
            · refine lv_aload X.1 X.2.1 dL_isSeat_218 (lv_at hl 8 rfl) ?_
              refine lv_iload_n X.1 X.2.1 dL_isSeat_220 rfl (lv_at hl 2 rfl) ?_
              refine z_ald X hW 5 hr rfl dL_isSeat_221 (fun t221 hr => ?_)
              refine lv_goto (tgt := 226) X.1 X.2.1 dL_isSeat_222 (by decide) ?_
              exact J_226 x9 x10 x11 x12 t221 t207 _ _ _ hr hW (lv_sub hl [0, 1, 2, 3, 4, 5, 6, 7, 8, 9, 10, 11, 12] rfl)
        refine z_ifne X 190 hr dL_isSeat_182 (by decide) (fun hr => ?_) (fun hr => ?_)
        · refine lv_iload X.1 X.2.1 dL_isSeat_190 (lv_at hl 11 rfl) ?_
          refine lv_iconst (v := 1) X.1 X.2.1 dL_isSeat_192 (by decide) ?_
          refine z_cmpge X 200 hr dL_isSeat_193 (by decide) (fun hr => ?_) (fun hr => ?_)
          · refine lv_iload X.1 X.2.1 dL_isSeat_200 (lv_at hl 11 rfl) ?_
            exact J_202 x9 x10 x11 s0 x10 t177 _ _ _ hr hW (lv_sub hl [1, 2, 3, 4, 5, 6, 7, 8, 9, 10, 11, 12, 0] rfl)
          · refine lv_iconst (v := 1) X.1 X.2.1 dL_isSeat_196 (by decide) ?_
            refine lv_goto (tgt := 202) X.1 X.2.1 dL_isSeat_197 (by decide) ?_
            exact J_202 x9 x10 x11 s0 1 t177 _ _ _ hr hW (lv_sub hl [1, 2, 3, 4, 5, 6, 7, 8, 9, 10, 11, 12, 0] rfl)
        · refine lv_bipush (v := (-5)) X.1 X.2.1 dL_isSeat_185 (by decide) ?_
          refine lv_goto (tgt := 202) X.1 X.2.1 dL_isSeat_187 (by decide) ?_
          exact J_202 x9 x10 x11 s0 (-5) t177 _ _ _ hr hW (lv_sub hl [1, 2, 3, 4, 5, 6, 7, 8, 9, 10, 11, 12, 0] rfl)
    obtain ⟨j_167, e_167, hr⟩ := zjn_some hr
    have J_167 : ∀ (x9 : Int32) (x10 : Int32) (x11 : Int32) (H : Heap) (locs : List Loc) (ls : Array Slot), j_167 x9 x10 x11 = some r → zW E A s ((arW E Aq 19 fq) ++ ((arW E Aa 30 fa) ++ ((arW E Ae 30 fe) ++ ((arW E An 30 fn) ++ ((arW E At 30 ft) ++ ((arW E Ar 30 fr) ++ ((xoW E a b) ++ ((hsW E (zh a 1) v) ++ ((rdW E (zh a 30) w) ++ ((hiW E (zh a 33) u) ++ (slW E b q))))))))))) H locs → lv_has ls 13 [(0, .ref (a 0)), (1, .int p1), (2, .int p2), (3, .ref (Aq 0)), (4, .ref (Aa 0)), (5, .ref (Ae 0)), (6, .ref (An 0)), (7, .ref (At 0)), (8, .ref (Ar 0)), (9, .int x9), (10, .int x10), (11, .int x11)] → W p l e rm_L_isSeat s m ([.ref (a 0), .int p1, .int p2, .ref (Aq 0), .ref (Aa 0), .ref (Ae 0), .ref (An 0), .ref (At 0), .ref (Ar 0)] : List Value).toArray below meth c H locs 0 0 (MQ below (zQi E A r ((arW E Aq 19 fq) ++ ((arW E Aa 30 fa) ++ ((arW E Ae 30 fe) ++ ((arW E An 30 fn) ++ ((arW E At 30 ft) ++ ((arW E Ar 30 fr) ++ ((xoW E a b) ++ ((hsW E (zh a 1) v) ++ ((rdW E (zh a 30) w) ++ ((hiW E (zh a 33) u) ++ (slW E b q)))))))))))) ([.ref (a 0), .int p1, .int p2, .ref (Aq 0), .ref (Aa 0), .ref (Ae 0), .ref (An 0), .ref (At 0), .ref (Ar 0)] : List Value).toArray s 0 0 A) (F0 m 167 ls []) := by
      intro x9 x10 x11 H locs ls hr hW hl
      rw [e_167] at hr
      refine lv_iconst (v := 0) X.1 X.2.1 dL_isSeat_167 (by decide) ?_
      exact J_168 x9 x10 x11 0 _ _ _ hr hW (lv_sub hl [0, 1, 2, 3, 4, 5, 6, 7, 8, 9, 10, 11] rfl)
    refine z_cmpne X 167 hr dL_isSeat_64 (by decide) (fun hr => ?_) (fun hr => ?_)
    · exact J_167 x9 x10 s0 _ _ _ hr hW (lv_sub hl [1, 2, 3, 4, 5, 6, 7, 8, 9, 10, 11, 0] rfl)
    · refine lv_aload_n X.1 X.2.1 dL_isSeat_67 rfl (lv_at hl 1 rfl) ?_
      refine lv_iload_n X.1 X.2.1 dL_isSeat_68 rfl (lv_at hl 2 rfl) ?_
      refine lv_iconst (v := 1) X.1 X.2.1 dL_isSeat_69 (by decide) ?_
      have hp_70 := (z_spr (arW E Aq 19 fq) (z_spr (arW E Aa 30 fa) (z_spr (arW E Ae 30 fe) (z_spr (arW E An 30 fn) (z_spr (arW E At 30 ft) (z_spr (arW E Ar 30 fr) (z_sp2 (z_all (xoW E a b)) (z_sp2 (z_all (hsW E (zh a 1) v)) (z_sp2 (z_all (rdW E (zh a 30) w)) (z_sp2 (z_all (hiW E (zh a 33) u)) (z_all (slW E b q))))))))))))
      refine z_callp X hW hr hp_70 (fun x h => z_runV (As := [.int p1, .int 1]) (rest := []) X hW hp_70 (c_X7_of l E a b v w u q p1 1 x h _) hy_X7_of 6 7 (C := RX7) (T := TX7) (N := 5) rfl rfl rfl gL_isSeat_X7_of rfl rfl ⟨by decide, by decide⟩ rfl hl rfl rfl (Nat.le_of_ble_eq_true rfl) dL_isSeat_70 ⟨Nat.zero_le _, Nat.zero_le _⟩) (fun t70 H locs hr hW => ?_)
      refine lv_aload X.1 X.2.1 dL_isSeat_73 (lv_at hl 5 rfl) ?_
      refine lv_iload_n X.1 X.2.1 dL_isSeat_75 rfl (lv_at hl 2 rfl) ?_
      refine z_ald X hW 1 hr rfl dL_isSeat_76 (fun t76 hr => ?_)
      refine lv_iconst (v := 4) X.1 X.2.1 dL_isSeat_77 (by decide) ?_
      refine z_ishr X hr dL_isSeat_78 (fun t78 hr => ?_)
      refine lv_iconst (v := 1) X.1 X.2.1 dL_isSeat_79 (by decide) ?_
      refine z_iand X hr dL_isSeat_80 (fun t80 hr => ?_)
      refine z_cmpne X 167 hr dL_isSeat_81 (by decide) (fun hr => ?_) (fun hr => ?_)
      · exact J_167 x9 x10 s0 _ _ _ hr hW (lv_sub hl [1, 2, 3, 4, 5, 6, 7, 8, 9, 10, 11, 0] rfl)
      · refine lv_aload_n X.1 X.2.1 dL_isSeat_84 rfl (lv_at hl 1 rfl) ?_
        refine lv_iload_n X.1 X.2.1 dL_isSeat_85 rfl (lv_at hl 2 rfl) ?_
        refine lv_iconst (v := 2) X.1 X.2.1 dL_isSeat_86 (by decide) ?_
        have hp_87 := (z_spr (arW E Aq 19 fq) (z_spr (arW E Aa 30 fa) (z_spr (arW E Ae 30 fe) (z_spr (arW E An 30 fn) (z_spr (arW E At 30 ft) (z_spr (arW E Ar 30 fr) (z_sp2 (z_all (xoW E a b)) (z_sp2 (z_all (hsW E (zh a 1) v)) (z_sp2 (z_all (rdW E (zh a 30) w)) (z_sp2 (z_all (hiW E (zh a 33) u)) (z_all (slW E b q))))))))))))
        refine z_callp X hW hr hp_87 (fun x h => z_runV (As := [.int p1, .int 2]) (rest := []) X hW hp_87 (c_X7_of l E a b v w u q p1 2 x h _) hy_X7_of 6 7 (C := RX7) (T := TX7) (N := 5) rfl rfl rfl gL_isSeat_X7_of rfl rfl ⟨by decide, by decide⟩ rfl hl rfl rfl (Nat.le_of_ble_eq_true rfl) dL_isSeat_87 ⟨Nat.zero_le _, Nat.zero_le _⟩) (fun t87 H locs hr hW => ?_)
        refine lv_aload X.1 X.2.1 dL_isSeat_90 (lv_at hl 6 rfl) ?_
        refine lv_iload_n X.1 X.2.1 dL_isSeat_92 rfl (lv_at hl 2 rfl) ?_
        refine z_ald X hW 2 hr rfl dL_isSeat_93 (fun t93 hr => ?_)
        refine lv_aload_n X.1 X.2.1 dL_isSeat_94 rfl (lv_at hl 4 rfl) ?_
        refine lv_iconst (v := 4) X.1 X.2.1 dL_isSeat_95 (by decide) ?_
        refine z_ald X hW 0 hr rfl dL_isSeat_96 (fun t96 hr => ?_)
        obtain ⟨j_105, e_105, hr⟩ := zjn_some hr
        have J_105 : ∀ (x9 : Int32) (x10 : Int32) (x11 : Int32) (s0 : Int32) (s1 : Int32) (H : Heap) (locs : List Loc) (ls : Array Slot), j_105 x9 x10 x11 s0 s1 = some r → zW E A s ((arW E Aq 19 fq) ++ ((arW E Aa 30 fa) ++ ((arW E Ae 30 fe) ++ ((arW E An 30 fn) ++ ((arW E At 30 ft) ++ ((arW E Ar 30 fr) ++ ((xoW E a b) ++ ((hsW E (zh a 1) v) ++ ((rdW E (zh a 30) w) ++ ((hiW E (zh a 33) u) ++ (slW E b q))))))))))) H locs → lv_has ls 13 [(0, .ref (a 0)), (1, .int p1), (2, .int p2), (3, .ref (Aq 0)), (4, .ref (Aa 0)), (5, .ref (Ae 0)), (6, .ref (An 0)), (7, .ref (At 0)), (8, .ref (Ar 0)), (9, .int x9), (10, .int x10), (11, .int x11)] → W p l e rm_L_isSeat s m ([.ref (a 0), .int p1, .int p2, .ref (Aq 0), .ref (Aa 0), .ref (Ae 0), .ref (An 0), .ref (At 0), .ref (Ar 0)] : List Value).toArray below meth c H locs 0 0 (MQ below (zQi E A r ((arW E Aq 19 fq) ++ ((arW E Aa 30 fa) ++ ((arW E Ae 30 fe) ++ ((arW E An 30 fn) ++ ((arW E At 30 ft) ++ ((arW E Ar 30 fr) ++ ((xoW E a b) ++ ((hsW E (zh a 1) v) ++ ((rdW E (zh a 30) w) ++ ((hiW E (zh a 33) u) ++ (slW E b q)))))))))))) ([.ref (a 0), .int p1, .int p2, .ref (Aq 0), .ref (Aa 0), .ref (Ae 0), .ref (An 0), .ref (At 0), .ref (Ar 0)] : List Value).toArray s 0 0 A) (F0 m 105 ls [.int s0, .int s1]) := by
          intro x9 x10 x11 s0 s1 H locs ls hr hW hl
          rw [e_105] at hr
          refine z_cmpne X 167 hr dL_isSeat_105 (by decide) (fun hr => ?_) (fun hr => ?_)
          · exact J_167 x9 x10 x11 _ _ _ hr hW (lv_sub hl [0, 1, 2, 3, 4, 5, 6, 7, 8, 9, 10, 11] rfl)
          · refine lv_aload_n X.1 X.2.1 dL_isSeat_108 rfl (lv_at hl 0 rfl) ?_
            refine lv_iload_n X.1 X.2.1 dL_isSeat_109 rfl (lv_at hl 1 rfl) ?_
            refine lv_iconst (v := 3) X.1 X.2.1 dL_isSeat_110 (by decide) ?_
            have hp_111 := (z_spr (arW E Aq 19 fq) (z_spr (arW E Aa 30 fa) (z_spr (arW E Ae 30 fe) (z_spr (arW E An 30 fn) (z_spr (arW E At 30 ft) (z_spr (arW E Ar 30 fr) (z_sp2 (z_all (xoW E a b)) (z_sp2 (z_all (hsW E (zh a 1) v)) (z_sp2 (z_all (rdW E (zh a 30) w)) (z_sp2 (z_all (hiW E (zh a 33) u)) (z_all (slW E b q))))))))))))
            refine z_callp X hW hr hp_111 (fun x h => z_runV (As := [.int p1, .int 3]) (rest := []) X hW hp_111 (c_X7_of l E a b v w u q p1 3 x h _) hy_X7_of 6 7 (C := RX7) (T := TX7) (N := 5) rfl rfl rfl gL_isSeat_X7_of rfl rfl ⟨by decide, by decide⟩ rfl hl rfl rfl (Nat.le_of_ble_eq_true rfl) dL_isSeat_111 ⟨Nat.zero_le _, Nat.zero_le _⟩) (fun t111 H locs hr hW => ?_)
            refine lv_aload X.1 X.2.1 dL_isSeat_114 (lv_at hl 5 rfl) ?_
            refine lv_iload_n X.1 X.2.1 dL_isSeat_116 rfl (lv_at hl 1 rfl) ?_
            refine z_ald X hW 2 hr rfl dL_isSeat_117 (fun t117 hr => ?_)
            refine z_cmpne X 167 hr dL_isSeat_118 (by decide) (fun hr => ?_) (fun hr => ?_)
            · exact J_167 x9 x10 x11 _ _ _ hr hW (lv_sub hl [0, 1, 2, 3, 4, 5, 6, 7, 8, 9, 10, 11] rfl)
            · refine lv_aload_n X.1 X.2.1 dL_isSeat_121 rfl (lv_at hl 0 rfl) ?_
              refine lv_iload_n X.1 X.2.1 dL_isSeat_122 rfl (lv_at hl 1 rfl) ?_
              refine lv_iconst (v := 4) X.1 X.2.1 dL_isSeat_123 (by decide) ?_
              have hp_124 := (z_spr (arW E Aq 19 fq) (z_spr (arW E Aa 30 fa) (z_spr (arW E Ae 30 fe) (z_spr (arW E An 30 fn) (z_spr (arW E At 30 ft) (z_spr (arW E Ar 30 fr) (z_sp2 (z_all (xoW E a b)) (z_sp2 (z_all (hsW E (zh a 1) v)) (z_sp2 (z_all (rdW E (zh a 30) w)) (z_sp2 (z_all (hiW E (zh a 33) u)) (z_all (slW E b q))))))))))))
              refine z_callp X hW hr hp_124 (fun x h => z_runV (As := [.int p1, .int 4]) (rest := []) X hW hp_124 (c_X7_of l E a b v w u q p1 4 x h _) hy_X7_of 6 7 (C := RX7) (T := TX7) (N := 5) rfl rfl rfl gL_isSeat_X7_of rfl rfl ⟨by decide, by decide⟩ rfl hl rfl rfl (Nat.le_of_ble_eq_true rfl) dL_isSeat_124 ⟨Nat.zero_le _, Nat.zero_le _⟩) (fun t124 H locs hr hW => ?_)
              refine lv_aload X.1 X.2.1 dL_isSeat_127 (lv_at hl 6 rfl) ?_
              refine lv_iload_n X.1 X.2.1 dL_isSeat_129 rfl (lv_at hl 1 rfl) ?_
              refine z_ald X hW 3 hr rfl dL_isSeat_130 (fun t130 hr => ?_)
              refine z_cmpne X 167 hr dL_isSeat_131 (by decide) (fun hr => ?_) (fun hr => ?_)
              · exact J_167 x9 x10 x11 _ _ _ hr hW (lv_sub hl [0, 1, 2, 3, 4, 5, 6, 7, 8, 9, 10, 11] rfl)
              · refine lv_aload_n X.1 X.2.1 dL_isSeat_134 rfl (lv_at hl 0 rfl) ?_
                refine lv_iload_n X.1 X.2.1 dL_isSeat_135 rfl (lv_at hl 1 rfl) ?_
                refine lv_iconst (v := 5) X.1 X.2.1 dL_isSeat_136 (by decide) ?_
                have hp_137 := (z_spr (arW E Aq 19 fq) (z_spr (arW E Aa 30 fa) (z_spr (arW E Ae 30 fe) (z_spr (arW E An 30 fn) (z_spr (arW E At 30 ft) (z_spr (arW E Ar 30 fr) (z_sp2 (z_all (xoW E a b)) (z_sp2 (z_all (hsW E (zh a 1) v)) (z_sp2 (z_all (rdW E (zh a 30) w)) (z_sp2 (z_all (hiW E (zh a 33) u)) (z_all (slW E b q))))))))))))
                refine z_callp X hW hr hp_137 (fun x h => z_runV (As := [.int p1, .int 5]) (rest := []) X hW hp_137 (c_X7_of l E a b v w u q p1 5 x h _) hy_X7_of 6 7 (C := RX7) (T := TX7) (N := 5) rfl rfl rfl gL_isSeat_X7_of rfl rfl ⟨by decide, by decide⟩ rfl hl rfl rfl (Nat.le_of_ble_eq_true rfl) dL_isSeat_137 ⟨Nat.zero_le _, Nat.zero_le _⟩) (fun t137 H locs hr hW => ?_)
                refine lv_aload X.1 X.2.1 dL_isSeat_140 (lv_at hl 4 rfl) ?_
                refine lv_iload_n X.1 X.2.1 dL_isSeat_142 rfl (lv_at hl 1 rfl) ?_
                refine z_ald X hW 1 hr rfl dL_isSeat_143 (fun t143 hr => ?_)
                refine lv_iconst (v := 5) X.1 X.2.1 dL_isSeat_144 (by decide) ?_
                refine z_ishr X hr dL_isSeat_145 (fun t145 hr => ?_)
                refine z_cmpne X 167 hr dL_isSeat_146 (by decide) (fun hr => ?_) (fun hr => ?_)
                · exact J_167 x9 x10 x11 _ _ _ hr hW (lv_sub hl [0, 1, 2, 3, 4, 5, 6, 7, 8, 9, 10, 11] rfl)
                · refine lv_aload_n X.1 X.2.1 dL_isSeat_149 rfl (lv_at hl 0 rfl) ?_
                  refine lv_iload_n X.1 X.2.1 dL_isSeat_150 rfl (lv_at hl 1 rfl) ?_
                  refine lv_bipush (v := 6) X.1 X.2.1 dL_isSeat_151 (by decide) ?_
                  have hp_153 := (z_spr (arW E Aq 19 fq) (z_spr (arW E Aa 30 fa) (z_spr (arW E Ae 30 fe) (z_spr (arW E An 30 fn) (z_spr (arW E At 30 ft) (z_spr (arW E Ar 30 fr) (z_sp2 (z_all (xoW E a b)) (z_sp2 (z_all (hsW E (zh a 1) v)) (z_sp2 (z_all (rdW E (zh a 30) w)) (z_sp2 (z_all (hiW E (zh a 33) u)) (z_all (slW E b q))))))))))))
                  refine z_callp X hW hr hp_153 (fun x h => z_runV (As := [.int p1, .int 6]) (rest := []) X hW hp_153 (c_X7_of l E a b v w u q p1 6 x h _) hy_X7_of 6 7 (C := RX7) (T := TX7) (N := 5) rfl rfl rfl gL_isSeat_X7_of rfl rfl ⟨by decide, by decide⟩ rfl hl rfl rfl (Nat.le_of_ble_eq_true rfl) dL_isSeat_153 ⟨Nat.zero_le _, Nat.zero_le _⟩) (fun t153 H locs hr hW => ?_)
                  refine lv_aload X.1 X.2.1 dL_isSeat_156 (lv_at hl 7 rfl) ?_
                  refine lv_iload_n X.1 X.2.1 dL_isSeat_158 rfl (lv_at hl 1 rfl) ?_
                  refine z_ald X hW 4 hr rfl dL_isSeat_159 (fun t159 hr => ?_)
                  refine z_cmpne X 167 hr dL_isSeat_160 (by decide) (fun hr => ?_) (fun hr => ?_)
                  · exact J_167 x9 x10 x11 _ _ _ hr hW (lv_sub hl [0, 1, 2, 3, 4, 5, 6, 7, 8, 9, 10, 11] rfl)
                  · refine lv_iconst (v := 1) X.1 X.2.1 dL_isSeat_163 (by decide) ?_
                    refine lv_goto (tgt := 168) X.1 X.2.1 dL_isSeat_164 (by decide) ?_
                    exact J_168 x9 x10 x11 1 _ _ _ hr hW (lv_sub hl [0, 1, 2, 3, 4, 5, 6, 7, 8, 9, 10, 11] rfl)
        refine z_cmplt X 104 hr dL_isSeat_97 (by decide) (fun hr => ?_) (fun hr => ?_)
        · refine lv_iconst (v := 0) X.1 X.2.1 dL_isSeat_104 (by decide) ?_
          exact J_105 x9 x10 s0 0 t87 _ _ _ hr hW (lv_sub hl [1, 2, 3, 4, 5, 6, 7, 8, 9, 10, 11, 0] rfl)
        · refine lv_iconst (v := 1) X.1 X.2.1 dL_isSeat_100 (by decide) ?_
          refine lv_goto (tgt := 105) X.1 X.2.1 dL_isSeat_101 (by decide) ?_
          exact J_105 x9 x10 s0 1 t87 _ _ _ hr hW (lv_sub hl [1, 2, 3, 4, 5, 6, 7, 8, 9, 10, 11, 0] rfl)
  obtain ⟨j_48, e_48, hr⟩ := zjn_some hr
  have J_48 : ∀ (x9 : Int32) (x10 : Int32) (H : Heap) (locs : List Loc) (ls : Array Slot), j_48 x9 x10 = some r → zW E A s ((arW E Aq 19 fq) ++ ((arW E Aa 30 fa) ++ ((arW E Ae 30 fe) ++ ((arW E An 30 fn) ++ ((arW E At 30 ft) ++ ((arW E Ar 30 fr) ++ ((xoW E a b) ++ ((hsW E (zh a 1) v) ++ ((rdW E (zh a 30) w) ++ ((hiW E (zh a 33) u) ++ (slW E b q))))))))))) H locs → lv_has ls 13 [(0, .ref (a 0)), (1, .int p1), (2, .int p2), (3, .ref (Aq 0)), (4, .ref (Aa 0)), (5, .ref (Ae 0)), (6, .ref (An 0)), (7, .ref (At 0)), (8, .ref (Ar 0)), (9, .int x9), (10, .int x10)] → W p l e rm_L_isSeat s m ([.ref (a 0), .int p1, .int p2, .ref (Aq 0), .ref (Aa 0), .ref (Ae 0), .ref (An 0), .ref (At 0), .ref (Ar 0)] : List Value).toArray below meth c H locs 0 0 (MQ below (zQi E A r ((arW E Aq 19 fq) ++ ((arW E Aa 30 fa) ++ ((arW E Ae 30 fe) ++ ((arW E An 30 fn) ++ ((arW E At 30 ft) ++ ((arW E Ar 30 fr) ++ ((xoW E a b) ++ ((hsW E (zh a 1) v) ++ ((rdW E (zh a 30) w) ++ ((hiW E (zh a 33) u) ++ (slW E b q)))))))))))) ([.ref (a 0), .int p1, .int p2, .ref (Aq 0), .ref (Aa 0), .ref (Ae 0), .ref (An 0), .ref (At 0), .ref (Ar 0)] : List Value).toArray s 0 0 A) (F0 m 48 ls []) := by
    intro x9 x10 H locs ls hr hW hl
    rw [e_48] at hr
    refine lv_iconst (v := 0) X.1 X.2.1 dL_isSeat_48 (by decide) ?_
    exact J_49 x9 x10 0 _ _ _ hr hW (lv_sub hl [0, 1, 2, 3, 4, 5, 6, 7, 8, 9, 10] rfl)
  refine z_iflt X 48 hr dL_isSeat_34 (by decide) (fun hr => ?_) (fun hr => ?_)
  · exact J_48 t9 t27 _ _ _ hr hW (lv_sub hl [2, 3, 4, 5, 6, 7, 8, 9, 10, 1, 0] rfl)
  · refine lv_aload_n X.1 X.2.1 dL_isSeat_37 rfl (lv_at hl 5 rfl) ?_
    refine lv_bipush (v := 15) X.1 X.2.1 dL_isSeat_38 (by decide) ?_
    refine z_ald X hW 0 hr rfl dL_isSeat_40 (fun t40 hr => ?_)
    refine z_ifne X 48 hr dL_isSeat_41 (by decide) (fun hr => ?_) (fun hr => ?_)
    · exact J_48 t9 t27 _ _ _ hr hW (lv_sub hl [2, 3, 4, 5, 6, 7, 8, 9, 10, 1, 0] rfl)
    · refine lv_iconst (v := 1) X.1 X.2.1 dL_isSeat_44 (by decide) ?_
      refine lv_goto (tgt := 49) X.1 X.2.1 dL_isSeat_45 (by decide) ?_
      exact J_49 t9 t27 1 _ _ _ hr hW (lv_sub hl [2, 3, 4, 5, 6, 7, 8, 9, 10, 1, 0] rfl)
