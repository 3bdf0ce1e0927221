def fX7_count (c_history_size : Int32) (c_now_grid_size : Int32) (c_now_grid_marks : Nat → Int32) (c_now_rule_kind : Int32) (c_now_rule_traders : Int32) (c_row_length : Int32) (c_text_length : Int32) (c_now_grid_firstFull : Int32) (c_now_grid_full : Int32) (c_now_grid_lastFull : Int32) (c_now_grid_turns : Int32) (x1 : Int32) : Option (Int32 × Int32 × Int32 × Int32 × Int32) := if x1 = (0 : Int32) then some (c_now_grid_size, c_now_grid_firstFull, c_now_grid_full, c_now_grid_lastFull, c_now_grid_turns) else if x1 = (1 : Int32) then (fX1_points c_now_grid_size).bind fun v1 => some (v1, c_now_grid_firstFull, c_now_grid_full, c_now_grid_lastFull, c_now_grid_turns) else if x1 = (2 : Int32) then some ((c_now_grid_size * c_now_grid_size), c_now_grid_firstFull, c_now_grid_full, c_now_grid_lastFull, c_now_grid_turns) else if x1 = (3 : Int32) then some (c_now_rule_kind, c_now_grid_firstFull, c_now_grid_full, c_now_grid_lastFull, c_now_grid_turns) else if x1 = (4 : Int32) then if c_now_rule_kind = (1 : Int32) then some (c_now_rule_traders, c_now_grid_firstFull, c_now_grid_full, c_now_grid_lastFull, c_now_grid_turns) else some ((0 : Int32), c_now_grid_firstFull, c_now_grid_full, c_now_grid_lastFull, c_now_grid_turns) else if x1 = (5 : Int32) then bd5 (fX1_fullCells c_now_grid_size c_now_grid_marks c_now_grid_firstFull c_now_grid_full c_now_grid_lastFull c_now_grid_turns) fun v2 v3 v4 v5 v6 => some (v2, v3, v4, v5, v6) else if x1 = (6 : Int32) then some (c_history_size, c_now_grid_firstFull, c_now_grid_full, c_now_grid_lastFull, c_now_grid_turns) else if x1 = (7 : Int32) then some (c_row_length, c_now_grid_firstFull, c_now_grid_full, c_now_grid_lastFull, c_now_grid_turns) else if x1 = (8 : Int32) then some (c_text_length, c_now_grid_firstFull, c_now_grid_full, c_now_grid_lastFull, c_now_grid_turns) else some ((-1 : Int32), c_now_grid_firstFull, c_now_grid_full, c_now_grid_lastFull, c_now_grid_turns)
set_option maxHeartbeats 4000000 in
set_option maxRecDepth 100000 in
theorem tX7_count (l : Launch) (D : va_G) (k : Nat → ClassId) (q_this q_text q_row q_now q_trial q_doors q_history q_kept q_history_ring q_now_grid q_now_rule q_now_grid_marks q_now_rule_owned q_now_rule_wished q_now_rule_pulls q_row_numbers q_text_signs : Nat) (c_history_next : Int32) (c_history_size : Int32) (c_now_grid_size : Int32) (c_now_grid_full : Int32) (c_now_grid_turns : Int32) (c_now_grid_firstFull : Int32) (c_now_grid_lastFull : Int32) (c_now_grid_marks : Nat → Int32) (c_now_rule_kind : Int32) (c_now_rule_traders : Int32) (c_row_length : Int32) (c_text_length : Int32) (x1 : Int32) (r_ : Int32) (w_now_grid_firstFull : Int32) (w_now_grid_full : Int32) (w_now_grid_lastFull : Int32) (w_now_grid_turns : Int32) (hf : fX7_count c_history_size c_now_grid_size c_now_grid_marks c_now_rule_kind c_now_rule_traders c_row_length c_text_length c_now_grid_firstFull c_now_grid_full c_now_grid_lastFull c_now_grid_turns x1 = some (r_, w_now_grid_firstFull, w_now_grid_full, w_now_grid_lastFull, w_now_grid_turns)) : MI l yX7_count cX7_count 2 .int (RM 4 89) D k [.ref q_this, .int x1] [oX7 q_this q_text q_row q_now q_trial q_doors q_history q_kept, oX2 q_history q_history_ring c_history_next c_history_size, oX5 q_now q_now_grid q_now_rule, oX1 q_now_grid q_now_grid_marks c_now_grid_size c_now_grid_full c_now_grid_turns c_now_grid_firstFull c_now_grid_lastFull, aI k q_now_grid_marks 153 c_now_grid_marks, oX4 q_now_rule q_now_rule_owned q_now_rule_wished q_now_rule_pulls c_now_rule_kind c_now_rule_traders, oX3 q_row q_row_numbers c_row_length, oX6 q_text q_text_signs c_text_length] r_ [oX7 q_this q_text q_row q_now q_trial q_doors q_history q_kept, oX2 q_history q_history_ring c_history_next c_history_size, oX5 q_now q_now_grid q_now_rule, oX1 q_now_grid q_now_grid_marks c_now_grid_size w_now_grid_full w_now_grid_turns w_now_grid_firstFull w_now_grid_lastFull, aI k q_now_grid_marks 153 c_now_grid_marks, oX4 q_now_rule q_now_rule_owned q_now_rule_wished q_now_rule_pulls c_now_rule_kind c_now_rule_traders, oX3 q_row q_row_numbers c_row_length, oX6 q_text q_text_signs c_text_length] := by
  refine mkMI' (own := "DoorWalk") (by decide) rfl (Nat.le_of_ble_eq_true rfl) ?_
  intro p e s m args below meth c Q A hret C
  refine ww_lv (lv' := [(0, .ref q_this), (1, .int x1)]) [0, 1] rfl ?_
  unfold fX7_count at hf
  refine ww_iload_n (pc := 0) C dX7_count_0 rfl 1 rfl ?_
  by_cases hs0 : x1 = (0 : Int32)
  · have hf := ifT hs0 hf
    refine ww_tableIn (pc := 1) (off := 51) (tgt := 52) C dX7_count_1 (by rw [hs0]; decide) (by rw [hs0]; decide) (by rw [hs0]; rfl) (by decide) ?_
    refine ww_aload_n (pc := 52) C dX7_count_52 rfl 0 rfl ?_
    refine gf7_2 (pc := 53) C kf_X7_26 0 rfl rfl dX7_count_53 ?_
    refine gf5_0 (pc := 56) C kf_X7_74 2 rfl rfl dX7_count_56 ?_
    refine gf1_1 (pc := 59) C kf_X7_198 3 rfl rfl dX7_count_59 ?_
    obtain ⟨e0, e1, e2, e3, e4⟩ := ij5 hf
    exact hret _ _ 62 _ dX7_count_62 rfl e0 (by rw [← e1, ← e2, ← e3, ← e4])
  · have hf := ifF hs0 hf
    by_cases hs1 : x1 = (1 : Int32)
    · have hf := ifT hs1 hf
      refine ww_tableIn (pc := 1) (off := 62) (tgt := 63) C dX7_count_1 (by rw [hs1]; decide) (by rw [hs1]; decide) (by rw [hs1]; rfl) (by decide) ?_
      refine ww_aload_n (pc := 63) C dX7_count_63 rfl 0 rfl ?_
      refine gf7_2 (pc := 64) C kf_X7_26 0 rfl rfl dX7_count_64 ?_
      refine gf5_0 (pc := 67) C kf_X7_74 2 rfl rfl dX7_count_67 ?_
      obtain ⟨v1, h1, hf⟩ := bsome hf
      refine ww_callVi0 (pc := 70) (As := []) (rest := []) C (tX1_points l D k q_now_grid q_now_grid_marks c_now_grid_size c_now_grid_full c_now_grid_turns c_now_grid_firstFull c_now_grid_lastFull v1 h1) cv_X7_90 ⟨⟨by decide, by decide⟩, rfl, rfl⟩ 3 rfl rfl [3] rfl rfl rfl rfl (Nat.le_of_ble_eq_true rfl) ⟨Nat.zero_le _, Nat.zero_le _⟩ dX7_count_70 (fun hb1 => ?_)
      obtain ⟨e0, e1, e2, e3, e4⟩ := ij5 hf
      exact hret _ _ 73 _ dX7_count_73 rfl e0 (by rw [← e1, ← e2, ← e3, ← e4])
    · have hf := ifF hs1 hf
      by_cases hs2 : x1 = (2 : Int32)
      · have hf := ifT hs2 hf
        refine ww_tableIn (pc := 1) (off := 73) (tgt := 74) C dX7_count_1 (by rw [hs2]; decide) (by rw [hs2]; decide) (by rw [hs2]; rfl) (by decide) ?_
        refine ww_aload_n (pc := 74) C dX7_count_74 rfl 0 rfl ?_
        refine gf7_2 (pc := 75) C kf_X7_26 0 rfl rfl dX7_count_75 ?_
        refine gf5_0 (pc := 78) C kf_X7_74 2 rfl rfl dX7_count_78 ?_
        refine gf1_1 (pc := 81) C kf_X7_198 3 rfl rfl dX7_count_81 ?_
        refine ww_aload_n (pc := 84) C dX7_count_84 rfl 0 rfl ?_
        refine gf7_2 (pc := 85) C kf_X7_26 0 rfl rfl dX7_count_85 ?_
        refine gf5_0 (pc := 88) C kf_X7_74 2 rfl rfl dX7_count_88 ?_
        refine gf1_1 (pc := 91) C kf_X7_198 3 rfl rfl dX7_count_91 ?_
        refine ww_imul (pc := 94) C dX7_count_94  ?_
        obtain ⟨e0, e1, e2, e3, e4⟩ := ij5 hf
        exact hret _ _ 95 _ dX7_count_95 rfl e0 (by rw [← e1, ← e2, ← e3, ← e4])
      · have hf := ifF hs2 hf
        by_cases hs3 : x1 = (3 : Int32)
        · have hf := ifT hs3 hf
          refine ww_tableIn (pc := 1) (off := 95) (tgt := 96) C dX7_count_1 (by rw [hs3]; decide) (by rw [hs3]; decide) (by rw [hs3]; rfl) (by decide) ?_
          refine ww_aload_n (pc := 96) C dX7_count_96 rfl 0 rfl ?_
          refine gf7_2 (pc := 97) C kf_X7_26 0 rfl rfl dX7_count_97 ?_
          refine gf5_1 (pc := 100) C kf_X7_81 2 rfl rfl dX7_count_100 ?_
          refine gf4_3 (pc := 103) C kf_X7_85 5 rfl rfl dX7_count_103 ?_
          obtain ⟨e0, e1, e2, e3, e4⟩ := ij5 hf
          exact hret _ _ 106 _ dX7_count_106 rfl e0 (by rw [← e1, ← e2, ← e3, ← e4])
        · have hf := ifF hs3 hf
          by_cases hs4 : x1 = (4 : Int32)
          · have hf := ifT hs4 hf
            refine ww_tableIn (pc := 1) (off := 106) (tgt := 107) C dX7_count_1 (by rw [hs4]; decide) (by rw [hs4]; decide) (by rw [hs4]; rfl) (by decide) ?_
            refine ww_aload_n (pc := 107) C dX7_count_107 rfl 0 rfl ?_
            refine gf7_2 (pc := 108) C kf_X7_26 0 rfl rfl dX7_count_108 ?_
            refine gf5_1 (pc := 111) C kf_X7_81 2 rfl rfl dX7_count_111 ?_
            refine gf4_3 (pc := 114) C kf_X7_85 5 rfl rfl dX7_count_114 ?_
            refine ww_iconst (pc := 117) C dX7_count_117 kI_1 ?_
            refine ww_icmp_ne (pc := 118) (tgt := 134) C dX7_count_118 (by decide) (fun hc => ?_) (fun hc => ?_)
            · have hf := ifF hc hf
              refine ww_iconst (pc := 134) C dX7_count_134 kI_0 ?_
              obtain ⟨e0, e1, e2, e3, e4⟩ := ij5 hf
              exact hret _ _ 135 _ dX7_count_135 rfl e0 (by rw [← e1, ← e2, ← e3, ← e4])
            · have hf := ifT hc hf
              refine ww_aload_n (pc := 121) C dX7_count_121 rfl 0 rfl ?_
              refine gf7_2 (pc := 122) C kf_X7_26 0 rfl rfl dX7_count_122 ?_
              refine gf5_1 (pc := 125) C kf_X7_81 2 rfl rfl dX7_count_125 ?_
              refine gf4_4 (pc := 128) C kf_X7_319 5 rfl rfl dX7_count_128 ?_
              refine ww_goto (pc := 131) (tgt := 135) C dX7_count_131 (by decide) ?_
              obtain ⟨e0, e1, e2, e3, e4⟩ := ij5 hf
              exact hret _ _ 135 _ dX7_count_135 rfl e0 (by rw [← e1, ← e2, ← e3, ← e4])
          · have hf := ifF hs4 hf
            by_cases hs5 : x1 = (5 : Int32)
            · have hf := ifT hs5 hf
              refine ww_tableIn (pc := 1) (off := 135) (tgt := 136) C dX7_count_1 (by rw [hs5]; decide) (by rw [hs5]; decide) (by rw [hs5]; rfl) (by decide) ?_
              refine ww_aload_n (pc := 136) C dX7_count_136 rfl 0 rfl ?_
              refine gf7_2 (pc := 137) C kf_X7_26 0 rfl rfl dX7_count_137 ?_
              refine gf5_0 (pc := 140) C kf_X7_74 2 rfl rfl dX7_count_140 ?_
              obtain ⟨v2, v3, v4, v5, v6, h2, hf⟩ := bd5_some hf
              refine ww_callVi (pc := 143) (ws' := [oX7 q_this q_text q_row q_now q_trial q_doors q_history q_kept, oX2 q_history q_history_ring c_history_next c_history_size, oX5 q_now q_now_grid q_now_rule, oX1 q_now_grid q_now_grid_marks c_now_grid_size v4 v6 v3 v5, aI k q_now_grid_marks 153 c_now_grid_marks, oX4 q_now_rule q_now_rule_owned q_now_rule_wished q_now_rule_pulls c_now_rule_kind c_now_rule_traders, oX3 q_row q_row_numbers c_row_length, oX6 q_text q_text_signs c_text_length]) (As := []) (rest := []) C (tX1_fullCells l D k q_now_grid q_now_grid_marks c_now_grid_size c_now_grid_full c_now_grid_turns c_now_grid_firstFull c_now_grid_lastFull c_now_grid_marks v2 v3 v4 v5 v6 h2) cv_X7_345 ⟨⟨by decide, by decide⟩, rfl, rfl⟩ 3 rfl rfl [3, 4] rfl rfl rfl rfl rfl rfl (Nat.le_of_ble_eq_true rfl) ⟨Nat.zero_le _, Nat.zero_le _⟩ dX7_count_143 (fun hb2 => ?_)
              obtain ⟨e0, e1, e2, e3, e4⟩ := ij5 hf
              exact hret _ _ 146 _ dX7_count_146 rfl e0 (by rw [← e1, ← e2, ← e3, ← e4])
            · have hf := ifF hs5 hf
              by_cases hs6 : x1 = (6 : Int32)
              · have hf := ifT hs6 hf
                refine ww_tableIn (pc := 1) (off := 146) (tgt := 147) C dX7_count_1 (by rw [hs6]; decide) (by rw [hs6]; decide) (by rw [hs6]; rfl) (by decide) ?_
                refine ww_aload_n (pc := 147) C dX7_count_147 rfl 0 rfl ?_
                refine gf7_5 (pc := 148) C kf_X7_47 0 rfl rfl dX7_count_148 ?_
                refine gf2_2 (pc := 151) C kf_X7_383 1 rfl rfl dX7_count_151 ?_
                obtain ⟨e0, e1, e2, e3, e4⟩ := ij5 hf
                exact hret _ _ 154 _ dX7_count_154 rfl e0 (by rw [← e1, ← e2, ← e3, ← e4])
              · have hf := ifF hs6 hf
                by_cases hs7 : x1 = (7 : Int32)
                · have hf := ifT hs7 hf
                  refine ww_tableIn (pc := 1) (off := 154) (tgt := 155) C dX7_count_1 (by rw [hs7]; decide) (by rw [hs7]; decide) (by rw [hs7]; rfl) (by decide) ?_
                  refine ww_aload_n (pc := 155) C dX7_count_155 rfl 0 rfl ?_
                  refine gf7_1 (pc := 156) C kf_X7_19 0 rfl rfl dX7_count_156 ?_
                  refine gf3_1 (pc := 159) C kf_X7_293 6 rfl rfl dX7_count_159 ?_
                  obtain ⟨e0, e1, e2, e3, e4⟩ := ij5 hf
                  exact hret _ _ 162 _ dX7_count_162 rfl e0 (by rw [← e1, ← e2, ← e3, ← e4])
                · have hf := ifF hs7 hf
                  by_cases hs8 : x1 = (8 : Int32)
                  · have hf := ifT hs8 hf
                    refine ww_tableIn (pc := 1) (off := 162) (tgt := 163) C dX7_count_1 (by rw [hs8]; decide) (by rw [hs8]; decide) (by rw [hs8]; rfl) (by decide) ?_
                    refine ww_aload_n (pc := 163) C dX7_count_163 rfl 0 rfl ?_
                    refine gf7_0 (pc := 164) C kf_X7_12 0 rfl rfl dX7_count_164 ?_
                    refine gf6_1 (pc := 167) C kf_X7_59 7 rfl rfl dX7_count_167 ?_
                    obtain ⟨e0, e1, e2, e3, e4⟩ := ij5 hf
                    exact hret _ _ 170 _ dX7_count_170 rfl e0 (by rw [← e1, ← e2, ← e3, ← e4])
                  · have hf := ifF hs8 hf
                    refine ww_tableOut (pc := 1) (tgt := 171) C dX7_count_1 (by have g0 := lv_neT (a := 0) hs0 (by decide); have g1 := lv_neT (a := 1) hs1 (by decide); have g2 := lv_neT (a := 2) hs2 (by decide); have g3 := lv_neT (a := 3) hs3 (by decide); have g4 := lv_neT (a := 4) hs4 (by decide); have g5 := lv_neT (a := 5) hs5 (by decide); have g6 := lv_neT (a := 6) hs6 (by decide); have g7 := lv_neT (a := 7) hs7 (by decide); have g8 := lv_neT (a := 8) hs8 (by decide); omega) (by decide) ?_
                    refine ww_iconst (pc := 171) C dX7_count_171 kI_m1 ?_
                    obtain ⟨e0, e1, e2, e3, e4⟩ := ij5 hf
                    exact hret _ _ 172 _ dX7_count_172 rfl e0 (by rw [← e1, ← e2, ← e3, ← e4])
