def fX7_layTrial (c_now_rule_kind : Int32) (c_now_rule_pulls : Nat → Int64) (c_trial_size : Int32) (c_trial_marks : Nat → Int32) (x1 : Int32) : Option (Int32 × (Nat → Int32)) := (fX4_layOn c_now_rule_kind c_now_rule_pulls x1 c_trial_marks).bind fun v1 => some (x1, v1)
set_option maxHeartbeats 4000000 in
set_option maxRecDepth 100000 in
theorem tX7_layTrial (l : Launch) (D : va_G) (k : Nat → ClassId) (q_this q_text q_row q_now q_trial q_doors q_history q_kept q_now_grid q_now_rule q_now_rule_owned q_now_rule_wished q_now_rule_pulls q_trial_marks : Nat) (c_now_rule_kind : Int32) (c_now_rule_traders : Int32) (c_now_rule_pulls : Nat → Int64) (c_trial_size : Int32) (c_trial_full : Int32) (c_trial_turns : Int32) (c_trial_firstFull : Int32) (c_trial_lastFull : Int32) (c_trial_marks : Nat → Int32) (x1 : Int32) (w_trial_size : Int32) (w_trial_marks : Nat → Int32) (hf : fX7_layTrial c_now_rule_kind c_now_rule_pulls c_trial_size c_trial_marks x1 = some (w_trial_size, w_trial_marks)) : MV l yX7_layTrial cX7_layTrial 2 (RM 4 100) D k [.ref q_this, .int x1] [oX7 q_this q_text q_row q_now q_trial q_doors q_history q_kept, oX5 q_now q_now_grid q_now_rule, oX4 q_now_rule q_now_rule_owned q_now_rule_wished q_now_rule_pulls c_now_rule_kind c_now_rule_traders, aJ k q_now_rule_pulls 9 c_now_rule_pulls, oX1 q_trial q_trial_marks c_trial_size c_trial_full c_trial_turns c_trial_firstFull c_trial_lastFull, aI k q_trial_marks 153 c_trial_marks] [oX7 q_this q_text q_row q_now q_trial q_doors q_history q_kept, oX5 q_now q_now_grid q_now_rule, oX4 q_now_rule q_now_rule_owned q_now_rule_wished q_now_rule_pulls c_now_rule_kind c_now_rule_traders, aJ k q_now_rule_pulls 9 c_now_rule_pulls, oX1 q_trial q_trial_marks w_trial_size c_trial_full c_trial_turns c_trial_firstFull c_trial_lastFull, aI k q_trial_marks 153 w_trial_marks] := by
  refine mkMV' (own := "DoorWalk") (by decide) rfl (Nat.le_of_ble_eq_true rfl) ?_
  intro p e s m args below meth c Q A hret C
  refine ww_lv (lv' := [(0, .ref q_this), (1, .int x1)]) [0, 1] rfl ?_
  unfold fX7_layTrial at hf
  refine ww_aload_n (pc := 0) C dX7_layTrial_0 rfl 0 rfl ?_
  refine gf7_3 (pc := 1) C kf_X7_33 0 rfl rfl dX7_layTrial_1 ?_
  refine ww_iload_n (pc := 4) C dX7_layTrial_4 rfl 1 rfl ?_
  refine pf1_1 (pc := 5) (ws' := [oX7 q_this q_text q_row q_now q_trial q_doors q_history q_kept, oX5 q_now q_now_grid q_now_rule, oX4 q_now_rule q_now_rule_owned q_now_rule_wished q_now_rule_pulls c_now_rule_kind c_now_rule_traders, aJ k q_now_rule_pulls 9 c_now_rule_pulls, oX1 q_trial q_trial_marks x1 c_trial_full c_trial_turns c_trial_firstFull c_trial_lastFull, aI k q_trial_marks 153 c_trial_marks]) C kf_X7_198 4 rfl (Nat.le_of_ble_eq_true rfl) rfl dX7_layTrial_5 ?_
  refine ww_aload_n (pc := 8) C dX7_layTrial_8 rfl 0 rfl ?_
  refine gf7_2 (pc := 9) C kf_X7_26 0 rfl rfl dX7_layTrial_9 ?_
  refine gf5_1 (pc := 12) C kf_X7_81 1 rfl rfl dX7_layTrial_12 ?_
  refine ww_aload_n (pc := 15) C dX7_layTrial_15 rfl 0 rfl ?_
  refine gf7_3 (pc := 16) C kf_X7_33 0 rfl rfl dX7_layTrial_16 ?_
  obtain ⟨v1, h1, hf⟩ := bsome hf
  refine ww_callVv (pc := 19) (ws' := [oX7 q_this q_text q_row q_now q_trial q_doors q_history q_kept, oX5 q_now q_now_grid q_now_rule, oX4 q_now_rule q_now_rule_owned q_now_rule_wished q_now_rule_pulls c_now_rule_kind c_now_rule_traders, aJ k q_now_rule_pulls 9 c_now_rule_pulls, oX1 q_trial q_trial_marks x1 c_trial_full c_trial_turns c_trial_firstFull c_trial_lastFull, aI k q_trial_marks 153 v1]) (As := [.ref q_trial]) (rest := []) C (tX4_layOn l D k q_now_rule q_now_rule_owned q_now_rule_wished q_now_rule_pulls q_trial q_trial_marks c_now_rule_kind c_now_rule_traders c_now_rule_pulls x1 c_trial_full c_trial_turns c_trial_firstFull c_trial_lastFull c_trial_marks v1 h1) cv_X7_100 ⟨⟨by decide, by decide⟩, rfl, rfl⟩ 2 rfl rfl [2, 3, 4, 5] rfl rfl rfl rfl rfl rfl (Nat.le_of_ble_eq_true rfl) ⟨Nat.zero_le _, Nat.zero_le _⟩ dX7_layTrial_19 ?_
  obtain ⟨e0, e1⟩ := ij2 hf
  exact hret _ _ 22 dX7_layTrial_22 (by rw [← e0, ← e1])
def fX7_finer (c_now_rule_kind : Int32) (c_now_rule_pulls : Nat → Int64) (c_row_length : Int32) (c_row_numbers : Nat → Int64) (c_trial_firstFull : Int32) (c_trial_full : Int32) (c_trial_lastFull : Int32) (c_trial_size : Int32) (c_trial_turns : Int32) (c_trial_marks : Nat → Int32) (x1 : Int32) : Option (Int32 × Int32 × (Nat → Int64) × Int32 × Int32 × Int32 × Int32 × Int32 × (Nat → Int32)) := (fX7_isGrid x1).bind fun v1 => if v1 = 0 then some ((-1 : Int32), c_row_length, c_row_numbers, c_trial_firstFull, c_trial_full, c_trial_lastFull, c_trial_size, c_trial_turns, c_trial_marks) else if c_now_rule_kind = 0 then some ((-3 : Int32), c_row_length, c_row_numbers, c_trial_firstFull, c_trial_full, c_trial_lastFull, c_trial_size, c_trial_turns, c_trial_marks) else bd2 (fX7_layTrial c_now_rule_kind c_now_rule_pulls c_trial_size c_trial_marks x1) fun v2 v3 => bd4 (fX1_survey v2 v3 c_trial_firstFull c_trial_full c_trial_lastFull c_trial_turns) fun v4 v5 v6 v7 => bd2 (fX3_tell_ c_row_length c_row_numbers ((v7).toInt64) ((v4).toInt64)) fun v8 v9 => some (v5, v8, v9, v4, v5, v6, v2, v7, v3)
set_option maxHeartbeats 4000000 in
set_option maxRecDepth 100000 in
theorem tX7_finer (l : Launch) (D : va_G) (k : Nat → ClassId) (q_this q_text q_row q_now q_trial q_doors q_history q_kept q_now_grid q_now_rule q_now_rule_owned q_now_rule_wished q_now_rule_pulls q_row_numbers q_trial_marks : Nat) (c_now_rule_kind : Int32) (c_now_rule_traders : Int32) (c_now_rule_pulls : Nat → Int64) (c_row_length : Int32) (c_row_numbers : Nat → Int64) (c_trial_size : Int32) (c_trial_full : Int32) (c_trial_turns : Int32) (c_trial_firstFull : Int32) (c_trial_lastFull : Int32) (c_trial_marks : Nat → Int32) (x1 : Int32) (r_ : Int32) (w_row_length : Int32) (w_row_numbers : Nat → Int64) (w_trial_firstFull : Int32) (w_trial_full : Int32) (w_trial_lastFull : Int32) (w_trial_size : Int32) (w_trial_turns : Int32) (w_trial_marks : Nat → Int32) (hf : fX7_finer c_now_rule_kind c_now_rule_pulls c_row_length c_row_numbers c_trial_firstFull c_trial_full c_trial_lastFull c_trial_size c_trial_turns c_trial_marks x1 = some (r_, w_row_length, w_row_numbers, w_trial_firstFull, w_trial_full, w_trial_lastFull, w_trial_size, w_trial_turns, w_trial_marks)) : MI l yX7_finer cX7_finer 2 .int (RM 5 121) D k [.ref q_this, .int x1] [oX7 q_this q_text q_row q_now q_trial q_doors q_history q_kept, oX5 q_now q_now_grid q_now_rule, oX4 q_now_rule q_now_rule_owned q_now_rule_wished q_now_rule_pulls c_now_rule_kind c_now_rule_traders, aJ k q_now_rule_pulls 9 c_now_rule_pulls, oX3 q_row q_row_numbers c_row_length, aJ k q_row_numbers 16 c_row_numbers, oX1 q_trial q_trial_marks c_trial_size c_trial_full c_trial_turns c_trial_firstFull c_trial_lastFull, aI k q_trial_marks 153 c_trial_marks] r_ [oX7 q_this q_text q_row q_now q_trial q_doors q_history q_kept, oX5 q_now q_now_grid q_now_rule, oX4 q_now_rule q_now_rule_owned q_now_rule_wished q_now_rule_pulls c_now_rule_kind c_now_rule_traders, aJ k q_now_rule_pulls 9 c_now_rule_pulls, oX3 q_row q_row_numbers w_row_length, aJ k q_row_numbers 16 w_row_numbers, oX1 q_trial q_trial_marks w_trial_size w_trial_full w_trial_turns w_trial_firstFull w_trial_lastFull, aI k q_trial_marks 153 w_trial_marks] := by
  refine mkMI' (own := "DoorWalk") (by decide) rfl (Nat.le_of_ble_eq_true rfl) ?_
  intro p e s m args below meth c Q A hret C
  refine ww_lv (lv' := [(0, .ref q_this), (1, .int x1)]) [0, 1] rfl ?_
  unfold fX7_finer at hf
  refine ww_iload_n (pc := 0) C dX7_finer_0 rfl 1 rfl ?_
  obtain ⟨v1, h1, hf⟩ := bsome hf
  refine ww_callSi0 (pc := 1) (As := [.int x1]) (rest := []) C (tX7_isGrid l D k x1 v1 h1) cs_X7_277 ⟨⟨by decide, by decide⟩, rfl, rfl⟩ [] rfl rfl rfl rfl (Nat.le_of_ble_eq_true rfl) ⟨Nat.zero_le _, Nat.zero_le _⟩ dX7_finer_1 (fun hb1 => ?_)
  refine ww_if_ne (pc := 4) (tgt := 9) C dX7_finer_4 (by decide) (fun hc => ?_) (fun hc => ?_)
  · have hf := ifF hc hf
    refine ww_aload_n (pc := 9) C dX7_finer_9 rfl 0 rfl ?_
    refine gf7_2 (pc := 10) C kf_X7_26 0 rfl rfl dX7_finer_10 ?_
    refine gf5_1 (pc := 13) C kf_X7_81 1 rfl rfl dX7_finer_13 ?_
    refine gf4_3 (pc := 16) C kf_X7_85 2 rfl rfl dX7_finer_16 ?_
    refine ww_if_ne (pc := 19) (tgt := 25) C dX7_finer_19 (by decide) (fun hc => ?_) (fun hc => ?_)
    · have hf := ifF hc hf
      refine ww_aload_n (pc := 25) C dX7_finer_25 rfl 0 rfl ?_
      refine ww_iload_n (pc := 26) C dX7_finer_26 rfl 1 rfl ?_
      obtain ⟨v2, v3, h2, hf⟩ := bd2_some hf
      refine ww_callVv (pc := 27) (ws' := [oX7 q_this q_text q_row q_now q_trial q_doors q_history q_kept, oX5 q_now q_now_grid q_now_rule, oX4 q_now_rule q_now_rule_owned q_now_rule_wished q_now_rule_pulls c_now_rule_kind c_now_rule_traders, aJ k q_now_rule_pulls 9 c_now_rule_pulls, oX3 q_row q_row_numbers c_row_length, aJ k q_row_numbers 16 c_row_numbers, oX1 q_trial q_trial_marks v2 c_trial_full c_trial_turns c_trial_firstFull c_trial_lastFull, aI k q_trial_marks 153 v3]) (As := [.int x1]) (rest := []) C (tX7_layTrial l D k q_this q_text q_row q_now q_trial q_doors q_history q_kept q_now_grid q_now_rule q_now_rule_owned q_now_rule_wished q_now_rule_pulls q_trial_marks c_now_rule_kind c_now_rule_traders c_now_rule_pulls c_trial_size c_trial_full c_trial_turns c_trial_firstFull c_trial_lastFull c_trial_marks x1 v2 v3 h2) cv_X7_280 ⟨⟨by decide, by decide⟩, rfl, rfl⟩ 0 rfl rfl [0, 1, 2, 3, 6, 7] rfl rfl rfl rfl rfl rfl (Nat.le_of_ble_eq_true rfl) ⟨Nat.zero_le _, Nat.zero_le _⟩ dX7_finer_27 ?_
      refine ww_aload_n (pc := 30) C dX7_finer_30 rfl 0 rfl ?_
      refine gf7_3 (pc := 31) C kf_X7_33 0 rfl rfl dX7_finer_31 ?_
      obtain ⟨v4, v5, v6, v7, h4, hf⟩ := bd4_some hf
      refine ww_callVv (pc := 34) (ws' := [oX7 q_this q_text q_row q_now q_trial q_doors q_history q_kept, oX5 q_now q_now_grid q_now_rule, oX4 q_now_rule q_now_rule_owned q_now_rule_wished q_now_rule_pulls c_now_rule_kind c_now_rule_traders, aJ k q_now_rule_pulls 9 c_now_rule_pulls, oX3 q_row q_row_numbers c_row_length, aJ k q_row_numbers 16 c_row_numbers, oX1 q_trial q_trial_marks v2 v5 v7 v4 v6, aI k q_trial_marks 153 v3]) (As := []) (rest := []) C (tX1_survey l D k q_trial q_trial_marks v2 c_trial_full c_trial_turns c_trial_firstFull c_trial_lastFull v3 v4 v5 v6 v7 h4) cv_X7_168 ⟨⟨by decide, by decide⟩, rfl, rfl⟩ 6 rfl rfl [6, 7] rfl rfl rfl rfl rfl rfl (Nat.le_of_ble_eq_true rfl) ⟨Nat.zero_le _, Nat.zero_le _⟩ dX7_finer_34 ?_
      refine ww_aload_n (pc := 37) C dX7_finer_37 rfl 0 rfl ?_
      refine gf7_1 (pc := 38) C kf_X7_19 0 rfl rfl dX7_finer_38 ?_
      refine ww_aload_n (pc := 41) C dX7_finer_41 rfl 0 rfl ?_
      refine gf7_3 (pc := 42) C kf_X7_33 0 rfl rfl dX7_finer_42 ?_
      refine gf1_3 (pc := 45) C kf_X7_171 6 rfl rfl dX7_finer_45 ?_
      refine ww_i2l (pc := 48) C dX7_finer_48  ?_
      refine ww_aload_n (pc := 49) C dX7_finer_49 rfl 0 rfl ?_
      refine gf7_3 (pc := 50) C kf_X7_33 0 rfl rfl dX7_finer_50 ?_
      refine gf1_4 (pc := 53) C kf_X7_174 6 rfl rfl dX7_finer_53 ?_
      refine ww_i2l (pc := 56) C dX7_finer_56  ?_
      obtain ⟨v8, v9, h8, hf⟩ := bd2_some hf
      refine ww_callVv (pc := 57) (ws' := [oX7 q_this q_text q_row q_now q_trial q_doors q_history q_kept, oX5 q_now q_now_grid q_now_rule, oX4 q_now_rule q_now_rule_owned q_now_rule_wished q_now_rule_pulls c_now_rule_kind c_now_rule_traders, aJ k q_now_rule_pulls 9 c_now_rule_pulls, oX3 q_row q_row_numbers v8, aJ k q_row_numbers 16 v9, oX1 q_trial q_trial_marks v2 v5 v7 v4 v6, aI k q_trial_marks 153 v3]) (As := [.long ((v7).toInt64), .long ((v4).toInt64)]) (rest := []) C (tX3_tell_ l D k q_row q_row_numbers c_row_length c_row_numbers ((v7).toInt64) ((v4).toInt64) v8 v9 h8) cv_X7_120 ⟨⟨by decide, by decide⟩, rfl, rfl⟩ 4 rfl rfl [4, 5] rfl rfl rfl rfl rfl rfl (Nat.le_of_ble_eq_true rfl) ⟨Nat.zero_le _, Nat.zero_le _⟩ dX7_finer_57 ?_
      refine ww_aload_n (pc := 60) C dX7_finer_60 rfl 0 rfl ?_
      refine gf7_3 (pc := 61) C kf_X7_33 0 rfl rfl dX7_finer_61 ?_
      refine gf1_2 (pc := 64) C kf_X7_180 6 rfl rfl dX7_finer_64 ?_
      obtain ⟨e0, e1, e2, e3, e4, e5, e6, e7, e8⟩ := ij9 hf
      exact hret _ _ 67 _ dX7_finer_67 rfl e0 (by rw [← e1, ← e2, ← e3, ← e4, ← e5, ← e6, ← e7, ← e8])
    · have hf := ifT hc hf
      refine ww_bipush (pc := 22) C dX7_finer_22 kB_m3 ?_
      obtain ⟨e0, e1, e2, e3, e4, e5, e6, e7, e8⟩ := ij9 hf
      exact hret _ _ 24 _ dX7_finer_24 rfl e0 (by rw [← e1, ← e2, ← e3, ← e4, ← e5, ← e6, ← e7, ← e8])
  · have hf := ifT hc hf
    refine ww_iconst (pc := 7) C dX7_finer_7 kI_m1 ?_
    obtain ⟨e0, e1, e2, e3, e4, e5, e6, e7, e8⟩ := ij9 hf
    exact hret _ _ 8 _ dX7_finer_8 rfl e0 (by rw [← e1, ← e2, ← e3, ← e4, ← e5, ← e6, ← e7, ← e8])
def fX7_within_b255 (c_now_grid_size : Int32) (c_now_rule_kind : Int32) (c_now_rule_pulls : Nat → Int64) (rc216 : Int32 → (Nat → Int64) → Int32 → (Nat → Int32) → Int32 → Int32 → Option (Int32 × Int32 × (Nat → Int64) × Int32 × (Nat → Int32))) (c_row_length : Int32) (c_row_numbers : Nat → Int64) (c_trial_size : Int32) (c_trial_marks : Nat → Int32) (n6 : Int32) (s0 : Int32) (s1 : Int32) : Option (Int32 × Int32 × (Nat → Int64) × Int32 × (Nat → Int32)) := (some (s0 + s1)).bind fun v1 => (some (n6 + (1 : Int32))).bind fun v2 => rc216 c_row_length c_row_numbers c_trial_size c_trial_marks v1 v2
def fX7_within_b216 (c_now_grid_size : Int32) (c_now_rule_kind : Int32) (c_now_rule_pulls : Nat → Int64) (rc216 : Int32 → (Nat → Int64) → Int32 → (Nat → Int32) → Int32 → Int32 → Option (Int32 × Int32 × (Nat → Int64) × Int32 × (Nat → Int32))) (c_row_length : Int32) (c_row_numbers : Nat → Int64) (c_trial_size : Int32) (c_trial_marks : Nat → Int32) (n5 : Int32) (n6 : Int32) : Option (Int32 × Int32 × (Nat → Int64) × Int32 × (Nat → Int32)) := if c_row_length ≤ n6 then some (n5, c_row_length, c_row_numbers, c_trial_size, c_trial_marks) else (fX3_at c_row_length c_row_numbers n6).bind fun v1 => (fX1_turn c_trial_size c_trial_marks ((v1).toInt32)).bind fun v2 => if v2 = 0 then fX7_within_b255 c_now_grid_size c_now_rule_kind c_now_rule_pulls rc216 c_row_length c_row_numbers c_trial_size c_trial_marks n6 n5 (0 : Int32) else fX7_within_b255 c_now_grid_size c_now_rule_kind c_now_rule_pulls rc216 c_row_length c_row_numbers c_trial_size c_trial_marks n6 n5 (1 : Int32)
def fX7_within_b210 (c_now_grid_size : Int32) (c_now_rule_kind : Int32) (c_now_rule_pulls : Nat → Int64) (c_row_length : Int32) (c_row_numbers : Nat → Int64) (c_trial_size : Int32) (c_trial_marks : Nat → Int32) : Option (Int32 × Int32 × (Nat → Int64) × Int32 × (Nat → Int32)) := lfix (fX7_within_b216 c_now_grid_size c_now_rule_kind c_now_rule_pulls) (fun _ _ _ _ _ _ => none) FU c_row_length c_row_numbers c_trial_size c_trial_marks (0 : Int32) (0 : Int32)
def fX7_within (c_now_grid_size : Int32) (c_now_rule_kind : Int32) (c_now_rule_pulls : Nat → Int64) (c_row_length : Int32) (c_row_numbers : Nat → Int64) (c_trial_size : Int32) (c_trial_marks : Nat → Int32) (x1 : Int32) : Option (Int32 × Int32 × (Nat → Int64) × Int32 × (Nat → Int32)) := (fX1_isCell c_now_grid_size x1).bind fun v1 => if v1 = 0 then some ((-1 : Int32), c_row_length, c_row_numbers, c_trial_size, c_trial_marks) else if c_now_rule_kind = 0 then some ((-3 : Int32), c_row_length, c_row_numbers, c_trial_size, c_trial_marks) else if ((2 : Int32) * c_now_grid_size) ≤ (16 : Int32) then bd2 (fX7_layTrial c_now_rule_kind c_now_rule_pulls c_trial_size c_trial_marks ((2 : Int32) * c_now_grid_size)) fun v2 v3 => (fX1_cellI c_now_grid_size x1).bind fun v4 => (some ((2 : Int32) * v4)).bind fun v5 => (fX1_cellJ c_now_grid_size x1).bind fun v6 => (some ((2 : Int32) * v6)).bind fun v7 => if (x1 &&& (1 : Int32)) = 0 then (fX1_cellAt v2 v5 v7 (0 : Int32)).bind fun v14 => (fX1_cellAt v2 v5 v7 (1 : Int32)).bind fun v15 => (fX1_cellAt v2 v5 (v7 + (1 : Int32)) (0 : Int32)).bind fun v16 => (fX1_cellAt v2 (v5 + (1 : Int32)) v7 (0 : Int32)).bind fun v17 => bd2 (fX3_tell___ c_row_length c_row_numbers ((v14).toInt64) ((v15).toInt64) ((v16).toInt64) ((v17).toInt64)) fun v18 v19 => fX7_within_b210 c_now_grid_size c_now_rule_kind c_now_rule_pulls v18 v19 v2 v3 else (fX1_cellAt v2 v5 (v7 + (1 : Int32)) (1 : Int32)).bind fun v8 => (fX1_cellAt v2 (v5 + (1 : Int32)) v7 (1 : Int32)).bind fun v9 => (fX1_cellAt v2 (v5 + (1 : Int32)) (v7 + (1 : Int32)) (0 : Int32)).bind fun v10 => (fX1_cellAt v2 (v5 + (1 : Int32)) (v7 + (1 : Int32)) (1 : Int32)).bind fun v11 => bd2 (fX3_tell___ c_row_length c_row_numbers ((v8).toInt64) ((v9).toInt64) ((v10).toInt64) ((v11).toInt64)) fun v12 v13 => fX7_within_b210 c_now_grid_size c_now_rule_kind c_now_rule_pulls v12 v13 v2 v3 else some ((-4 : Int32), c_row_length, c_row_numbers, c_trial_size, c_trial_marks)
set_option maxHeartbeats 4000000 in
set_option maxRecDepth 100000 in
theorem tX7_within (l : Launch) (D : va_G) (k : Nat → ClassId) (q_this q_text q_row q_now q_trial q_doors q_history q_kept q_now_grid q_now_rule q_now_grid_marks q_now_rule_owned q_now_rule_wished q_now_rule_pulls q_row_numbers q_trial_marks : Nat) (c_now_grid_size : Int32) (c_now_grid_full : Int32) (c_now_grid_turns : Int32) (c_now_grid_firstFull : Int32) (c_now_grid_lastFull : Int32) (c_now_rule_kind : Int32) (c_now_rule_traders : Int32) (c_now_rule_pulls : Nat → Int64) (c_row_length : Int32) (c_row_numbers : Nat → Int64) (c_trial_size : Int32) (c_trial_full : Int32) (c_trial_turns : Int32) (c_trial_firstFull : Int32) (c_trial_lastFull : Int32) (c_trial_marks : Nat → Int32) (x1 : Int32) (r_ : Int32) (w_row_length : Int32) (w_row_numbers : Nat → Int64) (w_trial_size : Int32) (w_trial_marks : Nat → Int32) (hf : fX7_within c_now_grid_size c_now_rule_kind c_now_rule_pulls c_row_length c_row_numbers c_trial_size c_trial_marks x1 = some (r_, w_row_length, w_row_numbers, w_trial_size, w_trial_marks)) : MI l yX7_within cX7_within 7 .int (RM 5 122) D k [.ref q_this, .int x1] [oX7 q_this q_text q_row q_now q_trial q_doors q_history q_kept, oX5 q_now q_now_grid q_now_rule, oX1 q_now_grid q_now_grid_marks c_now_grid_size c_now_grid_full c_now_grid_turns c_now_grid_firstFull c_now_grid_lastFull, oX4 q_now_rule q_now_rule_owned q_now_rule_wished q_now_rule_pulls c_now_rule_kind c_now_rule_traders, aJ k q_now_rule_pulls 9 c_now_rule_pulls, oX3 q_row q_row_numbers c_row_length, aJ k q_row_numbers 16 c_row_numbers, oX1 q_trial q_trial_marks c_trial_size c_trial_full c_trial_turns c_trial_firstFull c_trial_lastFull, aI k q_trial_marks 153 c_trial_marks] r_ [oX7 q_this q_text q_row q_now q_trial q_doors q_history q_kept, oX5 q_now q_now_grid q_now_rule, oX1 q_now_grid q_now_grid_marks c_now_grid_size c_now_grid_full c_now_grid_turns c_now_grid_firstFull c_now_grid_lastFull, oX4 q_now_rule q_now_rule_owned q_now_rule_wished q_now_rule_pulls c_now_rule_kind c_now_rule_traders, aJ k q_now_rule_pulls 9 c_now_rule_pulls, oX3 q_row q_row_numbers w_row_length, aJ k q_row_numbers 16 w_row_numbers, oX1 q_trial q_trial_marks w_trial_size c_trial_full c_trial_turns c_trial_firstFull c_trial_lastFull, aI k q_trial_marks 153 w_trial_marks] := by
  refine mkMI' (own := "DoorWalk") (by decide) rfl (Nat.le_of_ble_eq_true rfl) ?_
  intro p e s m args below meth c Q A hret C
  refine ww_lv (lv' := [(0, .ref q_this), (1, .int x1)]) [0, 1] rfl ?_
  have hL216 : ∀ (n : Nat) (c_row_length : Int32) (c_row_numbers : Nat → Int64) (c_trial_size : Int32) (c_trial_marks : Nat → Int32) (n5 : Int32) (n6 : Int32), lfix (fX7_within_b216 c_now_grid_size c_now_rule_kind c_now_rule_pulls) (fun _ _ _ _ _ _ => none) n c_row_length c_row_numbers c_trial_size c_trial_marks n5 n6 = some (r_, w_row_length, w_row_numbers, w_trial_size, w_trial_marks) → WW p l e (RM 5 122) s m args below meth c Q 7 D A 0 0 [oX7 q_this q_text q_row q_now q_trial q_doors q_history q_kept, oX5 q_now q_now_grid q_now_rule, oX1 q_now_grid q_now_grid_marks c_now_grid_size c_now_grid_full c_now_grid_turns c_now_grid_firstFull c_now_grid_lastFull, oX4 q_now_rule q_now_rule_owned q_now_rule_wished q_now_rule_pulls c_now_rule_kind c_now_rule_traders, aJ k q_now_rule_pulls 9 c_now_rule_pulls, oX3 q_row q_row_numbers c_row_length, aJ k q_row_numbers 16 c_row_numbers, oX1 q_trial q_trial_marks c_trial_size c_trial_full c_trial_turns c_trial_firstFull c_trial_lastFull, aI k q_trial_marks 153 c_trial_marks] [(0, .ref q_this), (5, .int n5), (6, .int n6)] 216 [] := by
    intro n
    induction n with
    | zero => intro c_row_length c_row_numbers c_trial_size c_trial_marks n5 n6 hf; cases hf
    | succ n ih216 =>
      obtain ⟨rc216, hrc216⟩ : ∃ f9, f9 = lfix (fX7_within_b216 c_now_grid_size c_now_rule_kind c_now_rule_pulls) (fun _ _ _ _ _ _ => none) n := ⟨_, rfl⟩
      rw [← hrc216] at ih216
      have hJ255 : ∀ (c_row_length : Int32) (c_row_numbers : Nat → Int64) (c_trial_size : Int32) (c_trial_marks : Nat → Int32) (n6 : Int32) (s0 : Int32) (s1 : Int32), fX7_within_b255 c_now_grid_size c_now_rule_kind c_now_rule_pulls rc216 c_row_length c_row_numbers c_trial_size c_trial_marks n6 s0 s1 = some (r_, w_row_length, w_row_numbers, w_trial_size, w_trial_marks) → WW p l e (RM 5 122) s m args below meth c Q 7 D A 0 0 [oX7 q_this q_text q_row q_now q_trial q_doors q_history q_kept, oX5 q_now q_now_grid q_now_rule, oX1 q_now_grid q_now_grid_marks c_now_grid_size c_now_grid_full c_now_grid_turns c_now_grid_firstFull c_now_grid_lastFull, oX4 q_now_rule q_now_rule_owned q_now_rule_wished q_now_rule_pulls c_now_rule_kind c_now_rule_traders, aJ k q_now_rule_pulls 9 c_now_rule_pulls, oX3 q_row q_row_numbers c_row_length, aJ k q_row_numbers 16 c_row_numbers, oX1 q_trial q_trial_marks c_trial_size c_trial_full c_trial_turns c_trial_firstFull c_trial_lastFull, aI k q_trial_marks 153 c_trial_marks] [(0, .ref q_this), (6, .int n6)] 255 [.int s1, .int s0] := by
        intro c_row_length c_row_numbers c_trial_size c_trial_marks n6 s0 s1
        intro hf
        unfold fX7_within_b255 at hf
        refine ww_iadd (pc := 255) C dX7_within_255  ?_
        obtain ⟨v1, h1, hf⟩ := bsome hf
        refine ww_nmi h1 ?_
        refine ww_istore (pc := 256) (lv' := [(5, .int v1), (0, .ref q_this), (6, .int n6)]) C dX7_within_256 (by decide) rfl ?_
        obtain ⟨v2, h2, hf⟩ := bsome hf
        refine ww_iincN (pc := 258) (lv' := [(6, .int v2), (5, .int v1), (0, .ref q_this)]) (j := 2) C dX7_within_258 kI_1 rfl h2 (by decide) rfl ?_
        refine ww_goto (pc := 261) (tgt := 216) C dX7_within_261 (by decide) ?_
        exact ww_lv [2, 1, 0] rfl (ih216 c_row_length c_row_numbers c_trial_size c_trial_marks v1 v2 hf)
      intro c_row_length c_row_numbers c_trial_size c_trial_marks n5 n6 hf
      have hf : fX7_within_b216 c_now_grid_size c_now_rule_kind c_now_rule_pulls rc216 c_row_length c_row_numbers c_trial_size c_trial_marks n5 n6 = some (r_, w_row_length, w_row_numbers, w_trial_size, w_trial_marks) := by rw [hrc216]; exact hf
      unfold fX7_within_b216 at hf
      refine ww_iload (pc := 216) C dX7_within_216 2 rfl ?_
      refine ww_aload_n (pc := 218) C dX7_within_218 rfl 0 rfl ?_
      refine gf7_1 (pc := 219) C kf_X7_19 0 rfl rfl dX7_within_219 ?_
      refine gf3_1 (pc := 222) C kf_X7_293 5 rfl rfl dX7_within_222 ?_
      refine ww_icmp_ge (pc := 225) (tgt := 264) C dX7_within_225 (by decide) (fun hc => ?_) (fun hc => ?_)
      · have hf := ifT hc hf
        refine ww_iload (pc := 264) C dX7_within_264 1 rfl ?_
        obtain ⟨e0, e1, e2, e3, e4⟩ := ij5 hf
        exact hret _ _ 266 _ dX7_within_266 rfl e0 (by rw [← e1, ← e2, ← e3, ← e4])
      · have hf := ifF hc hf
        refine ww_iload (pc := 228) C dX7_within_228 1 rfl ?_
        refine ww_aload_n (pc := 230) C dX7_within_230 rfl 0 rfl ?_
        refine gf7_3 (pc := 231) C kf_X7_33 0 rfl rfl dX7_within_231 ?_
        refine ww_aload_n (pc := 234) C dX7_within_234 rfl 0 rfl ?_
        refine gf7_1 (pc := 235) C kf_X7_19 0 rfl rfl dX7_within_235 ?_
        refine ww_iload (pc := 238) C dX7_within_238 2 rfl ?_
        obtain ⟨v1, h1, hf⟩ := bsome hf
        refine ww_callVl0 (pc := 240) (As := [.int n6]) (rest := [.ref q_trial, .int n5]) C (tX3_at l D k q_row q_row_numbers c_row_length c_row_numbers n6 v1 h1) cv_X7_294 ⟨⟨by decide, by decide⟩, rfl, rfl⟩ 5 rfl rfl [5, 6] rfl rfl rfl rfl (Nat.le_of_ble_eq_true rfl) ⟨Nat.zero_le _, Nat.zero_le _⟩ dX7_within_240 ?_
        refine ww_l2i (pc := 243) C dX7_within_243  ?_
        obtain ⟨v2, h2, hf⟩ := bsome hf
        refine ww_callVi0 (pc := 244) (As := [.int ((v1).toInt32)]) (rest := [.int n5]) C (tX1_turn l D k q_trial q_trial_marks c_trial_size c_trial_full c_trial_turns c_trial_firstFull c_trial_lastFull c_trial_marks ((v1).toInt32) v2 h2) cv_X7_159 ⟨⟨by decide, by decide⟩, rfl, rfl⟩ 7 rfl rfl [7, 8] rfl rfl rfl rfl (Nat.le_of_ble_eq_true rfl) ⟨Nat.zero_le _, Nat.zero_le _⟩ dX7_within_244 (fun hb2 => ?_)
        refine ww_if_ne (pc := 247) (tgt := 254) C dX7_within_247 (by decide) (fun hc => ?_) (fun hc => ?_)
        · have hf := ifF hc hf
          refine ww_iconst (pc := 254) C dX7_within_254 kI_1 ?_
          exact ww_lv [0, 2] rfl (hJ255 c_row_length c_row_numbers c_trial_size c_trial_marks n6 n5 (1 : Int32) hf)
        · have hf := ifT hc hf
          refine ww_iconst (pc := 250) C dX7_within_250 kI_0 ?_
          refine ww_goto (pc := 251) (tgt := 255) C dX7_within_251 (by decide) ?_
          exact ww_lv [0, 2] rfl (hJ255 c_row_length c_row_numbers c_trial_size c_trial_marks n6 n5 (0 : Int32) hf)
  have hJ210 : ∀ (c_row_length : Int32) (c_row_numbers : Nat → Int64) (c_trial_size : Int32) (c_trial_marks : Nat → Int32), fX7_within_b210 c_now_grid_size c_now_rule_kind c_now_rule_pulls c_row_length c_row_numbers c_trial_size c_trial_marks = some (r_, w_row_length, w_row_numbers, w_trial_size, w_trial_marks) → WW p l e (RM 5 122) s m args below meth c Q 7 D A 0 0 [oX7 q_this q_text q_row q_now q_trial q_doors q_history q_kept, oX5 q_now q_now_grid q_now_rule, oX1 q_now_grid q_now_grid_marks c_now_grid_size c_now_grid_full c_now_grid_turns c_now_grid_firstFull c_now_grid_lastFull, oX4 q_now_rule q_now_rule_owned q_now_rule_wished q_now_rule_pulls c_now_rule_kind c_now_rule_traders, aJ k q_now_rule_pulls 9 c_now_rule_pulls, oX3 q_row q_row_numbers c_row_length, aJ k q_row_numbers 16 c_row_numbers, oX1 q_trial q_trial_marks c_trial_size c_trial_full c_trial_turns c_trial_firstFull c_trial_lastFull, aI k q_trial_marks 153 c_trial_marks] [(0, .ref q_this)] 210 [] := by
    intro c_row_length c_row_numbers c_trial_size c_trial_marks
    intro hf
    unfold fX7_within_b210 at hf
    refine ww_iconst (pc := 210) C dX7_within_210 kI_0 ?_
    refine ww_istore (pc := 211) (lv' := [(5, .int (0 : Int32)), (0, .ref q_this)]) C dX7_within_211 (by decide) rfl ?_
    refine ww_iconst (pc := 213) C dX7_within_213 kI_0 ?_
    refine ww_istore (pc := 214) (lv' := [(6, .int (0 : Int32)), (5, .int (0 : Int32)), (0, .ref q_this)]) C dX7_within_214 (by decide) rfl ?_
    exact ww_lv [2, 1, 0] rfl (hL216 FU c_row_length c_row_numbers c_trial_size c_trial_marks (0 : Int32) (0 : Int32) hf)
  unfold fX7_within at hf
  refine ww_aload_n (pc := 0) C dX7_within_0 rfl 0 rfl ?_
  refine gf7_2 (pc := 1) C kf_X7_26 0 rfl rfl dX7_within_1 ?_
  refine gf5_0 (pc := 4) C kf_X7_74 1 rfl rfl dX7_within_4 ?_
  refine ww_astore_n (pc := 7) (lv' := [(2, .ref q_now_grid), (0, .ref q_this), (1, .int x1)]) C dX7_within_7 rfl (by decide) rfl ?_
  refine ww_aload_n (pc := 8) C dX7_within_8 rfl 0 rfl ?_
  refine ww_iload_n (pc := 9) C dX7_within_9 rfl 2 rfl ?_
  obtain ⟨v1, h1, hf⟩ := bsome hf
  refine ww_callVi0 (pc := 10) (As := [.int x1]) (rest := []) C (tX1_isCell l D k q_now_grid q_now_grid_marks c_now_grid_size c_now_grid_full c_now_grid_turns c_now_grid_firstFull c_now_grid_lastFull x1 v1 h1) cv_X7_156 ⟨⟨by decide, by decide⟩, rfl, rfl⟩ 2 rfl rfl [2] rfl rfl rfl rfl (Nat.le_of_ble_eq_true rfl) ⟨Nat.zero_le _, Nat.zero_le _⟩ dX7_within_10 (fun hb1 => ?_)
  refine ww_if_ne (pc := 13) (tgt := 18) C dX7_within_13 (by decide) (fun hc => ?_) (fun hc => ?_)
  · have hf := ifF hc hf
    refine ww_aload_n (pc := 18) C dX7_within_18 rfl 1 rfl ?_
    refine gf7_2 (pc := 19) C kf_X7_26 0 rfl rfl dX7_within_19 ?_
    refine gf5_1 (pc := 22) C kf_X7_81 1 rfl rfl dX7_within_22 ?_
    refine gf4_3 (pc := 25) C kf_X7_85 3 rfl rfl dX7_within_25 ?_
    refine ww_if_ne (pc := 28) (tgt := 34) C dX7_within_28 (by decide) (fun hc => ?_) (fun hc => ?_)
    · have hf := ifF hc hf
      refine ww_iconst (pc := 34) C dX7_within_34 kI_2 ?_
      refine ww_aload_n (pc := 35) C dX7_within_35 rfl 0 rfl ?_
      refine gf1_1 (pc := 36) C kf_X7_198 2 rfl rfl dX7_within_36 ?_
      refine ww_imul (pc := 39) C dX7_within_39  ?_
      refine ww_bipush (pc := 40) C dX7_within_40 kB_16 ?_
      refine ww_icmp_le (pc := 42) (tgt := 48) C dX7_within_42 (by decide) (fun hc => ?_) (fun hc => ?_)
      · have hf := ifT hc hf
        refine ww_aload_n (pc := 48) C dX7_within_48 rfl 1 rfl ?_
        refine ww_iconst (pc := 49) C dX7_within_49 kI_2 ?_
        refine ww_aload_n (pc := 50) C dX7_within_50 rfl 0 rfl ?_
        refine gf1_1 (pc := 51) C kf_X7_198 2 rfl rfl dX7_within_51 ?_
        refine ww_imul (pc := 54) C dX7_within_54  ?_
        obtain ⟨v2, v3, h2, hf⟩ := bd2_some hf
        refine ww_callVv (pc := 55) (ws' := [oX7 q_this q_text q_row q_now q_trial q_doors q_history q_kept, oX5 q_now q_now_grid q_now_rule, oX1 q_now_grid q_now_grid_marks c_now_grid_size c_now_grid_full c_now_grid_turns c_now_grid_firstFull c_now_grid_lastFull, oX4 q_now_rule q_now_rule_owned q_now_rule_wished q_now_rule_pulls c_now_rule_kind c_now_rule_traders, aJ k q_now_rule_pulls 9 c_now_rule_pulls, oX3 q_row q_row_numbers c_row_length, aJ k q_row_numbers 16 c_row_numbers, oX1 q_trial q_trial_marks v2 c_trial_full c_trial_turns c_trial_firstFull c_trial_lastFull, aI k q_trial_marks 153 v3]) (As := [.int ((2 : Int32) * c_now_grid_size)]) (rest := []) C (tX7_layTrial l D k q_this q_text q_row q_now q_trial q_doors q_history q_kept q_now_grid q_now_rule q_now_rule_owned q_now_rule_wished q_now_rule_pulls q_trial_marks c_now_rule_kind c_now_rule_traders c_now_rule_pulls c_trial_size c_trial_full c_trial_turns c_trial_firstFull c_trial_lastFull c_trial_marks ((2 : Int32) * c_now_grid_size) v2 v3 h2) cv_X7_280 ⟨⟨by decide, by decide⟩, rfl, rfl⟩ 0 rfl rfl [0, 1, 3, 4, 7, 8] rfl rfl rfl rfl rfl rfl (Nat.le_of_ble_eq_true rfl) ⟨Nat.zero_le _, Nat.zero_le _⟩ dX7_within_55 ?_
        refine ww_iconst (pc := 58) C dX7_within_58 kI_2 ?_
        refine ww_aload_n (pc := 59) C dX7_within_59 rfl 0 rfl ?_
        refine ww_iload_n (pc := 60) C dX7_within_60 rfl 2 rfl ?_
        obtain ⟨v4, h4, hf⟩ := bsome hf
        refine ww_callVi0 (pc := 61) (As := [.int x1]) (rest := [.int (2 : Int32)]) C (tX1_cellI l D k q_now_grid q_now_grid_marks c_now_grid_size c_now_grid_full c_now_grid_turns c_now_grid_firstFull c_now_grid_lastFull x1 v4 h4) cv_X7_284 ⟨⟨by decide, by decide⟩, rfl, rfl⟩ 2 rfl rfl [2] rfl rfl rfl rfl (Nat.le_of_ble_eq_true rfl) ⟨Nat.zero_le _, Nat.zero_le _⟩ dX7_within_61 (fun hb4 => ?_)
        refine ww_imul (pc := 64) C dX7_within_64  ?_
        obtain ⟨v5, h5, hf⟩ := bsome hf
        refine ww_nmi h5 ?_
        refine ww_istore_n (pc := 65) (lv' := [(3, .int v5), (2, .ref q_now_grid), (0, .ref q_this), (1, .int x1)]) C dX7_within_65 rfl (by decide) rfl ?_
        refine ww_iconst (pc := 66) C dX7_within_66 kI_2 ?_
        refine ww_aload_n (pc := 67) C dX7_within_67 rfl 1 rfl ?_
        refine ww_iload_n (pc := 68) C dX7_within_68 rfl 3 rfl ?_
        obtain ⟨v6, h6, hf⟩ := bsome hf
        refine ww_callVi0 (pc := 69) (As := [.int x1]) (rest := [.int (2 : Int32)]) C (tX1_cellJ l D k q_now_grid q_now_grid_marks c_now_grid_size c_now_grid_full c_now_grid_turns c_now_grid_firstFull c_now_grid_lastFull x1 v6 h6) cv_X7_287 ⟨⟨by decide, by decide⟩, rfl, rfl⟩ 2 rfl rfl [2] rfl rfl rfl rfl (Nat.le_of_ble_eq_true rfl) ⟨Nat.zero_le _, Nat.zero_le _⟩ dX7_within_69 (fun hb6 => ?_)
        refine ww_imul (pc := 72) C dX7_within_72  ?_
        obtain ⟨v7, h7, hf⟩ := bsome hf
        refine ww_nmi h7 ?_
        refine ww_istore (pc := 73) (lv' := [(4, .int v7), (3, .int v5), (2, .ref q_now_grid), (0, .ref q_this), (1, .int x1)]) C dX7_within_73 (by decide) rfl ?_
        refine ww_iload_n (pc := 75) C dX7_within_75 rfl 4 rfl ?_
        refine ww_iconst (pc := 76) C dX7_within_76 kI_1 ?_
        refine ww_iand (pc := 77) C dX7_within_77  ?_
        refine ww_if_ne (pc := 78) (tgt := 143) C dX7_within_78 (by decide) (fun hc => ?_) (fun hc => ?_)
        · have hf := ifF hc hf
          refine ww_aload_n (pc := 143) C dX7_within_143 rfl 3 rfl ?_
          refine gf7_1 (pc := 144) C kf_X7_19 0 rfl rfl dX7_within_144 ?_
          refine ww_aload_n (pc := 147) C dX7_within_147 rfl 3 rfl ?_
          refine gf7_3 (pc := 148) C kf_X7_33 0 rfl rfl dX7_within_148 ?_
          refine ww_iload_n (pc := 151) C dX7_within_151 rfl 1 rfl ?_
          refine ww_iload (pc := 152) C dX7_within_152 0 rfl ?_
          refine ww_iconst (pc := 154) C dX7_within_154 kI_1 ?_
          refine ww_iadd (pc := 155) C dX7_within_155  ?_
          refine ww_iconst (pc := 156) C dX7_within_156 kI_1 ?_
          obtain ⟨v8, h8, hf⟩ := bsome hf
          refine ww_callVi0 (pc := 157) (As := [.int v5, .int (v7 + (1 : Int32)), .int (1 : Int32)]) (rest := [.ref q_row]) C (tX1_cellAt l D k q_trial q_trial_marks v2 c_trial_full c_trial_turns c_trial_firstFull c_trial_lastFull v5 (v7 + (1 : Int32)) (1 : Int32) v8 h8) cv_X7_290 ⟨⟨by decide, by decide⟩, rfl, rfl⟩ 7 rfl rfl [7] rfl rfl rfl rfl (Nat.le_of_ble_eq_true rfl) ⟨Nat.zero_le _, Nat.zero_le _⟩ dX7_within_157 (fun hb8 => ?_)
          refine ww_i2l (pc := 160) C dX7_within_160  ?_
          refine ww_aload_n (pc := 161) C dX7_within_161 rfl 3 rfl ?_
          refine gf7_3 (pc := 162) C kf_X7_33 0 rfl rfl dX7_within_162 ?_
          refine ww_iload_n (pc := 165) C dX7_within_165 rfl 1 rfl ?_
          refine ww_iconst (pc := 166) C dX7_within_166 kI_1 ?_
          refine ww_iadd (pc := 167) C dX7_within_167  ?_
          refine ww_iload (pc := 168) C dX7_within_168 0 rfl ?_
          refine ww_iconst (pc := 170) C dX7_within_170 kI_1 ?_
          obtain ⟨v9, h9, hf⟩ := bsome hf
          refine ww_callVi0 (pc := 171) (As := [.int (v5 + (1 : Int32)), .int v7, .int (1 : Int32)]) (rest := [.long ((v8).toInt64), .ref q_row]) C (tX1_cellAt l D k q_trial q_trial_marks v2 c_trial_full c_trial_turns c_trial_firstFull c_trial_lastFull (v5 + (1 : Int32)) v7 (1 : Int32) v9 h9) cv_X7_290 ⟨⟨by decide, by decide⟩, rfl, rfl⟩ 7 rfl rfl [7] rfl rfl rfl rfl (Nat.le_of_ble_eq_true rfl) ⟨Nat.zero_le _, Nat.zero_le _⟩ dX7_within_171 (fun hb9 => ?_)
          refine ww_i2l (pc := 174) C dX7_within_174  ?_
          refine ww_aload_n (pc := 175) C dX7_within_175 rfl 3 rfl ?_
          refine gf7_3 (pc := 176) C kf_X7_33 0 rfl rfl dX7_within_176 ?_
          refine ww_iload_n (pc := 179) C dX7_within_179 rfl 1 rfl ?_
          refine ww_iconst (pc := 180) C dX7_within_180 kI_1 ?_
          refine ww_iadd (pc := 181) C dX7_within_181  ?_
          refine ww_iload (pc := 182) C dX7_within_182 0 rfl ?_
          refine ww_iconst (pc := 184) C dX7_within_184 kI_1 ?_
          refine ww_iadd (pc := 185) C dX7_within_185  ?_
          refine ww_iconst (pc := 186) C dX7_within_186 kI_0 ?_
          obtain ⟨v10, h10, hf⟩ := bsome hf
          refine ww_callVi0 (pc := 187) (As := [.int (v5 + (1 : Int32)), .int (v7 + (1 : Int32)), .int (0 : Int32)]) (rest := [.long ((v9).toInt64), .long ((v8).toInt64), .ref q_row]) C (tX1_cellAt l D k q_trial q_trial_marks v2 c_trial_full c_trial_turns c_trial_firstFull c_trial_lastFull (v5 + (1 : Int32)) (v7 + (1 : Int32)) (0 : Int32) v10 h10) cv_X7_290 ⟨⟨by decide, by decide⟩, rfl, rfl⟩ 7 rfl rfl [7] rfl rfl rfl rfl (Nat.le_of_ble_eq_true rfl) ⟨Nat.zero_le _, Nat.zero_le _⟩ dX7_within_187 (fun hb10 => ?_)
          refine ww_i2l (pc := 190) C dX7_within_190  ?_
          refine ww_aload_n (pc := 191) C dX7_within_191 rfl 3 rfl ?_
          refine gf7_3 (pc := 192) C kf_X7_33 0 rfl rfl dX7_within_192 ?_
          refine ww_iload_n (pc := 195) C dX7_within_195 rfl 1 rfl ?_
          refine ww_iconst (pc := 196) C dX7_within_196 kI_1 ?_
          refine ww_iadd (pc := 197) C dX7_within_197  ?_
          refine ww_iload (pc := 198) C dX7_within_198 0 rfl ?_
          refine ww_iconst (pc := 200) C dX7_within_200 kI_1 ?_
          refine ww_iadd (pc := 201) C dX7_within_201  ?_
          refine ww_iconst (pc := 202) C dX7_within_202 kI_1 ?_
          obtain ⟨v11, h11, hf⟩ := bsome hf
          refine ww_callVi0 (pc := 203) (As := [.int (v5 + (1 : Int32)), .int (v7 + (1 : Int32)), .int (1 : Int32)]) (rest := [.long ((v10).toInt64), .long ((v9).toInt64), .long ((v8).toInt64), .ref q_row]) C (tX1_cellAt l D k q_trial q_trial_marks v2 c_trial_full c_trial_turns c_trial_firstFull c_trial_lastFull (v5 + (1 : Int32)) (v7 + (1 : Int32)) (1 : Int32) v11 h11) cv_X7_290 ⟨⟨by decide, by decide⟩, rfl, rfl⟩ 7 rfl rfl [7] rfl rfl rfl rfl (Nat.le_of_ble_eq_true rfl) ⟨Nat.zero_le _, Nat.zero_le _⟩ dX7_within_203 (fun hb11 => ?_)
          refine ww_i2l (pc := 206) C dX7_within_206  ?_
          obtain ⟨v12, v13, h12, hf⟩ := bd2_some hf
          refine ww_callVv (pc := 207) (ws' := [oX7 q_this q_text q_row q_now q_trial q_doors q_history q_kept, oX5 q_now q_now_grid q_now_rule, oX1 q_now_grid q_now_grid_marks c_now_grid_size c_now_grid_full c_now_grid_turns c_now_grid_firstFull c_now_grid_lastFull, oX4 q_now_rule q_now_rule_owned q_now_rule_wished q_now_rule_pulls c_now_rule_kind c_now_rule_traders, aJ k q_now_rule_pulls 9 c_now_rule_pulls, oX3 q_row q_row_numbers v12, aJ k q_row_numbers 16 v13, oX1 q_trial q_trial_marks v2 c_trial_full c_trial_turns c_trial_firstFull c_trial_lastFull, aI k q_trial_marks 153 v3]) (As := [.long ((v8).toInt64), .long ((v9).toInt64), .long ((v10).toInt64), .long ((v11).toInt64)]) (rest := []) C (tX3_tell___ l D k q_row q_row_numbers c_row_length c_row_numbers ((v8).toInt64) ((v9).toInt64) ((v10).toInt64) ((v11).toInt64) v12 v13 h12) cv_X7_165 ⟨⟨by decide, by decide⟩, rfl, rfl⟩ 5 rfl rfl [5, 6] rfl rfl rfl rfl rfl rfl (Nat.le_of_ble_eq_true rfl) ⟨Nat.zero_le _, Nat.zero_le _⟩ dX7_within_207 ?_
          exact ww_lv [3] rfl (hJ210 v12 v13 v2 v3 hf)
        · have hf := ifT hc hf
          refine ww_aload_n (pc := 81) C dX7_within_81 rfl 3 rfl ?_
          refine gf7_1 (pc := 82) C kf_X7_19 0 rfl rfl dX7_within_82 ?_
          refine ww_aload_n (pc := 85) C dX7_within_85 rfl 3 rfl ?_
          refine gf7_3 (pc := 86) C kf_X7_33 0 rfl rfl dX7_within_86 ?_
          refine ww_iload_n (pc := 89) C dX7_within_89 rfl 1 rfl ?_
          refine ww_iload (pc := 90) C dX7_within_90 0 rfl ?_
          refine ww_iconst (pc := 92) C dX7_within_92 kI_0 ?_
          obtain ⟨v14, h14, hf⟩ := bsome hf
          refine ww_callVi0 (pc := 93) (As := [.int v5, .int v7, .int (0 : Int32)]) (rest := [.ref q_row]) C (tX1_cellAt l D k q_trial q_trial_marks v2 c_trial_full c_trial_turns c_trial_firstFull c_trial_lastFull v5 v7 (0 : Int32) v14 h14) cv_X7_290 ⟨⟨by decide, by decide⟩, rfl, rfl⟩ 7 rfl rfl [7] rfl rfl rfl rfl (Nat.le_of_ble_eq_true rfl) ⟨Nat.zero_le _, Nat.zero_le _⟩ dX7_within_93 (fun hb14 => ?_)
          refine ww_i2l (pc := 96) C dX7_within_96  ?_
          refine ww_aload_n (pc := 97) C dX7_within_97 rfl 3 rfl ?_
          refine gf7_3 (pc := 98) C kf_X7_33 0 rfl rfl dX7_within_98 ?_
          refine ww_iload_n (pc := 101) C dX7_within_101 rfl 1 rfl ?_
          refine ww_iload (pc := 102) C dX7_within_102 0 rfl ?_
          refine ww_iconst (pc := 104) C dX7_within_104 kI_1 ?_
          obtain ⟨v15, h15, hf⟩ := bsome hf
          refine ww_callVi0 (pc := 105) (As := [.int v5, .int v7, .int (1 : Int32)]) (rest := [.long ((v14).toInt64), .ref q_row]) C (tX1_cellAt l D k q_trial q_trial_marks v2 c_trial_full c_trial_turns c_trial_firstFull c_trial_lastFull v5 v7 (1 : Int32) v15 h15) cv_X7_290 ⟨⟨by decide, by decide⟩, rfl, rfl⟩ 7 rfl rfl [7] rfl rfl rfl rfl (Nat.le_of_ble_eq_true rfl) ⟨Nat.zero_le _, Nat.zero_le _⟩ dX7_within_105 (fun hb15 => ?_)
          refine ww_i2l (pc := 108) C dX7_within_108  ?_
          refine ww_aload_n (pc := 109) C dX7_within_109 rfl 3 rfl ?_
          refine gf7_3 (pc := 110) C kf_X7_33 0 rfl rfl dX7_within_110 ?_
          refine ww_iload_n (pc := 113) C dX7_within_113 rfl 1 rfl ?_
          refine ww_iload (pc := 114) C dX7_within_114 0 rfl ?_
          refine ww_iconst (pc := 116) C dX7_within_116 kI_1 ?_
          refine ww_iadd (pc := 117) C dX7_within_117  ?_
          refine ww_iconst (pc := 118) C dX7_within_118 kI_0 ?_
          obtain ⟨v16, h16, hf⟩ := bsome hf
          refine ww_callVi0 (pc := 119) (As := [.int v5, .int (v7 + (1 : Int32)), .int (0 : Int32)]) (rest := [.long ((v15).toInt64), .long ((v14).toInt64), .ref q_row]) C (tX1_cellAt l D k q_trial q_trial_marks v2 c_trial_full c_trial_turns c_trial_firstFull c_trial_lastFull v5 (v7 + (1 : Int32)) (0 : Int32) v16 h16) cv_X7_290 ⟨⟨by decide, by decide⟩, rfl, rfl⟩ 7 rfl rfl [7] rfl rfl rfl rfl (Nat.le_of_ble_eq_true rfl) ⟨Nat.zero_le _, Nat.zero_le _⟩ dX7_within_119 (fun hb16 => ?_)
          refine ww_i2l (pc := 122) C dX7_within_122  ?_
          refine ww_aload_n (pc := 123) C dX7_within_123 rfl 3 rfl ?_
          refine gf7_3 (pc := 124) C kf_X7_33 0 rfl rfl dX7_within_124 ?_
          refine ww_iload_n (pc := 127) C dX7_within_127 rfl 1 rfl ?_
          refine ww_iconst (pc := 128) C dX7_within_128 kI_1 ?_
          refine ww_iadd (pc := 129) C dX7_within_129  ?_
          refine ww_iload (pc := 130) C dX7_within_130 0 rfl ?_
          refine ww_iconst (pc := 132) C dX7_within_132 kI_0 ?_
          obtain ⟨v17, h17, hf⟩ := bsome hf
          refine ww_callVi0 (pc := 133) (As := [.int (v5 + (1 : Int32)), .int v7, .int (0 : Int32)]) (rest := [.long ((v16).toInt64), .long ((v15).toInt64), .long ((v14).toInt64), .ref q_row]) C (tX1_cellAt l D k q_trial q_trial_marks v2 c_trial_full c_trial_turns c_trial_firstFull c_trial_lastFull (v5 + (1 : Int32)) v7 (0 : Int32) v17 h17) cv_X7_290 ⟨⟨by decide, by decide⟩, rfl, rfl⟩ 7 rfl rfl [7] rfl rfl rfl rfl (Nat.le_of_ble_eq_true rfl) ⟨Nat.zero_le _, Nat.zero_le _⟩ dX7_within_133 (fun hb17 => ?_)
          refine ww_i2l (pc := 136) C dX7_within_136  ?_
          obtain ⟨v18, v19, h18, hf⟩ := bd2_some hf
          refine ww_callVv (pc := 137) (ws' := [oX7 q_this q_text q_row q_now q_trial q_doors q_history q_kept, oX5 q_now q_now_grid q_now_rule, oX1 q_now_grid q_now_grid_marks c_now_grid_size c_now_grid_full c_now_grid_turns c_now_grid_firstFull c_now_grid_lastFull, oX4 q_now_rule q_now_rule_owned q_now_rule_wished q_now_rule_pulls c_now_rule_kind c_now_rule_traders, aJ k q_now_rule_pulls 9 c_now_rule_pulls, oX3 q_row q_row_numbers v18, aJ k q_row_numbers 16 v19, oX1 q_trial q_trial_marks v2 c_trial_full c_trial_turns c_trial_firstFull c_trial_lastFull, aI k q_trial_marks 153 v3]) (As := [.long ((v14).toInt64), .long ((v15).toInt64), .long ((v16).toInt64), .long ((v17).toInt64)]) (rest := []) C (tX3_tell___ l D k q_row q_row_numbers c_row_length c_row_numbers ((v14).toInt64) ((v15).toInt64) ((v16).toInt64) ((v17).toInt64) v18 v19 h18) cv_X7_165 ⟨⟨by decide, by decide⟩, rfl, rfl⟩ 5 rfl rfl [5, 6] rfl rfl rfl rfl rfl rfl (Nat.le_of_ble_eq_true rfl) ⟨Nat.zero_le _, Nat.zero_le _⟩ dX7_within_137 ?_
          refine ww_goto (pc := 140) (tgt := 210) C dX7_within_140 (by decide) ?_
          exact ww_lv [3] rfl (hJ210 v18 v19 v2 v3 hf)
      · have hf := ifF hc hf
        refine ww_bipush (pc := 45) C dX7_within_45 kB_m4 ?_
        obtain ⟨e0, e1, e2, e3, e4⟩ := ij5 hf
        exact hret _ _ 47 _ dX7_within_47 rfl e0 (by rw [← e1, ← e2, ← e3, ← e4])
    · have hf := ifT hc hf
      refine ww_bipush (pc := 31) C dX7_within_31 kB_m3 ?_
      obtain ⟨e0, e1, e2, e3, e4⟩ := ij5 hf
      exact hret _ _ 33 _ dX7_within_33 rfl e0 (by rw [← e1, ← e2, ← e3, ← e4])
  · have hf := ifT hc hf
    refine ww_iconst (pc := 16) C dX7_within_16 kI_m1 ?_
    obtain ⟨e0, e1, e2, e3, e4⟩ := ij5 hf
    exact hret _ _ 17 _ dX7_within_17 rfl e0 (by rw [← e1, ← e2, ← e3, ← e4])
def fX7_inner_b27 (c_now_grid_size : Int32) (c_now_rule_kind : Int32) (c_now_rule_pulls : Nat → Int64) (rc27 : Int32 → (Nat → Int64) → Int32 → Int32 → Int32 → Int32 → Int32 → (Nat → Int32) → Int32 → Option (Int32 × Int32 × (Nat → Int64) × Int32 × Int32 × Int32 × Int32 × Int32 × (Nat → Int32))) (c_row_length : Int32) (c_row_numbers : Nat → Int64) (c_trial_firstFull : Int32) (c_trial_full : Int32) (c_trial_lastFull : Int32) (c_trial_size : Int32) (c_trial_turns : Int32) (c_trial_marks : Nat → Int32) (n1 : Int32) : Option (Int32 × Int32 × (Nat → Int64) × Int32 × Int32 × Int32 × Int32 × Int32 × (Nat → Int32)) := if (16 : Int32) < n1 then some ((-2 : Int32), c_row_length, c_row_numbers, c_trial_firstFull, c_trial_full, c_trial_lastFull, c_trial_size, c_trial_turns, c_trial_marks) else bd2 (fX7_layTrial c_now_rule_kind c_now_rule_pulls c_trial_size c_trial_marks n1) fun v1 v2 => bd4 (fX1_survey v1 v2 c_trial_firstFull c_trial_full c_trial_lastFull c_trial_turns) fun v3 v4 v5 v6 => if v3 = (-1 : Int32) then (some (n1 + (1 : Int32))).bind fun v7 => rc27 c_row_length c_row_numbers v3 v4 v5 v1 v6 v2 v7 else (fX1_isApart v1 v3).bind fun v8 => if v8 = 0 then (some (n1 + (1 : Int32))).bind fun v9 => rc27 c_row_length c_row_numbers v3 v4 v5 v1 v6 v2 v9 else bd2 (fX3_tell c_row_length c_row_numbers ((v3).toInt64)) fun v10 v11 => some (n1, v10, v11, v3, v4, v5, v1, v6, v2)
def fX7_inner (c_now_grid_size : Int32) (c_now_rule_kind : Int32) (c_now_rule_pulls : Nat → Int64) (c_row_length : Int32) (c_row_numbers : Nat → Int64) (c_trial_firstFull : Int32) (c_trial_full : Int32) (c_trial_lastFull : Int32) (c_trial_size : Int32) (c_trial_turns : Int32) (c_trial_marks : Nat → Int32) : Option (Int32 × Int32 × (Nat → Int64) × Int32 × Int32 × Int32 × Int32 × Int32 × (Nat → Int32)) := if c_now_rule_kind = 0 then some ((-3 : Int32), c_row_length, c_row_numbers, c_trial_firstFull, c_trial_full, c_trial_lastFull, c_trial_size, c_trial_turns, c_trial_marks) else lfix (fX7_inner_b27 c_now_grid_size c_now_rule_kind c_now_rule_pulls) (fun _ _ _ _ _ _ _ _ _ => none) FU c_row_length c_row_numbers c_trial_firstFull c_trial_full c_trial_lastFull c_trial_size c_trial_turns c_trial_marks c_now_grid_size
set_option maxHeartbeats 4000000 in
set_option maxRecDepth 100000 in
theorem tX7_inner (l : Launch) (D : va_G) (k : Nat → ClassId) (q_this q_text q_row q_now q_trial q_doors q_history q_kept q_now_grid q_now_rule q_now_grid_marks q_now_rule_owned q_now_rule_wished q_now_rule_pulls q_row_numbers q_trial_marks : Nat) (c_now_grid_size : Int32) (c_now_grid_full : Int32) (c_now_grid_turns : Int32) (c_now_grid_firstFull : Int32) (c_now_grid_lastFull : Int32) (c_now_rule_kind : Int32) (c_now_rule_traders : Int32) (c_now_rule_pulls : Nat → Int64) (c_row_length : Int32) (c_row_numbers : Nat → Int64) (c_trial_size : Int32) (c_trial_full : Int32) (c_trial_turns : Int32) (c_trial_firstFull : Int32) (c_trial_lastFull : Int32) (c_trial_marks : Nat → Int32)  (r_ : Int32) (w_row_length : Int32) (w_row_numbers : Nat → Int64) (w_trial_firstFull : Int32) (w_trial_full : Int32) (w_trial_lastFull : Int32) (w_trial_size : Int32) (w_trial_turns : Int32) (w_trial_marks : Nat → Int32) (hf : fX7_inner c_now_grid_size c_now_rule_kind c_now_rule_pulls c_row_length c_row_numbers c_trial_firstFull c_trial_full c_trial_lastFull c_trial_size c_trial_turns c_trial_marks = some (r_, w_row_length, w_row_numbers, w_trial_firstFull, w_trial_full, w_trial_lastFull, w_trial_size, w_trial_turns, w_trial_marks)) : MI l yX7_inner cX7_inner 2 .int (RM 5 121) D k [.ref q_this] [oX7 q_this q_text q_row q_now q_trial q_doors q_history q_kept, oX5 q_now q_now_grid q_now_rule, oX1 q_now_grid q_now_grid_marks c_now_grid_size c_now_grid_full c_now_grid_turns c_now_grid_firstFull c_now_grid_lastFull, oX4 q_now_rule q_now_rule_owned q_now_rule_wished q_now_rule_pulls c_now_rule_kind c_now_rule_traders, aJ k q_now_rule_pulls 9 c_now_rule_pulls, oX3 q_row q_row_numbers c_row_length, aJ k q_row_numbers 16 c_row_numbers, oX1 q_trial q_trial_marks c_trial_size c_trial_full c_trial_turns c_trial_firstFull c_trial_lastFull, aI k q_trial_marks 153 c_trial_marks] r_ [oX7 q_this q_text q_row q_now q_trial q_doors q_history q_kept, oX5 q_now q_now_grid q_now_rule, oX1 q_now_grid q_now_grid_marks c_now_grid_size c_now_grid_full c_now_grid_turns c_now_grid_firstFull c_now_grid_lastFull, oX4 q_now_rule q_now_rule_owned q_now_rule_wished q_now_rule_pulls c_now_rule_kind c_now_rule_traders, aJ k q_now_rule_pulls 9 c_now_rule_pulls, oX3 q_row q_row_numbers w_row_length, aJ k q_row_numbers 16 w_row_numbers, oX1 q_trial q_trial_marks w_trial_size w_trial_full w_trial_turns w_trial_firstFull w_trial_lastFull, aI k q_trial_marks 153 w_trial_marks] := by
  refine mkMI' (own := "DoorWalk") (by decide) rfl (Nat.le_of_ble_eq_true rfl) ?_
  intro p e s m args below meth c Q A hret C
  refine ww_lv (lv' := [(0, .ref q_this)]) [0] rfl ?_
  have hL27 : ∀ (n : Nat) (c_row_length : Int32) (c_row_numbers : Nat → Int64) (c_trial_firstFull : Int32) (c_trial_full : Int32) (c_trial_lastFull : Int32) (c_trial_size : Int32) (c_trial_turns : Int32) (c_trial_marks : Nat → Int32) (n1 : Int32), lfix (fX7_inner_b27 c_now_grid_size c_now_rule_kind c_now_rule_pulls) (fun _ _ _ _ _ _ _ _ _ => none) n c_row_length c_row_numbers c_trial_firstFull c_trial_full c_trial_lastFull c_trial_size c_trial_turns c_trial_marks n1 = some (r_, w_row_length, w_row_numbers, w_trial_firstFull, w_trial_full, w_trial_lastFull, w_trial_size, w_trial_turns, w_trial_marks) → WW p l e (RM 5 121) s m args below meth c Q 2 D A 0 0 [oX7 q_this q_text q_row q_now q_trial q_doors q_history q_kept, oX5 q_now q_now_grid q_now_rule, oX1 q_now_grid q_now_grid_marks c_now_grid_size c_now_grid_full c_now_grid_turns c_now_grid_firstFull c_now_grid_lastFull, oX4 q_now_rule q_now_rule_owned q_now_rule_wished q_now_rule_pulls c_now_rule_kind c_now_rule_traders, aJ k q_now_rule_pulls 9 c_now_rule_pulls, oX3 q_row q_row_numbers c_row_length, aJ k q_row_numbers 16 c_row_numbers, oX1 q_trial q_trial_marks c_trial_size c_trial_full c_trial_turns c_trial_firstFull c_trial_lastFull, aI k q_trial_marks 153 c_trial_marks] [(0, .ref q_this), (1, .int n1)] 27 [] := by
    intro n
    induction n with
    | zero => intro c_row_length c_row_numbers c_trial_firstFull c_trial_full c_trial_lastFull c_trial_size c_trial_turns c_trial_marks n1 hf; cases hf
    | succ n ih27 =>
      obtain ⟨rc27, hrc27⟩ : ∃ f9, f9 = lfix (fX7_inner_b27 c_now_grid_size c_now_rule_kind c_now_rule_pulls) (fun _ _ _ _ _ _ _ _ _ => none) n := ⟨_, rfl⟩
      rw [← hrc27] at ih27
      intro c_row_length c_row_numbers c_trial_firstFull c_trial_full c_trial_lastFull c_trial_size c_trial_turns c_trial_marks n1 hf
      have hf : fX7_inner_b27 c_now_grid_size c_now_rule_kind c_now_rule_pulls rc27 c_row_length c_row_numbers c_trial_firstFull c_trial_full c_trial_lastFull c_trial_size c_trial_turns c_trial_marks n1 = some (r_, w_row_length, w_row_numbers, w_trial_firstFull, w_trial_full, w_trial_lastFull, w_trial_size, w_trial_turns, w_trial_marks) := by rw [hrc27]; exact hf
      unfold fX7_inner_b27 at hf
      refine ww_iload_n (pc := 27) C dX7_inner_27 rfl 1 rfl ?_
      refine ww_bipush (pc := 28) C dX7_inner_28 kB_16 ?_
      refine ww_icmp_gt (pc := 30) (tgt := 96) C dX7_inner_30 (by decide) (fun hc => ?_) (fun hc => ?_)
      · have hf := ifT hc hf
        refine ww_bipush (pc := 96) C dX7_inner_96 kB_m2 ?_
        obtain ⟨e0, e1, e2, e3, e4, e5, e6, e7, e8⟩ := ij9 hf
        exact hret _ _ 98 _ dX7_inner_98 rfl e0 (by rw [← e1, ← e2, ← e3, ← e4, ← e5, ← e6, ← e7, ← e8])
      · have hf := ifF hc hf
        refine ww_aload_n (pc := 33) C dX7_inner_33 rfl 0 rfl ?_
        refine ww_iload_n (pc := 34) C dX7_inner_34 rfl 1 rfl ?_
        obtain ⟨v1, v2, h1, hf⟩ := bd2_some hf
        refine ww_callVv (pc := 35) (ws' := [oX7 q_this q_text q_row q_now q_trial q_doors q_history q_kept, oX5 q_now q_now_grid q_now_rule, oX1 q_now_grid q_now_grid_marks c_now_grid_size c_now_grid_full c_now_grid_turns c_now_grid_firstFull c_now_grid_lastFull, oX4 q_now_rule q_now_rule_owned q_now_rule_wished q_now_rule_pulls c_now_rule_kind c_now_rule_traders, aJ k q_now_rule_pulls 9 c_now_rule_pulls, oX3 q_row q_row_numbers c_row_length, aJ k q_row_numbers 16 c_row_numbers, oX1 q_trial q_trial_marks v1 c_trial_full c_trial_turns c_trial_firstFull c_trial_lastFull, aI k q_trial_marks 153 v2]) (As := [.int n1]) (rest := []) C (tX7_layTrial l D k q_this q_text q_row q_now q_trial q_doors q_history q_kept q_now_grid q_now_rule q_now_rule_owned q_now_rule_wished q_now_rule_pulls q_trial_marks c_now_rule_kind c_now_rule_traders c_now_rule_pulls c_trial_size c_trial_full c_trial_turns c_trial_firstFull c_trial_lastFull c_trial_marks n1 v1 v2 h1) cv_X7_280 ⟨⟨by decide, by decide⟩, rfl, rfl⟩ 0 rfl rfl [0, 1, 3, 4, 7, 8] rfl rfl rfl rfl rfl rfl (Nat.le_of_ble_eq_true rfl) ⟨Nat.zero_le _, Nat.zero_le _⟩ dX7_inner_35 ?_
        refine ww_aload_n (pc := 38) C dX7_inner_38 rfl 0 rfl ?_
        refine gf7_3 (pc := 39) C kf_X7_33 0 rfl rfl dX7_inner_39 ?_
        obtain ⟨v3, v4, v5, v6, h3, hf⟩ := bd4_some hf
        refine ww_callVv (pc := 42) (ws' := [oX7 q_this q_text q_row q_now q_trial q_doors q_history q_kept, oX5 q_now q_now_grid q_now_rule, oX1 q_now_grid q_now_grid_marks c_now_grid_size c_now_grid_full c_now_grid_turns c_now_grid_firstFull c_now_grid_lastFull, oX4 q_now_rule q_now_rule_owned q_now_rule_wished q_now_rule_pulls c_now_rule_kind c_now_rule_traders, aJ k q_now_rule_pulls 9 c_now_rule_pulls, oX3 q_row q_row_numbers c_row_length, aJ k q_row_numbers 16 c_row_numbers, oX1 q_trial q_trial_marks v1 v4 v6 v3 v5, aI k q_trial_marks 153 v2]) (As := []) (rest := []) C (tX1_survey l D k q_trial q_trial_marks v1 c_trial_full c_trial_turns c_trial_firstFull c_trial_lastFull v2 v3 v4 v5 v6 h3) cv_X7_168 ⟨⟨by decide, by decide⟩, rfl, rfl⟩ 7 rfl rfl [7, 8] rfl rfl rfl rfl rfl rfl (Nat.le_of_ble_eq_true rfl) ⟨Nat.zero_le _, Nat.zero_le _⟩ dX7_inner_42 ?_
        refine ww_aload_n (pc := 45) C dX7_inner_45 rfl 0 rfl ?_
        refine gf7_3 (pc := 46) C kf_X7_33 0 rfl rfl dX7_inner_46 ?_
        refine gf1_4 (pc := 49) C kf_X7_174 7 rfl rfl dX7_inner_49 ?_
        refine ww_iconst (pc := 52) C dX7_inner_52 kI_m1 ?_
        refine ww_icmp_eq (pc := 53) (tgt := 90) C dX7_inner_53 (by decide) (fun hc => ?_) (fun hc => ?_)
        · have hf := ifT hc hf
          obtain ⟨v7, h7, hf⟩ := bsome hf
          refine ww_iincN (pc := 90) (lv' := [(1, .int v7), (0, .ref q_this)]) (j := 1) C dX7_inner_90 kI_1 rfl h7 (by decide) rfl ?_
          refine ww_goto (pc := 93) (tgt := 27) C dX7_inner_93 (by decide) ?_
          exact ww_lv [1, 0] rfl (ih27 c_row_length c_row_numbers v3 v4 v5 v1 v6 v2 v7 hf)
        · have hf := ifF hc hf
          refine ww_aload_n (pc := 56) C dX7_inner_56 rfl 0 rfl ?_
          refine gf7_3 (pc := 57) C kf_X7_33 0 rfl rfl dX7_inner_57 ?_
          refine ww_aload_n (pc := 60) C dX7_inner_60 rfl 0 rfl ?_
          refine gf7_3 (pc := 61) C kf_X7_33 0 rfl rfl dX7_inner_61 ?_
          refine gf1_4 (pc := 64) C kf_X7_174 7 rfl rfl dX7_inner_64 ?_
          obtain ⟨v8, h8, hf⟩ := bsome hf
          refine ww_callVi0 (pc := 67) (As := [.int v3]) (rest := []) C (tX1_isApart l D k q_trial q_trial_marks v1 v4 v6 v3 v5 v3 v8 h8) cv_X7_298 ⟨⟨by decide, by decide⟩, rfl, rfl⟩ 7 rfl rfl [7] rfl rfl rfl rfl (Nat.le_of_ble_eq_true rfl) ⟨Nat.zero_le _, Nat.zero_le _⟩ dX7_inner_67 (fun hb8 => ?_)
          refine ww_if_eq (pc := 70) (tgt := 90) C dX7_inner_70 (by decide) (fun hc => ?_) (fun hc => ?_)
          · have hf := ifT hc hf
            obtain ⟨v9, h9, hf⟩ := bsome hf
            refine ww_iincN (pc := 90) (lv' := [(1, .int v9), (0, .ref q_this)]) (j := 1) C dX7_inner_90 kI_1 rfl h9 (by decide) rfl ?_
            refine ww_goto (pc := 93) (tgt := 27) C dX7_inner_93 (by decide) ?_
            exact ww_lv [1, 0] rfl (ih27 c_row_length c_row_numbers v3 v4 v5 v1 v6 v2 v9 hf)
          · have hf := ifF hc hf
            refine ww_aload_n (pc := 73) C dX7_inner_73 rfl 0 rfl ?_
            refine gf7_1 (pc := 74) C kf_X7_19 0 rfl rfl dX7_inner_74 ?_
            refine ww_aload_n (pc := 77) C dX7_inner_77 rfl 0 rfl ?_
            refine gf7_3 (pc := 78) C kf_X7_33 0 rfl rfl dX7_inner_78 ?_
            refine gf1_4 (pc := 81) C kf_X7_174 7 rfl rfl dX7_inner_81 ?_
            refine ww_i2l (pc := 84) C dX7_inner_84  ?_
            obtain ⟨v10, v11, h10, hf⟩ := bd2_some hf
            refine ww_callVv (pc := 85) (ws' := [oX7 q_this q_text q_row q_now q_trial q_doors q_history q_kept, oX5 q_now q_now_grid q_now_rule, oX1 q_now_grid q_now_grid_marks c_now_grid_size c_now_grid_full c_now_grid_turns c_now_grid_firstFull c_now_grid_lastFull, oX4 q_now_rule q_now_rule_owned q_now_rule_wished q_now_rule_pulls c_now_rule_kind c_now_rule_traders, aJ k q_now_rule_pulls 9 c_now_rule_pulls, oX3 q_row q_row_numbers v10, aJ k q_row_numbers 16 v11, oX1 q_trial q_trial_marks v1 v4 v6 v3 v5, aI k q_trial_marks 153 v2]) (As := [.long ((v3).toInt64)]) (rest := []) C (tX3_tell l D k q_row q_row_numbers c_row_length c_row_numbers ((v3).toInt64) v10 v11 h10) cv_X7_186 ⟨⟨by decide, by decide⟩, rfl, rfl⟩ 5 rfl rfl [5, 6] rfl rfl rfl rfl rfl rfl (Nat.le_of_ble_eq_true rfl) ⟨Nat.zero_le _, Nat.zero_le _⟩ dX7_inner_85 ?_
            refine ww_iload_n (pc := 88) C dX7_inner_88 rfl 1 rfl ?_
            obtain ⟨e0, e1, e2, e3, e4, e5, e6, e7, e8⟩ := ij9 hf
            exact hret _ _ 89 _ dX7_inner_89 rfl e0 (by rw [← e1, ← e2, ← e3, ← e4, ← e5, ← e6, ← e7, ← e8])
  unfold fX7_inner at hf
  refine ww_aload_n (pc := 0) C dX7_inner_0 rfl 0 rfl ?_
  refine gf7_2 (pc := 1) C kf_X7_26 0 rfl rfl dX7_inner_1 ?_
  refine gf5_1 (pc := 4) C kf_X7_81 1 rfl rfl dX7_inner_4 ?_
  refine gf4_3 (pc := 7) C kf_X7_85 3 rfl rfl dX7_inner_7 ?_
  refine ww_if_ne (pc := 10) (tgt := 16) C dX7_inner_10 (by decide) (fun hc => ?_) (fun hc => ?_)
  · have hf := ifF hc hf
    refine ww_aload_n (pc := 16) C dX7_inner_16 rfl 0 rfl ?_
    refine gf7_2 (pc := 17) C kf_X7_26 0 rfl rfl dX7_inner_17 ?_
    refine gf5_0 (pc := 20) C kf_X7_74 1 rfl rfl dX7_inner_20 ?_
    refine gf1_1 (pc := 23) C kf_X7_198 2 rfl rfl dX7_inner_23 ?_
    refine ww_istore_n (pc := 26) (lv' := [(1, .int c_now_grid_size), (0, .ref q_this)]) C dX7_inner_26 rfl (by decide) rfl ?_
    exact ww_lv [1, 0] rfl (hL27 FU c_row_length c_row_numbers c_trial_firstFull c_trial_full c_trial_lastFull c_trial_size c_trial_turns c_trial_marks c_now_grid_size hf)
  · have hf := ifT hc hf
    refine ww_bipush (pc := 13) C dX7_inner_13 kB_m3 ?_
    obtain ⟨e0, e1, e2, e3, e4, e5, e6, e7, e8⟩ := ij9 hf
    exact hret _ _ 15 _ dX7_inner_15 rfl e0 (by rw [← e1, ← e2, ← e3, ← e4, ← e5, ← e6, ← e7, ← e8])
def fX7_excess (c_now_grid_size : Int32) (c_now_rule_kind : Int32) (c_now_rule_pulls : Nat → Int64) (c_row_length : Int32) (c_row_numbers : Nat → Int64) (x1 : Int32) (x2 : Int32) : Option (Int32 × Int32 × (Nat → Int64)) := (fX1_has c_now_grid_size x1 x2).bind fun v1 => if v1 = 0 then some ((-1 : Int32), c_row_length, c_row_numbers) else if c_now_rule_kind = (1 : Int32) then (fX4_pull c_now_rule_pulls c_now_grid_size x1 x2 (0 : Int32)).bind fun v2 => (fX4_pull c_now_rule_pulls c_now_grid_size x1 x2 (1 : Int32)).bind fun v3 => (fX4_pull c_now_rule_pulls c_now_grid_size x1 x2 (2 : Int32)).bind fun v4 => (fX4_off c_now_rule_pulls c_now_grid_size x1 x2).bind fun v5 => bd2 (fX3_tell___ c_row_length c_row_numbers v2 v3 v4 v5) fun v6 v7 => some ((0 : Int32), v6, v7) else some ((-3 : Int32), c_row_length, c_row_numbers)
set_option maxHeartbeats 4000000 in
set_option maxRecDepth 100000 in
theorem tX7_excess (l : Launch) (D : va_G) (k : Nat → ClassId) (q_this q_text q_row q_now q_trial q_doors q_history q_kept q_now_grid q_now_rule q_now_grid_marks q_now_rule_owned q_now_rule_wished q_now_rule_pulls q_row_numbers : Nat) (c_now_grid_size : Int32) (c_now_grid_full : Int32) (c_now_grid_turns : Int32) (c_now_grid_firstFull : Int32) (c_now_grid_lastFull : Int32) (c_now_rule_kind : Int32) (c_now_rule_traders : Int32) (c_now_rule_pulls : Nat → Int64) (c_row_length : Int32) (c_row_numbers : Nat → Int64) (x1 : Int32) (x2 : Int32) (r_ : Int32) (w_row_length : Int32) (w_row_numbers : Nat → Int64) (hf : fX7_excess c_now_grid_size c_now_rule_kind c_now_rule_pulls c_row_length c_row_numbers x1 x2 = some (r_, w_row_length, w_row_numbers)) : MI l yX7_excess cX7_excess 5 .int (RM 5 122) D k [.ref q_this, .int x1, .int x2] [oX7 q_this q_text q_row q_now q_trial q_doors q_history q_kept, oX5 q_now q_now_grid q_now_rule, oX1 q_now_grid q_now_grid_marks c_now_grid_size c_now_grid_full c_now_grid_turns c_now_grid_firstFull c_now_grid_lastFull, oX4 q_now_rule q_now_rule_owned q_now_rule_wished q_now_rule_pulls c_now_rule_kind c_now_rule_traders, aJ k q_now_rule_pulls 9 c_now_rule_pulls, oX3 q_row q_row_numbers c_row_length, aJ k q_row_numbers 16 c_row_numbers] r_ [oX7 q_this q_text q_row q_now q_trial q_doors q_history q_kept, oX5 q_now q_now_grid q_now_rule, oX1 q_now_grid q_now_grid_marks c_now_grid_size c_now_grid_full c_now_grid_turns c_now_grid_firstFull c_now_grid_lastFull, oX4 q_now_rule q_now_rule_owned q_now_rule_wished q_now_rule_pulls c_now_rule_kind c_now_rule_traders, aJ k q_now_rule_pulls 9 c_now_rule_pulls, oX3 q_row q_row_numbers w_row_length, aJ k q_row_numbers 16 w_row_numbers] := by
  refine mkMI' (own := "DoorWalk") (by decide) rfl (Nat.le_of_ble_eq_true rfl) ?_
  intro p e s m args below meth c Q A hret C
  refine ww_lv (lv' := [(0, .ref q_this), (1, .int x1), (2, .int x2)]) [0, 1, 2] rfl ?_
  unfold fX7_excess at hf
  refine ww_aload_n (pc := 0) C dX7_excess_0 rfl 0 rfl ?_
  refine gf7_2 (pc := 1) C kf_X7_26 0 rfl rfl dX7_excess_1 ?_
  refine gf5_0 (pc := 4) C kf_X7_74 1 rfl rfl dX7_excess_4 ?_
  refine ww_iload_n (pc := 7) C dX7_excess_7 rfl 1 rfl ?_
  refine ww_iload_n (pc := 8) C dX7_excess_8 rfl 2 rfl ?_
  obtain ⟨v1, h1, hf⟩ := bsome hf
  refine ww_callVi0 (pc := 9) (As := [.int x1, .int x2]) (rest := []) C (tX1_has l D k q_now_grid q_now_grid_marks c_now_grid_size c_now_grid_full c_now_grid_turns c_now_grid_firstFull c_now_grid_lastFull x1 x2 v1 h1) cv_X7_132 ⟨⟨by decide, by decide⟩, rfl, rfl⟩ 2 rfl rfl [2] rfl rfl rfl rfl (Nat.le_of_ble_eq_true rfl) ⟨Nat.zero_le _, Nat.zero_le _⟩ dX7_excess_9 (fun hb1 => ?_)
  refine ww_if_ne (pc := 12) (tgt := 17) C dX7_excess_12 (by decide) (fun hc => ?_) (fun hc => ?_)
  · have hf := ifF hc hf
    refine ww_aload_n (pc := 17) C dX7_excess_17 rfl 0 rfl ?_
    refine gf7_2 (pc := 18) C kf_X7_26 0 rfl rfl dX7_excess_18 ?_
    refine gf5_1 (pc := 21) C kf_X7_81 1 rfl rfl dX7_excess_21 ?_
    refine gf4_3 (pc := 24) C kf_X7_85 3 rfl rfl dX7_excess_24 ?_
    refine ww_iconst (pc := 27) C dX7_excess_27 kI_1 ?_
    refine ww_icmp_eq (pc := 28) (tgt := 34) C dX7_excess_28 (by decide) (fun hc => ?_) (fun hc => ?_)
    · have hf := ifT hc hf
      refine ww_aload_n (pc := 34) C dX7_excess_34 rfl 0 rfl ?_
      refine gf7_2 (pc := 35) C kf_X7_26 0 rfl rfl dX7_excess_35 ?_
      refine gf5_1 (pc := 38) C kf_X7_81 1 rfl rfl dX7_excess_38 ?_
      refine ww_astore_n (pc := 41) (lv' := [(3, .ref q_now_rule), (0, .ref q_this), (1, .int x1), (2, .int x2)]) C dX7_excess_41 rfl (by decide) rfl ?_
      refine ww_aload_n (pc := 42) C dX7_excess_42 rfl 1 rfl ?_
      refine gf7_2 (pc := 43) C kf_X7_26 0 rfl rfl dX7_excess_43 ?_
      refine gf5_0 (pc := 46) C kf_X7_74 1 rfl rfl dX7_excess_46 ?_
      refine ww_astore (pc := 49) (lv' := [(4, .ref q_now_grid), (3, .ref q_now_rule), (0, .ref q_this), (1, .int x1), (2, .int x2)]) C dX7_excess_49 (by decide) rfl ?_
      refine ww_aload_n (pc := 51) C dX7_excess_51 rfl 2 rfl ?_
      refine gf7_1 (pc := 52) C kf_X7_19 0 rfl rfl dX7_excess_52 ?_
      refine ww_aload_n (pc := 55) C dX7_excess_55 rfl 1 rfl ?_
      refine ww_aload (pc := 56) C dX7_excess_56 0 rfl ?_
      refine ww_iload_n (pc := 58) C dX7_excess_58 rfl 3 rfl ?_
      refine ww_iload_n (pc := 59) C dX7_excess_59 rfl 4 rfl ?_
      refine ww_iconst (pc := 60) C dX7_excess_60 kI_0 ?_
      obtain ⟨v2, h2, hf⟩ := bsome hf
      refine ww_callVl0 (pc := 61) (As := [.ref q_now_grid, .int x1, .int x2, .int (0 : Int32)]) (rest := [.ref q_row]) C (tX4_pull l D k q_now_rule q_now_rule_owned q_now_rule_wished q_now_rule_pulls q_now_grid q_now_grid_marks c_now_rule_kind c_now_rule_traders c_now_rule_pulls c_now_grid_size c_now_grid_full c_now_grid_turns c_now_grid_firstFull c_now_grid_lastFull x1 x2 (0 : Int32) v2 h2) cv_X7_301 ⟨⟨by decide, by decide⟩, rfl, rfl⟩ 3 rfl rfl [3, 4, 2] rfl rfl rfl rfl (Nat.le_of_ble_eq_true rfl) ⟨Nat.zero_le _, Nat.zero_le _⟩ dX7_excess_61 ?_
      refine ww_aload_n (pc := 64) C dX7_excess_64 rfl 1 rfl ?_
      refine ww_aload (pc := 65) C dX7_excess_65 0 rfl ?_
      refine ww_iload_n (pc := 67) C dX7_excess_67 rfl 3 rfl ?_
      refine ww_iload_n (pc := 68) C dX7_excess_68 rfl 4 rfl ?_
      refine ww_iconst (pc := 69) C dX7_excess_69 kI_1 ?_
      obtain ⟨v3, h3, hf⟩ := bsome hf
      refine ww_callVl0 (pc := 70) (As := [.ref q_now_grid, .int x1, .int x2, .int (1 : Int32)]) (rest := [.long v2, .ref q_row]) C (tX4_pull l D k q_now_rule q_now_rule_owned q_now_rule_wished q_now_rule_pulls q_now_grid q_now_grid_marks c_now_rule_kind c_now_rule_traders c_now_rule_pulls c_now_grid_size c_now_grid_full c_now_grid_turns c_now_grid_firstFull c_now_grid_lastFull x1 x2 (1 : Int32) v3 h3) cv_X7_301 ⟨⟨by decide, by decide⟩, rfl, rfl⟩ 3 rfl rfl [3, 4, 2] rfl rfl rfl rfl (Nat.le_of_ble_eq_true rfl) ⟨Nat.zero_le _, Nat.zero_le _⟩ dX7_excess_70 ?_
      refine ww_aload_n (pc := 73) C dX7_excess_73 rfl 1 rfl ?_
      refine ww_aload (pc := 74) C dX7_excess_74 0 rfl ?_
      refine ww_iload_n (pc := 76) C dX7_excess_76 rfl 3 rfl ?_
      refine ww_iload_n (pc := 77) C dX7_excess_77 rfl 4 rfl ?_
      refine ww_iconst (pc := 78) C dX7_excess_78 kI_2 ?_
      obtain ⟨v4, h4, hf⟩ := bsome hf
      refine ww_callVl0 (pc := 79) (As := [.ref q_now_grid, .int x1, .int x2, .int (2 : Int32)]) (rest := [.long v3, .long v2, .ref q_row]) C (tX4_pull l D k q_now_rule q_now_rule_owned q_now_rule_wished q_now_rule_pulls q_now_grid q_now_grid_marks c_now_rule_kind c_now_rule_traders c_now_rule_pulls c_now_grid_size c_now_grid_full c_now_grid_turns c_now_grid_firstFull c_now_grid_lastFull x1 x2 (2 : Int32) v4 h4) cv_X7_301 ⟨⟨by decide, by decide⟩, rfl, rfl⟩ 3 rfl rfl [3, 4, 2] rfl rfl rfl rfl (Nat.le_of_ble_eq_true rfl) ⟨Nat.zero_le _, Nat.zero_le _⟩ dX7_excess_79 ?_
      refine ww_aload_n (pc := 82) C dX7_excess_82 rfl 1 rfl ?_
      refine ww_aload (pc := 83) C dX7_excess_83 0 rfl ?_
      refine ww_iload_n (pc := 85) C dX7_excess_85 rfl 3 rfl ?_
      refine ww_iload_n (pc := 86) C dX7_excess_86 rfl 4 rfl ?_
      obtain ⟨v5, h5, hf⟩ := bsome hf
      refine ww_callVl0 (pc := 87) (As := [.ref q_now_grid, .int x1, .int x2]) (rest := [.long v4, .long v3, .long v2, .ref q_row]) C (tX4_off l D k q_now_rule q_now_rule_owned q_now_rule_wished q_now_rule_pulls q_now_grid q_now_grid_marks c_now_rule_kind c_now_rule_traders c_now_rule_pulls c_now_grid_size c_now_grid_full c_now_grid_turns c_now_grid_firstFull c_now_grid_lastFull x1 x2 v5 h5) cv_X7_305 ⟨⟨by decide, by decide⟩, rfl, rfl⟩ 3 rfl rfl [3, 4, 2] rfl rfl rfl rfl (Nat.le_of_ble_eq_true rfl) ⟨Nat.zero_le _, Nat.zero_le _⟩ dX7_excess_87 ?_
      obtain ⟨v6, v7, h6, hf⟩ := bd2_some hf
      refine ww_callVv (pc := 90) (ws' := [oX7 q_this q_text q_row q_now q_trial q_doors q_history q_kept, oX5 q_now q_now_grid q_now_rule, oX1 q_now_grid q_now_grid_marks c_now_grid_size c_now_grid_full c_now_grid_turns c_now_grid_firstFull c_now_grid_lastFull, oX4 q_now_rule q_now_rule_owned q_now_rule_wished q_now_rule_pulls c_now_rule_kind c_now_rule_traders, aJ k q_now_rule_pulls 9 c_now_rule_pulls, oX3 q_row q_row_numbers v6, aJ k q_row_numbers 16 v7]) (As := [.long v2, .long v3, .long v4, .long v5]) (rest := []) C (tX3_tell___ l D k q_row q_row_numbers c_row_length c_row_numbers v2 v3 v4 v5 v6 v7 h6) cv_X7_165 ⟨⟨by decide, by decide⟩, rfl, rfl⟩ 5 rfl rfl [5, 6] rfl rfl rfl rfl rfl rfl (Nat.le_of_ble_eq_true rfl) ⟨Nat.zero_le _, Nat.zero_le _⟩ dX7_excess_90 ?_
      refine ww_iconst (pc := 93) C dX7_excess_93 kI_0 ?_
      obtain ⟨e0, e1, e2⟩ := ij3 hf
      exact hret _ _ 94 _ dX7_excess_94 rfl e0 (by rw [← e1, ← e2])
    · have hf := ifF hc hf
      refine ww_bipush (pc := 31) C dX7_excess_31 kB_m3 ?_
      obtain ⟨e0, e1, e2⟩ := ij3 hf
      exact hret _ _ 33 _ dX7_excess_33 rfl e0 (by rw [← e1, ← e2])
  · have hf := ifT hc hf
    refine ww_iconst (pc := 15) C dX7_excess_15 kI_m1 ?_
    obtain ⟨e0, e1, e2⟩ := ij3 hf
    exact hret _ _ 16 _ dX7_excess_16 rfl e0 (by rw [← e1, ← e2])
def fX7_best_b59 (c_now_grid_size : Int32) (c_now_rule_kind : Int32) (c_now_rule_pulls : Nat → Int64) (rc47 : Int32 → (Nat → Int64) → Int32 → Int32 → Int64 → Int32 → Option (Int32 × Int32 × (Nat → Int64))) (rc59 : Int32 → (Nat → Int64) → Int32 → Int32 → Int64 → Int32 → Int32 → Option (Int32 × Int32 × (Nat → Int64))) (c_row_length : Int32) (c_row_numbers : Nat → Int64) (n2 : Int32) (n3 : Int32) (n4 : Int64) (n6 : Int32) (n7 : Int32) : Option (Int32 × Int32 × (Nat → Int64)) := if (c_now_grid_size - n6) < n7 then (some (n6 + (1 : Int32))).bind fun v1 => rc47 c_row_length c_row_numbers n2 n3 n4 v1 else (fX4_off c_now_rule_pulls c_now_grid_size n6 n7).bind fun v2 => if 0 ≤ (lg_cmp v2 n4) then (some (n7 + (1 : Int32))).bind fun v3 => rc59 c_row_length c_row_numbers n2 n3 n4 n6 v3 else (some (n7 + (1 : Int32))).bind fun v4 => rc59 c_row_length c_row_numbers n6 n7 v2 n6 v4
def fX7_best_b47 (c_now_grid_size : Int32) (c_now_rule_kind : Int32) (c_now_rule_pulls : Nat → Int64) (rc47 : Int32 → (Nat → Int64) → Int32 → Int32 → Int64 → Int32 → Option (Int32 × Int32 × (Nat → Int64))) (c_row_length : Int32) (c_row_numbers : Nat → Int64) (n2 : Int32) (n3 : Int32) (n4 : Int64) (n6 : Int32) : Option (Int32 × Int32 × (Nat → Int64)) := if c_now_grid_size < n6 then bd2 (fX3_tell__ c_row_length c_row_numbers ((n2).toInt64) ((n3).toInt64) n4) fun v1 v2 => (fX1_numberOf c_now_grid_size n2 n3).bind fun v3 => some (v3, v1, v2) else lfix (fX7_best_b59 c_now_grid_size c_now_rule_kind c_now_rule_pulls rc47) (fun _ _ _ _ _ _ _ => none) FU c_row_length c_row_numbers n2 n3 n4 n6 (0 : Int32)
def fX7_best (c_now_grid_size : Int32) (c_now_rule_kind : Int32) (c_now_rule_pulls : Nat → Int64) (c_row_length : Int32) (c_row_numbers : Nat → Int64) : Option (Int32 × Int32 × (Nat → Int64)) := if c_now_rule_kind = (1 : Int32) then (fX4_off c_now_rule_pulls c_now_grid_size (0 : Int32) (0 : Int32)).bind fun v1 => lfix (fX7_best_b47 c_now_grid_size c_now_rule_kind c_now_rule_pulls) (fun _ _ _ _ _ _ => none) FU c_row_length c_row_numbers (0 : Int32) (0 : Int32) v1 (0 : Int32) else some ((-3 : Int32), c_row_length, c_row_numbers)
set_option maxHeartbeats 4000000 in
set_option maxRecDepth 100000 in
theorem tX7_best (l : Launch) (D : va_G) (k : Nat → ClassId) (q_this q_text q_row q_now q_trial q_doors q_history q_kept q_now_grid q_now_rule q_now_grid_marks q_now_rule_owned q_now_rule_wished q_now_rule_pulls q_row_numbers : Nat) (c_now_grid_size : Int32) (c_now_grid_full : Int32) (c_now_grid_turns : Int32) (c_now_grid_firstFull : Int32) (c_now_grid_lastFull : Int32) (c_now_rule_kind : Int32) (c_now_rule_traders : Int32) (c_now_rule_pulls : Nat → Int64) (c_row_length : Int32) (c_row_numbers : Nat → Int64)  (r_ : Int32) (w_row_length : Int32) (w_row_numbers : Nat → Int64) (hf : fX7_best c_now_grid_size c_now_rule_kind c_now_rule_pulls c_row_length c_row_numbers = some (r_, w_row_length, w_row_numbers)) : MI l yX7_best cX7_best 10 .int (RM 4 94) D k [.ref q_this] [oX7 q_this q_text q_row q_now q_trial q_doors q_history q_kept, oX5 q_now q_now_grid q_now_rule, oX1 q_now_grid q_now_grid_marks c_now_grid_size c_now_grid_full c_now_grid_turns c_now_grid_firstFull c_now_grid_lastFull, oX4 q_now_rule q_now_rule_owned q_now_rule_wished q_now_rule_pulls c_now_rule_kind c_now_rule_traders, aJ k q_now_rule_pulls 9 c_now_rule_pulls, oX3 q_row q_row_numbers c_row_length, aJ k q_row_numbers 16 c_row_numbers] r_ [oX7 q_this q_text q_row q_now q_trial q_doors q_history q_kept, oX5 q_now q_now_grid q_now_rule, oX1 q_now_grid q_now_grid_marks c_now_grid_size c_now_grid_full c_now_grid_turns c_now_grid_firstFull c_now_grid_lastFull, oX4 q_now_rule q_now_rule_owned q_now_rule_wished q_now_rule_pulls c_now_rule_kind c_now_rule_traders, aJ k q_now_rule_pulls 9 c_now_rule_pulls, oX3 q_row q_row_numbers w_row_length, aJ k q_row_numbers 16 w_row_numbers] := by
  refine mkMI' (own := "DoorWalk") (by decide) rfl (Nat.le_of_ble_eq_true rfl) ?_
  intro p e s m args below meth c Q A hret C
  refine ww_lv (lv' := [(0, .ref q_this)]) [0] rfl ?_
  have hL47 : ∀ (n : Nat) (c_row_length : Int32) (c_row_numbers : Nat → Int64) (n2 : Int32) (n3 : Int32) (n4 : Int64) (n6 : Int32), lfix (fX7_best_b47 c_now_grid_size c_now_rule_kind c_now_rule_pulls) (fun _ _ _ _ _ _ => none) n c_row_length c_row_numbers n2 n3 n4 n6 = some (r_, w_row_length, w_row_numbers) → WW p l e (RM 4 94) s m args below meth c Q 10 D A 0 0 [oX7 q_this q_text q_row q_now q_trial q_doors q_history q_kept, oX5 q_now q_now_grid q_now_rule, oX1 q_now_grid q_now_grid_marks c_now_grid_size c_now_grid_full c_now_grid_turns c_now_grid_firstFull c_now_grid_lastFull, oX4 q_now_rule q_now_rule_owned q_now_rule_wished q_now_rule_pulls c_now_rule_kind c_now_rule_traders, aJ k q_now_rule_pulls 9 c_now_rule_pulls, oX3 q_row q_row_numbers c_row_length, aJ k q_row_numbers 16 c_row_numbers] [(0, .ref q_this), (1, .ref q_now_grid), (2, .int n2), (3, .int n3), (4, .long n4), (6, .int n6)] 47 [] := by
    intro n
    induction n with
    | zero => intro c_row_length c_row_numbers n2 n3 n4 n6 hf; cases hf
    | succ n ih47 =>
      obtain ⟨rc47, hrc47⟩ : ∃ f9, f9 = lfix (fX7_best_b47 c_now_grid_size c_now_rule_kind c_now_rule_pulls) (fun _ _ _ _ _ _ => none) n := ⟨_, rfl⟩
      rw [← hrc47] at ih47
      have hL59 : ∀ (n : Nat) (c_row_length : Int32) (c_row_numbers : Nat → Int64) (n2 : Int32) (n3 : Int32) (n4 : Int64) (n6 : Int32) (n7 : Int32), lfix (fX7_best_b59 c_now_grid_size c_now_rule_kind c_now_rule_pulls rc47) (fun _ _ _ _ _ _ _ => none) n c_row_length c_row_numbers n2 n3 n4 n6 n7 = some (r_, w_row_length, w_row_numbers) → WW p l e (RM 4 94) s m args below meth c Q 10 D A 0 0 [oX7 q_this q_text q_row q_now q_trial q_doors q_history q_kept, oX5 q_now q_now_grid q_now_rule, oX1 q_now_grid q_now_grid_marks c_now_grid_size c_now_grid_full c_now_grid_turns c_now_grid_firstFull c_now_grid_lastFull, oX4 q_now_rule q_now_rule_owned q_now_rule_wished q_now_rule_pulls c_now_rule_kind c_now_rule_traders, aJ k q_now_rule_pulls 9 c_now_rule_pulls, oX3 q_row q_row_numbers c_row_length, aJ k q_row_numbers 16 c_row_numbers] [(0, .ref q_this), (1, .ref q_now_grid), (2, .int n2), (3, .int n3), (4, .long n4), (6, .int n6), (7, .int n7)] 59 [] := by
        intro n
        induction n with
        | zero => intro c_row_length c_row_numbers n2 n3 n4 n6 n7 hf; cases hf
        | succ n ih59 =>
          obtain ⟨rc59, hrc59⟩ : ∃ f9, f9 = lfix (fX7_best_b59 c_now_grid_size c_now_rule_kind c_now_rule_pulls rc47) (fun _ _ _ _ _ _ _ => none) n := ⟨_, rfl⟩
          rw [← hrc59] at ih59
          intro c_row_length c_row_numbers n2 n3 n4 n6 n7 hf
          have hf : fX7_best_b59 c_now_grid_size c_now_rule_kind c_now_rule_pulls rc47 rc59 c_row_length c_row_numbers n2 n3 n4 n6 n7 = some (r_, w_row_length, w_row_numbers) := by rw [hrc59]; exact hf
          unfold fX7_best_b59 at hf
          refine ww_iload (pc := 59) C dX7_best_59 6 rfl ?_
          refine ww_aload_n (pc := 61) C dX7_best_61 rfl 1 rfl ?_
          refine gf1_1 (pc := 62) C kf_X7_198 2 rfl rfl dX7_best_62 ?_
          refine ww_iload (pc := 65) C dX7_best_65 5 rfl ?_
          refine ww_isub (pc := 67) C dX7_best_67  ?_
          refine ww_icmp_gt (pc := 68) (tgt := 112) C dX7_best_68 (by decide) (fun hc => ?_) (fun hc => ?_)
          · have hf := ifT hc hf
            obtain ⟨v1, h1, hf⟩ := bsome hf
            refine ww_iincN (pc := 112) (lv' := [(6, .int v1), (0, .ref q_this), (1, .ref q_now_grid), (2, .int n2), (3, .int n3), (4, .long n4), (7, .int n7)]) (j := 5) C dX7_best_112 kI_1 rfl h1 (by decide) rfl ?_
            refine ww_goto (pc := 115) (tgt := 47) C dX7_best_115 (by decide) ?_
            exact ww_lv [1, 2, 3, 4, 5, 0] rfl (ih47 c_row_length c_row_numbers n2 n3 n4 v1 hf)
          · have hf := ifF hc hf
            refine ww_aload_n (pc := 71) C dX7_best_71 rfl 0 rfl ?_
            refine gf7_2 (pc := 72) C kf_X7_26 0 rfl rfl dX7_best_72 ?_
            refine gf5_1 (pc := 75) C kf_X7_81 1 rfl rfl dX7_best_75 ?_
            refine ww_aload_n (pc := 78) C dX7_best_78 rfl 1 rfl ?_
            refine ww_iload (pc := 79) C dX7_best_79 5 rfl ?_
            refine ww_iload (pc := 81) C dX7_best_81 6 rfl ?_
            obtain ⟨v2, h2, hf⟩ := bsome hf
            refine ww_callVl0 (pc := 83) (As := [.ref q_now_grid, .int n6, .int n7]) (rest := []) C (tX4_off l D k q_now_rule q_now_rule_owned q_now_rule_wished q_now_rule_pulls q_now_grid q_now_grid_marks c_now_rule_kind c_now_rule_traders c_now_rule_pulls c_now_grid_size c_now_grid_full c_now_grid_turns c_now_grid_firstFull c_now_grid_lastFull n6 n7 v2 h2) cv_X7_305 ⟨⟨by decide, by decide⟩, rfl, rfl⟩ 3 rfl rfl [3, 4, 2] rfl rfl rfl rfl (Nat.le_of_ble_eq_true rfl) ⟨Nat.zero_le _, Nat.zero_le _⟩ dX7_best_83 ?_
            refine ww_lstore (pc := 86) (lv' := [(8, .long v2), (0, .ref q_this), (1, .ref q_now_grid), (2, .int n2), (3, .int n3), (4, .long n4), (6, .int n6), (7, .int n7)]) C dX7_best_86 (by decide) rfl ?_
            refine ww_lload (pc := 88) C dX7_best_88 0 rfl ?_
            refine ww_lload (pc := 90) C dX7_best_90 5 rfl ?_
            refine ww_lcmp (pc := 92) C dX7_best_92  ?_
            refine ww_if_ge (pc := 93) (tgt := 106) C dX7_best_93 (by decide) (fun hc => ?_) (fun hc => ?_)
            · have hf := ifT hc hf
              obtain ⟨v3, h3, hf⟩ := bsome hf
              refine ww_iincN (pc := 106) (lv' := [(7, .int v3), (8, .long v2), (0, .ref q_this), (1, .ref q_now_grid), (2, .int n2), (3, .int n3), (4, .long n4), (6, .int n6)]) (j := 7) C dX7_best_106 kI_1 rfl h3 (by decide) rfl ?_
              refine ww_goto (pc := 109) (tgt := 59) C dX7_best_109 (by decide) ?_
              exact ww_lv [2, 3, 4, 5, 6, 7, 0] rfl (ih59 c_row_length c_row_numbers n2 n3 n4 n6 v3 hf)
            · have hf := ifF hc hf
              refine ww_lload (pc := 96) C dX7_best_96 0 rfl ?_
              refine ww_lstore (pc := 98) (lv' := [(4, .long v2), (8, .long v2), (0, .ref q_this), (1, .ref q_now_grid), (2, .int n2), (3, .int n3), (6, .int n6), (7, .int n7)]) C dX7_best_98 (by decide) rfl ?_
              refine ww_iload (pc := 100) C dX7_best_100 6 rfl ?_
              refine ww_istore_n (pc := 102) (lv' := [(2, .int n6), (4, .long v2), (8, .long v2), (0, .ref q_this), (1, .ref q_now_grid), (3, .int n3), (6, .int n6), (7, .int n7)]) C dX7_best_102 rfl (by decide) rfl ?_
              refine ww_iload (pc := 103) C dX7_best_103 7 rfl ?_
              refine ww_istore_n (pc := 105) (lv' := [(3, .int n7), (2, .int n6), (4, .long v2), (8, .long v2), (0, .ref q_this), (1, .ref q_now_grid), (6, .int n6), (7, .int n7)]) C dX7_best_105 rfl (by decide) rfl ?_
              obtain ⟨v4, h4, hf⟩ := bsome hf
              refine ww_iincN (pc := 106) (lv' := [(7, .int v4), (3, .int n7), (2, .int n6), (4, .long v2), (8, .long v2), (0, .ref q_this), (1, .ref q_now_grid), (6, .int n6)]) (j := 7) C dX7_best_106 kI_1 rfl h4 (by decide) rfl ?_
              refine ww_goto (pc := 109) (tgt := 59) C dX7_best_109 (by decide) ?_
              exact ww_lv [5, 6, 2, 1, 3, 7, 0] rfl (ih59 c_row_length c_row_numbers n6 n7 v2 n6 v4 hf)
      intro c_row_length c_row_numbers n2 n3 n4 n6 hf
      have hf : fX7_best_b47 c_now_grid_size c_now_rule_kind c_now_rule_pulls rc47 c_row_length c_row_numbers n2 n3 n4 n6 = some (r_, w_row_length, w_row_numbers) := by rw [hrc47]; exact hf
      unfold fX7_best_b47 at hf
      refine ww_iload (pc := 47) C dX7_best_47 5 rfl ?_
      refine ww_aload_n (pc := 49) C dX7_best_49 rfl 1 rfl ?_
      refine gf1_1 (pc := 50) C kf_X7_198 2 rfl rfl dX7_best_50 ?_
      refine ww_icmp_gt (pc := 53) (tgt := 118) C dX7_best_53 (by decide) (fun hc => ?_) (fun hc => ?_)
      · have hf := ifT hc hf
        refine ww_aload_n (pc := 118) C dX7_best_118 rfl 0 rfl ?_
        refine gf7_1 (pc := 119) C kf_X7_19 0 rfl rfl dX7_best_119 ?_
        refine ww_iload_n (pc := 122) C dX7_best_122 rfl 2 rfl ?_
        refine ww_i2l (pc := 123) C dX7_best_123  ?_
        refine ww_iload_n (pc := 124) C dX7_best_124 rfl 3 rfl ?_
        refine ww_i2l (pc := 125) C dX7_best_125  ?_
        refine ww_lload (pc := 126) C dX7_best_126 4 rfl ?_
        obtain ⟨v1, v2, h1, hf⟩ := bd2_some hf
        refine ww_callVv (pc := 128) (ws' := [oX7 q_this q_text q_row q_now q_trial q_doors q_history q_kept, oX5 q_now q_now_grid q_now_rule, oX1 q_now_grid q_now_grid_marks c_now_grid_size c_now_grid_full c_now_grid_turns c_now_grid_firstFull c_now_grid_lastFull, oX4 q_now_rule q_now_rule_owned q_now_rule_wished q_now_rule_pulls c_now_rule_kind c_now_rule_traders, aJ k q_now_rule_pulls 9 c_now_rule_pulls, oX3 q_row q_row_numbers v1, aJ k q_row_numbers 16 v2]) (As := [.long ((n2).toInt64), .long ((n3).toInt64), .long n4]) (rest := []) C (tX3_tell__ l D k q_row q_row_numbers c_row_length c_row_numbers ((n2).toInt64) ((n3).toInt64) n4 v1 v2 h1) cv_X7_150 ⟨⟨by decide, by decide⟩, rfl, rfl⟩ 5 rfl rfl [5, 6] rfl rfl rfl rfl rfl rfl (Nat.le_of_ble_eq_true rfl) ⟨Nat.zero_le _, Nat.zero_le _⟩ dX7_best_128 ?_
        refine ww_aload_n (pc := 131) C dX7_best_131 rfl 1 rfl ?_
        refine ww_iload_n (pc := 132) C dX7_best_132 rfl 2 rfl ?_
        refine ww_iload_n (pc := 133) C dX7_best_133 rfl 3 rfl ?_
        obtain ⟨v3, h3, hf⟩ := bsome hf
        refine ww_callVi0 (pc := 134) (As := [.int n2, .int n3]) (rest := []) C (tX1_numberOf l D k q_now_grid q_now_grid_marks c_now_grid_size c_now_grid_full c_now_grid_turns c_now_grid_firstFull c_now_grid_lastFull n2 n3 v3 h3) cv_X7_153 ⟨⟨by decide, by decide⟩, rfl, rfl⟩ 2 rfl rfl [2] rfl rfl rfl rfl (Nat.le_of_ble_eq_true rfl) ⟨Nat.zero_le _, Nat.zero_le _⟩ dX7_best_134 (fun hb3 => ?_)
        obtain ⟨e0, e1, e2⟩ := ij3 hf
        exact hret _ _ 137 _ dX7_best_137 rfl e0 (by rw [← e1, ← e2])
      · have hf := ifF hc hf
        refine ww_iconst (pc := 56) C dX7_best_56 kI_0 ?_
        refine ww_istore (pc := 57) (lv' := [(7, .int (0 : Int32)), (0, .ref q_this), (1, .ref q_now_grid), (2, .int n2), (3, .int n3), (4, .long n4), (6, .int n6)]) C dX7_best_57 (by decide) rfl ?_
        exact ww_lv [1, 2, 3, 4, 5, 6, 0] rfl (hL59 FU c_row_length c_row_numbers n2 n3 n4 n6 (0 : Int32) hf)
  unfold fX7_best at hf
  refine ww_aload_n (pc := 0) C dX7_best_0 rfl 0 rfl ?_
  refine gf7_2 (pc := 1) C kf_X7_26 0 rfl rfl dX7_best_1 ?_
  refine gf5_1 (pc := 4) C kf_X7_81 1 rfl rfl dX7_best_4 ?_
  refine gf4_3 (pc := 7) C kf_X7_85 3 rfl rfl dX7_best_7 ?_
  refine ww_iconst (pc := 10) C dX7_best_10 kI_1 ?_
  refine ww_icmp_eq (pc := 11) (tgt := 17) C dX7_best_11 (by decide) (fun hc => ?_) (fun hc => ?_)
  · have hf := ifT hc hf
    refine ww_aload_n (pc := 17) C dX7_best_17 rfl 0 rfl ?_
    refine gf7_2 (pc := 18) C kf_X7_26 0 rfl rfl dX7_best_18 ?_
    refine gf5_0 (pc := 21) C kf_X7_74 1 rfl rfl dX7_best_21 ?_
    refine ww_astore_n (pc := 24) (lv' := [(1, .ref q_now_grid), (0, .ref q_this)]) C dX7_best_24 rfl (by decide) rfl ?_
    refine ww_iconst (pc := 25) C dX7_best_25 kI_0 ?_
    refine ww_istore_n (pc := 26) (lv' := [(2, .int (0 : Int32)), (1, .ref q_now_grid), (0, .ref q_this)]) C dX7_best_26 rfl (by decide) rfl ?_
    refine ww_iconst (pc := 27) C dX7_best_27 kI_0 ?_
    refine ww_istore_n (pc := 28) (lv' := [(3, .int (0 : Int32)), (2, .int (0 : Int32)), (1, .ref q_now_grid), (0, .ref q_this)]) C dX7_best_28 rfl (by decide) rfl ?_
    refine ww_aload_n (pc := 29) C dX7_best_29 rfl 3 rfl ?_
    refine gf7_2 (pc := 30) C kf_X7_26 0 rfl rfl dX7_best_30 ?_
    refine gf5_1 (pc := 33) C kf_X7_81 1 rfl rfl dX7_best_33 ?_
    refine ww_aload_n (pc := 36) C dX7_best_36 rfl 2 rfl ?_
    refine ww_iconst (pc := 37) C dX7_best_37 kI_0 ?_
    refine ww_iconst (pc := 38) C dX7_best_38 kI_0 ?_
    obtain ⟨v1, h1, hf⟩ := bsome hf
    refine ww_callVl0 (pc := 39) (As := [.ref q_now_grid, .int (0 : Int32), .int (0 : Int32)]) (rest := []) C (tX4_off l D k q_now_rule q_now_rule_owned q_now_rule_wished q_now_rule_pulls q_now_grid q_now_grid_marks c_now_rule_kind c_now_rule_traders c_now_rule_pulls c_now_grid_size c_now_grid_full c_now_grid_turns c_now_grid_firstFull c_now_grid_lastFull (0 : Int32) (0 : Int32) v1 h1) cv_X7_305 ⟨⟨by decide, by decide⟩, rfl, rfl⟩ 3 rfl rfl [3, 4, 2] rfl rfl rfl rfl (Nat.le_of_ble_eq_true rfl) ⟨Nat.zero_le _, Nat.zero_le _⟩ dX7_best_39 ?_
    refine ww_lstore (pc := 42) (lv' := [(4, .long v1), (3, .int (0 : Int32)), (2, .int (0 : Int32)), (1, .ref q_now_grid), (0, .ref q_this)]) C dX7_best_42 (by decide) rfl ?_
    refine ww_iconst (pc := 44) C dX7_best_44 kI_0 ?_
    refine ww_istore (pc := 45) (lv' := [(6, .int (0 : Int32)), (4, .long v1), (3, .int (0 : Int32)), (2, .int (0 : Int32)), (1, .ref q_now_grid), (0, .ref q_this)]) C dX7_best_45 (by decide) rfl ?_
    exact ww_lv [5, 4, 3, 2, 1, 0] rfl (hL47 FU c_row_length c_row_numbers (0 : Int32) (0 : Int32) v1 (0 : Int32) hf)
  · have hf := ifF hc hf
    refine ww_bipush (pc := 14) C dX7_best_14 kB_m3 ?_
    obtain ⟨e0, e1, e2⟩ := ij3 hf
    exact hret _ _ 16 _ dX7_best_16 rfl e0 (by rw [← e1, ← e2])
def fX7_clears_b107 (c_now_grid_size : Int32) (c_now_grid_marks : Nat → Int32) (c_now_rule_kind : Int32) (c_now_rule_pulls : Nat → Int64) (rc35 : Int32 → (Nat → Int64) → Int32 → Int32 → Int64 → Int32 → Option (Int32 × Int32 × (Nat → Int64))) (rc59 : Int32 → (Nat → Int64) → Int32 → Int32 → Int64 → Int32 → Int32 → Option (Int32 × Int32 × (Nat → Int64))) (c_row_length : Int32) (c_row_numbers : Nat → Int64) (n6 : Int32) (n7 : Int32) (n8 : Int64) : Option (Int32 × Int32 × (Nat → Int64)) := (some (n7 + (1 : Int32))).bind fun v1 => rc59 c_row_length c_row_numbers n6 n7 n8 n6 v1
def fX7_clears_b59 (c_now_grid_size : Int32) (c_now_grid_marks : Nat → Int32) (c_now_rule_kind : Int32) (c_now_rule_pulls : Nat → Int64) (rc35 : Int32 → (Nat → Int64) → Int32 → Int32 → Int64 → Int32 → Option (Int32 × Int32 × (Nat → Int64))) (rc59 : Int32 → (Nat → Int64) → Int32 → Int32 → Int64 → Int32 → Int32 → Option (Int32 × Int32 × (Nat → Int64))) (c_row_length : Int32) (c_row_numbers : Nat → Int64) (n2 : Int32) (n3 : Int32) (n4 : Int64) (n6 : Int32) (n7 : Int32) : Option (Int32 × Int32 × (Nat → Int64)) := if (3 : Int32) ≤ n7 then (some (n6 + (1 : Int32))).bind fun v1 => rc35 c_row_length c_row_numbers n2 n3 n4 v1 else (fX1_cornerI c_now_grid_size n6 n7).bind fun v2 => (fX1_cornerJ c_now_grid_size n6 n7).bind fun v3 => (fX4_off c_now_rule_pulls c_now_grid_size v2 v3).bind fun v4 => if n2 = (-1 : Int32) then fX7_clears_b107 c_now_grid_size c_now_grid_marks c_now_rule_kind c_now_rule_pulls rc35 rc59 c_row_length c_row_numbers n6 n7 v4 else if 0 ≤ (lg_cmp v4 n4) then (some (n7 + (1 : Int32))).bind fun v5 => rc59 c_row_length c_row_numbers n2 n3 n4 n6 v5 else fX7_clears_b107 c_now_grid_size c_now_grid_marks c_now_rule_kind c_now_rule_pulls rc35 rc59 c_row_length c_row_numbers n6 n7 v4
def fX7_clears_b35 (c_now_grid_size : Int32) (c_now_grid_marks : Nat → Int32) (c_now_rule_kind : Int32) (c_now_rule_pulls : Nat → Int64) (rc35 : Int32 → (Nat → Int64) → Int32 → Int32 → Int64 → Int32 → Option (Int32 × Int32 × (Nat → Int64))) (c_row_length : Int32) (c_row_numbers : Nat → Int64) (n2 : Int32) (n3 : Int32) (n4 : Int64) (n6 : Int32) : Option (Int32 × Int32 × (Nat → Int64)) := (fX1_numbers c_now_grid_size).bind fun v1 => if v1 ≤ n6 then if n2 = (-1 : Int32) then some ((-2 : Int32), c_row_length, c_row_numbers) else (fX1_cornerI c_now_grid_size n2 n3).bind fun v2 => (fX1_cornerJ c_now_grid_size n2 n3).bind fun v3 => (fX4_lessOff c_now_rule_pulls c_now_grid_size n4).bind fun v4 => bd2 (fX3_tell___ c_row_length c_row_numbers ((v2).toInt64) ((v3).toInt64) n4 ((v4).toInt64)) fun v5 v6 => some (n2, v5, v6) else (fX1_turn c_now_grid_size c_now_grid_marks n6).bind fun v7 => if v7 = 0 then (some (n6 + (1 : Int32))).bind fun v8 => rc35 c_row_length c_row_numbers n2 n3 n4 v8 else lfix (fX7_clears_b59 c_now_grid_size c_now_grid_marks c_now_rule_kind c_now_rule_pulls rc35) (fun _ _ _ _ _ _ _ => none) FU c_row_length c_row_numbers n2 n3 n4 n6 (0 : Int32)
def fX7_clears (c_now_grid_size : Int32) (c_now_grid_marks : Nat → Int32) (c_now_rule_kind : Int32) (c_now_rule_pulls : Nat → Int64) (c_row_length : Int32) (c_row_numbers : Nat → Int64) : Option (Int32 × Int32 × (Nat → Int64)) := if c_now_rule_kind = (1 : Int32) then lfix (fX7_clears_b35 c_now_grid_size c_now_grid_marks c_now_rule_kind c_now_rule_pulls) (fun _ _ _ _ _ _ => none) FU c_row_length c_row_numbers (-1 : Int32) (0 : Int32) (0 : Int64) (0 : Int32) else some ((-3 : Int32), c_row_length, c_row_numbers)
set_option maxHeartbeats 4000000 in
set_option maxRecDepth 100000 in
theorem tX7_clears (l : Launch) (D : va_G) (k : Nat → ClassId) (q_this q_text q_row q_now q_trial q_doors q_history q_kept q_now_grid q_now_rule q_now_grid_marks q_now_rule_owned q_now_rule_wished q_now_rule_pulls q_row_numbers : Nat) (c_now_grid_size : Int32) (c_now_grid_full : Int32) (c_now_grid_turns : Int32) (c_now_grid_firstFull : Int32) (c_now_grid_lastFull : Int32) (c_now_grid_marks : Nat → Int32) (c_now_rule_kind : Int32) (c_now_rule_traders : Int32) (c_now_rule_pulls : Nat → Int64) (c_row_length : Int32) (c_row_numbers : Nat → Int64)  (r_ : Int32) (w_row_length : Int32) (w_row_numbers : Nat → Int64) (hf : fX7_clears c_now_grid_size c_now_grid_marks c_now_rule_kind c_now_rule_pulls c_row_length c_row_numbers = some (r_, w_row_length, w_row_numbers)) : MI l yX7_clears cX7_clears 10 .int (RM 5 122) D k [.ref q_this] [oX7 q_this q_text q_row q_now q_trial q_doors q_history q_kept, oX5 q_now q_now_grid q_now_rule, oX1 q_now_grid q_now_grid_marks c_now_grid_size c_now_grid_full c_now_grid_turns c_now_grid_firstFull c_now_grid_lastFull, aI k q_now_grid_marks 153 c_now_grid_marks, oX4 q_now_rule q_now_rule_owned q_now_rule_wished q_now_rule_pulls c_now_rule_kind c_now_rule_traders, aJ k q_now_rule_pulls 9 c_now_rule_pulls, oX3 q_row q_row_numbers c_row_length, aJ k q_row_numbers 16 c_row_numbers] r_ [oX7 q_this q_text q_row q_now q_trial q_doors q_history q_kept, oX5 q_now q_now_grid q_now_rule, oX1 q_now_grid q_now_grid_marks c_now_grid_size c_now_grid_full c_now_grid_turns c_now_grid_firstFull c_now_grid_lastFull, aI k q_now_grid_marks 153 c_now_grid_marks, oX4 q_now_rule q_now_rule_owned q_now_rule_wished q_now_rule_pulls c_now_rule_kind c_now_rule_traders, aJ k q_now_rule_pulls 9 c_now_rule_pulls, oX3 q_row q_row_numbers w_row_length, aJ k q_row_numbers 16 w_row_numbers] := by
  refine mkMI' (own := "DoorWalk") (by decide) rfl (Nat.le_of_ble_eq_true rfl) ?_
  intro p e s m args below meth c Q A hret C
  refine ww_lv (lv' := [(0, .ref q_this)]) [0] rfl ?_
  have hL35 : ∀ (n : Nat) (c_row_length : Int32) (c_row_numbers : Nat → Int64) (n2 : Int32) (n3 : Int32) (n4 : Int64) (n6 : Int32), lfix (fX7_clears_b35 c_now_grid_size c_now_grid_marks c_now_rule_kind c_now_rule_pulls) (fun _ _ _ _ _ _ => none) n c_row_length c_row_numbers n2 n3 n4 n6 = some (r_, w_row_length, w_row_numbers) → WW p l e (RM 5 122) s m args below meth c Q 10 D A 0 0 [oX7 q_this q_text q_row q_now q_trial q_doors q_history q_kept, oX5 q_now q_now_grid q_now_rule, oX1 q_now_grid q_now_grid_marks c_now_grid_size c_now_grid_full c_now_grid_turns c_now_grid_firstFull c_now_grid_lastFull, aI k q_now_grid_marks 153 c_now_grid_marks, oX4 q_now_rule q_now_rule_owned q_now_rule_wished q_now_rule_pulls c_now_rule_kind c_now_rule_traders, aJ k q_now_rule_pulls 9 c_now_rule_pulls, oX3 q_row q_row_numbers c_row_length, aJ k q_row_numbers 16 c_row_numbers] [(0, .ref q_this), (1, .ref q_now_grid), (2, .int n2), (3, .int n3), (4, .long n4), (6, .int n6)] 35 [] := by
    intro n
    induction n with
    | zero => intro c_row_length c_row_numbers n2 n3 n4 n6 hf; cases hf
    | succ n ih35 =>
      obtain ⟨rc35, hrc35⟩ : ∃ f9, f9 = lfix (fX7_clears_b35 c_now_grid_size c_now_grid_marks c_now_rule_kind c_now_rule_pulls) (fun _ _ _ _ _ _ => none) n := ⟨_, rfl⟩
      rw [← hrc35] at ih35
      have hL59 : ∀ (n : Nat) (c_row_length : Int32) (c_row_numbers : Nat → Int64) (n2 : Int32) (n3 : Int32) (n4 : Int64) (n6 : Int32) (n7 : Int32), lfix (fX7_clears_b59 c_now_grid_size c_now_grid_marks c_now_rule_kind c_now_rule_pulls rc35) (fun _ _ _ _ _ _ _ => none) n c_row_length c_row_numbers n2 n3 n4 n6 n7 = some (r_, w_row_length, w_row_numbers) → WW p l e (RM 5 122) s m args below meth c Q 10 D A 0 0 [oX7 q_this q_text q_row q_now q_trial q_doors q_history q_kept, oX5 q_now q_now_grid q_now_rule, oX1 q_now_grid q_now_grid_marks c_now_grid_size c_now_grid_full c_now_grid_turns c_now_grid_firstFull c_now_grid_lastFull, aI k q_now_grid_marks 153 c_now_grid_marks, oX4 q_now_rule q_now_rule_owned q_now_rule_wished q_now_rule_pulls c_now_rule_kind c_now_rule_traders, aJ k q_now_rule_pulls 9 c_now_rule_pulls, oX3 q_row q_row_numbers c_row_length, aJ k q_row_numbers 16 c_row_numbers] [(0, .ref q_this), (1, .ref q_now_grid), (2, .int n2), (3, .int n3), (4, .long n4), (6, .int n6), (7, .int n7)] 59 [] := by
        intro n
        induction n with
        | zero => intro c_row_length c_row_numbers n2 n3 n4 n6 n7 hf; cases hf
        | succ n ih59 =>
          obtain ⟨rc59, hrc59⟩ : ∃ f9, f9 = lfix (fX7_clears_b59 c_now_grid_size c_now_grid_marks c_now_rule_kind c_now_rule_pulls rc35) (fun _ _ _ _ _ _ _ => none) n := ⟨_, rfl⟩
          rw [← hrc59] at ih59
          have hJ107 : ∀ (c_row_length : Int32) (c_row_numbers : Nat → Int64) (n6 : Int32) (n7 : Int32) (n8 : Int64), fX7_clears_b107 c_now_grid_size c_now_grid_marks c_now_rule_kind c_now_rule_pulls rc35 rc59 c_row_length c_row_numbers n6 n7 n8 = some (r_, w_row_length, w_row_numbers) → WW p l e (RM 5 122) s m args below meth c Q 10 D A 0 0 [oX7 q_this q_text q_row q_now q_trial q_doors q_history q_kept, oX5 q_now q_now_grid q_now_rule, oX1 q_now_grid q_now_grid_marks c_now_grid_size c_now_grid_full c_now_grid_turns c_now_grid_firstFull c_now_grid_lastFull, aI k q_now_grid_marks 153 c_now_grid_marks, oX4 q_now_rule q_now_rule_owned q_now_rule_wished q_now_rule_pulls c_now_rule_kind c_now_rule_traders, aJ k q_now_rule_pulls 9 c_now_rule_pulls, oX3 q_row q_row_numbers c_row_length, aJ k q_row_numbers 16 c_row_numbers] [(0, .ref q_this), (1, .ref q_now_grid), (6, .int n6), (7, .int n7), (8, .long n8)] 107 [] := by
            intro c_row_length c_row_numbers n6 n7 n8
            intro hf
            unfold fX7_clears_b107 at hf
            refine ww_iload (pc := 107) C dX7_clears_107 2 rfl ?_
            refine ww_istore_n (pc := 109) (lv' := [(2, .int n6), (0, .ref q_this), (1, .ref q_now_grid), (6, .int n6), (7, .int n7), (8, .long n8)]) C dX7_clears_109 rfl (by decide) rfl ?_
            refine ww_iload (pc := 110) C dX7_clears_110 4 rfl ?_
            refine ww_istore_n (pc := 112) (lv' := [(3, .int n7), (2, .int n6), (0, .ref q_this), (1, .ref q_now_grid), (6, .int n6), (7, .int n7), (8, .long n8)]) C dX7_clears_112 rfl (by decide) rfl ?_
            refine ww_lload (pc := 113) C dX7_clears_113 6 rfl ?_
            refine ww_lstore (pc := 115) (lv' := [(4, .long n8), (3, .int n7), (2, .int n6), (0, .ref q_this), (1, .ref q_now_grid), (6, .int n6), (7, .int n7), (8, .long n8)]) C dX7_clears_115 (by decide) rfl ?_
            obtain ⟨v1, h1, hf⟩ := bsome hf
            refine ww_iincN (pc := 117) (lv' := [(7, .int v1), (4, .long n8), (3, .int n7), (2, .int n6), (0, .ref q_this), (1, .ref q_now_grid), (6, .int n6), (8, .long n8)]) (j := 6) C dX7_clears_117 kI_1 rfl h1 (by decide) rfl ?_
            refine ww_goto (pc := 120) (tgt := 59) C dX7_clears_120 (by decide) ?_
            exact ww_lv [4, 5, 3, 2, 1, 6, 0] rfl (ih59 c_row_length c_row_numbers n6 n7 n8 n6 v1 hf)
          intro c_row_length c_row_numbers n2 n3 n4 n6 n7 hf
          have hf : fX7_clears_b59 c_now_grid_size c_now_grid_marks c_now_rule_kind c_now_rule_pulls rc35 rc59 c_row_length c_row_numbers n2 n3 n4 n6 n7 = some (r_, w_row_length, w_row_numbers) := by rw [hrc59]; exact hf
          unfold fX7_clears_b59 at hf
          refine ww_iload (pc := 59) C dX7_clears_59 6 rfl ?_
          refine ww_iconst (pc := 61) C dX7_clears_61 kI_3 ?_
          refine ww_icmp_ge (pc := 62) (tgt := 123) C dX7_clears_62 (by decide) (fun hc => ?_) (fun hc => ?_)
          · have hf := ifT hc hf
            obtain ⟨v1, h1, hf⟩ := bsome hf
            refine ww_iincN (pc := 123) (lv' := [(6, .int v1), (0, .ref q_this), (1, .ref q_now_grid), (2, .int n2), (3, .int n3), (4, .long n4), (7, .int n7)]) (j := 5) C dX7_clears_123 kI_1 rfl h1 (by decide) rfl ?_
            refine ww_goto (pc := 126) (tgt := 35) C dX7_clears_126 (by decide) ?_
            exact ww_lv [1, 2, 3, 4, 5, 0] rfl (ih35 c_row_length c_row_numbers n2 n3 n4 v1 hf)
          · have hf := ifF hc hf
            refine ww_aload_n (pc := 65) C dX7_clears_65 rfl 0 rfl ?_
            refine gf7_2 (pc := 66) C kf_X7_26 0 rfl rfl dX7_clears_66 ?_
            refine gf5_1 (pc := 69) C kf_X7_81 1 rfl rfl dX7_clears_69 ?_
            refine ww_aload_n (pc := 72) C dX7_clears_72 rfl 1 rfl ?_
            refine ww_aload_n (pc := 73) C dX7_clears_73 rfl 1 rfl ?_
            refine ww_iload (pc := 74) C dX7_clears_74 5 rfl ?_
            refine ww_iload (pc := 76) C dX7_clears_76 6 rfl ?_
            obtain ⟨v2, h2, hf⟩ := bsome hf
            refine ww_callVi0 (pc := 78) (As := [.int n6, .int n7]) (rest := [.ref q_now_grid, .ref q_now_rule]) C (tX1_cornerI l D k q_now_grid q_now_grid_marks c_now_grid_size c_now_grid_full c_now_grid_turns c_now_grid_firstFull c_now_grid_lastFull n6 n7 v2 h2) cv_X7_309 ⟨⟨by decide, by decide⟩, rfl, rfl⟩ 2 rfl rfl [2] rfl rfl rfl rfl (Nat.le_of_ble_eq_true rfl) ⟨Nat.zero_le _, Nat.zero_le _⟩ dX7_clears_78 (fun hb2 => ?_)
            refine ww_aload_n (pc := 81) C dX7_clears_81 rfl 1 rfl ?_
            refine ww_iload (pc := 82) C dX7_clears_82 5 rfl ?_
            refine ww_iload (pc := 84) C dX7_clears_84 6 rfl ?_
            obtain ⟨v3, h3, hf⟩ := bsome hf
            refine ww_callVi0 (pc := 86) (As := [.int n6, .int n7]) (rest := [.int v2, .ref q_now_grid, .ref q_now_rule]) C (tX1_cornerJ l D k q_now_grid q_now_grid_marks c_now_grid_size c_now_grid_full c_now_grid_turns c_now_grid_firstFull c_now_grid_lastFull n6 n7 v3 h3) cv_X7_312 ⟨⟨by decide, by decide⟩, rfl, rfl⟩ 2 rfl rfl [2] rfl rfl rfl rfl (Nat.le_of_ble_eq_true rfl) ⟨Nat.zero_le _, Nat.zero_le _⟩ dX7_clears_86 (fun hb3 => ?_)
            obtain ⟨v4, h4, hf⟩ := bsome hf
            refine ww_callVl0 (pc := 89) (As := [.ref q_now_grid, .int v2, .int v3]) (rest := []) C (tX4_off l D k q_now_rule q_now_rule_owned q_now_rule_wished q_now_rule_pulls q_now_grid q_now_grid_marks c_now_rule_kind c_now_rule_traders c_now_rule_pulls c_now_grid_size c_now_grid_full c_now_grid_turns c_now_grid_firstFull c_now_grid_lastFull v2 v3 v4 h4) cv_X7_305 ⟨⟨by decide, by decide⟩, rfl, rfl⟩ 4 rfl rfl [4, 5, 2] rfl rfl rfl rfl (Nat.le_of_ble_eq_true rfl) ⟨Nat.zero_le _, Nat.zero_le _⟩ dX7_clears_89 ?_
            refine ww_lstore (pc := 92) (lv' := [(8, .long v4), (0, .ref q_this), (1, .ref q_now_grid), (2, .int n2), (3, .int n3), (4, .long n4), (6, .int n6), (7, .int n7)]) C dX7_clears_92 (by decide) rfl ?_
            refine ww_iload_n (pc := 94) C dX7_clears_94 rfl 3 rfl ?_
            refine ww_iconst (pc := 95) C dX7_clears_95 kI_m1 ?_
            refine ww_icmp_eq (pc := 96) (tgt := 107) C dX7_clears_96 (by decide) (fun hc => ?_) (fun hc => ?_)
            · have hf := ifT hc hf
              exact ww_lv [1, 2, 6, 7, 0] rfl (hJ107 c_row_length c_row_numbers n6 n7 v4 hf)
            · have hf := ifF hc hf
              refine ww_lload (pc := 99) C dX7_clears_99 0 rfl ?_
              refine ww_lload (pc := 101) C dX7_clears_101 5 rfl ?_
              refine ww_lcmp (pc := 103) C dX7_clears_103  ?_
              refine ww_if_ge (pc := 104) (tgt := 117) C dX7_clears_104 (by decide) (fun hc => ?_) (fun hc => ?_)
              · have hf := ifT hc hf
                obtain ⟨v5, h5, hf⟩ := bsome hf
                refine ww_iincN (pc := 117) (lv' := [(7, .int v5), (8, .long v4), (0, .ref q_this), (1, .ref q_now_grid), (2, .int n2), (3, .int n3), (4, .long n4), (6, .int n6)]) (j := 7) C dX7_clears_117 kI_1 rfl h5 (by decide) rfl ?_
                refine ww_goto (pc := 120) (tgt := 59) C dX7_clears_120 (by decide) ?_
                exact ww_lv [2, 3, 4, 5, 6, 7, 0] rfl (ih59 c_row_length c_row_numbers n2 n3 n4 n6 v5 hf)
              · have hf := ifF hc hf
                exact ww_lv [1, 2, 6, 7, 0] rfl (hJ107 c_row_length c_row_numbers n6 n7 v4 hf)
      intro c_row_length c_row_numbers n2 n3 n4 n6 hf
      have hf : fX7_clears_b35 c_now_grid_size c_now_grid_marks c_now_rule_kind c_now_rule_pulls rc35 c_row_length c_row_numbers n2 n3 n4 n6 = some (r_, w_row_length, w_row_numbers) := by rw [hrc35]; exact hf
      unfold fX7_clears_b35 at hf
      refine ww_iload (pc := 35) C dX7_clears_35 5 rfl ?_
      refine ww_aload_n (pc := 37) C dX7_clears_37 rfl 1 rfl ?_
      obtain ⟨v1, h1, hf⟩ := bsome hf
      refine ww_callVi0 (pc := 38) (As := []) (rest := [.int n6]) C (tX1_numbers l D k q_now_grid q_now_grid_marks c_now_grid_size c_now_grid_full c_now_grid_turns c_now_grid_firstFull c_now_grid_lastFull v1 h1) cv_X7_189 ⟨⟨by decide, by decide⟩, rfl, rfl⟩ 2 rfl rfl [2] rfl rfl rfl rfl (Nat.le_of_ble_eq_true rfl) ⟨Nat.zero_le _, Nat.zero_le _⟩ dX7_clears_38 (fun hb1 => ?_)
      refine ww_icmp_ge (pc := 41) (tgt := 129) C dX7_clears_41 (by decide) (fun hc => ?_) (fun hc => ?_)
      · have hf := ifT hc hf
        refine ww_iload_n (pc := 129) C dX7_clears_129 rfl 2 rfl ?_
        refine ww_iconst (pc := 130) C dX7_clears_130 kI_m1 ?_
        refine ww_icmp_ne (pc := 131) (tgt := 137) C dX7_clears_131 (by decide) (fun hc => ?_) (fun hc => ?_)
        · have hf := ifF hc hf
          refine ww_aload_n (pc := 137) C dX7_clears_137 rfl 0 rfl ?_
          refine gf7_1 (pc := 138) C kf_X7_19 0 rfl rfl dX7_clears_138 ?_
          refine ww_aload_n (pc := 141) C dX7_clears_141 rfl 1 rfl ?_
          refine ww_iload_n (pc := 142) C dX7_clears_142 rfl 2 rfl ?_
          refine ww_iload_n (pc := 143) C dX7_clears_143 rfl 3 rfl ?_
          obtain ⟨v2, h2, hf⟩ := bsome hf
          refine ww_callVi0 (pc := 144) (As := [.int n2, .int n3]) (rest := [.ref q_row]) C (tX1_cornerI l D k q_now_grid q_now_grid_marks c_now_grid_size c_now_grid_full c_now_grid_turns c_now_grid_firstFull c_now_grid_lastFull n2 n3 v2 h2) cv_X7_309 ⟨⟨by decide, by decide⟩, rfl, rfl⟩ 2 rfl rfl [2] rfl rfl rfl rfl (Nat.le_of_ble_eq_true rfl) ⟨Nat.zero_le _, Nat.zero_le _⟩ dX7_clears_144 (fun hb2 => ?_)
          refine ww_i2l (pc := 147) C dX7_clears_147  ?_
          refine ww_aload_n (pc := 148) C dX7_clears_148 rfl 1 rfl ?_
          refine ww_iload_n (pc := 149) C dX7_clears_149 rfl 2 rfl ?_
          refine ww_iload_n (pc := 150) C dX7_clears_150 rfl 3 rfl ?_
          obtain ⟨v3, h3, hf⟩ := bsome hf
          refine ww_callVi0 (pc := 151) (As := [.int n2, .int n3]) (rest := [.long ((v2).toInt64), .ref q_row]) C (tX1_cornerJ l D k q_now_grid q_now_grid_marks c_now_grid_size c_now_grid_full c_now_grid_turns c_now_grid_firstFull c_now_grid_lastFull n2 n3 v3 h3) cv_X7_312 ⟨⟨by decide, by decide⟩, rfl, rfl⟩ 2 rfl rfl [2] rfl rfl rfl rfl (Nat.le_of_ble_eq_true rfl) ⟨Nat.zero_le _, Nat.zero_le _⟩ dX7_clears_151 (fun hb3 => ?_)
          refine ww_i2l (pc := 154) C dX7_clears_154  ?_
          refine ww_lload (pc := 155) C dX7_clears_155 4 rfl ?_
          refine ww_aload_n (pc := 157) C dX7_clears_157 rfl 0 rfl ?_
          refine gf7_2 (pc := 158) C kf_X7_26 0 rfl rfl dX7_clears_158 ?_
          refine gf5_1 (pc := 161) C kf_X7_81 1 rfl rfl dX7_clears_161 ?_
          refine ww_aload_n (pc := 164) C dX7_clears_164 rfl 1 rfl ?_
          refine ww_lload (pc := 165) C dX7_clears_165 4 rfl ?_
          obtain ⟨v4, h4, hf⟩ := bsome hf
          refine ww_callVi0 (pc := 167) (As := [.ref q_now_grid, .long n4]) (rest := [.long n4, .long ((v3).toInt64), .long ((v2).toInt64), .ref q_row]) C (tX4_lessOff l D k q_now_rule q_now_rule_owned q_now_rule_wished q_now_rule_pulls q_now_grid q_now_grid_marks c_now_rule_kind c_now_rule_traders c_now_rule_pulls c_now_grid_size c_now_grid_full c_now_grid_turns c_now_grid_firstFull c_now_grid_lastFull n4 v4 h4) cv_X7_315 ⟨⟨by decide, by decide⟩, rfl, rfl⟩ 4 rfl rfl [4, 5, 2] rfl rfl rfl rfl (Nat.le_of_ble_eq_true rfl) ⟨Nat.zero_le _, Nat.zero_le _⟩ dX7_clears_167 (fun hb4 => ?_)
          refine ww_i2l (pc := 170) C dX7_clears_170  ?_
          obtain ⟨v5, v6, h5, hf⟩ := bd2_some hf
          refine ww_callVv (pc := 171) (ws' := [oX7 q_this q_text q_row q_now q_trial q_doors q_history q_kept, oX5 q_now q_now_grid q_now_rule, oX1 q_now_grid q_now_grid_marks c_now_grid_size c_now_grid_full c_now_grid_turns c_now_grid_firstFull c_now_grid_lastFull, aI k q_now_grid_marks 153 c_now_grid_marks, oX4 q_now_rule q_now_rule_owned q_now_rule_wished q_now_rule_pulls c_now_rule_kind c_now_rule_traders, aJ k q_now_rule_pulls 9 c_now_rule_pulls, oX3 q_row q_row_numbers v5, aJ k q_row_numbers 16 v6]) (As := [.long ((v2).toInt64), .long ((v3).toInt64), .long n4, .long ((v4).toInt64)]) (rest := []) C (tX3_tell___ l D k q_row q_row_numbers c_row_length c_row_numbers ((v2).toInt64) ((v3).toInt64) n4 ((v4).toInt64) v5 v6 h5) cv_X7_165 ⟨⟨by decide, by decide⟩, rfl, rfl⟩ 6 rfl rfl [6, 7] rfl rfl rfl rfl rfl rfl (Nat.le_of_ble_eq_true rfl) ⟨Nat.zero_le _, Nat.zero_le _⟩ dX7_clears_171 ?_
          refine ww_iload_n (pc := 174) C dX7_clears_174 rfl 2 rfl ?_
          obtain ⟨e0, e1, e2⟩ := ij3 hf
          exact hret _ _ 175 _ dX7_clears_175 rfl e0 (by rw [← e1, ← e2])
        · have hf := ifT hc hf
          refine ww_bipush (pc := 134) C dX7_clears_134 kB_m2 ?_
          obtain ⟨e0, e1, e2⟩ := ij3 hf
          exact hret _ _ 136 _ dX7_clears_136 rfl e0 (by rw [← e1, ← e2])
      · have hf := ifF hc hf
        refine ww_aload_n (pc := 44) C dX7_clears_44 rfl 1 rfl ?_
        refine ww_iload (pc := 45) C dX7_clears_45 5 rfl ?_
        obtain ⟨v7, h7, hf⟩ := bsome hf
        refine ww_callVi0 (pc := 47) (As := [.int n6]) (rest := []) C (tX1_turn l D k q_now_grid q_now_grid_marks c_now_grid_size c_now_grid_full c_now_grid_turns c_now_grid_firstFull c_now_grid_lastFull c_now_grid_marks n6 v7 h7) cv_X7_159 ⟨⟨by decide, by decide⟩, rfl, rfl⟩ 2 rfl rfl [2, 3] rfl rfl rfl rfl (Nat.le_of_ble_eq_true rfl) ⟨Nat.zero_le _, Nat.zero_le _⟩ dX7_clears_47 (fun hb7 => ?_)
        refine ww_if_ne (pc := 50) (tgt := 56) C dX7_clears_50 (by decide) (fun hc => ?_) (fun hc => ?_)
        · have hf := ifF hc hf
          refine ww_iconst (pc := 56) C dX7_clears_56 kI_0 ?_
          refine ww_istore (pc := 57) (lv' := [(7, .int (0 : Int32)), (0, .ref q_this), (1, .ref q_now_grid), (2, .int n2), (3, .int n3), (4, .long n4), (6, .int n6)]) C dX7_clears_57 (by decide) rfl ?_
          exact ww_lv [1, 2, 3, 4, 5, 6, 0] rfl (hL59 FU c_row_length c_row_numbers n2 n3 n4 n6 (0 : Int32) hf)
        · have hf := ifT hc hf
          refine ww_goto (pc := 53) (tgt := 123) C dX7_clears_53 (by decide) ?_
          obtain ⟨v8, h8, hf⟩ := bsome hf
          refine ww_iincN (pc := 123) (lv' := [(6, .int v8), (0, .ref q_this), (1, .ref q_now_grid), (2, .int n2), (3, .int n3), (4, .long n4)]) (j := 5) C dX7_clears_123 kI_1 rfl h8 (by decide) rfl ?_
          refine ww_goto (pc := 126) (tgt := 35) C dX7_clears_126 (by decide) ?_
          exact ww_lv [1, 2, 3, 4, 5, 0] rfl (ih35 c_row_length c_row_numbers n2 n3 n4 v8 hf)
  unfold fX7_clears at hf
  refine ww_aload_n (pc := 0) C dX7_clears_0 rfl 0 rfl ?_
  refine gf7_2 (pc := 1) C kf_X7_26 0 rfl rfl dX7_clears_1 ?_
  refine gf5_1 (pc := 4) C kf_X7_81 1 rfl rfl dX7_clears_4 ?_
  refine gf4_3 (pc := 7) C kf_X7_85 4 rfl rfl dX7_clears_7 ?_
  refine ww_iconst (pc := 10) C dX7_clears_10 kI_1 ?_
  refine ww_icmp_eq (pc := 11) (tgt := 17) C dX7_clears_11 (by decide) (fun hc => ?_) (fun hc => ?_)
  · have hf := ifT hc hf
    refine ww_aload_n (pc := 17) C dX7_clears_17 rfl 0 rfl ?_
    refine gf7_2 (pc := 18) C kf_X7_26 0 rfl rfl dX7_clears_18 ?_
    refine gf5_0 (pc := 21) C kf_X7_74 1 rfl rfl dX7_clears_21 ?_
    refine ww_astore_n (pc := 24) (lv' := [(1, .ref q_now_grid), (0, .ref q_this)]) C dX7_clears_24 rfl (by decide) rfl ?_
    refine ww_iconst (pc := 25) C dX7_clears_25 kI_m1 ?_
    refine ww_istore_n (pc := 26) (lv' := [(2, .int (-1 : Int32)), (1, .ref q_now_grid), (0, .ref q_this)]) C dX7_clears_26 rfl (by decide) rfl ?_
    refine ww_iconst (pc := 27) C dX7_clears_27 kI_0 ?_
    refine ww_istore_n (pc := 28) (lv' := [(3, .int (0 : Int32)), (2, .int (-1 : Int32)), (1, .ref q_now_grid), (0, .ref q_this)]) C dX7_clears_28 rfl (by decide) rfl ?_
    refine ww_lconst (pc := 29) C dX7_clears_29 kL_0 ?_
    refine ww_lstore (pc := 30) (lv' := [(4, .long (0 : Int64)), (3, .int (0 : Int32)), (2, .int (-1 : Int32)), (1, .ref q_now_grid), (0, .ref q_this)]) C dX7_clears_30 (by decide) rfl ?_
    refine ww_iconst (pc := 32) C dX7_clears_32 kI_0 ?_
    refine ww_istore (pc := 33) (lv' := [(6, .int (0 : Int32)), (4, .long (0 : Int64)), (3, .int (0 : Int32)), (2, .int (-1 : Int32)), (1, .ref q_now_grid), (0, .ref q_this)]) C dX7_clears_33 (by decide) rfl ?_
    exact ww_lv [5, 4, 3, 2, 1, 0] rfl (hL35 FU c_row_length c_row_numbers (-1 : Int32) (0 : Int32) (0 : Int64) (0 : Int32) hf)
  · have hf := ifF hc hf
    refine ww_bipush (pc := 14) C dX7_clears_14 kB_m3 ?_
    obtain ⟨e0, e1, e2⟩ := ij3 hf
    exact hret _ _ 16 _ dX7_clears_16 rfl e0 (by rw [← e1, ← e2])
def fX7_sells_b47 (c_now_grid_size : Int32) (c_now_rule_kind : Int32) (c_now_rule_traders : Int32) (c_now_rule_owned : Nat → Int32) (c_now_rule_wished : Nat → Int32) (rc47 : Int32 → (Nat → Int64) → Int32 → Int32 → Int32 → Int32 → Int32 → Option (Int32 × Int32 × (Nat → Int64))) (c_row_length : Int32) (c_row_numbers : Nat → Int64) (n1 : Int32) (n2 : Int32) (n3 : Int32) (n4 : Int32) (n5 : Int32) : Option (Int32 × Int32 × (Nat → Int64)) := if c_now_rule_traders ≤ n5 then (fJ6_bitCount_0f7a4 n4).bind fun v1 => bd2 (fX3_tell c_row_length c_row_numbers ((v1).toInt64)) fun v2 v3 => some (n4, v2, v3) else (fX4_hasEnough c_now_rule_owned c_now_rule_wished c_now_grid_size n1 n2 n5 n3).bind fun v4 => if v4 = 0 then (some (n5 + (1 : Int32))).bind fun v5 => rc47 c_row_length c_row_numbers n1 n2 n3 n4 v5 else (some (n4 ||| ((1 : Int32) <<< (n5 &&& 31)))).bind fun v6 => (some (n5 + (1 : Int32))).bind fun v7 => rc47 c_row_length c_row_numbers n1 n2 n3 v6 v7
def fX7_sells (c_now_grid_size : Int32) (c_now_rule_kind : Int32) (c_now_rule_traders : Int32) (c_now_rule_owned : Nat → Int32) (c_now_rule_wished : Nat → Int32) (c_row_length : Int32) (c_row_numbers : Nat → Int64) (x1 : Int32) (x2 : Int32) (x3 : Int32) : Option (Int32 × Int32 × (Nat → Int64)) := (fX1_has c_now_grid_size x1 x2).bind fun v1 => if v1 = 0 then some ((-1 : Int32), c_row_length, c_row_numbers) else (fX7_isGood x3).bind fun v2 => if v2 = 0 then some ((-1 : Int32), c_row_length, c_row_numbers) else if c_now_rule_kind = (1 : Int32) then lfix (fX7_sells_b47 c_now_grid_size c_now_rule_kind c_now_rule_traders c_now_rule_owned c_now_rule_wished) (fun _ _ _ _ _ _ _ => none) FU c_row_length c_row_numbers x1 x2 x3 (0 : Int32) (0 : Int32) else some ((-3 : Int32), c_row_length, c_row_numbers)
set_option maxHeartbeats 4000000 in
set_option maxRecDepth 100000 in
theorem tX7_sells (l : Launch) (D : va_G) (k : Nat → ClassId) (q_this q_text q_row q_now q_trial q_doors q_history q_kept q_now_grid q_now_rule q_now_grid_marks q_now_rule_owned q_now_rule_wished q_now_rule_pulls q_row_numbers : Nat) (c_now_grid_size : Int32) (c_now_grid_full : Int32) (c_now_grid_turns : Int32) (c_now_grid_firstFull : Int32) (c_now_grid_lastFull : Int32) (c_now_rule_kind : Int32) (c_now_rule_traders : Int32) (c_now_rule_owned : Nat → Int32) (c_now_rule_wished : Nat → Int32) (c_row_length : Int32) (c_row_numbers : Nat → Int64) (x1 : Int32) (x2 : Int32) (x3 : Int32) (r_ : Int32) (w_row_length : Int32) (w_row_numbers : Nat → Int64) (hf : fX7_sells c_now_grid_size c_now_rule_kind c_now_rule_traders c_now_rule_owned c_now_rule_wished c_row_length c_row_numbers x1 x2 x3 = some (r_, w_row_length, w_row_numbers)) : MI l yX7_sells cX7_sells 6 .int (RM 3 71) D k [.ref q_this, .int x1, .int x2, .int x3] [oX7 q_this q_text q_row q_now q_trial q_doors q_history q_kept, oX5 q_now q_now_grid q_now_rule, oX1 q_now_grid q_now_grid_marks c_now_grid_size c_now_grid_full c_now_grid_turns c_now_grid_firstFull c_now_grid_lastFull, oX4 q_now_rule q_now_rule_owned q_now_rule_wished q_now_rule_pulls c_now_rule_kind c_now_rule_traders, aI k q_now_rule_owned 12 c_now_rule_owned, aI k q_now_rule_wished 12 c_now_rule_wished, oX3 q_row q_row_numbers c_row_length, aJ k q_row_numbers 16 c_row_numbers] r_ [oX7 q_this q_text q_row q_now q_trial q_doors q_history q_kept, oX5 q_now q_now_grid q_now_rule, oX1 q_now_grid q_now_grid_marks c_now_grid_size c_now_grid_full c_now_grid_turns c_now_grid_firstFull c_now_grid_lastFull, oX4 q_now_rule q_now_rule_owned q_now_rule_wished q_now_rule_pulls c_now_rule_kind c_now_rule_traders, aI k q_now_rule_owned 12 c_now_rule_owned, aI k q_now_rule_wished 12 c_now_rule_wished, oX3 q_row q_row_numbers w_row_length, aJ k q_row_numbers 16 w_row_numbers] := by
  refine mkMI' (own := "DoorWalk") (by decide) rfl (Nat.le_of_ble_eq_true rfl) ?_
  intro p e s m args below meth c Q A hret C
  refine ww_lv (lv' := [(0, .ref q_this), (1, .int x1), (2, .int x2), (3, .int x3)]) [0, 1, 2, 3] rfl ?_
  have hL47 : ∀ (n : Nat) (c_row_length : Int32) (c_row_numbers : Nat → Int64) (n1 : Int32) (n2 : Int32) (n3 : Int32) (n4 : Int32) (n5 : Int32), lfix (fX7_sells_b47 c_now_grid_size c_now_rule_kind c_now_rule_traders c_now_rule_owned c_now_rule_wished) (fun _ _ _ _ _ _ _ => none) n c_row_length c_row_numbers n1 n2 n3 n4 n5 = some (r_, w_row_length, w_row_numbers) → WW p l e (RM 3 71) s m args below meth c Q 6 D A 0 0 [oX7 q_this q_text q_row q_now q_trial q_doors q_history q_kept, oX5 q_now q_now_grid q_now_rule, oX1 q_now_grid q_now_grid_marks c_now_grid_size c_now_grid_full c_now_grid_turns c_now_grid_firstFull c_now_grid_lastFull, oX4 q_now_rule q_now_rule_owned q_now_rule_wished q_now_rule_pulls c_now_rule_kind c_now_rule_traders, aI k q_now_rule_owned 12 c_now_rule_owned, aI k q_now_rule_wished 12 c_now_rule_wished, oX3 q_row q_row_numbers c_row_length, aJ k q_row_numbers 16 c_row_numbers] [(0, .ref q_this), (1, .int n1), (2, .int n2), (3, .int n3), (4, .int n4), (5, .int n5)] 47 [] := by
    intro n
    induction n with
    | zero => intro c_row_length c_row_numbers n1 n2 n3 n4 n5 hf; cases hf
    | succ n ih47 =>
      obtain ⟨rc47, hrc47⟩ : ∃ f9, f9 = lfix (fX7_sells_b47 c_now_grid_size c_now_rule_kind c_now_rule_traders c_now_rule_owned c_now_rule_wished) (fun _ _ _ _ _ _ _ => none) n := ⟨_, rfl⟩
      rw [← hrc47] at ih47
      intro c_row_length c_row_numbers n1 n2 n3 n4 n5 hf
      have hf : fX7_sells_b47 c_now_grid_size c_now_rule_kind c_now_rule_traders c_now_rule_owned c_now_rule_wished rc47 c_row_length c_row_numbers n1 n2 n3 n4 n5 = some (r_, w_row_length, w_row_numbers) := by rw [hrc47]; exact hf
      unfold fX7_sells_b47 at hf
      refine ww_iload (pc := 47) C dX7_sells_47 5 rfl ?_
      refine ww_aload_n (pc := 49) C dX7_sells_49 rfl 0 rfl ?_
      refine gf7_2 (pc := 50) C kf_X7_26 0 rfl rfl dX7_sells_50 ?_
      refine gf5_1 (pc := 53) C kf_X7_81 1 rfl rfl dX7_sells_53 ?_
      refine gf4_4 (pc := 56) C kf_X7_319 3 rfl rfl dX7_sells_56 ?_
      refine ww_icmp_ge (pc := 59) (tgt := 102) C dX7_sells_59 (by decide) (fun hc => ?_) (fun hc => ?_)
      · have hf := ifT hc hf
        refine ww_aload_n (pc := 102) C dX7_sells_102 rfl 0 rfl ?_
        refine gf7_1 (pc := 103) C kf_X7_19 0 rfl rfl dX7_sells_103 ?_
        refine ww_iload (pc := 106) C dX7_sells_106 4 rfl ?_
        obtain ⟨v1, h1, hf⟩ := bsome hf
        refine ww_callSi0 (pc := 108) (As := [.int n4]) (rest := [.ref q_row]) C (tJ6_bitCount_0f7a4 l D k n4 v1 h1) cs_X7_326 ⟨⟨by decide, by decide⟩, rfl, rfl⟩ [] rfl rfl rfl rfl (Nat.le_of_ble_eq_true rfl) ⟨Nat.zero_le _, Nat.zero_le _⟩ dX7_sells_108 (fun hb1 => ?_)
        refine ww_i2l (pc := 111) C dX7_sells_111  ?_
        obtain ⟨v2, v3, h2, hf⟩ := bd2_some hf
        refine ww_callVv (pc := 112) (ws' := [oX7 q_this q_text q_row q_now q_trial q_doors q_history q_kept, oX5 q_now q_now_grid q_now_rule, oX1 q_now_grid q_now_grid_marks c_now_grid_size c_now_grid_full c_now_grid_turns c_now_grid_firstFull c_now_grid_lastFull, oX4 q_now_rule q_now_rule_owned q_now_rule_wished q_now_rule_pulls c_now_rule_kind c_now_rule_traders, aI k q_now_rule_owned 12 c_now_rule_owned, aI k q_now_rule_wished 12 c_now_rule_wished, oX3 q_row q_row_numbers v2, aJ k q_row_numbers 16 v3]) (As := [.long ((v1).toInt64)]) (rest := []) C (tX3_tell l D k q_row q_row_numbers c_row_length c_row_numbers ((v1).toInt64) v2 v3 h2) cv_X7_186 ⟨⟨by decide, by decide⟩, rfl, rfl⟩ 6 rfl rfl [6, 7] rfl rfl rfl rfl rfl rfl (Nat.le_of_ble_eq_true rfl) ⟨Nat.zero_le _, Nat.zero_le _⟩ dX7_sells_112 ?_
        refine ww_iload (pc := 115) C dX7_sells_115 4 rfl ?_
        obtain ⟨e0, e1, e2⟩ := ij3 hf
        exact hret _ _ 117 _ dX7_sells_117 rfl e0 (by rw [← e1, ← e2])
      · have hf := ifF hc hf
        refine ww_aload_n (pc := 62) C dX7_sells_62 rfl 0 rfl ?_
        refine gf7_2 (pc := 63) C kf_X7_26 0 rfl rfl dX7_sells_63 ?_
        refine gf5_1 (pc := 66) C kf_X7_81 1 rfl rfl dX7_sells_66 ?_
        refine ww_aload_n (pc := 69) C dX7_sells_69 rfl 0 rfl ?_
        refine gf7_2 (pc := 70) C kf_X7_26 0 rfl rfl dX7_sells_70 ?_
        refine gf5_0 (pc := 73) C kf_X7_74 1 rfl rfl dX7_sells_73 ?_
        refine ww_iload_n (pc := 76) C dX7_sells_76 rfl 1 rfl ?_
        refine ww_iload_n (pc := 77) C dX7_sells_77 rfl 2 rfl ?_
        refine ww_iload (pc := 78) C dX7_sells_78 5 rfl ?_
        refine ww_iload_n (pc := 80) C dX7_sells_80 rfl 3 rfl ?_
        obtain ⟨v4, h4, hf⟩ := bsome hf
        refine ww_callVi0 (pc := 81) (As := [.ref q_now_grid, .int n1, .int n2, .int n5, .int n3]) (rest := []) C (tX4_hasEnough l D k q_now_rule q_now_rule_owned q_now_rule_wished q_now_rule_pulls q_now_grid q_now_grid_marks c_now_rule_kind c_now_rule_traders c_now_rule_owned c_now_rule_wished c_now_grid_size c_now_grid_full c_now_grid_turns c_now_grid_firstFull c_now_grid_lastFull n1 n2 n5 n3 v4 h4) cv_X7_322 ⟨⟨by decide, by decide⟩, rfl, rfl⟩ 3 rfl rfl [3, 4, 5, 2] rfl rfl rfl rfl (Nat.le_of_ble_eq_true rfl) ⟨Nat.zero_le _, Nat.zero_le _⟩ dX7_sells_81 (fun hb4 => ?_)
        refine ww_if_eq (pc := 84) (tgt := 96) C dX7_sells_84 (by decide) (fun hc => ?_) (fun hc => ?_)
        · have hf := ifT hc hf
          obtain ⟨v5, h5, hf⟩ := bsome hf
          refine ww_iincN (pc := 96) (lv' := [(5, .int v5), (0, .ref q_this), (1, .int n1), (2, .int n2), (3, .int n3), (4, .int n4)]) (j := 5) C dX7_sells_96 kI_1 rfl h5 (by decide) rfl ?_
          refine ww_goto (pc := 99) (tgt := 47) C dX7_sells_99 (by decide) ?_
          exact ww_lv [1, 2, 3, 4, 5, 0] rfl (ih47 c_row_length c_row_numbers n1 n2 n3 n4 v5 hf)
        · have hf := ifF hc hf
          refine ww_iload (pc := 87) C dX7_sells_87 4 rfl ?_
          refine ww_iconst (pc := 89) C dX7_sells_89 kI_1 ?_
          refine ww_iload (pc := 90) C dX7_sells_90 5 rfl ?_
          refine ww_ishl (pc := 92) C dX7_sells_92  ?_
          refine ww_ior (pc := 93) C dX7_sells_93  ?_
          obtain ⟨v6, h6, hf⟩ := bsome hf
          refine ww_nmi h6 ?_
          refine ww_istore (pc := 94) (lv' := [(4, .int v6), (0, .ref q_this), (1, .int n1), (2, .int n2), (3, .int n3), (5, .int n5)]) C dX7_sells_94 (by decide) rfl ?_
          obtain ⟨v7, h7, hf⟩ := bsome hf
          refine ww_iincN (pc := 96) (lv' := [(5, .int v7), (4, .int v6), (0, .ref q_this), (1, .int n1), (2, .int n2), (3, .int n3)]) (j := 5) C dX7_sells_96 kI_1 rfl h7 (by decide) rfl ?_
          refine ww_goto (pc := 99) (tgt := 47) C dX7_sells_99 (by decide) ?_
          exact ww_lv [2, 3, 4, 5, 1, 0] rfl (ih47 c_row_length c_row_numbers n1 n2 n3 v6 v7 hf)
  unfold fX7_sells at hf
  refine ww_aload_n (pc := 0) C dX7_sells_0 rfl 0 rfl ?_
  refine gf7_2 (pc := 1) C kf_X7_26 0 rfl rfl dX7_sells_1 ?_
  refine gf5_0 (pc := 4) C kf_X7_74 1 rfl rfl dX7_sells_4 ?_
  refine ww_iload_n (pc := 7) C dX7_sells_7 rfl 1 rfl ?_
  refine ww_iload_n (pc := 8) C dX7_sells_8 rfl 2 rfl ?_
  obtain ⟨v1, h1, hf⟩ := bsome hf
  refine ww_callVi0 (pc := 9) (As := [.int x1, .int x2]) (rest := []) C (tX1_has l D k q_now_grid q_now_grid_marks c_now_grid_size c_now_grid_full c_now_grid_turns c_now_grid_firstFull c_now_grid_lastFull x1 x2 v1 h1) cv_X7_132 ⟨⟨by decide, by decide⟩, rfl, rfl⟩ 2 rfl rfl [2] rfl rfl rfl rfl (Nat.le_of_ble_eq_true rfl) ⟨Nat.zero_le _, Nat.zero_le _⟩ dX7_sells_9 (fun hb1 => ?_)
  refine ww_if_eq (pc := 12) (tgt := 22) C dX7_sells_12 (by decide) (fun hc => ?_) (fun hc => ?_)
  · have hf := ifT hc hf
    refine ww_iconst (pc := 22) C dX7_sells_22 kI_m1 ?_
    obtain ⟨e0, e1, e2⟩ := ij3 hf
    exact hret _ _ 23 _ dX7_sells_23 rfl e0 (by rw [← e1, ← e2])
  · have hf := ifF hc hf
    refine ww_iload_n (pc := 15) C dX7_sells_15 rfl 3 rfl ?_
    obtain ⟨v2, h2, hf⟩ := bsome hf
    refine ww_callSi0 (pc := 16) (As := [.int x3]) (rest := []) C (tX7_isGood l D k x3 v2 h2) cs_X7_195 ⟨⟨by decide, by decide⟩, rfl, rfl⟩ [] rfl rfl rfl rfl (Nat.le_of_ble_eq_true rfl) ⟨Nat.zero_le _, Nat.zero_le _⟩ dX7_sells_16 (fun hb2 => ?_)
    refine ww_if_ne (pc := 19) (tgt := 24) C dX7_sells_19 (by decide) (fun hc => ?_) (fun hc => ?_)
    · have hf := ifF hc hf
      refine ww_aload_n (pc := 24) C dX7_sells_24 rfl 0 rfl ?_
      refine gf7_2 (pc := 25) C kf_X7_26 0 rfl rfl dX7_sells_25 ?_
      refine gf5_1 (pc := 28) C kf_X7_81 1 rfl rfl dX7_sells_28 ?_
      refine gf4_3 (pc := 31) C kf_X7_85 3 rfl rfl dX7_sells_31 ?_
      refine ww_iconst (pc := 34) C dX7_sells_34 kI_1 ?_
      refine ww_icmp_eq (pc := 35) (tgt := 41) C dX7_sells_35 (by decide) (fun hc => ?_) (fun hc => ?_)
      · have hf := ifT hc hf
        refine ww_iconst (pc := 41) C dX7_sells_41 kI_0 ?_
        refine ww_istore (pc := 42) (lv' := [(4, .int (0 : Int32)), (0, .ref q_this), (1, .int x1), (2, .int x2), (3, .int x3)]) C dX7_sells_42 (by decide) rfl ?_
        refine ww_iconst (pc := 44) C dX7_sells_44 kI_0 ?_
        refine ww_istore (pc := 45) (lv' := [(5, .int (0 : Int32)), (4, .int (0 : Int32)), (0, .ref q_this), (1, .int x1), (2, .int x2), (3, .int x3)]) C dX7_sells_45 (by decide) rfl ?_
        exact ww_lv [2, 3, 4, 5, 1, 0] rfl (hL47 FU c_row_length c_row_numbers x1 x2 x3 (0 : Int32) (0 : Int32) hf)
      · have hf := ifF hc hf
        refine ww_bipush (pc := 38) C dX7_sells_38 kB_m3 ?_
        obtain ⟨e0, e1, e2⟩ := ij3 hf
        exact hret _ _ 40 _ dX7_sells_40 rfl e0 (by rw [← e1, ← e2])
    · have hf := ifT hc hf
      refine ww_iconst (pc := 22) C dX7_sells_22 kI_m1 ?_
      obtain ⟨e0, e1, e2⟩ := ij3 hf
      exact hret _ _ 23 _ dX7_sells_23 rfl e0 (by rw [← e1, ← e2])
def fX7_were_b107 (c_now_grid_size : Int32) (c_now_grid_marks : Nat → Int32) (rc67 : Int32 → (Nat → Int64) → Int32 → Int32 → Int32 → Int32 → Int32 → (Nat → Int32) → Int32 → Int32 → Int32 → Int32 → Option (Int32 × Int32 × (Nat → Int64) × Int32 × Int32 × Int32 × Int32 × Int32 × (Nat → Int32))) (c_row_length : Int32) (c_row_numbers : Nat → Int64) (c_trial_firstFull : Int32) (c_trial_full : Int32) (c_trial_lastFull : Int32) (c_trial_size : Int32) (c_trial_turns : Int32) (c_trial_marks : Nat → Int32) (n1 : Int32) (n2 : Int32) (n6 : Int32) (s0 : Int32) (s1 : Int32) : Option (Int32 × Int32 × (Nat → Int64) × Int32 × Int32 × Int32 × Int32 × Int32 × (Nat → Int32)) := (some (s0 + s1)).bind fun v1 => (some (n6 + (1 : Int32))).bind fun v2 => rc67 c_row_length c_row_numbers c_trial_firstFull c_trial_full c_trial_lastFull c_trial_size c_trial_turns c_trial_marks n1 n2 v1 v2
def fX7_were_b106 (c_now_grid_size : Int32) (c_now_grid_marks : Nat → Int32) (rc67 : Int32 → (Nat → Int64) → Int32 → Int32 → Int32 → Int32 → Int32 → (Nat → Int32) → Int32 → Int32 → Int32 → Int32 → Option (Int32 × Int32 × (Nat → Int64) × Int32 × Int32 × Int32 × Int32 × Int32 × (Nat → Int32))) (c_row_length : Int32) (c_row_numbers : Nat → Int64) (c_trial_firstFull : Int32) (c_trial_full : Int32) (c_trial_lastFull : Int32) (c_trial_size : Int32) (c_trial_turns : Int32) (c_trial_marks : Nat → Int32) (n1 : Int32) (n2 : Int32) (n6 : Int32) (s0 : Int32) : Option (Int32 × Int32 × (Nat → Int64) × Int32 × Int32 × Int32 × Int32 × Int32 × (Nat → Int32)) := fX7_were_b107 c_now_grid_size c_now_grid_marks rc67 c_row_length c_row_numbers c_trial_firstFull c_trial_full c_trial_lastFull c_trial_size c_trial_turns c_trial_marks n1 n2 n6 s0 (0 : Int32)
def fX7_were_b67 (c_now_grid_size : Int32) (c_now_grid_marks : Nat → Int32) (rc67 : Int32 → (Nat → Int64) → Int32 → Int32 → Int32 → Int32 → Int32 → (Nat → Int32) → Int32 → Int32 → Int32 → Int32 → Option (Int32 × Int32 × (Nat → Int64) × Int32 × Int32 × Int32 × Int32 × Int32 × (Nat → Int32))) (c_row_length : Int32) (c_row_numbers : Nat → Int64) (c_trial_firstFull : Int32) (c_trial_full : Int32) (c_trial_lastFull : Int32) (c_trial_size : Int32) (c_trial_turns : Int32) (c_trial_marks : Nat → Int32) (n1 : Int32) (n2 : Int32) (n5 : Int32) (n6 : Int32) : Option (Int32 × Int32 × (Nat → Int64) × Int32 × Int32 × Int32 × Int32 × Int32 × (Nat → Int32)) := if (6 : Int32) ≤ n6 then bd4 (fX1_survey c_trial_size c_trial_marks c_trial_firstFull c_trial_full c_trial_lastFull c_trial_turns) fun v1 v2 v3 v4 => bd2 (fX3_tell_ c_row_length c_row_numbers ((v4).toInt64) ((n5).toInt64)) fun v5 v6 => some (v2, v5, v6, v1, v2, v3, c_trial_size, v4, c_trial_marks) else (fX1_turnRound c_trial_size c_trial_marks n1 n2 n6).bind fun v7 => if v7 = 0 then fX7_were_b106 c_now_grid_size c_now_grid_marks rc67 c_row_length c_row_numbers c_trial_firstFull c_trial_full c_trial_lastFull c_trial_size c_trial_turns c_trial_marks n1 n2 n6 n5 else (fX1_turnRound c_now_grid_size c_now_grid_marks n1 n2 n6).bind fun v8 => if v8 = 0 then fX7_were_b107 c_now_grid_size c_now_grid_marks rc67 c_row_length c_row_numbers c_trial_firstFull c_trial_full c_trial_lastFull c_trial_size c_trial_turns c_trial_marks n1 n2 n6 n5 (1 : Int32) else fX7_were_b106 c_now_grid_size c_now_grid_marks rc67 c_row_length c_row_numbers c_trial_firstFull c_trial_full c_trial_lastFull c_trial_size c_trial_turns c_trial_marks n1 n2 n6 n5
def fX7_were (c_now_grid_size : Int32) (c_now_grid_marks : Nat → Int32) (c_row_length : Int32) (c_row_numbers : Nat → Int64) (c_trial_firstFull : Int32) (c_trial_full : Int32) (c_trial_lastFull : Int32) (c_trial_size : Int32) (c_trial_turns : Int32) (c_trial_marks : Nat → Int32) (x1 : Int32) (x2 : Int32) (x3 : Int32) : Option (Int32 × Int32 × (Nat → Int64) × Int32 × Int32 × Int32 × Int32 × Int32 × (Nat → Int32)) := (fX1_has c_now_grid_size x1 x2).bind fun v1 => if v1 = 0 then some ((-1 : Int32), c_row_length, c_row_numbers, c_trial_firstFull, c_trial_full, c_trial_lastFull, c_trial_size, c_trial_turns, c_trial_marks) else (fX7_isGood x3).bind fun v2 => if v2 = 0 then some ((-1 : Int32), c_row_length, c_row_numbers, c_trial_firstFull, c_trial_full, c_trial_lastFull, c_trial_size, c_trial_turns, c_trial_marks) else (fX1_canHave c_now_grid_size x1 x2 x3).bind fun v3 => if v3 = 0 then some ((-4 : Int32), c_row_length, c_row_numbers, c_trial_firstFull, c_trial_full, c_trial_lastFull, c_trial_size, c_trial_turns, c_trial_marks) else bd2 (fX1_copy c_now_grid_size c_now_grid_marks c_trial_size c_trial_marks) fun v4 v5 => (fX1_put v4 v5 x1 x2 x3).bind fun v6 => lfix (fX7_were_b67 c_now_grid_size c_now_grid_marks) (fun _ _ _ _ _ _ _ _ _ _ _ _ => none) FU c_row_length c_row_numbers c_trial_firstFull c_trial_full c_trial_lastFull v4 c_trial_turns v6 x1 x2 (0 : Int32) (0 : Int32)
set_option maxHeartbeats 4000000 in
set_option maxRecDepth 100000 in
theorem tX7_were (l : Launch) (D : va_G) (k : Nat → ClassId) (q_this q_text q_row q_now q_trial q_doors q_history q_kept q_now_grid q_now_rule q_now_grid_marks q_row_numbers q_trial_marks : Nat) (c_now_grid_size : Int32) (c_now_grid_full : Int32) (c_now_grid_turns : Int32) (c_now_grid_firstFull : Int32) (c_now_grid_lastFull : Int32) (c_now_grid_marks : Nat → Int32) (c_row_length : Int32) (c_row_numbers : Nat → Int64) (c_trial_size : Int32) (c_trial_full : Int32) (c_trial_turns : Int32) (c_trial_firstFull : Int32) (c_trial_lastFull : Int32) (c_trial_marks : Nat → Int32) (x1 : Int32) (x2 : Int32) (x3 : Int32) (r_ : Int32) (w_row_length : Int32) (w_row_numbers : Nat → Int64) (w_trial_firstFull : Int32) (w_trial_full : Int32) (w_trial_lastFull : Int32) (w_trial_size : Int32) (w_trial_turns : Int32) (w_trial_marks : Nat → Int32) (hf : fX7_were c_now_grid_size c_now_grid_marks c_row_length c_row_numbers c_trial_firstFull c_trial_full c_trial_lastFull c_trial_size c_trial_turns c_trial_marks x1 x2 x3 = some (r_, w_row_length, w_row_numbers, w_trial_firstFull, w_trial_full, w_trial_lastFull, w_trial_size, w_trial_turns, w_trial_marks)) : MI l yX7_were cX7_were 7 .int (RM 3 81) D k [.ref q_this, .int x1, .int x2, .int x3] [oX7 q_this q_text q_row q_now q_trial q_doors q_history q_kept, oX5 q_now q_now_grid q_now_rule, oX1 q_now_grid q_now_grid_marks c_now_grid_size c_now_grid_full c_now_grid_turns c_now_grid_firstFull c_now_grid_lastFull, aI k q_now_grid_marks 153 c_now_grid_marks, oX3 q_row q_row_numbers c_row_length, aJ k q_row_numbers 16 c_row_numbers, oX1 q_trial q_trial_marks c_trial_size c_trial_full c_trial_turns c_trial_firstFull c_trial_lastFull, aI k q_trial_marks 153 c_trial_marks] r_ [oX7 q_this q_text q_row q_now q_trial q_doors q_history q_kept, oX5 q_now q_now_grid q_now_rule, oX1 q_now_grid q_now_grid_marks c_now_grid_size c_now_grid_full c_now_grid_turns c_now_grid_firstFull c_now_grid_lastFull, aI k q_now_grid_marks 153 c_now_grid_marks, oX3 q_row q_row_numbers w_row_length, aJ k q_row_numbers 16 w_row_numbers, oX1 q_trial q_trial_marks w_trial_size w_trial_full w_trial_turns w_trial_firstFull w_trial_lastFull, aI k q_trial_marks 153 w_trial_marks] := by
  refine mkMI' (own := "DoorWalk") (by decide) rfl (Nat.le_of_ble_eq_true rfl) ?_
  intro p e s m args below meth c Q A hret C
  refine ww_lv (lv' := [(0, .ref q_this), (1, .int x1), (2, .int x2), (3, .int x3)]) [0, 1, 2, 3] rfl ?_
  have hL67 : ∀ (n : Nat) (c_row_length : Int32) (c_row_numbers : Nat → Int64) (c_trial_firstFull : Int32) (c_trial_full : Int32) (c_trial_lastFull : Int32) (c_trial_size : Int32) (c_trial_turns : Int32) (c_trial_marks : Nat → Int32) (n1 : Int32) (n2 : Int32) (n5 : Int32) (n6 : Int32), lfix (fX7_were_b67 c_now_grid_size c_now_grid_marks) (fun _ _ _ _ _ _ _ _ _ _ _ _ => none) n c_row_length c_row_numbers c_trial_firstFull c_trial_full c_trial_lastFull c_trial_size c_trial_turns c_trial_marks n1 n2 n5 n6 = some (r_, w_row_length, w_row_numbers, w_trial_firstFull, w_trial_full, w_trial_lastFull, w_trial_size, w_trial_turns, w_trial_marks) → WW p l e (RM 3 81) s m args below meth c Q 7 D A 0 0 [oX7 q_this q_text q_row q_now q_trial q_doors q_history q_kept, oX5 q_now q_now_grid q_now_rule, oX1 q_now_grid q_now_grid_marks c_now_grid_size c_now_grid_full c_now_grid_turns c_now_grid_firstFull c_now_grid_lastFull, aI k q_now_grid_marks 153 c_now_grid_marks, oX3 q_row q_row_numbers c_row_length, aJ k q_row_numbers 16 c_row_numbers, oX1 q_trial q_trial_marks c_trial_size c_trial_full c_trial_turns c_trial_firstFull c_trial_lastFull, aI k q_trial_marks 153 c_trial_marks] [(0, .ref q_this), (1, .int n1), (2, .int n2), (4, .ref q_now_grid), (5, .int n5), (6, .int n6)] 67 [] := by
    intro n
    induction n with
    | zero => intro c_row_length c_row_numbers c_trial_firstFull c_trial_full c_trial_lastFull c_trial_size c_trial_turns c_trial_marks n1 n2 n5 n6 hf; cases hf
    | succ n ih67 =>
      obtain ⟨rc67, hrc67⟩ : ∃ f9, f9 = lfix (fX7_were_b67 c_now_grid_size c_now_grid_marks) (fun _ _ _ _ _ _ _ _ _ _ _ _ => none) n := ⟨_, rfl⟩
      rw [← hrc67] at ih67
      have hJ107 : ∀ (c_row_length : Int32) (c_row_numbers : Nat → Int64) (c_trial_firstFull : Int32) (c_trial_full : Int32) (c_trial_lastFull : Int32) (c_trial_size : Int32) (c_trial_turns : Int32) (c_trial_marks : Nat → Int32) (n1 : Int32) (n2 : Int32) (n6 : Int32) (s0 : Int32) (s1 : Int32), fX7_were_b107 c_now_grid_size c_now_grid_marks rc67 c_row_length c_row_numbers c_trial_firstFull c_trial_full c_trial_lastFull c_trial_size c_trial_turns c_trial_marks n1 n2 n6 s0 s1 = some (r_, w_row_length, w_row_numbers, w_trial_firstFull, w_trial_full, w_trial_lastFull, w_trial_size, w_trial_turns, w_trial_marks) → WW p l e (RM 3 81) s m args below meth c Q 7 D A 0 0 [oX7 q_this q_text q_row q_now q_trial q_doors q_history q_kept, oX5 q_now q_now_grid q_now_rule, oX1 q_now_grid q_now_grid_marks c_now_grid_size c_now_grid_full c_now_grid_turns c_now_grid_firstFull c_now_grid_lastFull, aI k q_now_grid_marks 153 c_now_grid_marks, oX3 q_row q_row_numbers c_row_length, aJ k q_row_numbers 16 c_row_numbers, oX1 q_trial q_trial_marks c_trial_size c_trial_full c_trial_turns c_trial_firstFull c_trial_lastFull, aI k q_trial_marks 153 c_trial_marks] [(0, .ref q_this), (1, .int n1), (2, .int n2), (4, .ref q_now_grid), (6, .int n6)] 107 [.int s1, .int s0] := by
        intro c_row_length c_row_numbers c_trial_firstFull c_trial_full c_trial_lastFull c_trial_size c_trial_turns c_trial_marks n1 n2 n6 s0 s1
        intro hf
        unfold fX7_were_b107 at hf
        refine ww_iadd (pc := 107) C dX7_were_107  ?_
        obtain ⟨v1, h1, hf⟩ := bsome hf
        refine ww_nmi h1 ?_
        refine ww_istore (pc := 108) (lv' := [(5, .int v1), (0, .ref q_this), (1, .int n1), (2, .int n2), (4, .ref q_now_grid), (6, .int n6)]) C dX7_were_108 (by decide) rfl ?_
        obtain ⟨v2, h2, hf⟩ := bsome hf
        refine ww_iincN (pc := 110) (lv' := [(6, .int v2), (5, .int v1), (0, .ref q_this), (1, .int n1), (2, .int n2), (4, .ref q_now_grid)]) (j := 5) C dX7_were_110 kI_1 rfl h2 (by decide) rfl ?_
        refine ww_goto (pc := 113) (tgt := 67) C dX7_were_113 (by decide) ?_
        exact ww_lv [2, 3, 4, 5, 1, 0] rfl (ih67 c_row_length c_row_numbers c_trial_firstFull c_trial_full c_trial_lastFull c_trial_size c_trial_turns c_trial_marks n1 n2 v1 v2 hf)
      have hJ106 : ∀ (c_row_length : Int32) (c_row_numbers : Nat → Int64) (c_trial_firstFull : Int32) (c_trial_full : Int32) (c_trial_lastFull : Int32) (c_trial_size : Int32) (c_trial_turns : Int32) (c_trial_marks : Nat → Int32) (n1 : Int32) (n2 : Int32) (n6 : Int32) (s0 : Int32), fX7_were_b106 c_now_grid_size c_now_grid_marks rc67 c_row_length c_row_numbers c_trial_firstFull c_trial_full c_trial_lastFull c_trial_size c_trial_turns c_trial_marks n1 n2 n6 s0 = some (r_, w_row_length, w_row_numbers, w_trial_firstFull, w_trial_full, w_trial_lastFull, w_trial_size, w_trial_turns, w_trial_marks) → WW p l e (RM 3 81) s m args below meth c Q 7 D A 0 0 [oX7 q_this q_text q_row q_now q_trial q_doors q_history q_kept, oX5 q_now q_now_grid q_now_rule, oX1 q_now_grid q_now_grid_marks c_now_grid_size c_now_grid_full c_now_grid_turns c_now_grid_firstFull c_now_grid_lastFull, aI k q_now_grid_marks 153 c_now_grid_marks, oX3 q_row q_row_numbers c_row_length, aJ k q_row_numbers 16 c_row_numbers, oX1 q_trial q_trial_marks c_trial_size c_trial_full c_trial_turns c_trial_firstFull c_trial_lastFull, aI k q_trial_marks 153 c_trial_marks] [(0, .ref q_this), (1, .int n1), (2, .int n2), (4, .ref q_now_grid), (6, .int n6)] 106 [.int s0] := by
        intro c_row_length c_row_numbers c_trial_firstFull c_trial_full c_trial_lastFull c_trial_size c_trial_turns c_trial_marks n1 n2 n6 s0
        intro hf
        unfold fX7_were_b106 at hf
        refine ww_iconst (pc := 106) C dX7_were_106 kI_0 ?_
        exact hJ107 c_row_length c_row_numbers c_trial_firstFull c_trial_full c_trial_lastFull c_trial_size c_trial_turns c_trial_marks n1 n2 n6 s0 (0 : Int32) hf
      intro c_row_length c_row_numbers c_trial_firstFull c_trial_full c_trial_lastFull c_trial_size c_trial_turns c_trial_marks n1 n2 n5 n6 hf
      have hf : fX7_were_b67 c_now_grid_size c_now_grid_marks rc67 c_row_length c_row_numbers c_trial_firstFull c_trial_full c_trial_lastFull c_trial_size c_trial_turns c_trial_marks n1 n2 n5 n6 = some (r_, w_row_length, w_row_numbers, w_trial_firstFull, w_trial_full, w_trial_lastFull, w_trial_size, w_trial_turns, w_trial_marks) := by rw [hrc67]; exact hf
      unfold fX7_were_b67 at hf
      refine ww_iload (pc := 67) C dX7_were_67 5 rfl ?_
      refine ww_bipush (pc := 69) C dX7_were_69 kB_6 ?_
      refine ww_icmp_ge (pc := 71) (tgt := 116) C dX7_were_71 (by decide) (fun hc => ?_) (fun hc => ?_)
      · have hf := ifT hc hf
        refine ww_aload_n (pc := 116) C dX7_were_116 rfl 0 rfl ?_
        refine gf7_3 (pc := 117) C kf_X7_33 0 rfl rfl dX7_were_117 ?_
        obtain ⟨v1, v2, v3, v4, h1, hf⟩ := bd4_some hf
        refine ww_callVv (pc := 120) (ws' := [oX7 q_this q_text q_row q_now q_trial q_doors q_history q_kept, oX5 q_now q_now_grid q_now_rule, oX1 q_now_grid q_now_grid_marks c_now_grid_size c_now_grid_full c_now_grid_turns c_now_grid_firstFull c_now_grid_lastFull, aI k q_now_grid_marks 153 c_now_grid_marks, oX3 q_row q_row_numbers c_row_length, aJ k q_row_numbers 16 c_row_numbers, oX1 q_trial q_trial_marks c_trial_size v2 v4 v1 v3, aI k q_trial_marks 153 c_trial_marks]) (As := []) (rest := []) C (tX1_survey l D k q_trial q_trial_marks c_trial_size c_trial_full c_trial_turns c_trial_firstFull c_trial_lastFull c_trial_marks v1 v2 v3 v4 h1) cv_X7_168 ⟨⟨by decide, by decide⟩, rfl, rfl⟩ 6 rfl rfl [6, 7] rfl rfl rfl rfl rfl rfl (Nat.le_of_ble_eq_true rfl) ⟨Nat.zero_le _, Nat.zero_le _⟩ dX7_were_120 ?_
        refine ww_aload_n (pc := 123) C dX7_were_123 rfl 0 rfl ?_
        refine gf7_1 (pc := 124) C kf_X7_19 0 rfl rfl dX7_were_124 ?_
        refine ww_aload_n (pc := 127) C dX7_were_127 rfl 0 rfl ?_
        refine gf7_3 (pc := 128) C kf_X7_33 0 rfl rfl dX7_were_128 ?_
        refine gf1_3 (pc := 131) C kf_X7_171 6 rfl rfl dX7_were_131 ?_
        refine ww_i2l (pc := 134) C dX7_were_134  ?_
        refine ww_iload (pc := 135) C dX7_were_135 4 rfl ?_
        refine ww_i2l (pc := 137) C dX7_were_137  ?_
        obtain ⟨v5, v6, h5, hf⟩ := bd2_some hf
        refine ww_callVv (pc := 138) (ws' := [oX7 q_this q_text q_row q_now q_trial q_doors q_history q_kept, oX5 q_now q_now_grid q_now_rule, oX1 q_now_grid q_now_grid_marks c_now_grid_size c_now_grid_full c_now_grid_turns c_now_grid_firstFull c_now_grid_lastFull, aI k q_now_grid_marks 153 c_now_grid_marks, oX3 q_row q_row_numbers v5, aJ k q_row_numbers 16 v6, oX1 q_trial q_trial_marks c_trial_size v2 v4 v1 v3, aI k q_trial_marks 153 c_trial_marks]) (As := [.long ((v4).toInt64), .long ((n5).toInt64)]) (rest := []) C (tX3_tell_ l D k q_row q_row_numbers c_row_length c_row_numbers ((v4).toInt64) ((n5).toInt64) v5 v6 h5) cv_X7_120 ⟨⟨by decide, by decide⟩, rfl, rfl⟩ 4 rfl rfl [4, 5] rfl rfl rfl rfl rfl rfl (Nat.le_of_ble_eq_true rfl) ⟨Nat.zero_le _, Nat.zero_le _⟩ dX7_were_138 ?_
        refine ww_aload_n (pc := 141) C dX7_were_141 rfl 0 rfl ?_
        refine gf7_3 (pc := 142) C kf_X7_33 0 rfl rfl dX7_were_142 ?_
        refine gf1_2 (pc := 145) C kf_X7_180 6 rfl rfl dX7_were_145 ?_
        obtain ⟨e0, e1, e2, e3, e4, e5, e6, e7, e8⟩ := ij9 hf
        exact hret _ _ 148 _ dX7_were_148 rfl e0 (by rw [← e1, ← e2, ← e3, ← e4, ← e5, ← e6, ← e7, ← e8])
      · have hf := ifF hc hf
        refine ww_iload (pc := 74) C dX7_were_74 4 rfl ?_
        refine ww_aload_n (pc := 76) C dX7_were_76 rfl 0 rfl ?_
        refine gf7_3 (pc := 77) C kf_X7_33 0 rfl rfl dX7_were_77 ?_
        refine ww_iload_n (pc := 80) C dX7_were_80 rfl 1 rfl ?_
        refine ww_iload_n (pc := 81) C dX7_were_81 rfl 2 rfl ?_
        refine ww_iload (pc := 82) C dX7_were_82 5 rfl ?_
        obtain ⟨v7, h7, hf⟩ := bsome hf
        refine ww_callVi0 (pc := 84) (As := [.int n1, .int n2, .int n6]) (rest := [.int n5]) C (tX1_turnRound l D k q_trial q_trial_marks c_trial_size c_trial_full c_trial_turns c_trial_firstFull c_trial_lastFull c_trial_marks n1 n2 n6 v7 h7) cv_X7_339 ⟨⟨by decide, by decide⟩, rfl, rfl⟩ 6 rfl rfl [6, 7] rfl rfl rfl rfl (Nat.le_of_ble_eq_true rfl) ⟨Nat.zero_le _, Nat.zero_le _⟩ dX7_were_84 (fun hb7 => ?_)
        refine ww_if_eq (pc := 87) (tgt := 106) C dX7_were_87 (by decide) (fun hc => ?_) (fun hc => ?_)
        · have hf := ifT hc hf
          exact ww_lv [0, 1, 2, 3, 5] rfl (hJ106 c_row_length c_row_numbers c_trial_firstFull c_trial_full c_trial_lastFull c_trial_size c_trial_turns c_trial_marks n1 n2 n6 n5 hf)
        · have hf := ifF hc hf
          refine ww_aload (pc := 90) C dX7_were_90 3 rfl ?_
          refine ww_iload_n (pc := 92) C dX7_were_92 rfl 1 rfl ?_
          refine ww_iload_n (pc := 93) C dX7_were_93 rfl 2 rfl ?_
          refine ww_iload (pc := 94) C dX7_were_94 5 rfl ?_
          obtain ⟨v8, h8, hf⟩ := bsome hf
          refine ww_callVi0 (pc := 96) (As := [.int n1, .int n2, .int n6]) (rest := [.int n5]) C (tX1_turnRound l D k q_now_grid q_now_grid_marks c_now_grid_size c_now_grid_full c_now_grid_turns c_now_grid_firstFull c_now_grid_lastFull c_now_grid_marks n1 n2 n6 v8 h8) cv_X7_339 ⟨⟨by decide, by decide⟩, rfl, rfl⟩ 2 rfl rfl [2, 3] rfl rfl rfl rfl (Nat.le_of_ble_eq_true rfl) ⟨Nat.zero_le _, Nat.zero_le _⟩ dX7_were_96 (fun hb8 => ?_)
          refine ww_if_ne (pc := 99) (tgt := 106) C dX7_were_99 (by decide) (fun hc => ?_) (fun hc => ?_)
          · have hf := ifF hc hf
            exact ww_lv [0, 1, 2, 3, 5] rfl (hJ106 c_row_length c_row_numbers c_trial_firstFull c_trial_full c_trial_lastFull c_trial_size c_trial_turns c_trial_marks n1 n2 n6 n5 hf)
          · have hf := ifT hc hf
            refine ww_iconst (pc := 102) C dX7_were_102 kI_1 ?_
            refine ww_goto (pc := 103) (tgt := 107) C dX7_were_103 (by decide) ?_
            exact ww_lv [0, 1, 2, 3, 5] rfl (hJ107 c_row_length c_row_numbers c_trial_firstFull c_trial_full c_trial_lastFull c_trial_size c_trial_turns c_trial_marks n1 n2 n6 n5 (1 : Int32) hf)
  unfold fX7_were at hf
  refine ww_aload_n (pc := 0) C dX7_were_0 rfl 0 rfl ?_
  refine gf7_2 (pc := 1) C kf_X7_26 0 rfl rfl dX7_were_1 ?_
  refine gf5_0 (pc := 4) C kf_X7_74 1 rfl rfl dX7_were_4 ?_
  refine ww_astore (pc := 7) (lv' := [(4, .ref q_now_grid), (0, .ref q_this), (1, .int x1), (2, .int x2), (3, .int x3)]) C dX7_were_7 (by decide) rfl ?_
  refine ww_aload (pc := 9) C dX7_were_9 0 rfl ?_
  refine ww_iload_n (pc := 11) C dX7_were_11 rfl 2 rfl ?_
  refine ww_iload_n (pc := 12) C dX7_were_12 rfl 3 rfl ?_
  obtain ⟨v1, h1, hf⟩ := bsome hf
  refine ww_callVi0 (pc := 13) (As := [.int x1, .int x2]) (rest := []) C (tX1_has l D k q_now_grid q_now_grid_marks c_now_grid_size c_now_grid_full c_now_grid_turns c_now_grid_firstFull c_now_grid_lastFull x1 x2 v1 h1) cv_X7_132 ⟨⟨by decide, by decide⟩, rfl, rfl⟩ 2 rfl rfl [2] rfl rfl rfl rfl (Nat.le_of_ble_eq_true rfl) ⟨Nat.zero_le _, Nat.zero_le _⟩ dX7_were_13 (fun hb1 => ?_)
  refine ww_if_eq (pc := 16) (tgt := 26) C dX7_were_16 (by decide) (fun hc => ?_) (fun hc => ?_)
  · have hf := ifT hc hf
    refine ww_iconst (pc := 26) C dX7_were_26 kI_m1 ?_
    obtain ⟨e0, e1, e2, e3, e4, e5, e6, e7, e8⟩ := ij9 hf
    exact hret _ _ 27 _ dX7_were_27 rfl e0 (by rw [← e1, ← e2, ← e3, ← e4, ← e5, ← e6, ← e7, ← e8])
  · have hf := ifF hc hf
    refine ww_iload_n (pc := 19) C dX7_were_19 rfl 4 rfl ?_
    obtain ⟨v2, h2, hf⟩ := bsome hf
    refine ww_callSi0 (pc := 20) (As := [.int x3]) (rest := []) C (tX7_isGood l D k x3 v2 h2) cs_X7_195 ⟨⟨by decide, by decide⟩, rfl, rfl⟩ [] rfl rfl rfl rfl (Nat.le_of_ble_eq_true rfl) ⟨Nat.zero_le _, Nat.zero_le _⟩ dX7_were_20 (fun hb2 => ?_)
    refine ww_if_ne (pc := 23) (tgt := 28) C dX7_were_23 (by decide) (fun hc => ?_) (fun hc => ?_)
    · have hf := ifF hc hf
      refine ww_aload (pc := 28) C dX7_were_28 0 rfl ?_
      refine ww_iload_n (pc := 30) C dX7_were_30 rfl 2 rfl ?_
      refine ww_iload_n (pc := 31) C dX7_were_31 rfl 3 rfl ?_
      refine ww_iload_n (pc := 32) C dX7_were_32 rfl 4 rfl ?_
      obtain ⟨v3, h3, hf⟩ := bsome hf
      refine ww_callVi0 (pc := 33) (As := [.int x1, .int x2, .int x3]) (rest := []) C (tX1_canHave l D k q_now_grid q_now_grid_marks c_now_grid_size c_now_grid_full c_now_grid_turns c_now_grid_firstFull c_now_grid_lastFull x1 x2 x3 v3 h3) cv_X7_331 ⟨⟨by decide, by decide⟩, rfl, rfl⟩ 2 rfl rfl [2] rfl rfl rfl rfl (Nat.le_of_ble_eq_true rfl) ⟨Nat.zero_le _, Nat.zero_le _⟩ dX7_were_33 (fun hb3 => ?_)
      refine ww_if_ne (pc := 36) (tgt := 42) C dX7_were_36 (by decide) (fun hc => ?_) (fun hc => ?_)
      · have hf := ifF hc hf
        refine ww_aload_n (pc := 42) C dX7_were_42 rfl 1 rfl ?_
        refine gf7_3 (pc := 43) C kf_X7_33 0 rfl rfl dX7_were_43 ?_
        refine ww_aload (pc := 46) C dX7_were_46 0 rfl ?_
        obtain ⟨v4, v5, h4, hf⟩ := bd2_some hf
        refine ww_callVv (pc := 48) (ws' := [oX7 q_this q_text q_row q_now q_trial q_doors q_history q_kept, oX5 q_now q_now_grid q_now_rule, oX1 q_now_grid q_now_grid_marks c_now_grid_size c_now_grid_full c_now_grid_turns c_now_grid_firstFull c_now_grid_lastFull, aI k q_now_grid_marks 153 c_now_grid_marks, oX3 q_row q_row_numbers c_row_length, aJ k q_row_numbers 16 c_row_numbers, oX1 q_trial q_trial_marks v4 c_trial_full c_trial_turns c_trial_firstFull c_trial_lastFull, aI k q_trial_marks 153 v5]) (As := [.ref q_now_grid]) (rest := []) C (tX1_copy l D k q_trial q_trial_marks q_now_grid q_now_grid_marks c_trial_size c_trial_full c_trial_turns c_trial_firstFull c_trial_lastFull c_trial_marks c_now_grid_size c_now_grid_full c_now_grid_turns c_now_grid_firstFull c_now_grid_lastFull c_now_grid_marks v4 v5 h4) cv_X7_77 ⟨⟨by decide, by decide⟩, rfl, rfl⟩ 6 rfl rfl [6, 7, 2, 3] rfl rfl rfl rfl rfl rfl (Nat.le_of_ble_eq_true rfl) ⟨Nat.zero_le _, Nat.zero_le _⟩ dX7_were_48 ?_
        refine ww_aload_n (pc := 51) C dX7_were_51 rfl 1 rfl ?_
        refine gf7_3 (pc := 52) C kf_X7_33 0 rfl rfl dX7_were_52 ?_
        refine ww_iload_n (pc := 55) C dX7_were_55 rfl 2 rfl ?_
        refine ww_iload_n (pc := 56) C dX7_were_56 rfl 3 rfl ?_
        refine ww_iload_n (pc := 57) C dX7_were_57 rfl 4 rfl ?_
        obtain ⟨v6, h6, hf⟩ := bsome hf
        refine ww_callVv (pc := 58) (ws' := [oX7 q_this q_text q_row q_now q_trial q_doors q_history q_kept, oX5 q_now q_now_grid q_now_rule, oX1 q_now_grid q_now_grid_marks c_now_grid_size c_now_grid_full c_now_grid_turns c_now_grid_firstFull c_now_grid_lastFull, aI k q_now_grid_marks 153 c_now_grid_marks, oX3 q_row q_row_numbers c_row_length, aJ k q_row_numbers 16 c_row_numbers, oX1 q_trial q_trial_marks v4 c_trial_full c_trial_turns c_trial_firstFull c_trial_lastFull, aI k q_trial_marks 153 v6]) (As := [.int x1, .int x2, .int x3]) (rest := []) C (tX1_put l D k q_trial q_trial_marks v4 c_trial_full c_trial_turns c_trial_firstFull c_trial_lastFull v5 x1 x2 x3 v6 h6) cv_X7_335 ⟨⟨by decide, by decide⟩, rfl, rfl⟩ 6 rfl rfl [6, 7] rfl rfl rfl rfl rfl rfl (Nat.le_of_ble_eq_true rfl) ⟨Nat.zero_le _, Nat.zero_le _⟩ dX7_were_58 ?_
        refine ww_iconst (pc := 61) C dX7_were_61 kI_0 ?_
        refine ww_istore (pc := 62) (lv' := [(5, .int (0 : Int32)), (4, .ref q_now_grid), (0, .ref q_this), (1, .int x1), (2, .int x2), (3, .int x3)]) C dX7_were_62 (by decide) rfl ?_
        refine ww_iconst (pc := 64) C dX7_were_64 kI_0 ?_
        refine ww_istore (pc := 65) (lv' := [(6, .int (0 : Int32)), (5, .int (0 : Int32)), (4, .ref q_now_grid), (0, .ref q_this), (1, .int x1), (2, .int x2), (3, .int x3)]) C dX7_were_65 (by decide) rfl ?_
        exact ww_lv [3, 4, 5, 2, 1, 0] rfl (hL67 FU c_row_length c_row_numbers c_trial_firstFull c_trial_full c_trial_lastFull v4 c_trial_turns v6 x1 x2 (0 : Int32) (0 : Int32) hf)
      · have hf := ifT hc hf
        refine ww_bipush (pc := 39) C dX7_were_39 kB_m4 ?_
        obtain ⟨e0, e1, e2, e3, e4, e5, e6, e7, e8⟩ := ij9 hf
        exact hret _ _ 41 _ dX7_were_41 rfl e0 (by rw [← e1, ← e2, ← e3, ← e4, ← e5, ← e6, ← e7, ← e8])
    · have hf := ifT hc hf
      refine ww_iconst (pc := 26) C dX7_were_26 kI_m1 ?_
      obtain ⟨e0, e1, e2, e3, e4, e5, e6, e7, e8⟩ := ij9 hf
      exact hret _ _ 27 _ dX7_were_27 rfl e0 (by rw [← e1, ← e2, ← e3, ← e4, ← e5, ← e6, ← e7, ← e8])
def fX7_looseLabel_b11 (c_now_grid_size : Int32) (rc11 : (Nat → Int32) → Int32 → Int32 → Int32 → Option (Int32 × (Nat → Int32))) (c_now_grid_marks : Nat → Int32) (n1 : Int32) (n2 : Int32) (n4 : Int32) : Option (Int32 × (Nat → Int32)) := if (3 : Int32) ≤ n4 then some ((-1 : Int32), c_now_grid_marks) else (fX1_labelAt c_now_grid_size c_now_grid_marks n1 n2).bind fun v1 => if n4 = v1 then (some (n4 + (1 : Int32))).bind fun v2 => rc11 c_now_grid_marks n1 n2 v2 else (fX1_canHave c_now_grid_size n1 n2 n4).bind fun v3 => if v3 = 0 then (some (n4 + (1 : Int32))).bind fun v4 => rc11 c_now_grid_marks n1 n2 v4 else bd2 (fX1_gain c_now_grid_size c_now_grid_marks n1 n2 n4) fun v5 v6 => if v5 < 0 then (some (n4 + (1 : Int32))).bind fun v7 => rc11 v6 n1 n2 v7 else some (n4, v6)
def fX7_looseLabel (c_now_grid_size : Int32) (c_now_grid_marks : Nat → Int32) (x1 : Int32) (x2 : Int32) : Option (Int32 × (Nat → Int32)) := lfix (fX7_looseLabel_b11 c_now_grid_size) (fun _ _ _ _ => none) FU c_now_grid_marks x1 x2 (0 : Int32)
set_option maxHeartbeats 4000000 in
set_option maxRecDepth 100000 in
theorem tX7_looseLabel (l : Launch) (D : va_G) (k : Nat → ClassId) (q_this q_text q_row q_now q_trial q_doors q_history q_kept q_now_grid q_now_rule q_now_grid_marks : Nat) (c_now_grid_size : Int32) (c_now_grid_full : Int32) (c_now_grid_turns : Int32) (c_now_grid_firstFull : Int32) (c_now_grid_lastFull : Int32) (c_now_grid_marks : Nat → Int32) (x1 : Int32) (x2 : Int32) (r_ : Int32) (w_now_grid_marks : Nat → Int32) (hf : fX7_looseLabel c_now_grid_size c_now_grid_marks x1 x2 = some (r_, w_now_grid_marks)) : MI l yX7_looseLabel cX7_looseLabel 5 .int (RM 5 120) D k [.ref q_this, .int x1, .int x2] [oX7 q_this q_text q_row q_now q_trial q_doors q_history q_kept, oX5 q_now q_now_grid q_now_rule, oX1 q_now_grid q_now_grid_marks c_now_grid_size c_now_grid_full c_now_grid_turns c_now_grid_firstFull c_now_grid_lastFull, aI k q_now_grid_marks 153 c_now_grid_marks] r_ [oX7 q_this q_text q_row q_now q_trial q_doors q_history q_kept, oX5 q_now q_now_grid q_now_rule, oX1 q_now_grid q_now_grid_marks c_now_grid_size c_now_grid_full c_now_grid_turns c_now_grid_firstFull c_now_grid_lastFull, aI k q_now_grid_marks 153 w_now_grid_marks] := by
  refine mkMI' (own := "DoorWalk") (by decide) rfl (Nat.le_of_ble_eq_true rfl) ?_
  intro p e s m args below meth c Q A hret C
  refine ww_lv (lv' := [(0, .ref q_this), (1, .int x1), (2, .int x2)]) [0, 1, 2] rfl ?_
  have hL11 : ∀ (n : Nat) (c_now_grid_marks : Nat → Int32) (n1 : Int32) (n2 : Int32) (n4 : Int32), lfix (fX7_looseLabel_b11 c_now_grid_size) (fun _ _ _ _ => none) n c_now_grid_marks n1 n2 n4 = some (r_, w_now_grid_marks) → WW p l e (RM 5 120) s m args below meth c Q 5 D A 0 0 [oX7 q_this q_text q_row q_now q_trial q_doors q_history q_kept, oX5 q_now q_now_grid q_now_rule, oX1 q_now_grid q_now_grid_marks c_now_grid_size c_now_grid_full c_now_grid_turns c_now_grid_firstFull c_now_grid_lastFull, aI k q_now_grid_marks 153 c_now_grid_marks] [(1, .int n1), (2, .int n2), (3, .ref q_now_grid), (4, .int n4)] 11 [] := by
    intro n
    induction n with
    | zero => intro c_now_grid_marks n1 n2 n4 hf; cases hf
    | succ n ih11 =>
      obtain ⟨rc11, hrc11⟩ : ∃ f9, f9 = lfix (fX7_looseLabel_b11 c_now_grid_size) (fun _ _ _ _ => none) n := ⟨_, rfl⟩
      rw [← hrc11] at ih11
      intro c_now_grid_marks n1 n2 n4 hf
      have hf : fX7_looseLabel_b11 c_now_grid_size rc11 c_now_grid_marks n1 n2 n4 = some (r_, w_now_grid_marks) := by rw [hrc11]; exact hf
      unfold fX7_looseLabel_b11 at hf
      refine ww_iload (pc := 11) C dX7_looseLabel_11 3 rfl ?_
      refine ww_iconst (pc := 13) C dX7_looseLabel_13 kI_3 ?_
      refine ww_icmp_ge (pc := 14) (tgt := 59) C dX7_looseLabel_14 (by decide) (fun hc => ?_) (fun hc => ?_)
      · have hf := ifT hc hf
        refine ww_iconst (pc := 59) C dX7_looseLabel_59 kI_m1 ?_
        obtain ⟨e0, e1⟩ := ij2 hf
        exact hret _ _ 60 _ dX7_looseLabel_60 rfl e0 (by rw [← e1])
      · have hf := ifF hc hf
        refine ww_iload (pc := 17) C dX7_looseLabel_17 3 rfl ?_
        refine ww_aload_n (pc := 19) C dX7_looseLabel_19 rfl 2 rfl ?_
        refine ww_iload_n (pc := 20) C dX7_looseLabel_20 rfl 0 rfl ?_
        refine ww_iload_n (pc := 21) C dX7_looseLabel_21 rfl 1 rfl ?_
        obtain ⟨v1, h1, hf⟩ := bsome hf
        refine ww_callVi0 (pc := 22) (As := [.int n1, .int n2]) (rest := [.int n4]) C (tX1_labelAt l D k q_now_grid q_now_grid_marks c_now_grid_size c_now_grid_full c_now_grid_turns c_now_grid_firstFull c_now_grid_lastFull c_now_grid_marks n1 n2 v1 h1) cv_X7_143 ⟨⟨by decide, by decide⟩, rfl, rfl⟩ 2 rfl rfl [2, 3] rfl rfl rfl rfl (Nat.le_of_ble_eq_true rfl) ⟨Nat.zero_le _, Nat.zero_le _⟩ dX7_looseLabel_22 (fun hb1 => ?_)
        refine ww_icmp_eq (pc := 25) (tgt := 53) C dX7_looseLabel_25 (by decide) (fun hc => ?_) (fun hc => ?_)
        · have hf := ifT hc hf
          obtain ⟨v2, h2, hf⟩ := bsome hf
          refine ww_iincN (pc := 53) (lv' := [(4, .int v2), (1, .int n1), (2, .int n2), (3, .ref q_now_grid)]) (j := 3) C dX7_looseLabel_53 kI_1 rfl h2 (by decide) rfl ?_
          refine ww_goto (pc := 56) (tgt := 11) C dX7_looseLabel_56 (by decide) ?_
          exact ww_lv [1, 2, 3, 0] rfl (ih11 c_now_grid_marks n1 n2 v2 hf)
        · have hf := ifF hc hf
          refine ww_aload_n (pc := 28) C dX7_looseLabel_28 rfl 2 rfl ?_
          refine ww_iload_n (pc := 29) C dX7_looseLabel_29 rfl 0 rfl ?_
          refine ww_iload_n (pc := 30) C dX7_looseLabel_30 rfl 1 rfl ?_
          refine ww_iload (pc := 31) C dX7_looseLabel_31 3 rfl ?_
          obtain ⟨v3, h3, hf⟩ := bsome hf
          refine ww_callVi0 (pc := 33) (As := [.int n1, .int n2, .int n4]) (rest := []) C (tX1_canHave l D k q_now_grid q_now_grid_marks c_now_grid_size c_now_grid_full c_now_grid_turns c_now_grid_firstFull c_now_grid_lastFull n1 n2 n4 v3 h3) cv_X7_331 ⟨⟨by decide, by decide⟩, rfl, rfl⟩ 2 rfl rfl [2] rfl rfl rfl rfl (Nat.le_of_ble_eq_true rfl) ⟨Nat.zero_le _, Nat.zero_le _⟩ dX7_looseLabel_33 (fun hb3 => ?_)
          refine ww_if_eq (pc := 36) (tgt := 53) C dX7_looseLabel_36 (by decide) (fun hc => ?_) (fun hc => ?_)
          · have hf := ifT hc hf
            obtain ⟨v4, h4, hf⟩ := bsome hf
            refine ww_iincN (pc := 53) (lv' := [(4, .int v4), (1, .int n1), (2, .int n2), (3, .ref q_now_grid)]) (j := 3) C dX7_looseLabel_53 kI_1 rfl h4 (by decide) rfl ?_
            refine ww_goto (pc := 56) (tgt := 11) C dX7_looseLabel_56 (by decide) ?_
            exact ww_lv [1, 2, 3, 0] rfl (ih11 c_now_grid_marks n1 n2 v4 hf)
          · have hf := ifF hc hf
            refine ww_aload_n (pc := 39) C dX7_looseLabel_39 rfl 2 rfl ?_
            refine ww_iload_n (pc := 40) C dX7_looseLabel_40 rfl 0 rfl ?_
            refine ww_iload_n (pc := 41) C dX7_looseLabel_41 rfl 1 rfl ?_
            refine ww_iload (pc := 42) C dX7_looseLabel_42 3 rfl ?_
            obtain ⟨v5, v6, h5, hf⟩ := bd2_some hf
            refine ww_callVi (pc := 44) (ws' := [oX7 q_this q_text q_row q_now q_trial q_doors q_history q_kept, oX5 q_now q_now_grid q_now_rule, oX1 q_now_grid q_now_grid_marks c_now_grid_size c_now_grid_full c_now_grid_turns c_now_grid_firstFull c_now_grid_lastFull, aI k q_now_grid_marks 153 v6]) (As := [.int n1, .int n2, .int n4]) (rest := []) C (tX1_gain l D k q_now_grid q_now_grid_marks c_now_grid_size c_now_grid_full c_now_grid_turns c_now_grid_firstFull c_now_grid_lastFull c_now_grid_marks n1 n2 n4 v5 v6 h5) cv_X7_422 ⟨⟨by decide, by decide⟩, rfl, rfl⟩ 2 rfl rfl [2, 3] rfl rfl rfl rfl rfl rfl (Nat.le_of_ble_eq_true rfl) ⟨Nat.zero_le _, Nat.zero_le _⟩ dX7_looseLabel_44 (fun hb5 => ?_)
            refine ww_if_lt (pc := 47) (tgt := 53) C dX7_looseLabel_47 (by decide) (fun hc => ?_) (fun hc => ?_)
            · have hf := ifT hc hf
              obtain ⟨v7, h7, hf⟩ := bsome hf
              refine ww_iincN (pc := 53) (lv' := [(4, .int v7), (1, .int n1), (2, .int n2), (3, .ref q_now_grid)]) (j := 3) C dX7_looseLabel_53 kI_1 rfl h7 (by decide) rfl ?_
              refine ww_goto (pc := 56) (tgt := 11) C dX7_looseLabel_56 (by decide) ?_
              exact ww_lv [1, 2, 3, 0] rfl (ih11 v6 n1 n2 v7 hf)
            · have hf := ifF hc hf
              refine ww_iload (pc := 50) C dX7_looseLabel_50 3 rfl ?_
              obtain ⟨e0, e1⟩ := ij2 hf
              exact hret _ _ 52 _ dX7_looseLabel_52 rfl e0 (by rw [← e1])
  unfold fX7_looseLabel at hf
  refine ww_aload_n (pc := 0) C dX7_looseLabel_0 rfl 0 rfl ?_
  refine gf7_2 (pc := 1) C kf_X7_26 0 rfl rfl dX7_looseLabel_1 ?_
  refine gf5_0 (pc := 4) C kf_X7_74 1 rfl rfl dX7_looseLabel_4 ?_
  refine ww_astore_n (pc := 7) (lv' := [(3, .ref q_now_grid), (0, .ref q_this), (1, .int x1), (2, .int x2)]) C dX7_looseLabel_7 rfl (by decide) rfl ?_
  refine ww_iconst (pc := 8) C dX7_looseLabel_8 kI_0 ?_
  refine ww_istore (pc := 9) (lv' := [(4, .int (0 : Int32)), (3, .ref q_now_grid), (0, .ref q_this), (1, .int x1), (2, .int x2)]) C dX7_looseLabel_9 (by decide) rfl ?_
  exact ww_lv [3, 4, 1, 0] rfl (hL11 FU c_now_grid_marks x1 x2 (0 : Int32) hf)
def fX7_hangs_b89 (c_now_grid_size : Int32) (rc41 : (Nat → Int32) → Int32 → (Nat → Int64) → Int32 → Int32 → Int32 → Option (Int32 × (Nat → Int32) × Int32 × (Nat → Int64))) (c_now_grid_marks : Nat → Int32) (c_row_length : Int32) (c_row_numbers : Nat → Int64) (n1 : Int32) (n4 : Int32) (s0 : Int32) (s1 : Int32) : Option (Int32 × (Nat → Int32) × Int32 × (Nat → Int64)) := (some (s0 + s1)).bind fun v1 => (some (n4 + (1 : Int32))).bind fun v2 => rc41 c_now_grid_marks c_row_length c_row_numbers n1 v1 v2
def fX7_hangs_b41 (c_now_grid_size : Int32) (rc41 : (Nat → Int32) → Int32 → (Nat → Int64) → Int32 → Int32 → Int32 → Option (Int32 × (Nat → Int32) × Int32 × (Nat → Int64))) (c_now_grid_marks : Nat → Int32) (c_row_length : Int32) (c_row_numbers : Nat → Int64) (n1 : Int32) (n3 : Int32) (n4 : Int32) : Option (Int32 × (Nat → Int32) × Int32 × (Nat → Int64)) := if (3 : Int32) ≤ n4 then some (n3, c_now_grid_marks, c_row_length, c_row_numbers) else (fX1_cornerI c_now_grid_size n1 n4).bind fun v1 => (fX1_cornerJ c_now_grid_size n1 n4).bind fun v2 => bd2 (fX7_looseLabel c_now_grid_size c_now_grid_marks v1 v2) fun v3 v4 => bd2 (fX3_add c_row_length c_row_numbers ((v3).toInt64)) fun v5 v6 => if v3 = (-1 : Int32) then fX7_hangs_b89 c_now_grid_size rc41 v4 v5 v6 n1 n4 n3 (0 : Int32) else fX7_hangs_b89 c_now_grid_size rc41 v4 v5 v6 n1 n4 n3 (1 : Int32)
def fX7_hangs (c_now_grid_size : Int32) (c_now_grid_marks : Nat → Int32) (c_row_length : Int32) (c_row_numbers : Nat → Int64) (x1 : Int32) : Option (Int32 × (Nat → Int32) × Int32 × (Nat → Int64)) := (fX1_isCell c_now_grid_size x1).bind fun v1 => if v1 = 0 then some ((-1 : Int32), c_now_grid_marks, c_row_length, c_row_numbers) else (fX1_turn c_now_grid_size c_now_grid_marks x1).bind fun v2 => if v2 = 0 then some ((-2 : Int32), c_now_grid_marks, c_row_length, c_row_numbers) else (fX3_clear c_row_length).bind fun v3 => lfix (fX7_hangs_b41 c_now_grid_size) (fun _ _ _ _ _ _ => none) FU c_now_grid_marks v3 c_row_numbers x1 (0 : Int32) (0 : Int32)
set_option maxHeartbeats 4000000 in
set_option maxRecDepth 100000 in
theorem tX7_hangs (l : Launch) (D : va_G) (k : Nat → ClassId) (q_this q_text q_row q_now q_trial q_doors q_history q_kept q_now_grid q_now_rule q_now_grid_marks q_row_numbers : Nat) (c_now_grid_size : Int32) (c_now_grid_full : Int32) (c_now_grid_turns : Int32) (c_now_grid_firstFull : Int32) (c_now_grid_lastFull : Int32) (c_now_grid_marks : Nat → Int32) (c_row_length : Int32) (c_row_numbers : Nat → Int64) (x1 : Int32) (r_ : Int32) (w_now_grid_marks : Nat → Int32) (w_row_length : Int32) (w_row_numbers : Nat → Int64) (hf : fX7_hangs c_now_grid_size c_now_grid_marks c_row_length c_row_numbers x1 = some (r_, w_now_grid_marks, w_row_length, w_row_numbers)) : MI l yX7_hangs cX7_hangs 6 .int (RM 6 144) D k [.ref q_this, .int x1] [oX7 q_this q_text q_row q_now q_trial q_doors q_history q_kept, oX5 q_now q_now_grid q_now_rule, oX1 q_now_grid q_now_grid_marks c_now_grid_size c_now_grid_full c_now_grid_turns c_now_grid_firstFull c_now_grid_lastFull, aI k q_now_grid_marks 153 c_now_grid_marks, oX3 q_row q_row_numbers c_row_length, aJ k q_row_numbers 16 c_row_numbers] r_ [oX7 q_this q_text q_row q_now q_trial q_doors q_history q_kept, oX5 q_now q_now_grid q_now_rule, oX1 q_now_grid q_now_grid_marks c_now_grid_size c_now_grid_full c_now_grid_turns c_now_grid_firstFull c_now_grid_lastFull, aI k q_now_grid_marks 153 w_now_grid_marks, oX3 q_row q_row_numbers w_row_length, aJ k q_row_numbers 16 w_row_numbers] := by
  refine mkMI' (own := "DoorWalk") (by decide) rfl (Nat.le_of_ble_eq_true rfl) ?_
  intro p e s m args below meth c Q A hret C
  refine ww_lv (lv' := [(0, .ref q_this), (1, .int x1)]) [0, 1] rfl ?_
  have hL41 : ∀ (n : Nat) (c_now_grid_marks : Nat → Int32) (c_row_length : Int32) (c_row_numbers : Nat → Int64) (n1 : Int32) (n3 : Int32) (n4 : Int32), lfix (fX7_hangs_b41 c_now_grid_size) (fun _ _ _ _ _ _ => none) n c_now_grid_marks c_row_length c_row_numbers n1 n3 n4 = some (r_, w_now_grid_marks, w_row_length, w_row_numbers) → WW p l e (RM 6 144) s m args below meth c Q 6 D A 0 0 [oX7 q_this q_text q_row q_now q_trial q_doors q_history q_kept, oX5 q_now q_now_grid q_now_rule, oX1 q_now_grid q_now_grid_marks c_now_grid_size c_now_grid_full c_now_grid_turns c_now_grid_firstFull c_now_grid_lastFull, aI k q_now_grid_marks 153 c_now_grid_marks, oX3 q_row q_row_numbers c_row_length, aJ k q_row_numbers 16 c_row_numbers] [(0, .ref q_this), (1, .int n1), (2, .ref q_now_grid), (3, .int n3), (4, .int n4)] 41 [] := by
    intro n
    induction n with
    | zero => intro c_now_grid_marks c_row_length c_row_numbers n1 n3 n4 hf; cases hf
    | succ n ih41 =>
      obtain ⟨rc41, hrc41⟩ : ∃ f9, f9 = lfix (fX7_hangs_b41 c_now_grid_size) (fun _ _ _ _ _ _ => none) n := ⟨_, rfl⟩
      rw [← hrc41] at ih41
      have hJ89 : ∀ (c_now_grid_marks : Nat → Int32) (c_row_length : Int32) (c_row_numbers : Nat → Int64) (n1 : Int32) (n4 : Int32) (s0 : Int32) (s1 : Int32), fX7_hangs_b89 c_now_grid_size rc41 c_now_grid_marks c_row_length c_row_numbers n1 n4 s0 s1 = some (r_, w_now_grid_marks, w_row_length, w_row_numbers) → WW p l e (RM 6 144) s m args below meth c Q 6 D A 0 0 [oX7 q_this q_text q_row q_now q_trial q_doors q_history q_kept, oX5 q_now q_now_grid q_now_rule, oX1 q_now_grid q_now_grid_marks c_now_grid_size c_now_grid_full c_now_grid_turns c_now_grid_firstFull c_now_grid_lastFull, aI k q_now_grid_marks 153 c_now_grid_marks, oX3 q_row q_row_numbers c_row_length, aJ k q_row_numbers 16 c_row_numbers] [(0, .ref q_this), (1, .int n1), (2, .ref q_now_grid), (4, .int n4)] 89 [.int s1, .int s0] := by
        intro c_now_grid_marks c_row_length c_row_numbers n1 n4 s0 s1
        intro hf
        unfold fX7_hangs_b89 at hf
        refine ww_iadd (pc := 89) C dX7_hangs_89  ?_
        obtain ⟨v1, h1, hf⟩ := bsome hf
        refine ww_nmi h1 ?_
        refine ww_istore_n (pc := 90) (lv' := [(3, .int v1), (0, .ref q_this), (1, .int n1), (2, .ref q_now_grid), (4, .int n4)]) C dX7_hangs_90 rfl (by decide) rfl ?_
        obtain ⟨v2, h2, hf⟩ := bsome hf
        refine ww_iincN (pc := 91) (lv' := [(4, .int v2), (3, .int v1), (0, .ref q_this), (1, .int n1), (2, .ref q_now_grid)]) (j := 4) C dX7_hangs_91 kI_1 rfl h2 (by decide) rfl ?_
        refine ww_goto (pc := 94) (tgt := 41) C dX7_hangs_94 (by decide) ?_
        exact ww_lv [2, 3, 4, 1, 0] rfl (ih41 c_now_grid_marks c_row_length c_row_numbers n1 v1 v2 hf)
      intro c_now_grid_marks c_row_length c_row_numbers n1 n3 n4 hf
      have hf : fX7_hangs_b41 c_now_grid_size rc41 c_now_grid_marks c_row_length c_row_numbers n1 n3 n4 = some (r_, w_now_grid_marks, w_row_length, w_row_numbers) := by rw [hrc41]; exact hf
      unfold fX7_hangs_b41 at hf
      refine ww_iload (pc := 41) C dX7_hangs_41 4 rfl ?_
      refine ww_iconst (pc := 43) C dX7_hangs_43 kI_3 ?_
      refine ww_icmp_ge (pc := 44) (tgt := 97) C dX7_hangs_44 (by decide) (fun hc => ?_) (fun hc => ?_)
      · have hf := ifT hc hf
        refine ww_iload_n (pc := 97) C dX7_hangs_97 rfl 3 rfl ?_
        obtain ⟨e0, e1, e2, e3⟩ := ij4 hf
        exact hret _ _ 98 _ dX7_hangs_98 rfl e0 (by rw [← e1, ← e2, ← e3])
      · have hf := ifF hc hf
        refine ww_aload_n (pc := 47) C dX7_hangs_47 rfl 0 rfl ?_
        refine ww_aload_n (pc := 48) C dX7_hangs_48 rfl 2 rfl ?_
        refine ww_iload_n (pc := 49) C dX7_hangs_49 rfl 1 rfl ?_
        refine ww_iload (pc := 50) C dX7_hangs_50 4 rfl ?_
        obtain ⟨v1, h1, hf⟩ := bsome hf
        refine ww_callVi0 (pc := 52) (As := [.int n1, .int n4]) (rest := [.ref q_this]) C (tX1_cornerI l D k q_now_grid q_now_grid_marks c_now_grid_size c_now_grid_full c_now_grid_turns c_now_grid_firstFull c_now_grid_lastFull n1 n4 v1 h1) cv_X7_309 ⟨⟨by decide, by decide⟩, rfl, rfl⟩ 2 rfl rfl [2] rfl rfl rfl rfl (Nat.le_of_ble_eq_true rfl) ⟨Nat.zero_le _, Nat.zero_le _⟩ dX7_hangs_52 (fun hb1 => ?_)
        refine ww_aload_n (pc := 55) C dX7_hangs_55 rfl 2 rfl ?_
        refine ww_iload_n (pc := 56) C dX7_hangs_56 rfl 1 rfl ?_
        refine ww_iload (pc := 57) C dX7_hangs_57 4 rfl ?_
        obtain ⟨v2, h2, hf⟩ := bsome hf
        refine ww_callVi0 (pc := 59) (As := [.int n1, .int n4]) (rest := [.int v1, .ref q_this]) C (tX1_cornerJ l D k q_now_grid q_now_grid_marks c_now_grid_size c_now_grid_full c_now_grid_turns c_now_grid_firstFull c_now_grid_lastFull n1 n4 v2 h2) cv_X7_312 ⟨⟨by decide, by decide⟩, rfl, rfl⟩ 2 rfl rfl [2] rfl rfl rfl rfl (Nat.le_of_ble_eq_true rfl) ⟨Nat.zero_le _, Nat.zero_le _⟩ dX7_hangs_59 (fun hb2 => ?_)
        obtain ⟨v3, v4, h3, hf⟩ := bd2_some hf
        refine ww_callVi (pc := 62) (ws' := [oX7 q_this q_text q_row q_now q_trial q_doors q_history q_kept, oX5 q_now q_now_grid q_now_rule, oX1 q_now_grid q_now_grid_marks c_now_grid_size c_now_grid_full c_now_grid_turns c_now_grid_firstFull c_now_grid_lastFull, aI k q_now_grid_marks 153 v4, oX3 q_row q_row_numbers c_row_length, aJ k q_row_numbers 16 c_row_numbers]) (As := [.int v1, .int v2]) (rest := []) C (tX7_looseLabel l D k q_this q_text q_row q_now q_trial q_doors q_history q_kept q_now_grid q_now_rule q_now_grid_marks c_now_grid_size c_now_grid_full c_now_grid_turns c_now_grid_firstFull c_now_grid_lastFull c_now_grid_marks v1 v2 v3 v4 h3) cv_X7_342 ⟨⟨by decide, by decide⟩, rfl, rfl⟩ 0 rfl rfl [0, 1, 2, 3] rfl rfl rfl rfl rfl rfl (Nat.le_of_ble_eq_true rfl) ⟨Nat.zero_le _, Nat.zero_le _⟩ dX7_hangs_62 (fun hb3 => ?_)
        refine ww_istore (pc := 65) (lv' := [(5, .int v3), (0, .ref q_this), (1, .int n1), (2, .ref q_now_grid), (3, .int n3), (4, .int n4)]) C dX7_hangs_65 (by decide) rfl ?_
        refine ww_aload_n (pc := 67) C dX7_hangs_67 rfl 1 rfl ?_
        refine gf7_1 (pc := 68) C kf_X7_19 0 rfl rfl dX7_hangs_68 ?_
        refine ww_iload (pc := 71) C dX7_hangs_71 0 rfl ?_
        refine ww_i2l (pc := 73) C dX7_hangs_73  ?_
        obtain ⟨v5, v6, h5, hf⟩ := bd2_some hf
        refine ww_callVv (pc := 74) (ws' := [oX7 q_this q_text q_row q_now q_trial q_doors q_history q_kept, oX5 q_now q_now_grid q_now_rule, oX1 q_now_grid q_now_grid_marks c_now_grid_size c_now_grid_full c_now_grid_turns c_now_grid_firstFull c_now_grid_lastFull, aI k q_now_grid_marks 153 v4, oX3 q_row q_row_numbers v5, aJ k q_row_numbers 16 v6]) (As := [.long ((v3).toInt64)]) (rest := []) C (tX3_add l D k q_row q_row_numbers c_row_length c_row_numbers ((v3).toInt64) v5 v6 h5) cv_X7_214 ⟨⟨by decide, by decide⟩, rfl, rfl⟩ 4 rfl rfl [4, 5] rfl rfl rfl rfl rfl rfl (Nat.le_of_ble_eq_true rfl) ⟨Nat.zero_le _, Nat.zero_le _⟩ dX7_hangs_74 ?_
        refine ww_iload_n (pc := 77) C dX7_hangs_77 rfl 4 rfl ?_
        refine ww_iload (pc := 78) C dX7_hangs_78 0 rfl ?_
        refine ww_iconst (pc := 80) C dX7_hangs_80 kI_m1 ?_
        refine ww_icmp_ne (pc := 81) (tgt := 88) C dX7_hangs_81 (by decide) (fun hc => ?_) (fun hc => ?_)
        · have hf := ifF hc hf
          refine ww_iconst (pc := 88) C dX7_hangs_88 kI_1 ?_
          exact ww_lv [1, 2, 3, 5] rfl (hJ89 v4 v5 v6 n1 n4 n3 (1 : Int32) hf)
        · have hf := ifT hc hf
          refine ww_iconst (pc := 84) C dX7_hangs_84 kI_0 ?_
          refine ww_goto (pc := 85) (tgt := 89) C dX7_hangs_85 (by decide) ?_
          exact ww_lv [1, 2, 3, 5] rfl (hJ89 v4 v5 v6 n1 n4 n3 (0 : Int32) hf)
  unfold fX7_hangs at hf
  refine ww_aload_n (pc := 0) C dX7_hangs_0 rfl 0 rfl ?_
  refine gf7_2 (pc := 1) C kf_X7_26 0 rfl rfl dX7_hangs_1 ?_
  refine gf5_0 (pc := 4) C kf_X7_74 1 rfl rfl dX7_hangs_4 ?_
  refine ww_astore_n (pc := 7) (lv' := [(2, .ref q_now_grid), (0, .ref q_this), (1, .int x1)]) C dX7_hangs_7 rfl (by decide) rfl ?_
  refine ww_aload_n (pc := 8) C dX7_hangs_8 rfl 0 rfl ?_
  refine ww_iload_n (pc := 9) C dX7_hangs_9 rfl 2 rfl ?_
  obtain ⟨v1, h1, hf⟩ := bsome hf
  refine ww_callVi0 (pc := 10) (As := [.int x1]) (rest := []) C (tX1_isCell l D k q_now_grid q_now_grid_marks c_now_grid_size c_now_grid_full c_now_grid_turns c_now_grid_firstFull c_now_grid_lastFull x1 v1 h1) cv_X7_156 ⟨⟨by decide, by decide⟩, rfl, rfl⟩ 2 rfl rfl [2] rfl rfl rfl rfl (Nat.le_of_ble_eq_true rfl) ⟨Nat.zero_le _, Nat.zero_le _⟩ dX7_hangs_10 (fun hb1 => ?_)
  refine ww_if_ne (pc := 13) (tgt := 18) C dX7_hangs_13 (by decide) (fun hc => ?_) (fun hc => ?_)
  · have hf := ifF hc hf
    refine ww_aload_n (pc := 18) C dX7_hangs_18 rfl 0 rfl ?_
    refine ww_iload_n (pc := 19) C dX7_hangs_19 rfl 2 rfl ?_
    obtain ⟨v2, h2, hf⟩ := bsome hf
    refine ww_callVi0 (pc := 20) (As := [.int x1]) (rest := []) C (tX1_turn l D k q_now_grid q_now_grid_marks c_now_grid_size c_now_grid_full c_now_grid_turns c_now_grid_firstFull c_now_grid_lastFull c_now_grid_marks x1 v2 h2) cv_X7_159 ⟨⟨by decide, by decide⟩, rfl, rfl⟩ 2 rfl rfl [2, 3] rfl rfl rfl rfl (Nat.le_of_ble_eq_true rfl) ⟨Nat.zero_le _, Nat.zero_le _⟩ dX7_hangs_20 (fun hb2 => ?_)
    refine ww_if_ne (pc := 23) (tgt := 29) C dX7_hangs_23 (by decide) (fun hc => ?_) (fun hc => ?_)
    · have hf := ifF hc hf
      refine ww_iconst (pc := 29) C dX7_hangs_29 kI_0 ?_
      refine ww_istore_n (pc := 30) (lv' := [(3, .int (0 : Int32)), (2, .ref q_now_grid), (0, .ref q_this), (1, .int x1)]) C dX7_hangs_30 rfl (by decide) rfl ?_
      refine ww_aload_n (pc := 31) C dX7_hangs_31 rfl 2 rfl ?_
      refine gf7_1 (pc := 32) C kf_X7_19 0 rfl rfl dX7_hangs_32 ?_
      obtain ⟨v3, h3, hf⟩ := bsome hf
      refine ww_callVv (pc := 35) (ws' := [oX7 q_this q_text q_row q_now q_trial q_doors q_history q_kept, oX5 q_now q_now_grid q_now_rule, oX1 q_now_grid q_now_grid_marks c_now_grid_size c_now_grid_full c_now_grid_turns c_now_grid_firstFull c_now_grid_lastFull, aI k q_now_grid_marks 153 c_now_grid_marks, oX3 q_row q_row_numbers v3, aJ k q_row_numbers 16 c_row_numbers]) (As := []) (rest := []) C (tX3_clear l D k q_row q_row_numbers c_row_length v3 h3) cv_X7_204 ⟨⟨by decide, by decide⟩, rfl, rfl⟩ 4 rfl rfl [4] rfl rfl rfl rfl rfl rfl (Nat.le_of_ble_eq_true rfl) ⟨Nat.zero_le _, Nat.zero_le _⟩ dX7_hangs_35 ?_
      refine ww_iconst (pc := 38) C dX7_hangs_38 kI_0 ?_
      refine ww_istore (pc := 39) (lv' := [(4, .int (0 : Int32)), (3, .int (0 : Int32)), (2, .ref q_now_grid), (0, .ref q_this), (1, .int x1)]) C dX7_hangs_39 (by decide) rfl ?_
      exact ww_lv [3, 4, 2, 1, 0] rfl (hL41 FU c_now_grid_marks v3 c_row_numbers x1 (0 : Int32) (0 : Int32) hf)
    · have hf := ifT hc hf
      refine ww_bipush (pc := 26) C dX7_hangs_26 kB_m2 ?_
      obtain ⟨e0, e1, e2, e3⟩ := ij4 hf
      exact hret _ _ 28 _ dX7_hangs_28 rfl e0 (by rw [← e1, ← e2, ← e3])
  · have hf := ifT hc hf
    refine ww_iconst (pc := 16) C dX7_hangs_16 kI_m1 ?_
    obtain ⟨e0, e1, e2, e3⟩ := ij4 hf
    exact hret _ _ 17 _ dX7_hangs_17 rfl e0 (by rw [← e1, ← e2, ← e3])
def fX7_labelForOne_b12 (c_now_grid_size : Int32) (rc12 : (Nat → Int32) → Int32 → Int32 → Int32 → Int32 → Option (Int32 × (Nat → Int32))) (c_now_grid_marks : Nat → Int32) (n1 : Int32) (n2 : Int32) (n3 : Int32) (n5 : Int32) : Option (Int32 × (Nat → Int32)) := if (3 : Int32) ≤ n5 then some ((-1 : Int32), c_now_grid_marks) else (fX1_labelAt c_now_grid_size c_now_grid_marks n1 n2).bind fun v1 => if n5 = v1 then (some (n5 + (1 : Int32))).bind fun v2 => rc12 c_now_grid_marks n1 n2 n3 v2 else (fX1_canHave c_now_grid_size n1 n2 n5).bind fun v3 => if v3 = 0 then (some (n5 + (1 : Int32))).bind fun v4 => rc12 c_now_grid_marks n1 n2 n3 v4 else bd2 (fX1_gain c_now_grid_size c_now_grid_marks n1 n2 n5) fun v5 v6 => if (n3 + v5) = (1 : Int32) then some (n5, v6) else (some (n5 + (1 : Int32))).bind fun v7 => rc12 v6 n1 n2 n3 v7
def fX7_labelForOne (c_now_grid_size : Int32) (c_now_grid_marks : Nat → Int32) (x1 : Int32) (x2 : Int32) (x3 : Int32) : Option (Int32 × (Nat → Int32)) := lfix (fX7_labelForOne_b12 c_now_grid_size) (fun _ _ _ _ _ => none) FU c_now_grid_marks x1 x2 x3 (0 : Int32)
set_option maxHeartbeats 4000000 in
set_option maxRecDepth 100000 in
theorem tX7_labelForOne (l : Launch) (D : va_G) (k : Nat → ClassId) (q_this q_text q_row q_now q_trial q_doors q_history q_kept q_now_grid q_now_rule q_now_grid_marks : Nat) (c_now_grid_size : Int32) (c_now_grid_full : Int32) (c_now_grid_turns : Int32) (c_now_grid_firstFull : Int32) (c_now_grid_lastFull : Int32) (c_now_grid_marks : Nat → Int32) (x1 : Int32) (x2 : Int32) (x3 : Int32) (r_ : Int32) (w_now_grid_marks : Nat → Int32) (hf : fX7_labelForOne c_now_grid_size c_now_grid_marks x1 x2 x3 = some (r_, w_now_grid_marks)) : MI l yX7_labelForOne cX7_labelForOne 6 .int (RM 5 120) D k [.ref q_this, .int x1, .int x2, .int x3] [oX7 q_this q_text q_row q_now q_trial q_doors q_history q_kept, oX5 q_now q_now_grid q_now_rule, oX1 q_now_grid q_now_grid_marks c_now_grid_size c_now_grid_full c_now_grid_turns c_now_grid_firstFull c_now_grid_lastFull, aI k q_now_grid_marks 153 c_now_grid_marks] r_ [oX7 q_this q_text q_row q_now q_trial q_doors q_history q_kept, oX5 q_now q_now_grid q_now_rule, oX1 q_now_grid q_now_grid_marks c_now_grid_size c_now_grid_full c_now_grid_turns c_now_grid_firstFull c_now_grid_lastFull, aI k q_now_grid_marks 153 w_now_grid_marks] := by
  refine mkMI' (own := "DoorWalk") (by decide) rfl (Nat.le_of_ble_eq_true rfl) ?_
  intro p e s m args below meth c Q A hret C
  refine ww_lv (lv' := [(0, .ref q_this), (1, .int x1), (2, .int x2), (3, .int x3)]) [0, 1, 2, 3] rfl ?_
  have hL12 : ∀ (n : Nat) (c_now_grid_marks : Nat → Int32) (n1 : Int32) (n2 : Int32) (n3 : Int32) (n5 : Int32), lfix (fX7_labelForOne_b12 c_now_grid_size) (fun _ _ _ _ _ => none) n c_now_grid_marks n1 n2 n3 n5 = some (r_, w_now_grid_marks) → WW p l e (RM 5 120) s m args below meth c Q 6 D A 0 0 [oX7 q_this q_text q_row q_now q_trial q_doors q_history q_kept, oX5 q_now q_now_grid q_now_rule, oX1 q_now_grid q_now_grid_marks c_now_grid_size c_now_grid_full c_now_grid_turns c_now_grid_firstFull c_now_grid_lastFull, aI k q_now_grid_marks 153 c_now_grid_marks] [(1, .int n1), (2, .int n2), (3, .int n3), (4, .ref q_now_grid), (5, .int n5)] 12 [] := by
    intro n
    induction n with
    | zero => intro c_now_grid_marks n1 n2 n3 n5 hf; cases hf
    | succ n ih12 =>
      obtain ⟨rc12, hrc12⟩ : ∃ f9, f9 = lfix (fX7_labelForOne_b12 c_now_grid_size) (fun _ _ _ _ _ => none) n := ⟨_, rfl⟩
      rw [← hrc12] at ih12
      intro c_now_grid_marks n1 n2 n3 n5 hf
      have hf : fX7_labelForOne_b12 c_now_grid_size rc12 c_now_grid_marks n1 n2 n3 n5 = some (r_, w_now_grid_marks) := by rw [hrc12]; exact hf
      unfold fX7_labelForOne_b12 at hf
      refine ww_iload (pc := 12) C dX7_labelForOne_12 4 rfl ?_
      refine ww_iconst (pc := 14) C dX7_labelForOne_14 kI_3 ?_
      refine ww_icmp_ge (pc := 15) (tgt := 66) C dX7_labelForOne_15 (by decide) (fun hc => ?_) (fun hc => ?_)
      · have hf := ifT hc hf
        refine ww_iconst (pc := 66) C dX7_labelForOne_66 kI_m1 ?_
        obtain ⟨e0, e1⟩ := ij2 hf
        exact hret _ _ 67 _ dX7_labelForOne_67 rfl e0 (by rw [← e1])
      · have hf := ifF hc hf
        refine ww_iload (pc := 18) C dX7_labelForOne_18 4 rfl ?_
        refine ww_aload (pc := 20) C dX7_labelForOne_20 3 rfl ?_
        refine ww_iload_n (pc := 22) C dX7_labelForOne_22 rfl 0 rfl ?_
        refine ww_iload_n (pc := 23) C dX7_labelForOne_23 rfl 1 rfl ?_
        obtain ⟨v1, h1, hf⟩ := bsome hf
        refine ww_callVi0 (pc := 24) (As := [.int n1, .int n2]) (rest := [.int n5]) C (tX1_labelAt l D k q_now_grid q_now_grid_marks c_now_grid_size c_now_grid_full c_now_grid_turns c_now_grid_firstFull c_now_grid_lastFull c_now_grid_marks n1 n2 v1 h1) cv_X7_143 ⟨⟨by decide, by decide⟩, rfl, rfl⟩ 2 rfl rfl [2, 3] rfl rfl rfl rfl (Nat.le_of_ble_eq_true rfl) ⟨Nat.zero_le _, Nat.zero_le _⟩ dX7_labelForOne_24 (fun hb1 => ?_)
        refine ww_icmp_eq (pc := 27) (tgt := 60) C dX7_labelForOne_27 (by decide) (fun hc => ?_) (fun hc => ?_)
        · have hf := ifT hc hf
          obtain ⟨v2, h2, hf⟩ := bsome hf
          refine ww_iincN (pc := 60) (lv' := [(5, .int v2), (1, .int n1), (2, .int n2), (3, .int n3), (4, .ref q_now_grid)]) (j := 4) C dX7_labelForOne_60 kI_1 rfl h2 (by decide) rfl ?_
          refine ww_goto (pc := 63) (tgt := 12) C dX7_labelForOne_63 (by decide) ?_
          exact ww_lv [1, 2, 3, 4, 0] rfl (ih12 c_now_grid_marks n1 n2 n3 v2 hf)
        · have hf := ifF hc hf
          refine ww_aload (pc := 30) C dX7_labelForOne_30 3 rfl ?_
          refine ww_iload_n (pc := 32) C dX7_labelForOne_32 rfl 0 rfl ?_
          refine ww_iload_n (pc := 33) C dX7_labelForOne_33 rfl 1 rfl ?_
          refine ww_iload (pc := 34) C dX7_labelForOne_34 4 rfl ?_
          obtain ⟨v3, h3, hf⟩ := bsome hf
          refine ww_callVi0 (pc := 36) (As := [.int n1, .int n2, .int n5]) (rest := []) C (tX1_canHave l D k q_now_grid q_now_grid_marks c_now_grid_size c_now_grid_full c_now_grid_turns c_now_grid_firstFull c_now_grid_lastFull n1 n2 n5 v3 h3) cv_X7_331 ⟨⟨by decide, by decide⟩, rfl, rfl⟩ 2 rfl rfl [2] rfl rfl rfl rfl (Nat.le_of_ble_eq_true rfl) ⟨Nat.zero_le _, Nat.zero_le _⟩ dX7_labelForOne_36 (fun hb3 => ?_)
          refine ww_if_eq (pc := 39) (tgt := 60) C dX7_labelForOne_39 (by decide) (fun hc => ?_) (fun hc => ?_)
          · have hf := ifT hc hf
            obtain ⟨v4, h4, hf⟩ := bsome hf
            refine ww_iincN (pc := 60) (lv' := [(5, .int v4), (1, .int n1), (2, .int n2), (3, .int n3), (4, .ref q_now_grid)]) (j := 4) C dX7_labelForOne_60 kI_1 rfl h4 (by decide) rfl ?_
            refine ww_goto (pc := 63) (tgt := 12) C dX7_labelForOne_63 (by decide) ?_
            exact ww_lv [1, 2, 3, 4, 0] rfl (ih12 c_now_grid_marks n1 n2 n3 v4 hf)
          · have hf := ifF hc hf
            refine ww_iload_n (pc := 42) C dX7_labelForOne_42 rfl 2 rfl ?_
            refine ww_aload (pc := 43) C dX7_labelForOne_43 3 rfl ?_
            refine ww_iload_n (pc := 45) C dX7_labelForOne_45 rfl 0 rfl ?_
            refine ww_iload_n (pc := 46) C dX7_labelForOne_46 rfl 1 rfl ?_
            refine ww_iload (pc := 47) C dX7_labelForOne_47 4 rfl ?_
            obtain ⟨v5, v6, h5, hf⟩ := bd2_some hf
            refine ww_callVi (pc := 49) (ws' := [oX7 q_this q_text q_row q_now q_trial q_doors q_history q_kept, oX5 q_now q_now_grid q_now_rule, oX1 q_now_grid q_now_grid_marks c_now_grid_size c_now_grid_full c_now_grid_turns c_now_grid_firstFull c_now_grid_lastFull, aI k q_now_grid_marks 153 v6]) (As := [.int n1, .int n2, .int n5]) (rest := [.int n3]) C (tX1_gain l D k q_now_grid q_now_grid_marks c_now_grid_size c_now_grid_full c_now_grid_turns c_now_grid_firstFull c_now_grid_lastFull c_now_grid_marks n1 n2 n5 v5 v6 h5) cv_X7_422 ⟨⟨by decide, by decide⟩, rfl, rfl⟩ 2 rfl rfl [2, 3] rfl rfl rfl rfl rfl rfl (Nat.le_of_ble_eq_true rfl) ⟨Nat.zero_le _, Nat.zero_le _⟩ dX7_labelForOne_49 (fun hb5 => ?_)
            refine ww_iadd (pc := 52) C dX7_labelForOne_52  ?_
            refine ww_iconst (pc := 53) C dX7_labelForOne_53 kI_1 ?_
            refine ww_icmp_ne (pc := 54) (tgt := 60) C dX7_labelForOne_54 (by decide) (fun hc => ?_) (fun hc => ?_)
            · have hf := ifF hc hf
              obtain ⟨v7, h7, hf⟩ := bsome hf
              refine ww_iincN (pc := 60) (lv' := [(5, .int v7), (1, .int n1), (2, .int n2), (3, .int n3), (4, .ref q_now_grid)]) (j := 4) C dX7_labelForOne_60 kI_1 rfl h7 (by decide) rfl ?_
              refine ww_goto (pc := 63) (tgt := 12) C dX7_labelForOne_63 (by decide) ?_
              exact ww_lv [1, 2, 3, 4, 0] rfl (ih12 v6 n1 n2 n3 v7 hf)
            · have hf := ifT hc hf
              refine ww_iload (pc := 57) C dX7_labelForOne_57 4 rfl ?_
              obtain ⟨e0, e1⟩ := ij2 hf
              exact hret _ _ 59 _ dX7_labelForOne_59 rfl e0 (by rw [← e1])
  unfold fX7_labelForOne at hf
  refine ww_aload_n (pc := 0) C dX7_labelForOne_0 rfl 0 rfl ?_
  refine gf7_2 (pc := 1) C kf_X7_26 0 rfl rfl dX7_labelForOne_1 ?_
  refine gf5_0 (pc := 4) C kf_X7_74 1 rfl rfl dX7_labelForOne_4 ?_
  refine ww_astore (pc := 7) (lv' := [(4, .ref q_now_grid), (0, .ref q_this), (1, .int x1), (2, .int x2), (3, .int x3)]) C dX7_labelForOne_7 (by decide) rfl ?_
  refine ww_iconst (pc := 9) C dX7_labelForOne_9 kI_0 ?_
  refine ww_istore (pc := 10) (lv' := [(5, .int (0 : Int32)), (4, .ref q_now_grid), (0, .ref q_this), (1, .int x1), (2, .int x2), (3, .int x3)]) C dX7_labelForOne_10 (by decide) rfl ?_
  exact ww_lv [3, 4, 5, 1, 0] rfl (hL12 FU c_now_grid_marks x1 x2 x3 (0 : Int32) hf)
def fX7_lone_b48 (c_now_grid_size : Int32) (rc37 : Int32 → Int32 → Int32 → Int32 → (Nat → Int32) → Int32 → (Nat → Int64) → Int32 → Int32 → Option (Int32 × Int32 × Int32 × Int32 × Int32 × (Nat → Int32) × Int32 × (Nat → Int64))) (rc48 : Int32 → Int32 → Int32 → Int32 → (Nat → Int32) → Int32 → (Nat → Int64) → Int32 → Int32 → Int32 → Option (Int32 × Int32 × Int32 × Int32 × Int32 × (Nat → Int32) × Int32 × (Nat → Int64))) (c_now_grid_firstFull : Int32) (c_now_grid_full : Int32) (c_now_grid_lastFull : Int32) (c_now_grid_turns : Int32) (c_now_grid_marks : Nat → Int32) (c_row_length : Int32) (c_row_numbers : Nat → Int64) (n2 : Int32) (n3 : Int32) (n4 : Int32) : Option (Int32 × Int32 × Int32 × Int32 × Int32 × (Nat → Int32) × Int32 × (Nat → Int64)) := if (c_now_grid_size - n3) < n4 then (some (n3 + (1 : Int32))).bind fun v1 => rc37 c_now_grid_firstFull c_now_grid_full c_now_grid_lastFull c_now_grid_turns c_now_grid_marks c_row_length c_row_numbers n2 v1 else bd2 (fX7_labelForOne c_now_grid_size c_now_grid_marks n3 n4 n2) fun v2 v3 => if v2 = (-1 : Int32) then (some (n4 + (1 : Int32))).bind fun v4 => rc48 c_now_grid_firstFull c_now_grid_full c_now_grid_lastFull c_now_grid_turns v3 c_row_length c_row_numbers n2 n3 v4 else (fX1_numberOf c_now_grid_size n3 n4).bind fun v5 => bd2 (fX3_tell__ c_row_length c_row_numbers ((n2).toInt64) ((v5).toInt64) ((v2).toInt64)) fun v6 v7 => some ((1 : Int32), c_now_grid_firstFull, c_now_grid_full, c_now_grid_lastFull, c_now_grid_turns, v3, v6, v7)
def fX7_lone_b37 (c_now_grid_size : Int32) (rc37 : Int32 → Int32 → Int32 → Int32 → (Nat → Int32) → Int32 → (Nat → Int64) → Int32 → Int32 → Option (Int32 × Int32 × Int32 × Int32 × Int32 × (Nat → Int32) × Int32 × (Nat → Int64))) (c_now_grid_firstFull : Int32) (c_now_grid_full : Int32) (c_now_grid_lastFull : Int32) (c_now_grid_turns : Int32) (c_now_grid_marks : Nat → Int32) (c_row_length : Int32) (c_row_numbers : Nat → Int64) (n2 : Int32) (n3 : Int32) : Option (Int32 × Int32 × Int32 × Int32 × Int32 × (Nat → Int32) × Int32 × (Nat → Int64)) := if c_now_grid_size < n3 then some ((-2 : Int32), c_now_grid_firstFull, c_now_grid_full, c_now_grid_lastFull, c_now_grid_turns, c_now_grid_marks, c_row_length, c_row_numbers) else lfix (fX7_lone_b48 c_now_grid_size rc37) (fun _ _ _ _ _ _ _ _ _ _ => none) FU c_now_grid_firstFull c_now_grid_full c_now_grid_lastFull c_now_grid_turns c_now_grid_marks c_row_length c_row_numbers n2 n3 (0 : Int32)
def fX7_lone (c_now_grid_size : Int32) (c_now_grid_firstFull : Int32) (c_now_grid_full : Int32) (c_now_grid_lastFull : Int32) (c_now_grid_turns : Int32) (c_now_grid_marks : Nat → Int32) (c_row_length : Int32) (c_row_numbers : Nat → Int64) : Option (Int32 × Int32 × Int32 × Int32 × Int32 × (Nat → Int32) × Int32 × (Nat → Int64)) := bd5 (fX1_fullCells c_now_grid_size c_now_grid_marks c_now_grid_firstFull c_now_grid_full c_now_grid_lastFull c_now_grid_turns) fun v1 v2 v3 v4 v5 => if v1 = (1 : Int32) then bd2 (fX3_tell__ c_row_length c_row_numbers ((v1).toInt64) (-1 : Int64) (-1 : Int64)) fun v6 v7 => some ((0 : Int32), v2, v3, v4, v5, c_now_grid_marks, v6, v7) else lfix (fX7_lone_b37 c_now_grid_size) (fun _ _ _ _ _ _ _ _ _ => none) FU v2 v3 v4 v5 c_now_grid_marks c_row_length c_row_numbers v1 (0 : Int32)
set_option maxHeartbeats 4000000 in
set_option maxRecDepth 100000 in
theorem tX7_lone (l : Launch) (D : va_G) (k : Nat → ClassId) (q_this q_text q_row q_now q_trial q_doors q_history q_kept q_now_grid q_now_rule q_now_grid_marks q_row_numbers : Nat) (c_now_grid_size : Int32) (c_now_grid_full : Int32) (c_now_grid_turns : Int32) (c_now_grid_firstFull : Int32) (c_now_grid_lastFull : Int32) (c_now_grid_marks : Nat → Int32) (c_row_length : Int32) (c_row_numbers : Nat → Int64)  (r_ : Int32) (w_now_grid_firstFull : Int32) (w_now_grid_full : Int32) (w_now_grid_lastFull : Int32) (w_now_grid_turns : Int32) (w_now_grid_marks : Nat → Int32) (w_row_length : Int32) (w_row_numbers : Nat → Int64) (hf : fX7_lone c_now_grid_size c_now_grid_firstFull c_now_grid_full c_now_grid_lastFull c_now_grid_turns c_now_grid_marks c_row_length c_row_numbers = some (r_, w_now_grid_firstFull, w_now_grid_full, w_now_grid_lastFull, w_now_grid_turns, w_now_grid_marks, w_row_length, w_row_numbers)) : MI l yX7_lone cX7_lone 6 .int (RM 6 145) D k [.ref q_this] [oX7 q_this q_text q_row q_now q_trial q_doors q_history q_kept, oX5 q_now q_now_grid q_now_rule, oX1 q_now_grid q_now_grid_marks c_now_grid_size c_now_grid_full c_now_grid_turns c_now_grid_firstFull c_now_grid_lastFull, aI k q_now_grid_marks 153 c_now_grid_marks, oX3 q_row q_row_numbers c_row_length, aJ k q_row_numbers 16 c_row_numbers] r_ [oX7 q_this q_text q_row q_now q_trial q_doors q_history q_kept, oX5 q_now q_now_grid q_now_rule, oX1 q_now_grid q_now_grid_marks c_now_grid_size w_now_grid_full w_now_grid_turns w_now_grid_firstFull w_now_grid_lastFull, aI k q_now_grid_marks 153 w_now_grid_marks, oX3 q_row q_row_numbers w_row_length, aJ k q_row_numbers 16 w_row_numbers] := by
  refine mkMI' (own := "DoorWalk") (by decide) rfl (Nat.le_of_ble_eq_true rfl) ?_
  intro p e s m args below meth c Q A hret C
  refine ww_lv (lv' := [(0, .ref q_this)]) [0] rfl ?_
  have hL37 : ∀ (n : Nat) (c_now_grid_firstFull : Int32) (c_now_grid_full : Int32) (c_now_grid_lastFull : Int32) (c_now_grid_turns : Int32) (c_now_grid_marks : Nat → Int32) (c_row_length : Int32) (c_row_numbers : Nat → Int64) (n2 : Int32) (n3 : Int32), lfix (fX7_lone_b37 c_now_grid_size) (fun _ _ _ _ _ _ _ _ _ => none) n c_now_grid_firstFull c_now_grid_full c_now_grid_lastFull c_now_grid_turns c_now_grid_marks c_row_length c_row_numbers n2 n3 = some (r_, w_now_grid_firstFull, w_now_grid_full, w_now_grid_lastFull, w_now_grid_turns, w_now_grid_marks, w_row_length, w_row_numbers) → WW p l e (RM 6 145) s m args below meth c Q 6 D A 0 0 [oX7 q_this q_text q_row q_now q_trial q_doors q_history q_kept, oX5 q_now q_now_grid q_now_rule, oX1 q_now_grid q_now_grid_marks c_now_grid_size c_now_grid_full c_now_grid_turns c_now_grid_firstFull c_now_grid_lastFull, aI k q_now_grid_marks 153 c_now_grid_marks, oX3 q_row q_row_numbers c_row_length, aJ k q_row_numbers 16 c_row_numbers] [(0, .ref q_this), (1, .ref q_now_grid), (2, .int n2), (3, .int n3)] 37 [] := by
    intro n
    induction n with
    | zero => intro c_now_grid_firstFull c_now_grid_full c_now_grid_lastFull c_now_grid_turns c_now_grid_marks c_row_length c_row_numbers n2 n3 hf; cases hf
    | succ n ih37 =>
      obtain ⟨rc37, hrc37⟩ : ∃ f9, f9 = lfix (fX7_lone_b37 c_now_grid_size) (fun _ _ _ _ _ _ _ _ _ => none) n := ⟨_, rfl⟩
      rw [← hrc37] at ih37
      have hL48 : ∀ (n : Nat) (c_now_grid_firstFull : Int32) (c_now_grid_full : Int32) (c_now_grid_lastFull : Int32) (c_now_grid_turns : Int32) (c_now_grid_marks : Nat → Int32) (c_row_length : Int32) (c_row_numbers : Nat → Int64) (n2 : Int32) (n3 : Int32) (n4 : Int32), lfix (fX7_lone_b48 c_now_grid_size rc37) (fun _ _ _ _ _ _ _ _ _ _ => none) n c_now_grid_firstFull c_now_grid_full c_now_grid_lastFull c_now_grid_turns c_now_grid_marks c_row_length c_row_numbers n2 n3 n4 = some (r_, w_now_grid_firstFull, w_now_grid_full, w_now_grid_lastFull, w_now_grid_turns, w_now_grid_marks, w_row_length, w_row_numbers) → WW p l e (RM 6 145) s m args below meth c Q 6 D A 0 0 [oX7 q_this q_text q_row q_now q_trial q_doors q_history q_kept, oX5 q_now q_now_grid q_now_rule, oX1 q_now_grid q_now_grid_marks c_now_grid_size c_now_grid_full c_now_grid_turns c_now_grid_firstFull c_now_grid_lastFull, aI k q_now_grid_marks 153 c_now_grid_marks, oX3 q_row q_row_numbers c_row_length, aJ k q_row_numbers 16 c_row_numbers] [(0, .ref q_this), (1, .ref q_now_grid), (2, .int n2), (3, .int n3), (4, .int n4)] 48 [] := by
        intro n
        induction n with
        | zero => intro c_now_grid_firstFull c_now_grid_full c_now_grid_lastFull c_now_grid_turns c_now_grid_marks c_row_length c_row_numbers n2 n3 n4 hf; cases hf
        | succ n ih48 =>
          obtain ⟨rc48, hrc48⟩ : ∃ f9, f9 = lfix (fX7_lone_b48 c_now_grid_size rc37) (fun _ _ _ _ _ _ _ _ _ _ => none) n := ⟨_, rfl⟩
          rw [← hrc48] at ih48
          intro c_now_grid_firstFull c_now_grid_full c_now_grid_lastFull c_now_grid_turns c_now_grid_marks c_row_length c_row_numbers n2 n3 n4 hf
          have hf : fX7_lone_b48 c_now_grid_size rc37 rc48 c_now_grid_firstFull c_now_grid_full c_now_grid_lastFull c_now_grid_turns c_now_grid_marks c_row_length c_row_numbers n2 n3 n4 = some (r_, w_now_grid_firstFull, w_now_grid_full, w_now_grid_lastFull, w_now_grid_turns, w_now_grid_marks, w_row_length, w_row_numbers) := by rw [hrc48]; exact hf
          unfold fX7_lone_b48 at hf
          refine ww_iload (pc := 48) C dX7_lone_48 4 rfl ?_
          refine ww_aload_n (pc := 50) C dX7_lone_50 rfl 1 rfl ?_
          refine gf1_1 (pc := 51) C kf_X7_198 2 rfl rfl dX7_lone_51 ?_
          refine ww_iload_n (pc := 54) C dX7_lone_54 rfl 3 rfl ?_
          refine ww_isub (pc := 55) C dX7_lone_55  ?_
          refine ww_icmp_gt (pc := 56) (tgt := 103) C dX7_lone_56 (by decide) (fun hc => ?_) (fun hc => ?_)
          · have hf := ifT hc hf
            obtain ⟨v1, h1, hf⟩ := bsome hf
            refine ww_iincN (pc := 103) (lv' := [(3, .int v1), (0, .ref q_this), (1, .ref q_now_grid), (2, .int n2), (4, .int n4)]) (j := 3) C dX7_lone_103 kI_1 rfl h1 (by decide) rfl ?_
            refine ww_goto (pc := 106) (tgt := 37) C dX7_lone_106 (by decide) ?_
            exact ww_lv [1, 2, 3, 0] rfl (ih37 c_now_grid_firstFull c_now_grid_full c_now_grid_lastFull c_now_grid_turns c_now_grid_marks c_row_length c_row_numbers n2 v1 hf)
          · have hf := ifF hc hf
            refine ww_aload_n (pc := 59) C dX7_lone_59 rfl 0 rfl ?_
            refine ww_iload_n (pc := 60) C dX7_lone_60 rfl 3 rfl ?_
            refine ww_iload (pc := 61) C dX7_lone_61 4 rfl ?_
            refine ww_iload_n (pc := 63) C dX7_lone_63 rfl 2 rfl ?_
            obtain ⟨v2, v3, h2, hf⟩ := bd2_some hf
            refine ww_callVi (pc := 64) (ws' := [oX7 q_this q_text q_row q_now q_trial q_doors q_history q_kept, oX5 q_now q_now_grid q_now_rule, oX1 q_now_grid q_now_grid_marks c_now_grid_size c_now_grid_full c_now_grid_turns c_now_grid_firstFull c_now_grid_lastFull, aI k q_now_grid_marks 153 v3, oX3 q_row q_row_numbers c_row_length, aJ k q_row_numbers 16 c_row_numbers]) (As := [.int n3, .int n4, .int n2]) (rest := []) C (tX7_labelForOne l D k q_this q_text q_row q_now q_trial q_doors q_history q_kept q_now_grid q_now_rule q_now_grid_marks c_now_grid_size c_now_grid_full c_now_grid_turns c_now_grid_firstFull c_now_grid_lastFull c_now_grid_marks n3 n4 n2 v2 v3 h2) cv_X7_350 ⟨⟨by decide, by decide⟩, rfl, rfl⟩ 0 rfl rfl [0, 1, 2, 3] rfl rfl rfl rfl rfl rfl (Nat.le_of_ble_eq_true rfl) ⟨Nat.zero_le _, Nat.zero_le _⟩ dX7_lone_64 (fun hb2 => ?_)
            refine ww_istore (pc := 67) (lv' := [(5, .int v2), (0, .ref q_this), (1, .ref q_now_grid), (2, .int n2), (3, .int n3), (4, .int n4)]) C dX7_lone_67 (by decide) rfl ?_
            refine ww_iload (pc := 69) C dX7_lone_69 0 rfl ?_
            refine ww_iconst (pc := 71) C dX7_lone_71 kI_m1 ?_
            refine ww_icmp_eq (pc := 72) (tgt := 97) C dX7_lone_72 (by decide) (fun hc => ?_) (fun hc => ?_)
            · have hf := ifT hc hf
              obtain ⟨v4, h4, hf⟩ := bsome hf
              refine ww_iincN (pc := 97) (lv' := [(4, .int v4), (5, .int v2), (0, .ref q_this), (1, .ref q_now_grid), (2, .int n2), (3, .int n3)]) (j := 5) C dX7_lone_97 kI_1 rfl h4 (by decide) rfl ?_
              refine ww_goto (pc := 100) (tgt := 48) C dX7_lone_100 (by decide) ?_
              exact ww_lv [2, 3, 4, 5, 0] rfl (ih48 c_now_grid_firstFull c_now_grid_full c_now_grid_lastFull c_now_grid_turns v3 c_row_length c_row_numbers n2 n3 v4 hf)
            · have hf := ifF hc hf
              refine ww_aload_n (pc := 75) C dX7_lone_75 rfl 1 rfl ?_
              refine gf7_1 (pc := 76) C kf_X7_19 0 rfl rfl dX7_lone_76 ?_
              refine ww_iload_n (pc := 79) C dX7_lone_79 rfl 3 rfl ?_
              refine ww_i2l (pc := 80) C dX7_lone_80  ?_
              refine ww_aload_n (pc := 81) C dX7_lone_81 rfl 2 rfl ?_
              refine ww_iload_n (pc := 82) C dX7_lone_82 rfl 4 rfl ?_
              refine ww_iload (pc := 83) C dX7_lone_83 5 rfl ?_
              obtain ⟨v5, h5, hf⟩ := bsome hf
              refine ww_callVi0 (pc := 85) (As := [.int n3, .int n4]) (rest := [.long ((n2).toInt64), .ref q_row]) C (tX1_numberOf l D k q_now_grid q_now_grid_marks c_now_grid_size c_now_grid_full c_now_grid_turns c_now_grid_firstFull c_now_grid_lastFull n3 n4 v5 h5) cv_X7_153 ⟨⟨by decide, by decide⟩, rfl, rfl⟩ 2 rfl rfl [2] rfl rfl rfl rfl (Nat.le_of_ble_eq_true rfl) ⟨Nat.zero_le _, Nat.zero_le _⟩ dX7_lone_85 (fun hb5 => ?_)
              refine ww_i2l (pc := 88) C dX7_lone_88  ?_
              refine ww_iload (pc := 89) C dX7_lone_89 0 rfl ?_
              refine ww_i2l (pc := 91) C dX7_lone_91  ?_
              obtain ⟨v6, v7, h6, hf⟩ := bd2_some hf
              refine ww_callVv (pc := 92) (ws' := [oX7 q_this q_text q_row q_now q_trial q_doors q_history q_kept, oX5 q_now q_now_grid q_now_rule, oX1 q_now_grid q_now_grid_marks c_now_grid_size c_now_grid_full c_now_grid_turns c_now_grid_firstFull c_now_grid_lastFull, aI k q_now_grid_marks 153 v3, oX3 q_row q_row_numbers v6, aJ k q_row_numbers 16 v7]) (As := [.long ((n2).toInt64), .long ((v5).toInt64), .long ((v2).toInt64)]) (rest := []) C (tX3_tell__ l D k q_row q_row_numbers c_row_length c_row_numbers ((n2).toInt64) ((v5).toInt64) ((v2).toInt64) v6 v7 h6) cv_X7_150 ⟨⟨by decide, by decide⟩, rfl, rfl⟩ 4 rfl rfl [4, 5] rfl rfl rfl rfl rfl rfl (Nat.le_of_ble_eq_true rfl) ⟨Nat.zero_le _, Nat.zero_le _⟩ dX7_lone_92 ?_
              refine ww_iconst (pc := 95) C dX7_lone_95 kI_1 ?_
              obtain ⟨e0, e1, e2, e3, e4, e5, e6, e7⟩ := ij8 hf
              exact hret _ _ 96 _ dX7_lone_96 rfl e0 (by rw [← e1, ← e2, ← e3, ← e4, ← e5, ← e6, ← e7])
      intro c_now_grid_firstFull c_now_grid_full c_now_grid_lastFull c_now_grid_turns c_now_grid_marks c_row_length c_row_numbers n2 n3 hf
      have hf : fX7_lone_b37 c_now_grid_size rc37 c_now_grid_firstFull c_now_grid_full c_now_grid_lastFull c_now_grid_turns c_now_grid_marks c_row_length c_row_numbers n2 n3 = some (r_, w_now_grid_firstFull, w_now_grid_full, w_now_grid_lastFull, w_now_grid_turns, w_now_grid_marks, w_row_length, w_row_numbers) := by rw [hrc37]; exact hf
      unfold fX7_lone_b37 at hf
      refine ww_iload_n (pc := 37) C dX7_lone_37 rfl 3 rfl ?_
      refine ww_aload_n (pc := 38) C dX7_lone_38 rfl 1 rfl ?_
      refine gf1_1 (pc := 39) C kf_X7_198 2 rfl rfl dX7_lone_39 ?_
      refine ww_icmp_gt (pc := 42) (tgt := 109) C dX7_lone_42 (by decide) (fun hc => ?_) (fun hc => ?_)
      · have hf := ifT hc hf
        refine ww_bipush (pc := 109) C dX7_lone_109 kB_m2 ?_
        obtain ⟨e0, e1, e2, e3, e4, e5, e6, e7⟩ := ij8 hf
        exact hret _ _ 111 _ dX7_lone_111 rfl e0 (by rw [← e1, ← e2, ← e3, ← e4, ← e5, ← e6, ← e7])
      · have hf := ifF hc hf
        refine ww_iconst (pc := 45) C dX7_lone_45 kI_0 ?_
        refine ww_istore (pc := 46) (lv' := [(4, .int (0 : Int32)), (0, .ref q_this), (1, .ref q_now_grid), (2, .int n2), (3, .int n3)]) C dX7_lone_46 (by decide) rfl ?_
        exact ww_lv [1, 2, 3, 4, 0] rfl (hL48 FU c_now_grid_firstFull c_now_grid_full c_now_grid_lastFull c_now_grid_turns c_now_grid_marks c_row_length c_row_numbers n2 n3 (0 : Int32) hf)
  unfold fX7_lone at hf
  refine ww_aload_n (pc := 0) C dX7_lone_0 rfl 0 rfl ?_
  refine gf7_2 (pc := 1) C kf_X7_26 0 rfl rfl dX7_lone_1 ?_
  refine gf5_0 (pc := 4) C kf_X7_74 1 rfl rfl dX7_lone_4 ?_
  refine ww_astore_n (pc := 7) (lv' := [(1, .ref q_now_grid), (0, .ref q_this)]) C dX7_lone_7 rfl (by decide) rfl ?_
  refine ww_aload_n (pc := 8) C dX7_lone_8 rfl 0 rfl ?_
  obtain ⟨v1, v2, v3, v4, v5, h1, hf⟩ := bd5_some hf
  refine ww_callVi (pc := 9) (ws' := [oX7 q_this q_text q_row q_now q_trial q_doors q_history q_kept, oX5 q_now q_now_grid q_now_rule, oX1 q_now_grid q_now_grid_marks c_now_grid_size v3 v5 v2 v4, aI k q_now_grid_marks 153 c_now_grid_marks, oX3 q_row q_row_numbers c_row_length, aJ k q_row_numbers 16 c_row_numbers]) (As := []) (rest := []) C (tX1_fullCells l D k q_now_grid q_now_grid_marks c_now_grid_size c_now_grid_full c_now_grid_turns c_now_grid_firstFull c_now_grid_lastFull c_now_grid_marks v1 v2 v3 v4 v5 h1) cv_X7_345 ⟨⟨by decide, by decide⟩, rfl, rfl⟩ 2 rfl rfl [2, 3] rfl rfl rfl rfl rfl rfl (Nat.le_of_ble_eq_true rfl) ⟨Nat.zero_le _, Nat.zero_le _⟩ dX7_lone_9 (fun hb1 => ?_)
  refine ww_istore_n (pc := 12) (lv' := [(2, .int v1), (1, .ref q_now_grid), (0, .ref q_this)]) C dX7_lone_12 rfl (by decide) rfl ?_
  refine ww_iload_n (pc := 13) C dX7_lone_13 rfl 0 rfl ?_
  refine ww_iconst (pc := 14) C dX7_lone_14 kI_1 ?_
  refine ww_icmp_ne (pc := 15) (tgt := 35) C dX7_lone_15 (by decide) (fun hc => ?_) (fun hc => ?_)
  · have hf := ifF hc hf
    refine ww_iconst (pc := 35) C dX7_lone_35 kI_0 ?_
    refine ww_istore_n (pc := 36) (lv' := [(3, .int (0 : Int32)), (2, .int v1), (1, .ref q_now_grid), (0, .ref q_this)]) C dX7_lone_36 rfl (by decide) rfl ?_
    exact ww_lv [3, 2, 1, 0] rfl (hL37 FU v2 v3 v4 v5 c_now_grid_marks c_row_length c_row_numbers v1 (0 : Int32) hf)
  · have hf := ifT hc hf
    refine ww_aload_n (pc := 18) C dX7_lone_18 rfl 2 rfl ?_
    refine gf7_1 (pc := 19) C kf_X7_19 0 rfl rfl dX7_lone_19 ?_
    refine ww_iload_n (pc := 22) C dX7_lone_22 rfl 0 rfl ?_
    refine ww_i2l (pc := 23) C dX7_lone_23  ?_
    refine ww_ldc2 (pc := 24) C dX7_lone_24 kc_X7_348 ?_
    refine ww_ldc2 (pc := 27) C dX7_lone_27 kc_X7_348 ?_
    obtain ⟨v6, v7, h6, hf⟩ := bd2_some hf
    refine ww_callVv (pc := 30) (ws' := [oX7 q_this q_text q_row q_now q_trial q_doors q_history q_kept, oX5 q_now q_now_grid q_now_rule, oX1 q_now_grid q_now_grid_marks c_now_grid_size v3 v5 v2 v4, aI k q_now_grid_marks 153 c_now_grid_marks, oX3 q_row q_row_numbers v6, aJ k q_row_numbers 16 v7]) (As := [.long ((v1).toInt64), .long (-1 : Int64), .long (-1 : Int64)]) (rest := []) C (tX3_tell__ l D k q_row q_row_numbers c_row_length c_row_numbers ((v1).toInt64) (-1 : Int64) (-1 : Int64) v6 v7 h6) cv_X7_150 ⟨⟨by decide, by decide⟩, rfl, rfl⟩ 4 rfl rfl [4, 5] rfl rfl rfl rfl rfl rfl (Nat.le_of_ble_eq_true rfl) ⟨Nat.zero_le _, Nat.zero_le _⟩ dX7_lone_30 ?_
    refine ww_iconst (pc := 33) C dX7_lone_33 kI_0 ?_
    obtain ⟨e0, e1, e2, e3, e4, e5, e6, e7⟩ := ij8 hf
    exact hret _ _ 34 _ dX7_lone_34 rfl e0 (by rw [← e1, ← e2, ← e3, ← e4, ← e5, ← e6, ← e7])
def fX7_layLabel (c_now_grid_size : Int32) (c_now_grid_marks : Nat → Int32) (c_now_rule_kind : Int32) (x1 : Int32) (x2 : Int32) (x3 : Int32) : Option (Int32 × (Nat → Int32) × Int32) := bd2 (fX1_lay c_now_grid_size c_now_grid_marks x1 x2 x3) fun v1 v2 => if v1 < 0 then some (v1, v2, c_now_rule_kind) else some (v1, v2, (0 : Int32))
set_option maxHeartbeats 4000000 in
set_option maxRecDepth 100000 in
theorem tX7_layLabel (l : Launch) (D : va_G) (k : Nat → ClassId) (q_this q_text q_row q_now q_trial q_doors q_history q_kept q_now_grid q_now_rule q_now_grid_marks q_now_rule_owned q_now_rule_wished q_now_rule_pulls : Nat) (c_now_grid_size : Int32) (c_now_grid_full : Int32) (c_now_grid_turns : Int32) (c_now_grid_firstFull : Int32) (c_now_grid_lastFull : Int32) (c_now_grid_marks : Nat → Int32) (c_now_rule_kind : Int32) (c_now_rule_traders : Int32) (x1 : Int32) (x2 : Int32) (x3 : Int32) (r_ : Int32) (w_now_grid_marks : Nat → Int32) (w_now_rule_kind : Int32) (hf : fX7_layLabel c_now_grid_size c_now_grid_marks c_now_rule_kind x1 x2 x3 = some (r_, w_now_grid_marks, w_now_rule_kind)) : MI l yX7_layLabel cX7_layLabel 5 .int (RM 3 70) D k [.ref q_this, .int x1, .int x2, .int x3] [oX7 q_this q_text q_row q_now q_trial q_doors q_history q_kept, oX5 q_now q_now_grid q_now_rule, oX1 q_now_grid q_now_grid_marks c_now_grid_size c_now_grid_full c_now_grid_turns c_now_grid_firstFull c_now_grid_lastFull, aI k q_now_grid_marks 153 c_now_grid_marks, oX4 q_now_rule q_now_rule_owned q_now_rule_wished q_now_rule_pulls c_now_rule_kind c_now_rule_traders] r_ [oX7 q_this q_text q_row q_now q_trial q_doors q_history q_kept, oX5 q_now q_now_grid q_now_rule, oX1 q_now_grid q_now_grid_marks c_now_grid_size c_now_grid_full c_now_grid_turns c_now_grid_firstFull c_now_grid_lastFull, aI k q_now_grid_marks 153 w_now_grid_marks, oX4 q_now_rule q_now_rule_owned q_now_rule_wished q_now_rule_pulls w_now_rule_kind c_now_rule_traders] := by
  refine mkMI' (own := "DoorWalk") (by decide) rfl (Nat.le_of_ble_eq_true rfl) ?_
  intro p e s m args below meth c Q A hret C
  refine ww_lv (lv' := [(0, .ref q_this), (1, .int x1), (2, .int x2), (3, .int x3)]) [0, 1, 2, 3] rfl ?_
  unfold fX7_layLabel at hf
  refine ww_aload_n (pc := 0) C dX7_layLabel_0 rfl 0 rfl ?_
  refine gf7_2 (pc := 1) C kf_X7_26 0 rfl rfl dX7_layLabel_1 ?_
  refine gf5_0 (pc := 4) C kf_X7_74 1 rfl rfl dX7_layLabel_4 ?_
  refine ww_iload_n (pc := 7) C dX7_layLabel_7 rfl 1 rfl ?_
  refine ww_iload_n (pc := 8) C dX7_layLabel_8 rfl 2 rfl ?_
  refine ww_iload_n (pc := 9) C dX7_layLabel_9 rfl 3 rfl ?_
  obtain ⟨v1, v2, h1, hf⟩ := bd2_some hf
  refine ww_callVi (pc := 10) (ws' := [oX7 q_this q_text q_row q_now q_trial q_doors q_history q_kept, oX5 q_now q_now_grid q_now_rule, oX1 q_now_grid q_now_grid_marks c_now_grid_size c_now_grid_full c_now_grid_turns c_now_grid_firstFull c_now_grid_lastFull, aI k q_now_grid_marks 153 v2, oX4 q_now_rule q_now_rule_owned q_now_rule_wished q_now_rule_pulls c_now_rule_kind c_now_rule_traders]) (As := [.int x1, .int x2, .int x3]) (rest := []) C (tX1_lay l D k q_now_grid q_now_grid_marks c_now_grid_size c_now_grid_full c_now_grid_turns c_now_grid_firstFull c_now_grid_lastFull c_now_grid_marks x1 x2 x3 v1 v2 h1) cv_X7_396 ⟨⟨by decide, by decide⟩, rfl, rfl⟩ 2 rfl rfl [2, 3] rfl rfl rfl rfl rfl rfl (Nat.le_of_ble_eq_true rfl) ⟨Nat.zero_le _, Nat.zero_le _⟩ dX7_layLabel_10 (fun hb1 => ?_)
  refine ww_istore (pc := 13) (lv' := [(4, .int v1), (0, .ref q_this), (1, .int x1), (2, .int x2), (3, .int x3)]) C dX7_layLabel_13 (by decide) rfl ?_
  refine ww_iload (pc := 15) C dX7_layLabel_15 0 rfl ?_
  refine ww_if_lt (pc := 17) (tgt := 31) C dX7_layLabel_17 (by decide) (fun hc => ?_) (fun hc => ?_)
  · have hf := ifT hc hf
    refine ww_iload (pc := 31) C dX7_layLabel_31 0 rfl ?_
    obtain ⟨e0, e1, e2⟩ := ij3 hf
    exact hret _ _ 33 _ dX7_layLabel_33 rfl e0 (by rw [← e1, ← e2])
  · have hf := ifF hc hf
    refine ww_aload_n (pc := 20) C dX7_layLabel_20 rfl 1 rfl ?_
    refine gf7_2 (pc := 21) C kf_X7_26 0 rfl rfl dX7_layLabel_21 ?_
    refine gf5_1 (pc := 24) C kf_X7_81 1 rfl rfl dX7_layLabel_24 ?_
    refine ww_iconst (pc := 27) C dX7_layLabel_27 kI_0 ?_
    refine pf4_3 (pc := 28) (ws' := [oX7 q_this q_text q_row q_now q_trial q_doors q_history q_kept, oX5 q_now q_now_grid q_now_rule, oX1 q_now_grid q_now_grid_marks c_now_grid_size c_now_grid_full c_now_grid_turns c_now_grid_firstFull c_now_grid_lastFull, aI k q_now_grid_marks 153 v2, oX4 q_now_rule q_now_rule_owned q_now_rule_wished q_now_rule_pulls (0 : Int32) c_now_rule_traders]) C kf_X7_85 4 rfl (Nat.le_of_ble_eq_true rfl) rfl dX7_layLabel_28 ?_
    refine ww_iload (pc := 31) C dX7_layLabel_31 0 rfl ?_
    obtain ⟨e0, e1, e2⟩ := ij3 hf
    exact hret _ _ 33 _ dX7_layLabel_33 rfl e0 (by rw [← e1, ← e2])
def fX7_held (c_history_next : Int32) (c_history_size : Int32) (x1 : Int32) : Option (Int32 × Int32 × Int32) := if x1 < 0 then some (x1, c_history_next, c_history_size) else bd2 (fX2_hold c_history_next c_history_size) fun v1 v2 => some (x1, v1, v2)
set_option maxHeartbeats 4000000 in
set_option maxRecDepth 100000 in
theorem tX7_held (l : Launch) (D : va_G) (k : Nat → ClassId) (q_this q_text q_row q_now q_trial q_doors q_history q_kept q_history_ring : Nat) (c_history_next : Int32) (c_history_size : Int32) (x1 : Int32) (r_ : Int32) (w_history_next : Int32) (w_history_size : Int32) (hf : fX7_held c_history_next c_history_size x1 = some (r_, w_history_next, w_history_size)) : MI l yX7_held cX7_held 2 .int (RM 2 43) D k [.ref q_this, .int x1] [oX7 q_this q_text q_row q_now q_trial q_doors q_history q_kept, oX2 q_history q_history_ring c_history_next c_history_size] r_ [oX7 q_this q_text q_row q_now q_trial q_doors q_history q_kept, oX2 q_history q_history_ring w_history_next w_history_size] := by
  refine mkMI' (own := "DoorWalk") (by decide) rfl (Nat.le_of_ble_eq_true rfl) ?_
  intro p e s m args below meth c Q A hret C
  refine ww_lv (lv' := [(0, .ref q_this), (1, .int x1)]) [0, 1] rfl ?_
  unfold fX7_held at hf
  refine ww_iload_n (pc := 0) C dX7_held_0 rfl 1 rfl ?_
  refine ww_if_lt (pc := 1) (tgt := 11) C dX7_held_1 (by decide) (fun hc => ?_) (fun hc => ?_)
  · have hf := ifT hc hf
    refine ww_iload_n (pc := 11) C dX7_held_11 rfl 1 rfl ?_
    obtain ⟨e0, e1, e2⟩ := ij3 hf
    exact hret _ _ 12 _ dX7_held_12 rfl e0 (by rw [← e1, ← e2])
  · have hf := ifF hc hf
    refine ww_aload_n (pc := 4) C dX7_held_4 rfl 0 rfl ?_
    refine gf7_5 (pc := 5) C kf_X7_47 0 rfl rfl dX7_held_5 ?_
    obtain ⟨v1, v2, h1, hf⟩ := bd2_some hf
    refine ww_callVv (pc := 8) (ws' := [oX7 q_this q_text q_row q_now q_trial q_doors q_history q_kept, oX2 q_history q_history_ring v1 v2]) (As := []) (rest := []) C (tX2_hold l D k q_history q_history_ring c_history_next c_history_size v1 v2 h1) cv_X7_71 ⟨⟨by decide, by decide⟩, rfl, rfl⟩ 1 rfl rfl [1] rfl rfl rfl rfl rfl rfl (Nat.le_of_ble_eq_true rfl) ⟨Nat.zero_le _, Nat.zero_le _⟩ dX7_held_8 ?_
    refine ww_iload_n (pc := 11) C dX7_held_11 rfl 1 rfl ?_
    obtain ⟨e0, e1, e2⟩ := ij3 hf
    exact hret _ _ 12 _ dX7_held_12 rfl e0 (by rw [← e1, ← e2])
def fX7_changeGrid (c_now_rule_kind : Int32) (c_now_rule_pulls : Nat → Int64) (c_now_grid_firstFull : Int32) (c_now_grid_full : Int32) (c_now_grid_lastFull : Int32) (c_now_grid_size : Int32) (c_now_grid_turns : Int32) (c_now_grid_marks : Nat → Int32) (x1 : Int32) : Option (Int32 × Int32 × Int32 × Int32 × Int32 × Int32 × (Nat → Int32)) := (fX7_isGrid x1).bind fun v1 => if v1 = 0 then some ((-1 : Int32), c_now_grid_firstFull, c_now_grid_full, c_now_grid_lastFull, c_now_grid_size, c_now_grid_turns, c_now_grid_marks) else if x1 = c_now_grid_size then some ((-2 : Int32), c_now_grid_firstFull, c_now_grid_full, c_now_grid_lastFull, c_now_grid_size, c_now_grid_turns, c_now_grid_marks) else if c_now_rule_kind = 0 then some ((-3 : Int32), c_now_grid_firstFull, c_now_grid_full, c_now_grid_lastFull, c_now_grid_size, c_now_grid_turns, c_now_grid_marks) else (fX4_layOn c_now_rule_kind c_now_rule_pulls x1 c_now_grid_marks).bind fun v2 => bd5 (fX1_fullCells x1 v2 c_now_grid_firstFull c_now_grid_full c_now_grid_lastFull c_now_grid_turns) fun v3 v4 v5 v6 v7 => some (v3, v4, v5, v6, x1, v7, v2)
set_option maxHeartbeats 4000000 in
set_option maxRecDepth 100000 in
theorem tX7_changeGrid (l : Launch) (D : va_G) (k : Nat → ClassId) (q_this q_text q_row q_now q_trial q_doors q_history q_kept q_now_grid q_now_rule q_now_grid_marks q_now_rule_owned q_now_rule_wished q_now_rule_pulls : Nat) (c_now_grid_size : Int32) (c_now_grid_full : Int32) (c_now_grid_turns : Int32) (c_now_grid_firstFull : Int32) (c_now_grid_lastFull : Int32) (c_now_grid_marks : Nat → Int32) (c_now_rule_kind : Int32) (c_now_rule_traders : Int32) (c_now_rule_pulls : Nat → Int64) (x1 : Int32) (r_ : Int32) (w_now_grid_firstFull : Int32) (w_now_grid_full : Int32) (w_now_grid_lastFull : Int32) (w_now_grid_size : Int32) (w_now_grid_turns : Int32) (w_now_grid_marks : Nat → Int32) (hf : fX7_changeGrid c_now_rule_kind c_now_rule_pulls c_now_grid_firstFull c_now_grid_full c_now_grid_lastFull c_now_grid_size c_now_grid_turns c_now_grid_marks x1 = some (r_, w_now_grid_firstFull, w_now_grid_full, w_now_grid_lastFull, w_now_grid_size, w_now_grid_turns, w_now_grid_marks)) : MI l yX7_changeGrid cX7_changeGrid 2 .int (RM 4 100) D k [.ref q_this, .int x1] [oX7 q_this q_text q_row q_now q_trial q_doors q_history q_kept, oX5 q_now q_now_grid q_now_rule, oX1 q_now_grid q_now_grid_marks c_now_grid_size c_now_grid_full c_now_grid_turns c_now_grid_firstFull c_now_grid_lastFull, aI k q_now_grid_marks 153 c_now_grid_marks, oX4 q_now_rule q_now_rule_owned q_now_rule_wished q_now_rule_pulls c_now_rule_kind c_now_rule_traders, aJ k q_now_rule_pulls 9 c_now_rule_pulls] r_ [oX7 q_this q_text q_row q_now q_trial q_doors q_history q_kept, oX5 q_now q_now_grid q_now_rule, oX1 q_now_grid q_now_grid_marks w_now_grid_size w_now_grid_full w_now_grid_turns w_now_grid_firstFull w_now_grid_lastFull, aI k q_now_grid_marks 153 w_now_grid_marks, oX4 q_now_rule q_now_rule_owned q_now_rule_wished q_now_rule_pulls c_now_rule_kind c_now_rule_traders, aJ k q_now_rule_pulls 9 c_now_rule_pulls] := by
  refine mkMI' (own := "DoorWalk") (by decide) rfl (Nat.le_of_ble_eq_true rfl) ?_
  intro p e s m args below meth c Q A hret C
  refine ww_lv (lv' := [(0, .ref q_this), (1, .int x1)]) [0, 1] rfl ?_
  unfold fX7_changeGrid at hf
  refine ww_iload_n (pc := 0) C dX7_changeGrid_0 rfl 1 rfl ?_
  obtain ⟨v1, h1, hf⟩ := bsome hf
  refine ww_callSi0 (pc := 1) (As := [.int x1]) (rest := []) C (tX7_isGrid l D k x1 v1 h1) cs_X7_277 ⟨⟨by decide, by decide⟩, rfl, rfl⟩ [] rfl rfl rfl rfl (Nat.le_of_ble_eq_true rfl) ⟨Nat.zero_le _, Nat.zero_le _⟩ dX7_changeGrid_1 (fun hb1 => ?_)
  refine ww_if_ne (pc := 4) (tgt := 9) C dX7_changeGrid_4 (by decide) (fun hc => ?_) (fun hc => ?_)
  · have hf := ifF hc hf
    refine ww_iload_n (pc := 9) C dX7_changeGrid_9 rfl 1 rfl ?_
    refine ww_aload_n (pc := 10) C dX7_changeGrid_10 rfl 0 rfl ?_
    refine gf7_2 (pc := 11) C kf_X7_26 0 rfl rfl dX7_changeGrid_11 ?_
    refine gf5_0 (pc := 14) C kf_X7_74 1 rfl rfl dX7_changeGrid_14 ?_
    refine gf1_1 (pc := 17) C kf_X7_198 2 rfl rfl dX7_changeGrid_17 ?_
    refine ww_icmp_ne (pc := 20) (tgt := 26) C dX7_changeGrid_20 (by decide) (fun hc => ?_) (fun hc => ?_)
    · have hf := ifF hc hf
      refine ww_aload_n (pc := 26) C dX7_changeGrid_26 rfl 0 rfl ?_
      refine gf7_2 (pc := 27) C kf_X7_26 0 rfl rfl dX7_changeGrid_27 ?_
      refine gf5_1 (pc := 30) C kf_X7_81 1 rfl rfl dX7_changeGrid_30 ?_
      refine gf4_3 (pc := 33) C kf_X7_85 4 rfl rfl dX7_changeGrid_33 ?_
      refine ww_if_ne (pc := 36) (tgt := 42) C dX7_changeGrid_36 (by decide) (fun hc => ?_) (fun hc => ?_)
      · have hf := ifF hc hf
        refine ww_aload_n (pc := 42) C dX7_changeGrid_42 rfl 0 rfl ?_
        refine gf7_2 (pc := 43) C kf_X7_26 0 rfl rfl dX7_changeGrid_43 ?_
        refine gf5_0 (pc := 46) C kf_X7_74 1 rfl rfl dX7_changeGrid_46 ?_
        refine ww_iload_n (pc := 49) C dX7_changeGrid_49 rfl 1 rfl ?_
        refine pf1_1 (pc := 50) (ws' := [oX7 q_this q_text q_row q_now q_trial q_doors q_history q_kept, oX5 q_now q_now_grid q_now_rule, oX1 q_now_grid q_now_grid_marks x1 c_now_grid_full c_now_grid_turns c_now_grid_firstFull c_now_grid_lastFull, aI k q_now_grid_marks 153 c_now_grid_marks, oX4 q_now_rule q_now_rule_owned q_now_rule_wished q_now_rule_pulls c_now_rule_kind c_now_rule_traders, aJ k q_now_rule_pulls 9 c_now_rule_pulls]) C kf_X7_198 2 rfl (Nat.le_of_ble_eq_true rfl) rfl dX7_changeGrid_50 ?_
        refine ww_aload_n (pc := 53) C dX7_changeGrid_53 rfl 0 rfl ?_
        refine gf7_2 (pc := 54) C kf_X7_26 0 rfl rfl dX7_changeGrid_54 ?_
        refine gf5_1 (pc := 57) C kf_X7_81 1 rfl rfl dX7_changeGrid_57 ?_
        refine ww_aload_n (pc := 60) C dX7_changeGrid_60 rfl 0 rfl ?_
        refine gf7_2 (pc := 61) C kf_X7_26 0 rfl rfl dX7_changeGrid_61 ?_
        refine gf5_0 (pc := 64) C kf_X7_74 1 rfl rfl dX7_changeGrid_64 ?_
        obtain ⟨v2, h2, hf⟩ := bsome hf
        refine ww_callVv (pc := 67) (ws' := [oX7 q_this q_text q_row q_now q_trial q_doors q_history q_kept, oX5 q_now q_now_grid q_now_rule, oX1 q_now_grid q_now_grid_marks x1 c_now_grid_full c_now_grid_turns c_now_grid_firstFull c_now_grid_lastFull, aI k q_now_grid_marks 153 v2, oX4 q_now_rule q_now_rule_owned q_now_rule_wished q_now_rule_pulls c_now_rule_kind c_now_rule_traders, aJ k q_now_rule_pulls 9 c_now_rule_pulls]) (As := [.ref q_now_grid]) (rest := []) C (tX4_layOn l D k q_now_rule q_now_rule_owned q_now_rule_wished q_now_rule_pulls q_now_grid q_now_grid_marks c_now_rule_kind c_now_rule_traders c_now_rule_pulls x1 c_now_grid_full c_now_grid_turns c_now_grid_firstFull c_now_grid_lastFull c_now_grid_marks v2 h2) cv_X7_100 ⟨⟨by decide, by decide⟩, rfl, rfl⟩ 4 rfl rfl [4, 5, 2, 3] rfl rfl rfl rfl rfl rfl (Nat.le_of_ble_eq_true rfl) ⟨Nat.zero_le _, Nat.zero_le _⟩ dX7_changeGrid_67 ?_
        refine ww_aload_n (pc := 70) C dX7_changeGrid_70 rfl 0 rfl ?_
        refine gf7_2 (pc := 71) C kf_X7_26 0 rfl rfl dX7_changeGrid_71 ?_
        refine gf5_0 (pc := 74) C kf_X7_74 1 rfl rfl dX7_changeGrid_74 ?_
        obtain ⟨v3, v4, v5, v6, v7, h3, hf⟩ := bd5_some hf
        refine ww_callVi (pc := 77) (ws' := [oX7 q_this q_text q_row q_now q_trial q_doors q_history q_kept, oX5 q_now q_now_grid q_now_rule, oX1 q_now_grid q_now_grid_marks x1 v5 v7 v4 v6, aI k q_now_grid_marks 153 v2, oX4 q_now_rule q_now_rule_owned q_now_rule_wished q_now_rule_pulls c_now_rule_kind c_now_rule_traders, aJ k q_now_rule_pulls 9 c_now_rule_pulls]) (As := []) (rest := []) C (tX1_fullCells l D k q_now_grid q_now_grid_marks x1 c_now_grid_full c_now_grid_turns c_now_grid_firstFull c_now_grid_lastFull v2 v3 v4 v5 v6 v7 h3) cv_X7_345 ⟨⟨by decide, by decide⟩, rfl, rfl⟩ 2 rfl rfl [2, 3] rfl rfl rfl rfl rfl rfl (Nat.le_of_ble_eq_true rfl) ⟨Nat.zero_le _, Nat.zero_le _⟩ dX7_changeGrid_77 (fun hb3 => ?_)
        obtain ⟨e0, e1, e2, e3, e4, e5, e6⟩ := ij7 hf
        exact hret _ _ 80 _ dX7_changeGrid_80 rfl e0 (by rw [← e1, ← e2, ← e3, ← e4, ← e5, ← e6])
      · have hf := ifT hc hf
        refine ww_bipush (pc := 39) C dX7_changeGrid_39 kB_m3 ?_
        obtain ⟨e0, e1, e2, e3, e4, e5, e6⟩ := ij7 hf
        exact hret _ _ 41 _ dX7_changeGrid_41 rfl e0 (by rw [← e1, ← e2, ← e3, ← e4, ← e5, ← e6])
    · have hf := ifT hc hf
      refine ww_bipush (pc := 23) C dX7_changeGrid_23 kB_m2 ?_
      obtain ⟨e0, e1, e2, e3, e4, e5, e6⟩ := ij7 hf
      exact hret _ _ 25 _ dX7_changeGrid_25 rfl e0 (by rw [← e1, ← e2, ← e3, ← e4, ← e5, ← e6])
  · have hf := ifT hc hf
    refine ww_iconst (pc := 7) C dX7_changeGrid_7 kI_m1 ?_
    obtain ⟨e0, e1, e2, e3, e4, e5, e6⟩ := ij7 hf
    exact hret _ _ 8 _ dX7_changeGrid_8 rfl e0 (by rw [← e1, ← e2, ← e3, ← e4, ← e5, ← e6])
def fX7_swapLabels_b43 (c_now_grid_size : Int32) (c_now_grid_firstFull : Int32) (c_now_grid_full : Int32) (c_now_grid_lastFull : Int32) (c_now_grid_turns : Int32) (c_now_grid_marks : Nat → Int32) (c_now_rule_kind : Int32) (n1 : Int32) (n2 : Int32) (n3 : Int32) (n4 : Int32) : Option (Int32 × Int32 × Int32 × Int32 × Int32 × (Nat → Int32) × Int32) := (fX1_labelAt c_now_grid_size c_now_grid_marks n1 n2).bind fun v1 => (fX1_labelAt c_now_grid_size c_now_grid_marks n3 n4).bind fun v2 => if v1 = v2 then some ((-2 : Int32), c_now_grid_firstFull, c_now_grid_full, c_now_grid_lastFull, c_now_grid_turns, c_now_grid_marks, c_now_rule_kind) else (fX1_canHave c_now_grid_size n1 n2 v2).bind fun v3 => if v3 = 0 then some ((-4 : Int32), c_now_grid_firstFull, c_now_grid_full, c_now_grid_lastFull, c_now_grid_turns, c_now_grid_marks, c_now_rule_kind) else (fX1_canHave c_now_grid_size n3 n4 v1).bind fun v4 => if v4 = 0 then some ((-4 : Int32), c_now_grid_firstFull, c_now_grid_full, c_now_grid_lastFull, c_now_grid_turns, c_now_grid_marks, c_now_rule_kind) else (fX1_put c_now_grid_size c_now_grid_marks n1 n2 v2).bind fun v5 => (fX1_put c_now_grid_size v5 n3 n4 v1).bind fun v6 => bd5 (fX1_fullCells c_now_grid_size v6 c_now_grid_firstFull c_now_grid_full c_now_grid_lastFull c_now_grid_turns) fun v7 v8 v9 v10 v11 => some (v7, v8, v9, v10, v11, v6, (0 : Int32))
def fX7_swapLabels (c_now_grid_size : Int32) (c_now_grid_firstFull : Int32) (c_now_grid_full : Int32) (c_now_grid_lastFull : Int32) (c_now_grid_turns : Int32) (c_now_grid_marks : Nat → Int32) (c_now_rule_kind : Int32) (x1 : Int32) (x2 : Int32) (x3 : Int32) (x4 : Int32) : Option (Int32 × Int32 × Int32 × Int32 × Int32 × (Nat → Int32) × Int32) := (fX1_has c_now_grid_size x1 x2).bind fun v1 => if v1 = 0 then some ((-1 : Int32), c_now_grid_firstFull, c_now_grid_full, c_now_grid_lastFull, c_now_grid_turns, c_now_grid_marks, c_now_rule_kind) else (fX1_has c_now_grid_size x3 x4).bind fun v2 => if v2 = 0 then some ((-1 : Int32), c_now_grid_firstFull, c_now_grid_full, c_now_grid_lastFull, c_now_grid_turns, c_now_grid_marks, c_now_rule_kind) else if x1 = x3 then if x2 = x4 then some ((-1 : Int32), c_now_grid_firstFull, c_now_grid_full, c_now_grid_lastFull, c_now_grid_turns, c_now_grid_marks, c_now_rule_kind) else fX7_swapLabels_b43 c_now_grid_size c_now_grid_firstFull c_now_grid_full c_now_grid_lastFull c_now_grid_turns c_now_grid_marks c_now_rule_kind x1 x2 x3 x4 else fX7_swapLabels_b43 c_now_grid_size c_now_grid_firstFull c_now_grid_full c_now_grid_lastFull c_now_grid_turns c_now_grid_marks c_now_rule_kind x1 x2 x3 x4
set_option maxHeartbeats 4000000 in
set_option maxRecDepth 100000 in
theorem tX7_swapLabels (l : Launch) (D : va_G) (k : Nat → ClassId) (q_this q_text q_row q_now q_trial q_doors q_history q_kept q_now_grid q_now_rule q_now_grid_marks q_now_rule_owned q_now_rule_wished q_now_rule_pulls : Nat) (c_now_grid_size : Int32) (c_now_grid_full : Int32) (c_now_grid_turns : Int32) (c_now_grid_firstFull : Int32) (c_now_grid_lastFull : Int32) (c_now_grid_marks : Nat → Int32) (c_now_rule_kind : Int32) (c_now_rule_traders : Int32) (x1 : Int32) (x2 : Int32) (x3 : Int32) (x4 : Int32) (r_ : Int32) (w_now_grid_firstFull : Int32) (w_now_grid_full : Int32) (w_now_grid_lastFull : Int32) (w_now_grid_turns : Int32) (w_now_grid_marks : Nat → Int32) (w_now_rule_kind : Int32) (hf : fX7_swapLabels c_now_grid_size c_now_grid_firstFull c_now_grid_full c_now_grid_lastFull c_now_grid_turns c_now_grid_marks c_now_rule_kind x1 x2 x3 x4 = some (r_, w_now_grid_firstFull, w_now_grid_full, w_now_grid_lastFull, w_now_grid_turns, w_now_grid_marks, w_now_rule_kind)) : MI l yX7_swapLabels cX7_swapLabels 8 .int (RM 4 89) D k [.ref q_this, .int x1, .int x2, .int x3, .int x4] [oX7 q_this q_text q_row q_now q_trial q_doors q_history q_kept, oX5 q_now q_now_grid q_now_rule, oX1 q_now_grid q_now_grid_marks c_now_grid_size c_now_grid_full c_now_grid_turns c_now_grid_firstFull c_now_grid_lastFull, aI k q_now_grid_marks 153 c_now_grid_marks, oX4 q_now_rule q_now_rule_owned q_now_rule_wished q_now_rule_pulls c_now_rule_kind c_now_rule_traders] r_ [oX7 q_this q_text q_row q_now q_trial q_doors q_history q_kept, oX5 q_now q_now_grid q_now_rule, oX1 q_now_grid q_now_grid_marks c_now_grid_size w_now_grid_full w_now_grid_turns w_now_grid_firstFull w_now_grid_lastFull, aI k q_now_grid_marks 153 w_now_grid_marks, oX4 q_now_rule q_now_rule_owned q_now_rule_wished q_now_rule_pulls w_now_rule_kind c_now_rule_traders] := by
  refine mkMI' (own := "DoorWalk") (by decide) rfl (Nat.le_of_ble_eq_true rfl) ?_
  intro p e s m args below meth c Q A hret C
  refine ww_lv (lv' := [(0, .ref q_this), (1, .int x1), (2, .int x2), (3, .int x3), (4, .int x4)]) [0, 1, 2, 3, 4] rfl ?_
  have hJ43 : ∀ (c_now_grid_firstFull : Int32) (c_now_grid_full : Int32) (c_now_grid_lastFull : Int32) (c_now_grid_turns : Int32) (c_now_grid_marks : Nat → Int32) (c_now_rule_kind : Int32) (n1 : Int32) (n2 : Int32) (n3 : Int32) (n4 : Int32), fX7_swapLabels_b43 c_now_grid_size c_now_grid_firstFull c_now_grid_full c_now_grid_lastFull c_now_grid_turns c_now_grid_marks c_now_rule_kind n1 n2 n3 n4 = some (r_, w_now_grid_firstFull, w_now_grid_full, w_now_grid_lastFull, w_now_grid_turns, w_now_grid_marks, w_now_rule_kind) → WW p l e (RM 4 89) s m args below meth c Q 8 D A 0 0 [oX7 q_this q_text q_row q_now q_trial q_doors q_history q_kept, oX5 q_now q_now_grid q_now_rule, oX1 q_now_grid q_now_grid_marks c_now_grid_size c_now_grid_full c_now_grid_turns c_now_grid_firstFull c_now_grid_lastFull, aI k q_now_grid_marks 153 c_now_grid_marks, oX4 q_now_rule q_now_rule_owned q_now_rule_wished q_now_rule_pulls c_now_rule_kind c_now_rule_traders] [(0, .ref q_this), (1, .int n1), (2, .int n2), (3, .int n3), (4, .int n4), (5, .ref q_now_grid)] 43 [] := by
    intro c_now_grid_firstFull c_now_grid_full c_now_grid_lastFull c_now_grid_turns c_now_grid_marks c_now_rule_kind n1 n2 n3 n4
    intro hf
    unfold fX7_swapLabels_b43 at hf
    refine ww_aload (pc := 43) C dX7_swapLabels_43 5 rfl ?_
    refine ww_iload_n (pc := 45) C dX7_swapLabels_45 rfl 1 rfl ?_
    refine ww_iload_n (pc := 46) C dX7_swapLabels_46 rfl 2 rfl ?_
    obtain ⟨v1, h1, hf⟩ := bsome hf
    refine ww_callVi0 (pc := 47) (As := [.int n1, .int n2]) (rest := []) C (tX1_labelAt l D k q_now_grid q_now_grid_marks c_now_grid_size c_now_grid_full c_now_grid_turns c_now_grid_firstFull c_now_grid_lastFull c_now_grid_marks n1 n2 v1 h1) cv_X7_143 ⟨⟨by decide, by decide⟩, rfl, rfl⟩ 2 rfl rfl [2, 3] rfl rfl rfl rfl (Nat.le_of_ble_eq_true rfl) ⟨Nat.zero_le _, Nat.zero_le _⟩ dX7_swapLabels_47 (fun hb1 => ?_)
    refine ww_istore (pc := 50) (lv' := [(6, .int v1), (0, .ref q_this), (1, .int n1), (2, .int n2), (3, .int n3), (4, .int n4), (5, .ref q_now_grid)]) C dX7_swapLabels_50 (by decide) rfl ?_
    refine ww_aload (pc := 52) C dX7_swapLabels_52 6 rfl ?_
    refine ww_iload_n (pc := 54) C dX7_swapLabels_54 rfl 4 rfl ?_
    refine ww_iload (pc := 55) C dX7_swapLabels_55 5 rfl ?_
    obtain ⟨v2, h2, hf⟩ := bsome hf
    refine ww_callVi0 (pc := 57) (As := [.int n3, .int n4]) (rest := []) C (tX1_labelAt l D k q_now_grid q_now_grid_marks c_now_grid_size c_now_grid_full c_now_grid_turns c_now_grid_firstFull c_now_grid_lastFull c_now_grid_marks n3 n4 v2 h2) cv_X7_143 ⟨⟨by decide, by decide⟩, rfl, rfl⟩ 2 rfl rfl [2, 3] rfl rfl rfl rfl (Nat.le_of_ble_eq_true rfl) ⟨Nat.zero_le _, Nat.zero_le _⟩ dX7_swapLabels_57 (fun hb2 => ?_)
    refine ww_istore (pc := 60) (lv' := [(7, .int v2), (6, .int v1), (0, .ref q_this), (1, .int n1), (2, .int n2), (3, .int n3), (4, .int n4), (5, .ref q_now_grid)]) C dX7_swapLabels_60 (by decide) rfl ?_
    refine ww_iload (pc := 62) C dX7_swapLabels_62 1 rfl ?_
    refine ww_iload (pc := 64) C dX7_swapLabels_64 0 rfl ?_
    refine ww_icmp_ne (pc := 66) (tgt := 72) C dX7_swapLabels_66 (by decide) (fun hc => ?_) (fun hc => ?_)
    · have hf := ifF hc hf
      refine ww_aload (pc := 72) C dX7_swapLabels_72 7 rfl ?_
      refine ww_iload_n (pc := 74) C dX7_swapLabels_74 rfl 3 rfl ?_
      refine ww_iload_n (pc := 75) C dX7_swapLabels_75 rfl 4 rfl ?_
      refine ww_iload (pc := 76) C dX7_swapLabels_76 0 rfl ?_
      obtain ⟨v3, h3, hf⟩ := bsome hf
      refine ww_callVi0 (pc := 78) (As := [.int n1, .int n2, .int v2]) (rest := []) C (tX1_canHave l D k q_now_grid q_now_grid_marks c_now_grid_size c_now_grid_full c_now_grid_turns c_now_grid_firstFull c_now_grid_lastFull n1 n2 v2 v3 h3) cv_X7_331 ⟨⟨by decide, by decide⟩, rfl, rfl⟩ 2 rfl rfl [2] rfl rfl rfl rfl (Nat.le_of_ble_eq_true rfl) ⟨Nat.zero_le _, Nat.zero_le _⟩ dX7_swapLabels_78 (fun hb3 => ?_)
      refine ww_if_eq (pc := 81) (tgt := 97) C dX7_swapLabels_81 (by decide) (fun hc => ?_) (fun hc => ?_)
      · have hf := ifT hc hf
        refine ww_bipush (pc := 97) C dX7_swapLabels_97 kB_m4 ?_
        obtain ⟨e0, e1, e2, e3, e4, e5, e6⟩ := ij7 hf
        exact hret _ _ 99 _ dX7_swapLabels_99 rfl e0 (by rw [← e1, ← e2, ← e3, ← e4, ← e5, ← e6])
      · have hf := ifF hc hf
        refine ww_aload (pc := 84) C dX7_swapLabels_84 7 rfl ?_
        refine ww_iload_n (pc := 86) C dX7_swapLabels_86 rfl 5 rfl ?_
        refine ww_iload (pc := 87) C dX7_swapLabels_87 6 rfl ?_
        refine ww_iload (pc := 89) C dX7_swapLabels_89 1 rfl ?_
        obtain ⟨v4, h4, hf⟩ := bsome hf
        refine ww_callVi0 (pc := 91) (As := [.int n3, .int n4, .int v1]) (rest := []) C (tX1_canHave l D k q_now_grid q_now_grid_marks c_now_grid_size c_now_grid_full c_now_grid_turns c_now_grid_firstFull c_now_grid_lastFull n3 n4 v1 v4 h4) cv_X7_331 ⟨⟨by decide, by decide⟩, rfl, rfl⟩ 2 rfl rfl [2] rfl rfl rfl rfl (Nat.le_of_ble_eq_true rfl) ⟨Nat.zero_le _, Nat.zero_le _⟩ dX7_swapLabels_91 (fun hb4 => ?_)
        refine ww_if_ne (pc := 94) (tgt := 100) C dX7_swapLabels_94 (by decide) (fun hc => ?_) (fun hc => ?_)
        · have hf := ifF hc hf
          refine ww_aload (pc := 100) C dX7_swapLabels_100 7 rfl ?_
          refine ww_iload_n (pc := 102) C dX7_swapLabels_102 rfl 3 rfl ?_
          refine ww_iload_n (pc := 103) C dX7_swapLabels_103 rfl 4 rfl ?_
          refine ww_iload (pc := 104) C dX7_swapLabels_104 0 rfl ?_
          obtain ⟨v5, h5, hf⟩ := bsome hf
          refine ww_callVv (pc := 106) (ws' := [oX7 q_this q_text q_row q_now q_trial q_doors q_history q_kept, oX5 q_now q_now_grid q_now_rule, oX1 q_now_grid q_now_grid_marks c_now_grid_size c_now_grid_full c_now_grid_turns c_now_grid_firstFull c_now_grid_lastFull, aI k q_now_grid_marks 153 v5, oX4 q_now_rule q_now_rule_owned q_now_rule_wished q_now_rule_pulls c_now_rule_kind c_now_rule_traders]) (As := [.int n1, .int n2, .int v2]) (rest := []) C (tX1_put l D k q_now_grid q_now_grid_marks c_now_grid_size c_now_grid_full c_now_grid_turns c_now_grid_firstFull c_now_grid_lastFull c_now_grid_marks n1 n2 v2 v5 h5) cv_X7_335 ⟨⟨by decide, by decide⟩, rfl, rfl⟩ 2 rfl rfl [2, 3] rfl rfl rfl rfl rfl rfl (Nat.le_of_ble_eq_true rfl) ⟨Nat.zero_le _, Nat.zero_le _⟩ dX7_swapLabels_106 ?_
          refine ww_aload (pc := 109) C dX7_swapLabels_109 7 rfl ?_
          refine ww_iload_n (pc := 111) C dX7_swapLabels_111 rfl 5 rfl ?_
          refine ww_iload (pc := 112) C dX7_swapLabels_112 6 rfl ?_
          refine ww_iload (pc := 114) C dX7_swapLabels_114 1 rfl ?_
          obtain ⟨v6, h6, hf⟩ := bsome hf
          refine ww_callVv (pc := 116) (ws' := [oX7 q_this q_text q_row q_now q_trial q_doors q_history q_kept, oX5 q_now q_now_grid q_now_rule, oX1 q_now_grid q_now_grid_marks c_now_grid_size c_now_grid_full c_now_grid_turns c_now_grid_firstFull c_now_grid_lastFull, aI k q_now_grid_marks 153 v6, oX4 q_now_rule q_now_rule_owned q_now_rule_wished q_now_rule_pulls c_now_rule_kind c_now_rule_traders]) (As := [.int n3, .int n4, .int v1]) (rest := []) C (tX1_put l D k q_now_grid q_now_grid_marks c_now_grid_size c_now_grid_full c_now_grid_turns c_now_grid_firstFull c_now_grid_lastFull v5 n3 n4 v1 v6 h6) cv_X7_335 ⟨⟨by decide, by decide⟩, rfl, rfl⟩ 2 rfl rfl [2, 3] rfl rfl rfl rfl rfl rfl (Nat.le_of_ble_eq_true rfl) ⟨Nat.zero_le _, Nat.zero_le _⟩ dX7_swapLabels_116 ?_
          refine ww_aload_n (pc := 119) C dX7_swapLabels_119 rfl 2 rfl ?_
          refine gf7_2 (pc := 120) C kf_X7_26 0 rfl rfl dX7_swapLabels_120 ?_
          refine gf5_1 (pc := 123) C kf_X7_81 1 rfl rfl dX7_swapLabels_123 ?_
          refine ww_iconst (pc := 126) C dX7_swapLabels_126 kI_0 ?_
          refine pf4_3 (pc := 127) (ws' := [oX7 q_this q_text q_row q_now q_trial q_doors q_history q_kept, oX5 q_now q_now_grid q_now_rule, oX1 q_now_grid q_now_grid_marks c_now_grid_size c_now_grid_full c_now_grid_turns c_now_grid_firstFull c_now_grid_lastFull, aI k q_now_grid_marks 153 v6, oX4 q_now_rule q_now_rule_owned q_now_rule_wished q_now_rule_pulls (0 : Int32) c_now_rule_traders]) C kf_X7_85 4 rfl (Nat.le_of_ble_eq_true rfl) rfl dX7_swapLabels_127 ?_
          refine ww_aload (pc := 130) C dX7_swapLabels_130 7 rfl ?_
          obtain ⟨v7, v8, v9, v10, v11, h7, hf⟩ := bd5_some hf
          refine ww_callVi (pc := 132) (ws' := [oX7 q_this q_text q_row q_now q_trial q_doors q_history q_kept, oX5 q_now q_now_grid q_now_rule, oX1 q_now_grid q_now_grid_marks c_now_grid_size v9 v11 v8 v10, aI k q_now_grid_marks 153 v6, oX4 q_now_rule q_now_rule_owned q_now_rule_wished q_now_rule_pulls (0 : Int32) c_now_rule_traders]) (As := []) (rest := []) C (tX1_fullCells l D k q_now_grid q_now_grid_marks c_now_grid_size c_now_grid_full c_now_grid_turns c_now_grid_firstFull c_now_grid_lastFull v6 v7 v8 v9 v10 v11 h7) cv_X7_345 ⟨⟨by decide, by decide⟩, rfl, rfl⟩ 2 rfl rfl [2, 3] rfl rfl rfl rfl rfl rfl (Nat.le_of_ble_eq_true rfl) ⟨Nat.zero_le _, Nat.zero_le _⟩ dX7_swapLabels_132 (fun hb7 => ?_)
          obtain ⟨e0, e1, e2, e3, e4, e5, e6⟩ := ij7 hf
          exact hret _ _ 135 _ dX7_swapLabels_135 rfl e0 (by rw [← e1, ← e2, ← e3, ← e4, ← e5, ← e6])
        · have hf := ifT hc hf
          refine ww_bipush (pc := 97) C dX7_swapLabels_97 kB_m4 ?_
          obtain ⟨e0, e1, e2, e3, e4, e5, e6⟩ := ij7 hf
          exact hret _ _ 99 _ dX7_swapLabels_99 rfl e0 (by rw [← e1, ← e2, ← e3, ← e4, ← e5, ← e6])
    · have hf := ifT hc hf
      refine ww_bipush (pc := 69) C dX7_swapLabels_69 kB_m2 ?_
      obtain ⟨e0, e1, e2, e3, e4, e5, e6⟩ := ij7 hf
      exact hret _ _ 71 _ dX7_swapLabels_71 rfl e0 (by rw [← e1, ← e2, ← e3, ← e4, ← e5, ← e6])
  unfold fX7_swapLabels at hf
  refine ww_aload_n (pc := 0) C dX7_swapLabels_0 rfl 0 rfl ?_
  refine gf7_2 (pc := 1) C kf_X7_26 0 rfl rfl dX7_swapLabels_1 ?_
  refine gf5_0 (pc := 4) C kf_X7_74 1 rfl rfl dX7_swapLabels_4 ?_
  refine ww_astore (pc := 7) (lv' := [(5, .ref q_now_grid), (0, .ref q_this), (1, .int x1), (2, .int x2), (3, .int x3), (4, .int x4)]) C dX7_swapLabels_7 (by decide) rfl ?_
  refine ww_aload (pc := 9) C dX7_swapLabels_9 0 rfl ?_
  refine ww_iload_n (pc := 11) C dX7_swapLabels_11 rfl 2 rfl ?_
  refine ww_iload_n (pc := 12) C dX7_swapLabels_12 rfl 3 rfl ?_
  obtain ⟨v1, h1, hf⟩ := bsome hf
  refine ww_callVi0 (pc := 13) (As := [.int x1, .int x2]) (rest := []) C (tX1_has l D k q_now_grid q_now_grid_marks c_now_grid_size c_now_grid_full c_now_grid_turns c_now_grid_firstFull c_now_grid_lastFull x1 x2 v1 h1) cv_X7_132 ⟨⟨by decide, by decide⟩, rfl, rfl⟩ 2 rfl rfl [2] rfl rfl rfl rfl (Nat.le_of_ble_eq_true rfl) ⟨Nat.zero_le _, Nat.zero_le _⟩ dX7_swapLabels_13 (fun hb1 => ?_)
  refine ww_if_eq (pc := 16) (tgt := 41) C dX7_swapLabels_16 (by decide) (fun hc => ?_) (fun hc => ?_)
  · have hf := ifT hc hf
    refine ww_iconst (pc := 41) C dX7_swapLabels_41 kI_m1 ?_
    obtain ⟨e0, e1, e2, e3, e4, e5, e6⟩ := ij7 hf
    exact hret _ _ 42 _ dX7_swapLabels_42 rfl e0 (by rw [← e1, ← e2, ← e3, ← e4, ← e5, ← e6])
  · have hf := ifF hc hf
    refine ww_aload (pc := 19) C dX7_swapLabels_19 0 rfl ?_
    refine ww_iload_n (pc := 21) C dX7_swapLabels_21 rfl 4 rfl ?_
    refine ww_iload (pc := 22) C dX7_swapLabels_22 5 rfl ?_
    obtain ⟨v2, h2, hf⟩ := bsome hf
    refine ww_callVi0 (pc := 24) (As := [.int x3, .int x4]) (rest := []) C (tX1_has l D k q_now_grid q_now_grid_marks c_now_grid_size c_now_grid_full c_now_grid_turns c_now_grid_firstFull c_now_grid_lastFull x3 x4 v2 h2) cv_X7_132 ⟨⟨by decide, by decide⟩, rfl, rfl⟩ 2 rfl rfl [2] rfl rfl rfl rfl (Nat.le_of_ble_eq_true rfl) ⟨Nat.zero_le _, Nat.zero_le _⟩ dX7_swapLabels_24 (fun hb2 => ?_)
    refine ww_if_eq (pc := 27) (tgt := 41) C dX7_swapLabels_27 (by decide) (fun hc => ?_) (fun hc => ?_)
    · have hf := ifT hc hf
      refine ww_iconst (pc := 41) C dX7_swapLabels_41 kI_m1 ?_
      obtain ⟨e0, e1, e2, e3, e4, e5, e6⟩ := ij7 hf
      exact hret _ _ 42 _ dX7_swapLabels_42 rfl e0 (by rw [← e1, ← e2, ← e3, ← e4, ← e5, ← e6])
    · have hf := ifF hc hf
      refine ww_iload_n (pc := 30) C dX7_swapLabels_30 rfl 2 rfl ?_
      refine ww_iload_n (pc := 31) C dX7_swapLabels_31 rfl 4 rfl ?_
      refine ww_icmp_ne (pc := 32) (tgt := 43) C dX7_swapLabels_32 (by decide) (fun hc => ?_) (fun hc => ?_)
      · have hf := ifF hc hf
        exact ww_lv [1, 2, 3, 4, 5, 0] rfl (hJ43 c_now_grid_firstFull c_now_grid_full c_now_grid_lastFull c_now_grid_turns c_now_grid_marks c_now_rule_kind x1 x2 x3 x4 hf)
      · have hf := ifT hc hf
        refine ww_iload_n (pc := 35) C dX7_swapLabels_35 rfl 3 rfl ?_
        refine ww_iload (pc := 36) C dX7_swapLabels_36 5 rfl ?_
        refine ww_icmp_ne (pc := 38) (tgt := 43) C dX7_swapLabels_38 (by decide) (fun hc => ?_) (fun hc => ?_)
        · have hf := ifF hc hf
          exact ww_lv [1, 2, 3, 4, 5, 0] rfl (hJ43 c_now_grid_firstFull c_now_grid_full c_now_grid_lastFull c_now_grid_turns c_now_grid_marks c_now_rule_kind x1 x2 x3 x4 hf)
        · have hf := ifT hc hf
          refine ww_iconst (pc := 41) C dX7_swapLabels_41 kI_m1 ?_
          obtain ⟨e0, e1, e2, e3, e4, e5, e6⟩ := ij7 hf
          exact hret _ _ 42 _ dX7_swapLabels_42 rfl e0 (by rw [← e1, ← e2, ← e3, ← e4, ← e5, ← e6])
def fX7_changeAmount (c_now_grid_size : Int32) (c_now_rule_kind : Int32) (c_now_rule_traders : Int32) (c_now_rule_wished : Nat → Int32) (c_now_grid_marks : Nat → Int32) (c_now_rule_owned : Nat → Int32) (c_now_rule_pulls : Nat → Int64) (x1 : Int32) (x2 : Int32) (x3 : Int32) : Option (Int32 × (Nat → Int32) × (Nat → Int32) × (Nat → Int64)) := if x1 < 0 then some ((-1 : Int32), c_now_grid_marks, c_now_rule_owned, c_now_rule_pulls) else if (4 : Int32) ≤ x1 then some ((-1 : Int32), c_now_grid_marks, c_now_rule_owned, c_now_rule_pulls) else (fX7_isGood x2).bind fun v1 => if v1 = 0 then some ((-1 : Int32), c_now_grid_marks, c_now_rule_owned, c_now_rule_pulls) else if x3 < 0 then some ((-1 : Int32), c_now_grid_marks, c_now_rule_owned, c_now_rule_pulls) else if x3 ≤ (9 : Int32) then if c_now_rule_kind = (1 : Int32) then if x1 < c_now_rule_traders then (fX4_amount c_now_rule_owned x1 x2).bind fun v2 => if v2 = x3 then some ((-2 : Int32), c_now_grid_marks, c_now_rule_owned, c_now_rule_pulls) else (fX4_setAmount c_now_rule_owned x1 x2 x3).bind fun v3 => (fX4_setPulls c_now_rule_traders v3 c_now_rule_wished c_now_rule_pulls).bind fun v4 => (fX4_layOn c_now_rule_kind v4 c_now_grid_size c_now_grid_marks).bind fun v5 => some (v2, v5, v3, v4) else some ((-1 : Int32), c_now_grid_marks, c_now_rule_owned, c_now_rule_pulls) else some ((-3 : Int32), c_now_grid_marks, c_now_rule_owned, c_now_rule_pulls) else some ((-1 : Int32), c_now_grid_marks, c_now_rule_owned, c_now_rule_pulls)
set_option maxHeartbeats 4000000 in
set_option maxRecDepth 100000 in
theorem tX7_changeAmount (l : Launch) (D : va_G) (k : Nat → ClassId) (q_this q_text q_row q_now q_trial q_doors q_history q_kept q_now_grid q_now_rule q_now_grid_marks q_now_rule_owned q_now_rule_wished q_now_rule_pulls : Nat) (c_now_grid_size : Int32) (c_now_grid_full : Int32) (c_now_grid_turns : Int32) (c_now_grid_firstFull : Int32) (c_now_grid_lastFull : Int32) (c_now_grid_marks : Nat → Int32) (c_now_rule_kind : Int32) (c_now_rule_traders : Int32) (c_now_rule_owned : Nat → Int32) (c_now_rule_pulls : Nat → Int64) (c_now_rule_wished : Nat → Int32) (x1 : Int32) (x2 : Int32) (x3 : Int32) (r_ : Int32) (w_now_grid_marks : Nat → Int32) (w_now_rule_owned : Nat → Int32) (w_now_rule_pulls : Nat → Int64) (hf : fX7_changeAmount c_now_grid_size c_now_rule_kind c_now_rule_traders c_now_rule_wished c_now_grid_marks c_now_rule_owned c_now_rule_pulls x1 x2 x3 = some (r_, w_now_grid_marks, w_now_rule_owned, w_now_rule_pulls)) : MI l yX7_changeAmount cX7_changeAmount 6 .int (RM 4 100) D k [.ref q_this, .int x1, .int x2, .int x3] [oX7 q_this q_text q_row q_now q_trial q_doors q_history q_kept, oX5 q_now q_now_grid q_now_rule, oX1 q_now_grid q_now_grid_marks c_now_grid_size c_now_grid_full c_now_grid_turns c_now_grid_firstFull c_now_grid_lastFull, aI k q_now_grid_marks 153 c_now_grid_marks, oX4 q_now_rule q_now_rule_owned q_now_rule_wished q_now_rule_pulls c_now_rule_kind c_now_rule_traders, aI k q_now_rule_owned 12 c_now_rule_owned, aJ k q_now_rule_pulls 9 c_now_rule_pulls, aI k q_now_rule_wished 12 c_now_rule_wished] r_ [oX7 q_this q_text q_row q_now q_trial q_doors q_history q_kept, oX5 q_now q_now_grid q_now_rule, oX1 q_now_grid q_now_grid_marks c_now_grid_size c_now_grid_full c_now_grid_turns c_now_grid_firstFull c_now_grid_lastFull, aI k q_now_grid_marks 153 w_now_grid_marks, oX4 q_now_rule q_now_rule_owned q_now_rule_wished q_now_rule_pulls c_now_rule_kind c_now_rule_traders, aI k q_now_rule_owned 12 w_now_rule_owned, aJ k q_now_rule_pulls 9 w_now_rule_pulls, aI k q_now_rule_wished 12 c_now_rule_wished] := by
  refine mkMI' (own := "DoorWalk") (by decide) rfl (Nat.le_of_ble_eq_true rfl) ?_
  intro p e s m args below meth c Q A hret C
  refine ww_lv (lv' := [(0, .ref q_this), (1, .int x1), (2, .int x2), (3, .int x3)]) [0, 1, 2, 3] rfl ?_
  unfold fX7_changeAmount at hf
  refine ww_aload_n (pc := 0) C dX7_changeAmount_0 rfl 0 rfl ?_
  refine gf7_2 (pc := 1) C kf_X7_26 0 rfl rfl dX7_changeAmount_1 ?_
  refine gf5_1 (pc := 4) C kf_X7_81 1 rfl rfl dX7_changeAmount_4 ?_
  refine ww_astore (pc := 7) (lv' := [(4, .ref q_now_rule), (0, .ref q_this), (1, .int x1), (2, .int x2), (3, .int x3)]) C dX7_changeAmount_7 (by decide) rfl ?_
  refine ww_iload_n (pc := 9) C dX7_changeAmount_9 rfl 2 rfl ?_
  refine ww_if_lt (pc := 10) (tgt := 35) C dX7_changeAmount_10 (by decide) (fun hc => ?_) (fun hc => ?_)
  · have hf := ifT hc hf
    refine ww_iconst (pc := 35) C dX7_changeAmount_35 kI_m1 ?_
    obtain ⟨e0, e1, e2, e3⟩ := ij4 hf
    exact hret _ _ 36 _ dX7_changeAmount_36 rfl e0 (by rw [← e1, ← e2, ← e3])
  · have hf := ifF hc hf
    refine ww_iload_n (pc := 13) C dX7_changeAmount_13 rfl 2 rfl ?_
    refine ww_iconst (pc := 14) C dX7_changeAmount_14 kI_4 ?_
    refine ww_icmp_ge (pc := 15) (tgt := 35) C dX7_changeAmount_15 (by decide) (fun hc => ?_) (fun hc => ?_)
    · have hf := ifT hc hf
      refine ww_iconst (pc := 35) C dX7_changeAmount_35 kI_m1 ?_
      obtain ⟨e0, e1, e2, e3⟩ := ij4 hf
      exact hret _ _ 36 _ dX7_changeAmount_36 rfl e0 (by rw [← e1, ← e2, ← e3])
    · have hf := ifF hc hf
      refine ww_iload_n (pc := 18) C dX7_changeAmount_18 rfl 3 rfl ?_
      obtain ⟨v1, h1, hf⟩ := bsome hf
      refine ww_callSi0 (pc := 19) (As := [.int x2]) (rest := []) C (tX7_isGood l D k x2 v1 h1) cs_X7_195 ⟨⟨by decide, by decide⟩, rfl, rfl⟩ [] rfl rfl rfl rfl (Nat.le_of_ble_eq_true rfl) ⟨Nat.zero_le _, Nat.zero_le _⟩ dX7_changeAmount_19 (fun hb1 => ?_)
      refine ww_if_eq (pc := 22) (tgt := 35) C dX7_changeAmount_22 (by decide) (fun hc => ?_) (fun hc => ?_)
      · have hf := ifT hc hf
        refine ww_iconst (pc := 35) C dX7_changeAmount_35 kI_m1 ?_
        obtain ⟨e0, e1, e2, e3⟩ := ij4 hf
        exact hret _ _ 36 _ dX7_changeAmount_36 rfl e0 (by rw [← e1, ← e2, ← e3])
      · have hf := ifF hc hf
        refine ww_iload_n (pc := 25) C dX7_changeAmount_25 rfl 4 rfl ?_
        refine ww_if_lt (pc := 26) (tgt := 35) C dX7_changeAmount_26 (by decide) (fun hc => ?_) (fun hc => ?_)
        · have hf := ifT hc hf
          refine ww_iconst (pc := 35) C dX7_changeAmount_35 kI_m1 ?_
          obtain ⟨e0, e1, e2, e3⟩ := ij4 hf
          exact hret _ _ 36 _ dX7_changeAmount_36 rfl e0 (by rw [← e1, ← e2, ← e3])
        · have hf := ifF hc hf
          refine ww_iload_n (pc := 29) C dX7_changeAmount_29 rfl 4 rfl ?_
          refine ww_bipush (pc := 30) C dX7_changeAmount_30 kB_9 ?_
          refine ww_icmp_le (pc := 32) (tgt := 37) C dX7_changeAmount_32 (by decide) (fun hc => ?_) (fun hc => ?_)
          · have hf := ifT hc hf
            refine ww_aload (pc := 37) C dX7_changeAmount_37 0 rfl ?_
            refine gf4_3 (pc := 39) C kf_X7_85 4 rfl rfl dX7_changeAmount_39 ?_
            refine ww_iconst (pc := 42) C dX7_changeAmount_42 kI_1 ?_
            refine ww_icmp_eq (pc := 43) (tgt := 49) C dX7_changeAmount_43 (by decide) (fun hc => ?_) (fun hc => ?_)
            · have hf := ifT hc hf
              refine ww_iload_n (pc := 49) C dX7_changeAmount_49 rfl 2 rfl ?_
              refine ww_aload (pc := 50) C dX7_changeAmount_50 0 rfl ?_
              refine gf4_4 (pc := 52) C kf_X7_319 4 rfl rfl dX7_changeAmount_52 ?_
              refine ww_icmp_lt (pc := 55) (tgt := 60) C dX7_changeAmount_55 (by decide) (fun hc => ?_) (fun hc => ?_)
              · have hf := ifT hc hf
                refine ww_aload (pc := 60) C dX7_changeAmount_60 0 rfl ?_
                refine ww_iload_n (pc := 62) C dX7_changeAmount_62 rfl 2 rfl ?_
                refine ww_iload_n (pc := 63) C dX7_changeAmount_63 rfl 3 rfl ?_
                obtain ⟨v2, h2, hf⟩ := bsome hf
                refine ww_callVi0 (pc := 64) (As := [.int x1, .int x2]) (rest := []) C (tX4_amount l D k q_now_rule q_now_rule_owned q_now_rule_wished q_now_rule_pulls c_now_rule_kind c_now_rule_traders c_now_rule_owned x1 x2 v2 h2) cv_X7_412 ⟨⟨by decide, by decide⟩, rfl, rfl⟩ 4 rfl rfl [4, 5] rfl rfl rfl rfl (Nat.le_of_ble_eq_true rfl) ⟨Nat.zero_le _, Nat.zero_le _⟩ dX7_changeAmount_64 (fun hb2 => ?_)
                refine ww_istore (pc := 67) (lv' := [(5, .int v2), (4, .ref q_now_rule), (0, .ref q_this), (1, .int x1), (2, .int x2), (3, .int x3)]) C dX7_changeAmount_67 (by decide) rfl ?_
                refine ww_iload (pc := 69) C dX7_changeAmount_69 0 rfl ?_
                refine ww_iload_n (pc := 71) C dX7_changeAmount_71 rfl 5 rfl ?_
                refine ww_icmp_ne (pc := 72) (tgt := 78) C dX7_changeAmount_72 (by decide) (fun hc => ?_) (fun hc => ?_)
                · have hf := ifF hc hf
                  refine ww_aload (pc := 78) C dX7_changeAmount_78 1 rfl ?_
                  refine ww_iload_n (pc := 80) C dX7_changeAmount_80 rfl 3 rfl ?_
                  refine ww_iload_n (pc := 81) C dX7_changeAmount_81 rfl 4 rfl ?_
                  refine ww_iload_n (pc := 82) C dX7_changeAmount_82 rfl 5 rfl ?_
                  obtain ⟨v3, h3, hf⟩ := bsome hf
                  refine ww_callVv (pc := 83) (ws' := [oX7 q_this q_text q_row q_now q_trial q_doors q_history q_kept, oX5 q_now q_now_grid q_now_rule, oX1 q_now_grid q_now_grid_marks c_now_grid_size c_now_grid_full c_now_grid_turns c_now_grid_firstFull c_now_grid_lastFull, aI k q_now_grid_marks 153 c_now_grid_marks, oX4 q_now_rule q_now_rule_owned q_now_rule_wished q_now_rule_pulls c_now_rule_kind c_now_rule_traders, aI k q_now_rule_owned 12 v3, aJ k q_now_rule_pulls 9 c_now_rule_pulls, aI k q_now_rule_wished 12 c_now_rule_wished]) (As := [.int x1, .int x2, .int x3]) (rest := []) C (tX4_setAmount l D k q_now_rule q_now_rule_owned q_now_rule_wished q_now_rule_pulls c_now_rule_kind c_now_rule_traders c_now_rule_owned x1 x2 x3 v3 h3) cv_X7_415 ⟨⟨by decide, by decide⟩, rfl, rfl⟩ 4 rfl rfl [4, 5] rfl rfl rfl rfl rfl rfl (Nat.le_of_ble_eq_true rfl) ⟨Nat.zero_le _, Nat.zero_le _⟩ dX7_changeAmount_83 ?_
                  refine ww_aload (pc := 86) C dX7_changeAmount_86 1 rfl ?_
                  obtain ⟨v4, h4, hf⟩ := bsome hf
                  refine ww_callVv (pc := 88) (ws' := [oX7 q_this q_text q_row q_now q_trial q_doors q_history q_kept, oX5 q_now q_now_grid q_now_rule, oX1 q_now_grid q_now_grid_marks c_now_grid_size c_now_grid_full c_now_grid_turns c_now_grid_firstFull c_now_grid_lastFull, aI k q_now_grid_marks 153 c_now_grid_marks, oX4 q_now_rule q_now_rule_owned q_now_rule_wished q_now_rule_pulls c_now_rule_kind c_now_rule_traders, aI k q_now_rule_owned 12 v3, aJ k q_now_rule_pulls 9 v4, aI k q_now_rule_wished 12 c_now_rule_wished]) (As := []) (rest := []) C (tX4_setPulls l D k q_now_rule q_now_rule_owned q_now_rule_wished q_now_rule_pulls c_now_rule_kind c_now_rule_traders v3 c_now_rule_pulls c_now_rule_wished v4 h4) cv_X7_418 ⟨⟨by decide, by decide⟩, rfl, rfl⟩ 4 rfl rfl [4, 5, 6, 7] rfl rfl rfl rfl rfl rfl (Nat.le_of_ble_eq_true rfl) ⟨Nat.zero_le _, Nat.zero_le _⟩ dX7_changeAmount_88 ?_
                  refine ww_aload (pc := 91) C dX7_changeAmount_91 1 rfl ?_
                  refine ww_aload_n (pc := 93) C dX7_changeAmount_93 rfl 2 rfl ?_
                  refine gf7_2 (pc := 94) C kf_X7_26 0 rfl rfl dX7_changeAmount_94 ?_
                  refine gf5_0 (pc := 97) C kf_X7_74 1 rfl rfl dX7_changeAmount_97 ?_
                  obtain ⟨v5, h5, hf⟩ := bsome hf
                  refine ww_callVv (pc := 100) (ws' := [oX7 q_this q_text q_row q_now q_trial q_doors q_history q_kept, oX5 q_now q_now_grid q_now_rule, oX1 q_now_grid q_now_grid_marks c_now_grid_size c_now_grid_full c_now_grid_turns c_now_grid_firstFull c_now_grid_lastFull, aI k q_now_grid_marks 153 v5, oX4 q_now_rule q_now_rule_owned q_now_rule_wished q_now_rule_pulls c_now_rule_kind c_now_rule_traders, aI k q_now_rule_owned 12 v3, aJ k q_now_rule_pulls 9 v4, aI k q_now_rule_wished 12 c_now_rule_wished]) (As := [.ref q_now_grid]) (rest := []) C (tX4_layOn l D k q_now_rule q_now_rule_owned q_now_rule_wished q_now_rule_pulls q_now_grid q_now_grid_marks c_now_rule_kind c_now_rule_traders v4 c_now_grid_size c_now_grid_full c_now_grid_turns c_now_grid_firstFull c_now_grid_lastFull c_now_grid_marks v5 h5) cv_X7_100 ⟨⟨by decide, by decide⟩, rfl, rfl⟩ 4 rfl rfl [4, 6, 2, 3] rfl rfl rfl rfl rfl rfl (Nat.le_of_ble_eq_true rfl) ⟨Nat.zero_le _, Nat.zero_le _⟩ dX7_changeAmount_100 ?_
                  refine ww_iload (pc := 103) C dX7_changeAmount_103 0 rfl ?_
                  obtain ⟨e0, e1, e2, e3⟩ := ij4 hf
                  exact hret _ _ 105 _ dX7_changeAmount_105 rfl e0 (by rw [← e1, ← e2, ← e3])
                · have hf := ifT hc hf
                  refine ww_bipush (pc := 75) C dX7_changeAmount_75 kB_m2 ?_
                  obtain ⟨e0, e1, e2, e3⟩ := ij4 hf
                  exact hret _ _ 77 _ dX7_changeAmount_77 rfl e0 (by rw [← e1, ← e2, ← e3])
              · have hf := ifF hc hf
                refine ww_iconst (pc := 58) C dX7_changeAmount_58 kI_m1 ?_
                obtain ⟨e0, e1, e2, e3⟩ := ij4 hf
                exact hret _ _ 59 _ dX7_changeAmount_59 rfl e0 (by rw [← e1, ← e2, ← e3])
            · have hf := ifF hc hf
              refine ww_bipush (pc := 46) C dX7_changeAmount_46 kB_m3 ?_
              obtain ⟨e0, e1, e2, e3⟩ := ij4 hf
              exact hret _ _ 48 _ dX7_changeAmount_48 rfl e0 (by rw [← e1, ← e2, ← e3])
          · have hf := ifF hc hf
            refine ww_iconst (pc := 35) C dX7_changeAmount_35 kI_m1 ?_
            obtain ⟨e0, e1, e2, e3⟩ := ij4 hf
            exact hret _ _ 36 _ dX7_changeAmount_36 rfl e0 (by rw [← e1, ← e2, ← e3])
def fX7_digitsOfAct (x1 : Int32) : Option Int32 := if x1 = (97 : Int32) then some ((3 : Int32)) else if x1 = (103 : Int32) then some ((2 : Int32)) else if x1 = (108 : Int32) then some ((5 : Int32)) else if x1 = (115 : Int32) then some ((8 : Int32)) else some ((0 : Int32))
set_option maxHeartbeats 4000000 in
set_option maxRecDepth 100000 in
theorem tX7_digitsOfAct (l : Launch) (D : va_G) (k : Nat → ClassId)   (x1 : Int32) (r_ : Int32) (hf : fX7_digitsOfAct x1 = some (r_)) : MI l yX7_digitsOfAct cX7_digitsOfAct 1 .int (RM 0 0) D k [.int x1] [] r_ [] := by
  refine mkMI' (own := "DoorWalk") (by decide) rfl (Nat.le_of_ble_eq_true rfl) ?_
  intro p e s m args below meth c Q A hret C
  refine ww_lv (lv' := [(0, .int x1)]) [0] rfl ?_
  unfold fX7_digitsOfAct at hf
  refine ww_iload_n (pc := 0) C dX7_digitsOfAct_0 rfl 0 rfl ?_
  by_cases hs0 : x1 = (97 : Int32)
  · have hf := ifT hs0 hf
    refine ww_lookup (pc := 1) (off := 50) (tgt := 51) C dX7_digitsOfAct_1 (by decide) (by rw [hs0]; rfl) (by decide) ?_
    refine ww_iconst (pc := 51) C dX7_digitsOfAct_51 kI_3 ?_
    obtain e0 := ij1 hf
    exact hret _ _ 52 _ dX7_digitsOfAct_52 rfl e0 rfl
  · have hf := ifF hs0 hf
    by_cases hs1 : x1 = (103 : Int32)
    · have hf := ifT hs1 hf
      refine ww_lookup (pc := 1) (off := 45) (tgt := 46) C dX7_digitsOfAct_1 (by decide) (by rw [lv_osw hs0 (by decide)]; rw [hs1]; rfl) (by decide) ?_
      refine ww_iconst (pc := 46) C dX7_digitsOfAct_46 kI_2 ?_
      obtain e0 := ij1 hf
      exact hret _ _ 47 _ dX7_digitsOfAct_47 rfl e0 rfl
    · have hf := ifF hs1 hf
      by_cases hs2 : x1 = (108 : Int32)
      · have hf := ifT hs2 hf
        refine ww_lookup (pc := 1) (off := 43) (tgt := 44) C dX7_digitsOfAct_1 (by decide) (by rw [lv_osw hs0 (by decide)]; rw [lv_osw hs1 (by decide)]; rw [hs2]; rfl) (by decide) ?_
        refine ww_iconst (pc := 44) C dX7_digitsOfAct_44 kI_5 ?_
        obtain e0 := ij1 hf
        exact hret _ _ 45 _ dX7_digitsOfAct_45 rfl e0 rfl
      · have hf := ifF hs2 hf
        by_cases hs3 : x1 = (115 : Int32)
        · have hf := ifT hs3 hf
          refine ww_lookup (pc := 1) (off := 47) (tgt := 48) C dX7_digitsOfAct_1 (by decide) (by rw [lv_osw hs0 (by decide)]; rw [lv_osw hs1 (by decide)]; rw [lv_osw hs2 (by decide)]; rw [hs3]; rfl) (by decide) ?_
          refine ww_bipush (pc := 48) C dX7_digitsOfAct_48 kB_8 ?_
          obtain e0 := ij1 hf
          exact hret _ _ 50 _ dX7_digitsOfAct_50 rfl e0 rfl
        · have hf := ifF hs3 hf
          refine ww_lookup (pc := 1) (off := 52) (tgt := 53) C dX7_digitsOfAct_1 (by decide) (by rw [lv_osw hs0 (by decide)]; rw [lv_osw hs1 (by decide)]; rw [lv_osw hs2 (by decide)]; rw [lv_osw hs3 (by decide)]; rfl) (by decide) ?_
          refine ww_iconst (pc := 53) C dX7_digitsOfAct_53 kI_0 ?_
          obtain e0 := ij1 hf
          exact hret _ _ 54 _ dX7_digitsOfAct_54 rfl e0 rfl
def fX7_wrongInDay_b33 (c_text_length : Int32) (c_text_signs : Nat → Int32) (rc2 : Int32 → Option Int32) (rc33 : Int32 → Int32 → Int32 → Option Int32) (n1 : Int32) (n2 : Int32) (n3 : Int32) : Option Int32 := if n2 < n3 then (some (n1 + ((1 : Int32) + n2))).bind fun v1 => rc2 v1 else (fX6_digit c_text_length c_text_signs (n1 + n3)).bind fun v2 => if v2 = (-1 : Int32) then some ((n1 + n3)) else (some (n3 + (1 : Int32))).bind fun v3 => rc33 n1 n2 v3
def fX7_wrongInDay_b2 (c_text_length : Int32) (c_text_signs : Nat → Int32) (rc2 : Int32 → Option Int32) (n1 : Int32) : Option Int32 := if c_text_length ≤ n1 then some ((-1 : Int32)) else (fX6_at c_text_length c_text_signs n1).bind fun v1 => (fX7_digitsOfAct v1).bind fun v2 => if v2 = 0 then some (n1) else lfix (fX7_wrongInDay_b33 c_text_length c_text_signs rc2) (fun _ _ _ => none) FU n1 v2 (1 : Int32)
def fX7_wrongInDay (c_text_length : Int32) (c_text_signs : Nat → Int32) : Option Int32 := lfix (fX7_wrongInDay_b2 c_text_length c_text_signs) (fun _ => none) FU (0 : Int32)
set_option maxHeartbeats 4000000 in
set_option maxRecDepth 100000 in
theorem tX7_wrongInDay (l : Launch) (D : va_G) (k : Nat → ClassId) (q_this q_text q_row q_now q_trial q_doors q_history q_kept q_text_signs : Nat) (c_text_length : Int32) (c_text_signs : Nat → Int32)  (r_ : Int32) (hf : fX7_wrongInDay c_text_length c_text_signs = some (r_)) : MI l yX7_wrongInDay cX7_wrongInDay 4 .int (RM 2 43) D k [.ref q_this] [oX7 q_this q_text q_row q_now q_trial q_doors q_history q_kept, oX6 q_text q_text_signs c_text_length, aI k q_text_signs 80 c_text_signs] r_ [oX7 q_this q_text q_row q_now q_trial q_doors q_history q_kept, oX6 q_text q_text_signs c_text_length, aI k q_text_signs 80 c_text_signs] := by
  refine mkMI' (own := "DoorWalk") (by decide) rfl (Nat.le_of_ble_eq_true rfl) ?_
  intro p e s m args below meth c Q A hret C
  refine ww_lv (lv' := [(0, .ref q_this)]) [0] rfl ?_
  have hL2 : ∀ (n : Nat) (n1 : Int32), lfix (fX7_wrongInDay_b2 c_text_length c_text_signs) (fun _ => none) n n1 = some (r_) → WW p l e (RM 2 43) s m args below meth c Q 4 D A 0 0 [oX7 q_this q_text q_row q_now q_trial q_doors q_history q_kept, oX6 q_text q_text_signs c_text_length, aI k q_text_signs 80 c_text_signs] [(0, .ref q_this), (1, .int n1)] 2 [] := by
    intro n
    induction n with
    | zero => intro n1 hf; cases hf
    | succ n ih2 =>
      obtain ⟨rc2, hrc2⟩ : ∃ f9, f9 = lfix (fX7_wrongInDay_b2 c_text_length c_text_signs) (fun _ => none) n := ⟨_, rfl⟩
      rw [← hrc2] at ih2
      have hL33 : ∀ (n : Nat) (n1 : Int32) (n2 : Int32) (n3 : Int32), lfix (fX7_wrongInDay_b33 c_text_length c_text_signs rc2) (fun _ _ _ => none) n n1 n2 n3 = some (r_) → WW p l e (RM 2 43) s m args below meth c Q 4 D A 0 0 [oX7 q_this q_text q_row q_now q_trial q_doors q_history q_kept, oX6 q_text q_text_signs c_text_length, aI k q_text_signs 80 c_text_signs] [(0, .ref q_this), (1, .int n1), (2, .int n2), (3, .int n3)] 33 [] := by
        intro n
        induction n with
        | zero => intro n1 n2 n3 hf; cases hf
        | succ n ih33 =>
          obtain ⟨rc33, hrc33⟩ : ∃ f9, f9 = lfix (fX7_wrongInDay_b33 c_text_length c_text_signs rc2) (fun _ _ _ => none) n := ⟨_, rfl⟩
          rw [← hrc33] at ih33
          intro n1 n2 n3 hf
          have hf : fX7_wrongInDay_b33 c_text_length c_text_signs rc2 rc33 n1 n2 n3 = some (r_) := by rw [hrc33]; exact hf
          unfold fX7_wrongInDay_b33 at hf
          refine ww_iload_n (pc := 33) C dX7_wrongInDay_33 rfl 3 rfl ?_
          refine ww_iload_n (pc := 34) C dX7_wrongInDay_34 rfl 2 rfl ?_
          refine ww_icmp_gt (pc := 35) (tgt := 62) C dX7_wrongInDay_35 (by decide) (fun hc => ?_) (fun hc => ?_)
          · have hf := ifT hc hf
            refine ww_iload_n (pc := 62) C dX7_wrongInDay_62 rfl 1 rfl ?_
            refine ww_iconst (pc := 63) C dX7_wrongInDay_63 kI_1 ?_
            refine ww_iload_n (pc := 64) C dX7_wrongInDay_64 rfl 2 rfl ?_
            refine ww_iadd (pc := 65) C dX7_wrongInDay_65  ?_
            refine ww_iadd (pc := 66) C dX7_wrongInDay_66  ?_
            obtain ⟨v1, h1, hf⟩ := bsome hf
            refine ww_nmi h1 ?_
            refine ww_istore_n (pc := 67) (lv' := [(1, .int v1), (0, .ref q_this), (2, .int n2), (3, .int n3)]) C dX7_wrongInDay_67 rfl (by decide) rfl ?_
            refine ww_goto (pc := 68) (tgt := 2) C dX7_wrongInDay_68 (by decide) ?_
            exact ww_lv [1, 0] rfl (ih2 v1 hf)
          · have hf := ifF hc hf
            refine ww_aload_n (pc := 38) C dX7_wrongInDay_38 rfl 0 rfl ?_
            refine gf7_0 (pc := 39) C kf_X7_12 0 rfl rfl dX7_wrongInDay_39 ?_
            refine ww_iload_n (pc := 42) C dX7_wrongInDay_42 rfl 1 rfl ?_
            refine ww_iload_n (pc := 43) C dX7_wrongInDay_43 rfl 3 rfl ?_
            refine ww_iadd (pc := 44) C dX7_wrongInDay_44  ?_
            obtain ⟨v2, h2, hf⟩ := bsome hf
            refine ww_callVi0 (pc := 45) (As := [.int (n1 + n3)]) (rest := []) C (tX6_digit l D k q_text q_text_signs c_text_length c_text_signs (n1 + n3) v2 h2) cv_X7_406 ⟨⟨by decide, by decide⟩, rfl, rfl⟩ 1 rfl rfl [1, 2] rfl rfl rfl rfl (Nat.le_of_ble_eq_true rfl) ⟨Nat.zero_le _, Nat.zero_le _⟩ dX7_wrongInDay_45 (fun hb2 => ?_)
            refine ww_iconst (pc := 48) C dX7_wrongInDay_48 kI_m1 ?_
            refine ww_icmp_ne (pc := 49) (tgt := 56) C dX7_wrongInDay_49 (by decide) (fun hc => ?_) (fun hc => ?_)
            · have hf := ifF hc hf
              obtain ⟨v3, h3, hf⟩ := bsome hf
              refine ww_iincN (pc := 56) (lv' := [(3, .int v3), (0, .ref q_this), (1, .int n1), (2, .int n2)]) (j := 3) C dX7_wrongInDay_56 kI_1 rfl h3 (by decide) rfl ?_
              refine ww_goto (pc := 59) (tgt := 33) C dX7_wrongInDay_59 (by decide) ?_
              exact ww_lv [1, 2, 3, 0] rfl (ih33 n1 n2 v3 hf)
            · have hf := ifT hc hf
              refine ww_iload_n (pc := 52) C dX7_wrongInDay_52 rfl 1 rfl ?_
              refine ww_iload_n (pc := 53) C dX7_wrongInDay_53 rfl 3 rfl ?_
              refine ww_iadd (pc := 54) C dX7_wrongInDay_54  ?_
              obtain e0 := ij1 hf
              exact hret _ _ 55 _ dX7_wrongInDay_55 rfl e0 rfl
      intro n1 hf
      have hf : fX7_wrongInDay_b2 c_text_length c_text_signs rc2 n1 = some (r_) := by rw [hrc2]; exact hf
      unfold fX7_wrongInDay_b2 at hf
      refine ww_iload_n (pc := 2) C dX7_wrongInDay_2 rfl 1 rfl ?_
      refine ww_aload_n (pc := 3) C dX7_wrongInDay_3 rfl 0 rfl ?_
      refine gf7_0 (pc := 4) C kf_X7_12 0 rfl rfl dX7_wrongInDay_4 ?_
      refine gf6_1 (pc := 7) C kf_X7_59 1 rfl rfl dX7_wrongInDay_7 ?_
      refine ww_icmp_ge (pc := 10) (tgt := 71) C dX7_wrongInDay_10 (by decide) (fun hc => ?_) (fun hc => ?_)
      · have hf := ifT hc hf
        refine ww_iconst (pc := 71) C dX7_wrongInDay_71 kI_m1 ?_
        obtain e0 := ij1 hf
        exact hret _ _ 72 _ dX7_wrongInDay_72 rfl e0 rfl
      · have hf := ifF hc hf
        refine ww_aload_n (pc := 13) C dX7_wrongInDay_13 rfl 0 rfl ?_
        refine gf7_0 (pc := 14) C kf_X7_12 0 rfl rfl dX7_wrongInDay_14 ?_
        refine ww_iload_n (pc := 17) C dX7_wrongInDay_17 rfl 1 rfl ?_
        obtain ⟨v1, h1, hf⟩ := bsome hf
        refine ww_callVi0 (pc := 18) (As := [.int n1]) (rest := []) C (tX6_at l D k q_text q_text_signs c_text_length c_text_signs n1 v1 h1) cv_X7_374 ⟨⟨by decide, by decide⟩, rfl, rfl⟩ 1 rfl rfl [1, 2] rfl rfl rfl rfl (Nat.le_of_ble_eq_true rfl) ⟨Nat.zero_le _, Nat.zero_le _⟩ dX7_wrongInDay_18 (fun hb1 => ?_)
        obtain ⟨v2, h2, hf⟩ := bsome hf
        refine ww_callSi0 (pc := 21) (As := [.int v1]) (rest := []) C (tX7_digitsOfAct l D k v1 v2 h2) cs_X7_376 ⟨⟨by decide, by decide⟩, rfl, rfl⟩ [] rfl rfl rfl rfl (Nat.le_of_ble_eq_true rfl) ⟨Nat.zero_le _, Nat.zero_le _⟩ dX7_wrongInDay_21 (fun hb2 => ?_)
        refine ww_istore_n (pc := 24) (lv' := [(2, .int v2), (0, .ref q_this), (1, .int n1)]) C dX7_wrongInDay_24 rfl (by decide) rfl ?_
        refine ww_iload_n (pc := 25) C dX7_wrongInDay_25 rfl 0 rfl ?_
        refine ww_if_ne (pc := 26) (tgt := 31) C dX7_wrongInDay_26 (by decide) (fun hc => ?_) (fun hc => ?_)
        · have hf := ifF hc hf
          refine ww_iconst (pc := 31) C dX7_wrongInDay_31 kI_1 ?_
          refine ww_istore_n (pc := 32) (lv' := [(3, .int (1 : Int32)), (2, .int v2), (0, .ref q_this), (1, .int n1)]) C dX7_wrongInDay_32 rfl (by decide) rfl ?_
          exact ww_lv [2, 3, 1, 0] rfl (hL33 FU n1 v2 (1 : Int32) hf)
        · have hf := ifT hc hf
          refine ww_iload_n (pc := 29) C dX7_wrongInDay_29 rfl 2 rfl ?_
          obtain e0 := ij1 hf
          exact hret _ _ 30 _ dX7_wrongInDay_30 rfl e0 rfl
  unfold fX7_wrongInDay at hf
  refine ww_iconst (pc := 0) C dX7_wrongInDay_0 kI_0 ?_
  refine ww_istore_n (pc := 1) (lv' := [(1, .int (0 : Int32)), (0, .ref q_this)]) C dX7_wrongInDay_1 rfl (by decide) rfl ?_
  exact ww_lv [1, 0] rfl (hL2 FU (0 : Int32) hf)
def fX7_doAct (c_now_rule_traders : Int32) (c_now_rule_wished : Nat → Int32) (c_text_length : Int32) (c_text_signs : Nat → Int32) (c_now_grid_firstFull : Int32) (c_now_grid_full : Int32) (c_now_grid_lastFull : Int32) (c_now_grid_size : Int32) (c_now_grid_turns : Int32) (c_now_grid_marks : Nat → Int32) (c_now_rule_kind : Int32) (c_now_rule_owned : Nat → Int32) (c_now_rule_pulls : Nat → Int64) (x1 : Int32) : Option (Int32 × Int32 × Int32 × Int32 × Int32 × Int32 × (Nat → Int32) × Int32 × (Nat → Int32) × (Nat → Int64)) := (fX6_at c_text_length c_text_signs x1).bind fun v1 => if v1 = (97 : Int32) then (fX6_digit c_text_length c_text_signs (x1 + (1 : Int32))).bind fun v2 => (fX6_digit c_text_length c_text_signs (x1 + (2 : Int32))).bind fun v3 => (fX6_digit c_text_length c_text_signs (x1 + (3 : Int32))).bind fun v4 => bd4 (fX7_changeAmount c_now_grid_size c_now_rule_kind c_now_rule_traders c_now_rule_wished c_now_grid_marks c_now_rule_owned c_now_rule_pulls v2 v3 v4) fun v5 v6 v7 v8 => some (v5, c_now_grid_firstFull, c_now_grid_full, c_now_grid_lastFull, c_now_grid_size, c_now_grid_turns, v6, c_now_rule_kind, v7, v8) else if v1 = (103 : Int32) then (fX6_twoDigits c_text_length c_text_signs (x1 + (1 : Int32))).bind fun v9 => bd7 (fX7_changeGrid c_now_rule_kind c_now_rule_pulls c_now_grid_firstFull c_now_grid_full c_now_grid_lastFull c_now_grid_size c_now_grid_turns c_now_grid_marks v9) fun v10 v11 v12 v13 v14 v15 v16 => some (v10, v11, v12, v13, v14, v15, v16, c_now_rule_kind, c_now_rule_owned, c_now_rule_pulls) else if v1 = (108 : Int32) then (fX6_twoDigits c_text_length c_text_signs (x1 + (1 : Int32))).bind fun v17 => (fX6_twoDigits c_text_length c_text_signs (x1 + (3 : Int32))).bind fun v18 => (fX6_digit c_text_length c_text_signs (x1 + (5 : Int32))).bind fun v19 => bd3 (fX7_layLabel c_now_grid_size c_now_grid_marks c_now_rule_kind v17 v18 v19) fun v20 v21 v22 => some (v20, c_now_grid_firstFull, c_now_grid_full, c_now_grid_lastFull, c_now_grid_size, c_now_grid_turns, v21, v22, c_now_rule_owned, c_now_rule_pulls) else if v1 = (115 : Int32) then (fX6_twoDigits c_text_length c_text_signs (x1 + (1 : Int32))).bind fun v23 => (fX6_twoDigits c_text_length c_text_signs (x1 + (3 : Int32))).bind fun v24 => (fX6_twoDigits c_text_length c_text_signs (x1 + (5 : Int32))).bind fun v25 => (fX6_twoDigits c_text_length c_text_signs (x1 + (7 : Int32))).bind fun v26 => bd7 (fX7_swapLabels c_now_grid_size c_now_grid_firstFull c_now_grid_full c_now_grid_lastFull c_now_grid_turns c_now_grid_marks c_now_rule_kind v23 v24 v25 v26) fun v27 v28 v29 v30 v31 v32 v33 => some (v27, v28, v29, v30, c_now_grid_size, v31, v32, v33, c_now_rule_owned, c_now_rule_pulls) else some ((-1 : Int32), c_now_grid_firstFull, c_now_grid_full, c_now_grid_lastFull, c_now_grid_size, c_now_grid_turns, c_now_grid_marks, c_now_rule_kind, c_now_rule_owned, c_now_rule_pulls)
set_option maxHeartbeats 4000000 in
set_option maxRecDepth 100000 in
theorem tX7_doAct (l : Launch) (D : va_G) (k : Nat → ClassId) (q_this q_text q_row q_now q_trial q_doors q_history q_kept q_now_grid q_now_rule q_now_grid_marks q_now_rule_owned q_now_rule_wished q_now_rule_pulls q_text_signs : Nat) (c_now_grid_size : Int32) (c_now_grid_full : Int32) (c_now_grid_turns : Int32) (c_now_grid_firstFull : Int32) (c_now_grid_lastFull : Int32) (c_now_grid_marks : Nat → Int32) (c_now_rule_kind : Int32) (c_now_rule_traders : Int32) (c_now_rule_owned : Nat → Int32) (c_now_rule_pulls : Nat → Int64) (c_now_rule_wished : Nat → Int32) (c_text_length : Int32) (c_text_signs : Nat → Int32) (x1 : Int32) (r_ : Int32) (w_now_grid_firstFull : Int32) (w_now_grid_full : Int32) (w_now_grid_lastFull : Int32) (w_now_grid_size : Int32) (w_now_grid_turns : Int32) (w_now_grid_marks : Nat → Int32) (w_now_rule_kind : Int32) (w_now_rule_owned : Nat → Int32) (w_now_rule_pulls : Nat → Int64) (hf : fX7_doAct c_now_rule_traders c_now_rule_wished c_text_length c_text_signs c_now_grid_firstFull c_now_grid_full c_now_grid_lastFull c_now_grid_size c_now_grid_turns c_now_grid_marks c_now_rule_kind c_now_rule_owned c_now_rule_pulls x1 = some (r_, w_now_grid_firstFull, w_now_grid_full, w_now_grid_lastFull, w_now_grid_size, w_now_grid_turns, w_now_grid_marks, w_now_rule_kind, w_now_rule_owned, w_now_rule_pulls)) : MI l yX7_doAct cX7_doAct 2 .int (RM 5 125) D k [.ref q_this, .int x1] [oX7 q_this q_text q_row q_now q_trial q_doors q_history q_kept, oX5 q_now q_now_grid q_now_rule, oX1 q_now_grid q_now_grid_marks c_now_grid_size c_now_grid_full c_now_grid_turns c_now_grid_firstFull c_now_grid_lastFull, aI k q_now_grid_marks 153 c_now_grid_marks, oX4 q_now_rule q_now_rule_owned q_now_rule_wished q_now_rule_pulls c_now_rule_kind c_now_rule_traders, aI k q_now_rule_owned 12 c_now_rule_owned, aJ k q_now_rule_pulls 9 c_now_rule_pulls, aI k q_now_rule_wished 12 c_now_rule_wished, oX6 q_text q_text_signs c_text_length, aI k q_text_signs 80 c_text_signs] r_ [oX7 q_this q_text q_row q_now q_trial q_doors q_history q_kept, oX5 q_now q_now_grid q_now_rule, oX1 q_now_grid q_now_grid_marks w_now_grid_size w_now_grid_full w_now_grid_turns w_now_grid_firstFull w_now_grid_lastFull, aI k q_now_grid_marks 153 w_now_grid_marks, oX4 q_now_rule q_now_rule_owned q_now_rule_wished q_now_rule_pulls w_now_rule_kind c_now_rule_traders, aI k q_now_rule_owned 12 w_now_rule_owned, aJ k q_now_rule_pulls 9 w_now_rule_pulls, aI k q_now_rule_wished 12 c_now_rule_wished, oX6 q_text q_text_signs c_text_length, aI k q_text_signs 80 c_text_signs] := by
  refine mkMI' (own := "DoorWalk") (by decide) rfl (Nat.le_of_ble_eq_true rfl) ?_
  intro p e s m args below meth c Q A hret C
  refine ww_lv (lv' := [(0, .ref q_this), (1, .int x1)]) [0, 1] rfl ?_
  unfold fX7_doAct at hf
  refine ww_aload_n (pc := 0) C dX7_doAct_0 rfl 0 rfl ?_
  refine gf7_0 (pc := 1) C kf_X7_12 0 rfl rfl dX7_doAct_1 ?_
  refine ww_iload_n (pc := 4) C dX7_doAct_4 rfl 1 rfl ?_
  obtain ⟨v1, h1, hf⟩ := bsome hf
  refine ww_callVi0 (pc := 5) (As := [.int x1]) (rest := []) C (tX6_at l D k q_text q_text_signs c_text_length c_text_signs x1 v1 h1) cv_X7_374 ⟨⟨by decide, by decide⟩, rfl, rfl⟩ 8 rfl rfl [8, 9] rfl rfl rfl rfl (Nat.le_of_ble_eq_true rfl) ⟨Nat.zero_le _, Nat.zero_le _⟩ dX7_doAct_5 (fun hb1 => ?_)
  by_cases hs0 : v1 = (97 : Int32)
  · have hf := ifT hs0 hf
    refine ww_lookup (pc := 8) (off := 140) (tgt := 148) C dX7_doAct_8 (by decide) (by rw [hs0]; rfl) (by decide) ?_
    refine ww_aload_n (pc := 148) C dX7_doAct_148 rfl 0 rfl ?_
    refine ww_aload_n (pc := 149) C dX7_doAct_149 rfl 0 rfl ?_
    refine gf7_0 (pc := 150) C kf_X7_12 0 rfl rfl dX7_doAct_150 ?_
    refine ww_iload_n (pc := 153) C dX7_doAct_153 rfl 1 rfl ?_
    refine ww_iconst (pc := 154) C dX7_doAct_154 kI_1 ?_
    refine ww_iadd (pc := 155) C dX7_doAct_155  ?_
    obtain ⟨v2, h2, hf⟩ := bsome hf
    refine ww_callVi0 (pc := 156) (As := [.int (x1 + (1 : Int32))]) (rest := [.ref q_this]) C (tX6_digit l D k q_text q_text_signs c_text_length c_text_signs (x1 + (1 : Int32)) v2 h2) cv_X7_406 ⟨⟨by decide, by decide⟩, rfl, rfl⟩ 8 rfl rfl [8, 9] rfl rfl rfl rfl (Nat.le_of_ble_eq_true rfl) ⟨Nat.zero_le _, Nat.zero_le _⟩ dX7_doAct_156 (fun hb2 => ?_)
    refine ww_aload_n (pc := 159) C dX7_doAct_159 rfl 0 rfl ?_
    refine gf7_0 (pc := 160) C kf_X7_12 0 rfl rfl dX7_doAct_160 ?_
    refine ww_iload_n (pc := 163) C dX7_doAct_163 rfl 1 rfl ?_
    refine ww_iconst (pc := 164) C dX7_doAct_164 kI_2 ?_
    refine ww_iadd (pc := 165) C dX7_doAct_165  ?_
    obtain ⟨v3, h3, hf⟩ := bsome hf
    refine ww_callVi0 (pc := 166) (As := [.int (x1 + (2 : Int32))]) (rest := [.int v2, .ref q_this]) C (tX6_digit l D k q_text q_text_signs c_text_length c_text_signs (x1 + (2 : Int32)) v3 h3) cv_X7_406 ⟨⟨by decide, by decide⟩, rfl, rfl⟩ 8 rfl rfl [8, 9] rfl rfl rfl rfl (Nat.le_of_ble_eq_true rfl) ⟨Nat.zero_le _, Nat.zero_le _⟩ dX7_doAct_166 (fun hb3 => ?_)
    refine ww_aload_n (pc := 169) C dX7_doAct_169 rfl 0 rfl ?_
    refine gf7_0 (pc := 170) C kf_X7_12 0 rfl rfl dX7_doAct_170 ?_
    refine ww_iload_n (pc := 173) C dX7_doAct_173 rfl 1 rfl ?_
    refine ww_iconst (pc := 174) C dX7_doAct_174 kI_3 ?_
    refine ww_iadd (pc := 175) C dX7_doAct_175  ?_
    obtain ⟨v4, h4, hf⟩ := bsome hf
    refine ww_callVi0 (pc := 176) (As := [.int (x1 + (3 : Int32))]) (rest := [.int v3, .int v2, .ref q_this]) C (tX6_digit l D k q_text q_text_signs c_text_length c_text_signs (x1 + (3 : Int32)) v4 h4) cv_X7_406 ⟨⟨by decide, by decide⟩, rfl, rfl⟩ 8 rfl rfl [8, 9] rfl rfl rfl rfl (Nat.le_of_ble_eq_true rfl) ⟨Nat.zero_le _, Nat.zero_le _⟩ dX7_doAct_176 (fun hb4 => ?_)
    obtain ⟨v5, v6, v7, v8, h5, hf⟩ := bd4_some hf
    refine ww_callVi (pc := 179) (ws' := [oX7 q_this q_text q_row q_now q_trial q_doors q_history q_kept, oX5 q_now q_now_grid q_now_rule, oX1 q_now_grid q_now_grid_marks c_now_grid_size c_now_grid_full c_now_grid_turns c_now_grid_firstFull c_now_grid_lastFull, aI k q_now_grid_marks 153 v6, oX4 q_now_rule q_now_rule_owned q_now_rule_wished q_now_rule_pulls c_now_rule_kind c_now_rule_traders, aI k q_now_rule_owned 12 v7, aJ k q_now_rule_pulls 9 v8, aI k q_now_rule_wished 12 c_now_rule_wished, oX6 q_text q_text_signs c_text_length, aI k q_text_signs 80 c_text_signs]) (As := [.int v2, .int v3, .int v4]) (rest := []) C (tX7_changeAmount l D k q_this q_text q_row q_now q_trial q_doors q_history q_kept q_now_grid q_now_rule q_now_grid_marks q_now_rule_owned q_now_rule_wished q_now_rule_pulls c_now_grid_size c_now_grid_full c_now_grid_turns c_now_grid_firstFull c_now_grid_lastFull c_now_grid_marks c_now_rule_kind c_now_rule_traders c_now_rule_owned c_now_rule_pulls c_now_rule_wished v2 v3 v4 v5 v6 v7 v8 h5) cv_X7_365 ⟨⟨by decide, by decide⟩, rfl, rfl⟩ 0 rfl rfl [0, 1, 2, 3, 4, 5, 6, 7] rfl rfl rfl rfl rfl rfl (Nat.le_of_ble_eq_true rfl) ⟨Nat.zero_le _, Nat.zero_le _⟩ dX7_doAct_179 (fun hb5 => ?_)
    obtain ⟨e0, e1, e2, e3, e4, e5, e6, e7, e8, e9⟩ := ij10 hf
    exact hret _ _ 182 _ dX7_doAct_182 rfl e0 (by rw [← e1, ← e2, ← e3, ← e4, ← e5, ← e6, ← e7, ← e8, ← e9])
  · have hf := ifF hs0 hf
    by_cases hs1 : v1 = (103 : Int32)
    · have hf := ifT hs1 hf
      refine ww_lookup (pc := 8) (off := 79) (tgt := 87) C dX7_doAct_8 (by decide) (by rw [lv_osw hs0 (by decide)]; rw [hs1]; rfl) (by decide) ?_
      refine ww_aload_n (pc := 87) C dX7_doAct_87 rfl 0 rfl ?_
      refine ww_aload_n (pc := 88) C dX7_doAct_88 rfl 0 rfl ?_
      refine gf7_0 (pc := 89) C kf_X7_12 0 rfl rfl dX7_doAct_89 ?_
      refine ww_iload_n (pc := 92) C dX7_doAct_92 rfl 1 rfl ?_
      refine ww_iconst (pc := 93) C dX7_doAct_93 kI_1 ?_
      refine ww_iadd (pc := 94) C dX7_doAct_94  ?_
      obtain ⟨v9, h9, hf⟩ := bsome hf
      refine ww_callVi0 (pc := 95) (As := [.int (x1 + (1 : Int32))]) (rest := [.ref q_this]) C (tX6_twoDigits l D k q_text q_text_signs c_text_length c_text_signs (x1 + (1 : Int32)) v9 h9) cv_X7_409 ⟨⟨by decide, by decide⟩, rfl, rfl⟩ 8 rfl rfl [8, 9] rfl rfl rfl rfl (Nat.le_of_ble_eq_true rfl) ⟨Nat.zero_le _, Nat.zero_le _⟩ dX7_doAct_95 (fun hb9 => ?_)
      obtain ⟨v10, v11, v12, v13, v14, v15, v16, h10, hf⟩ := bd7_some hf
      refine ww_callVi (pc := 98) (ws' := [oX7 q_this q_text q_row q_now q_trial q_doors q_history q_kept, oX5 q_now q_now_grid q_now_rule, oX1 q_now_grid q_now_grid_marks v14 v12 v15 v11 v13, aI k q_now_grid_marks 153 v16, oX4 q_now_rule q_now_rule_owned q_now_rule_wished q_now_rule_pulls c_now_rule_kind c_now_rule_traders, aI k q_now_rule_owned 12 c_now_rule_owned, aJ k q_now_rule_pulls 9 c_now_rule_pulls, aI k q_now_rule_wished 12 c_now_rule_wished, oX6 q_text q_text_signs c_text_length, aI k q_text_signs 80 c_text_signs]) (As := [.int v9]) (rest := []) C (tX7_changeGrid l D k q_this q_text q_row q_now q_trial q_doors q_history q_kept q_now_grid q_now_rule q_now_grid_marks q_now_rule_owned q_now_rule_wished q_now_rule_pulls c_now_grid_size c_now_grid_full c_now_grid_turns c_now_grid_firstFull c_now_grid_lastFull c_now_grid_marks c_now_rule_kind c_now_rule_traders c_now_rule_pulls v9 v10 v11 v12 v13 v14 v15 v16 h10) cv_X7_359 ⟨⟨by decide, by decide⟩, rfl, rfl⟩ 0 rfl rfl [0, 1, 2, 3, 4, 6] rfl rfl rfl rfl rfl rfl (Nat.le_of_ble_eq_true rfl) ⟨Nat.zero_le _, Nat.zero_le _⟩ dX7_doAct_98 (fun hb10 => ?_)
      obtain ⟨e0, e1, e2, e3, e4, e5, e6, e7, e8, e9⟩ := ij10 hf
      exact hret _ _ 101 _ dX7_doAct_101 rfl e0 (by rw [← e1, ← e2, ← e3, ← e4, ← e5, ← e6, ← e7, ← e8, ← e9])
    · have hf := ifF hs1 hf
      by_cases hs2 : v1 = (108 : Int32)
      · have hf := ifT hs2 hf
        refine ww_lookup (pc := 8) (off := 44) (tgt := 52) C dX7_doAct_8 (by decide) (by rw [lv_osw hs0 (by decide)]; rw [lv_osw hs1 (by decide)]; rw [hs2]; rfl) (by decide) ?_
        refine ww_aload_n (pc := 52) C dX7_doAct_52 rfl 0 rfl ?_
        refine ww_aload_n (pc := 53) C dX7_doAct_53 rfl 0 rfl ?_
        refine gf7_0 (pc := 54) C kf_X7_12 0 rfl rfl dX7_doAct_54 ?_
        refine ww_iload_n (pc := 57) C dX7_doAct_57 rfl 1 rfl ?_
        refine ww_iconst (pc := 58) C dX7_doAct_58 kI_1 ?_
        refine ww_iadd (pc := 59) C dX7_doAct_59  ?_
        obtain ⟨v17, h17, hf⟩ := bsome hf
        refine ww_callVi0 (pc := 60) (As := [.int (x1 + (1 : Int32))]) (rest := [.ref q_this]) C (tX6_twoDigits l D k q_text q_text_signs c_text_length c_text_signs (x1 + (1 : Int32)) v17 h17) cv_X7_409 ⟨⟨by decide, by decide⟩, rfl, rfl⟩ 8 rfl rfl [8, 9] rfl rfl rfl rfl (Nat.le_of_ble_eq_true rfl) ⟨Nat.zero_le _, Nat.zero_le _⟩ dX7_doAct_60 (fun hb17 => ?_)
        refine ww_aload_n (pc := 63) C dX7_doAct_63 rfl 0 rfl ?_
        refine gf7_0 (pc := 64) C kf_X7_12 0 rfl rfl dX7_doAct_64 ?_
        refine ww_iload_n (pc := 67) C dX7_doAct_67 rfl 1 rfl ?_
        refine ww_iconst (pc := 68) C dX7_doAct_68 kI_3 ?_
        refine ww_iadd (pc := 69) C dX7_doAct_69  ?_
        obtain ⟨v18, h18, hf⟩ := bsome hf
        refine ww_callVi0 (pc := 70) (As := [.int (x1 + (3 : Int32))]) (rest := [.int v17, .ref q_this]) C (tX6_twoDigits l D k q_text q_text_signs c_text_length c_text_signs (x1 + (3 : Int32)) v18 h18) cv_X7_409 ⟨⟨by decide, by decide⟩, rfl, rfl⟩ 8 rfl rfl [8, 9] rfl rfl rfl rfl (Nat.le_of_ble_eq_true rfl) ⟨Nat.zero_le _, Nat.zero_le _⟩ dX7_doAct_70 (fun hb18 => ?_)
        refine ww_aload_n (pc := 73) C dX7_doAct_73 rfl 0 rfl ?_
        refine gf7_0 (pc := 74) C kf_X7_12 0 rfl rfl dX7_doAct_74 ?_
        refine ww_iload_n (pc := 77) C dX7_doAct_77 rfl 1 rfl ?_
        refine ww_iconst (pc := 78) C dX7_doAct_78 kI_5 ?_
        refine ww_iadd (pc := 79) C dX7_doAct_79  ?_
        obtain ⟨v19, h19, hf⟩ := bsome hf
        refine ww_callVi0 (pc := 80) (As := [.int (x1 + (5 : Int32))]) (rest := [.int v18, .int v17, .ref q_this]) C (tX6_digit l D k q_text q_text_signs c_text_length c_text_signs (x1 + (5 : Int32)) v19 h19) cv_X7_406 ⟨⟨by decide, by decide⟩, rfl, rfl⟩ 8 rfl rfl [8, 9] rfl rfl rfl rfl (Nat.le_of_ble_eq_true rfl) ⟨Nat.zero_le _, Nat.zero_le _⟩ dX7_doAct_80 (fun hb19 => ?_)
        obtain ⟨v20, v21, v22, h20, hf⟩ := bd3_some hf
        refine ww_callVi (pc := 83) (ws' := [oX7 q_this q_text q_row q_now q_trial q_doors q_history q_kept, oX5 q_now q_now_grid q_now_rule, oX1 q_now_grid q_now_grid_marks c_now_grid_size c_now_grid_full c_now_grid_turns c_now_grid_firstFull c_now_grid_lastFull, aI k q_now_grid_marks 153 v21, oX4 q_now_rule q_now_rule_owned q_now_rule_wished q_now_rule_pulls v22 c_now_rule_traders, aI k q_now_rule_owned 12 c_now_rule_owned, aJ k q_now_rule_pulls 9 c_now_rule_pulls, aI k q_now_rule_wished 12 c_now_rule_wished, oX6 q_text q_text_signs c_text_length, aI k q_text_signs 80 c_text_signs]) (As := [.int v17, .int v18, .int v19]) (rest := []) C (tX7_layLabel l D k q_this q_text q_row q_now q_trial q_doors q_history q_kept q_now_grid q_now_rule q_now_grid_marks q_now_rule_owned q_now_rule_wished q_now_rule_pulls c_now_grid_size c_now_grid_full c_now_grid_turns c_now_grid_firstFull c_now_grid_lastFull c_now_grid_marks c_now_rule_kind c_now_rule_traders v17 v18 v19 v20 v21 v22 h20) cv_X7_353 ⟨⟨by decide, by decide⟩, rfl, rfl⟩ 0 rfl rfl [0, 1, 2, 3, 4] rfl rfl rfl rfl rfl rfl (Nat.le_of_ble_eq_true rfl) ⟨Nat.zero_le _, Nat.zero_le _⟩ dX7_doAct_83 (fun hb20 => ?_)
        obtain ⟨e0, e1, e2, e3, e4, e5, e6, e7, e8, e9⟩ := ij10 hf
        exact hret _ _ 86 _ dX7_doAct_86 rfl e0 (by rw [← e1, ← e2, ← e3, ← e4, ← e5, ← e6, ← e7, ← e8, ← e9])
      · have hf := ifF hs2 hf
        by_cases hs3 : v1 = (115 : Int32)
        · have hf := ifT hs3 hf
          refine ww_lookup (pc := 8) (off := 94) (tgt := 102) C dX7_doAct_8 (by decide) (by rw [lv_osw hs0 (by decide)]; rw [lv_osw hs1 (by decide)]; rw [lv_osw hs2 (by decide)]; rw [hs3]; rfl) (by decide) ?_
          refine ww_aload_n (pc := 102) C dX7_doAct_102 rfl 0 rfl ?_
          refine ww_aload_n (pc := 103) C dX7_doAct_103 rfl 0 rfl ?_
          refine gf7_0 (pc := 104) C kf_X7_12 0 rfl rfl dX7_doAct_104 ?_
          refine ww_iload_n (pc := 107) C dX7_doAct_107 rfl 1 rfl ?_
          refine ww_iconst (pc := 108) C dX7_doAct_108 kI_1 ?_
          refine ww_iadd (pc := 109) C dX7_doAct_109  ?_
          obtain ⟨v23, h23, hf⟩ := bsome hf
          refine ww_callVi0 (pc := 110) (As := [.int (x1 + (1 : Int32))]) (rest := [.ref q_this]) C (tX6_twoDigits l D k q_text q_text_signs c_text_length c_text_signs (x1 + (1 : Int32)) v23 h23) cv_X7_409 ⟨⟨by decide, by decide⟩, rfl, rfl⟩ 8 rfl rfl [8, 9] rfl rfl rfl rfl (Nat.le_of_ble_eq_true rfl) ⟨Nat.zero_le _, Nat.zero_le _⟩ dX7_doAct_110 (fun hb23 => ?_)
          refine ww_aload_n (pc := 113) C dX7_doAct_113 rfl 0 rfl ?_
          refine gf7_0 (pc := 114) C kf_X7_12 0 rfl rfl dX7_doAct_114 ?_
          refine ww_iload_n (pc := 117) C dX7_doAct_117 rfl 1 rfl ?_
          refine ww_iconst (pc := 118) C dX7_doAct_118 kI_3 ?_
          refine ww_iadd (pc := 119) C dX7_doAct_119  ?_
          obtain ⟨v24, h24, hf⟩ := bsome hf
          refine ww_callVi0 (pc := 120) (As := [.int (x1 + (3 : Int32))]) (rest := [.int v23, .ref q_this]) C (tX6_twoDigits l D k q_text q_text_signs c_text_length c_text_signs (x1 + (3 : Int32)) v24 h24) cv_X7_409 ⟨⟨by decide, by decide⟩, rfl, rfl⟩ 8 rfl rfl [8, 9] rfl rfl rfl rfl (Nat.le_of_ble_eq_true rfl) ⟨Nat.zero_le _, Nat.zero_le _⟩ dX7_doAct_120 (fun hb24 => ?_)
          refine ww_aload_n (pc := 123) C dX7_doAct_123 rfl 0 rfl ?_
          refine gf7_0 (pc := 124) C kf_X7_12 0 rfl rfl dX7_doAct_124 ?_
          refine ww_iload_n (pc := 127) C dX7_doAct_127 rfl 1 rfl ?_
          refine ww_iconst (pc := 128) C dX7_doAct_128 kI_5 ?_
          refine ww_iadd (pc := 129) C dX7_doAct_129  ?_
          obtain ⟨v25, h25, hf⟩ := bsome hf
          refine ww_callVi0 (pc := 130) (As := [.int (x1 + (5 : Int32))]) (rest := [.int v24, .int v23, .ref q_this]) C (tX6_twoDigits l D k q_text q_text_signs c_text_length c_text_signs (x1 + (5 : Int32)) v25 h25) cv_X7_409 ⟨⟨by decide, by decide⟩, rfl, rfl⟩ 8 rfl rfl [8, 9] rfl rfl rfl rfl (Nat.le_of_ble_eq_true rfl) ⟨Nat.zero_le _, Nat.zero_le _⟩ dX7_doAct_130 (fun hb25 => ?_)
          refine ww_aload_n (pc := 133) C dX7_doAct_133 rfl 0 rfl ?_
          refine gf7_0 (pc := 134) C kf_X7_12 0 rfl rfl dX7_doAct_134 ?_
          refine ww_iload_n (pc := 137) C dX7_doAct_137 rfl 1 rfl ?_
          refine ww_bipush (pc := 138) C dX7_doAct_138 kB_7 ?_
          refine ww_iadd (pc := 140) C dX7_doAct_140  ?_
          obtain ⟨v26, h26, hf⟩ := bsome hf
          refine ww_callVi0 (pc := 141) (As := [.int (x1 + (7 : Int32))]) (rest := [.int v25, .int v24, .int v23, .ref q_this]) C (tX6_twoDigits l D k q_text q_text_signs c_text_length c_text_signs (x1 + (7 : Int32)) v26 h26) cv_X7_409 ⟨⟨by decide, by decide⟩, rfl, rfl⟩ 8 rfl rfl [8, 9] rfl rfl rfl rfl (Nat.le_of_ble_eq_true rfl) ⟨Nat.zero_le _, Nat.zero_le _⟩ dX7_doAct_141 (fun hb26 => ?_)
          obtain ⟨v27, v28, v29, v30, v31, v32, v33, h27, hf⟩ := bd7_some hf
          refine ww_callVi (pc := 144) (ws' := [oX7 q_this q_text q_row q_now q_trial q_doors q_history q_kept, oX5 q_now q_now_grid q_now_rule, oX1 q_now_grid q_now_grid_marks c_now_grid_size v29 v31 v28 v30, aI k q_now_grid_marks 153 v32, oX4 q_now_rule q_now_rule_owned q_now_rule_wished q_now_rule_pulls v33 c_now_rule_traders, aI k q_now_rule_owned 12 c_now_rule_owned, aJ k q_now_rule_pulls 9 c_now_rule_pulls, aI k q_now_rule_wished 12 c_now_rule_wished, oX6 q_text q_text_signs c_text_length, aI k q_text_signs 80 c_text_signs]) (As := [.int v23, .int v24, .int v25, .int v26]) (rest := []) C (tX7_swapLabels l D k q_this q_text q_row q_now q_trial q_doors q_history q_kept q_now_grid q_now_rule q_now_grid_marks q_now_rule_owned q_now_rule_wished q_now_rule_pulls c_now_grid_size c_now_grid_full c_now_grid_turns c_now_grid_firstFull c_now_grid_lastFull c_now_grid_marks c_now_rule_kind c_now_rule_traders v23 v24 v25 v26 v27 v28 v29 v30 v31 v32 v33 h27) cv_X7_362 ⟨⟨by decide, by decide⟩, rfl, rfl⟩ 0 rfl rfl [0, 1, 2, 3, 4] rfl rfl rfl rfl rfl rfl (Nat.le_of_ble_eq_true rfl) ⟨Nat.zero_le _, Nat.zero_le _⟩ dX7_doAct_144 (fun hb27 => ?_)
          obtain ⟨e0, e1, e2, e3, e4, e5, e6, e7, e8, e9⟩ := ij10 hf
          exact hret _ _ 147 _ dX7_doAct_147 rfl e0 (by rw [← e1, ← e2, ← e3, ← e4, ← e5, ← e6, ← e7, ← e8, ← e9])
        · have hf := ifF hs3 hf
          refine ww_lookup (pc := 8) (off := 175) (tgt := 183) C dX7_doAct_8 (by decide) (by rw [lv_osw hs0 (by decide)]; rw [lv_osw hs1 (by decide)]; rw [lv_osw hs2 (by decide)]; rw [lv_osw hs3 (by decide)]; rfl) (by decide) ?_
          refine ww_iconst (pc := 183) C dX7_doAct_183 kI_m1 ?_
          obtain ⟨e0, e1, e2, e3, e4, e5, e6, e7, e8, e9⟩ := ij10 hf
          exact hret _ _ 184 _ dX7_doAct_184 rfl e0 (by rw [← e1, ← e2, ← e3, ← e4, ← e5, ← e6, ← e7, ← e8, ← e9])
def fX7_nextDraw (x1 : Int32) : Option Int32 := some (((x1 * (1103515245 : Int32)) + (12345 : Int32)))
set_option maxHeartbeats 4000000 in
set_option maxRecDepth 100000 in
theorem tX7_nextDraw (l : Launch) (D : va_G) (k : Nat → ClassId)   (x1 : Int32) (r_ : Int32) (hf : fX7_nextDraw x1 = some (r_)) : MI l yX7_nextDraw cX7_nextDraw 1 .int (RM 0 0) D k [.int x1] [] r_ [] := by
  refine mkMI' (own := "DoorWalk") (by decide) rfl (Nat.le_of_ble_eq_true rfl) ?_
  intro p e s m args below meth c Q A hret C
  refine ww_lv (lv' := [(0, .int x1)]) [0] rfl ?_
  unfold fX7_nextDraw at hf
  refine ww_iload_n (pc := 0) C dX7_nextDraw_0 rfl 0 rfl ?_
  refine ww_ldcw (pc := 1) C dX7_nextDraw_1 kc_X7_421 ?_
  refine ww_imul (pc := 4) C dX7_nextDraw_4  ?_
  refine ww_sipush (pc := 5) C dX7_nextDraw_5 kS_12345 ?_
  refine ww_iadd (pc := 8) C dX7_nextDraw_8  ?_
  obtain e0 := ij1 hf
  exact hret _ _ 9 _ dX7_nextDraw_9 rfl e0 rfl
def fX7_drawn (x1 : Int32) (x2 : Int32) : Option Int32 := if (1 : Int32) ≤ x2 then (rmI (((x1).toUInt32 >>> (((16 : Int32)).toUInt32 &&& Int32.toUInt32 31)).toInt32) x2).bind fun v1 => some (v1) else some ((0 : Int32))
set_option maxHeartbeats 4000000 in
set_option maxRecDepth 100000 in
theorem tX7_drawn (l : Launch) (D : va_G) (k : Nat → ClassId)   (x1 : Int32) (x2 : Int32) (r_ : Int32) (hf : fX7_drawn x1 x2 = some (r_)) : MI l yX7_drawn cX7_drawn 2 .int (RM 0 0) D k [.int x1, .int x2] [] r_ [] := by
  refine mkMI' (own := "DoorWalk") (by decide) rfl (Nat.le_of_ble_eq_true rfl) ?_
  intro p e s m args below meth c Q A hret C
  refine ww_lv (lv' := [(0, .int x1), (1, .int x2)]) [0, 1] rfl ?_
  unfold fX7_drawn at hf
  refine ww_iload_n (pc := 0) C dX7_drawn_0 rfl 1 rfl ?_
  refine ww_iconst (pc := 1) C dX7_drawn_1 kI_1 ?_
  refine ww_icmp_ge (pc := 2) (tgt := 9) C dX7_drawn_2 (by decide) (fun hc => ?_) (fun hc => ?_)
  · have hf := ifT hc hf
    refine ww_iload_n (pc := 9) C dX7_drawn_9 rfl 0 rfl ?_
    refine ww_bipush (pc := 10) C dX7_drawn_10 kB_16 ?_
    refine ww_iushr (pc := 12) C dX7_drawn_12 rfl ?_
    refine ww_iload_n (pc := 13) C dX7_drawn_13 rfl 1 rfl ?_
    obtain ⟨v1, h1, hf⟩ := bsome hf
    refine ww_irem (pc := 14) C dX7_drawn_14 h1 ?_
    obtain e0 := ij1 hf
    exact hret _ _ 15 _ dX7_drawn_15 rfl e0 rfl
  · have hf := ifF hc hf
    refine ww_iconst (pc := 5) C dX7_drawn_5 kI_0 ?_
    refine ww_goto (pc := 6) (tgt := 15) C dX7_drawn_6 (by decide) ?_
    obtain e0 := ij1 hf
    exact hret _ _ 15 _ dX7_drawn_15 rfl e0 rfl
def fX7_years_b32 (c_now_grid_size : Int32) (c_now_grid_marks : Nat → Int32) (rc32 : Int32 → (Nat → Int64) → Int32 → Int32 → Int32 → Int32 → Int32 → (Nat → Int32) → Int32 → Int32 → Int32 → Option (Int32 × Int32 × (Nat → Int64) × Int32 × Int32 × Int32 × Int32 × Int32 × (Nat → Int32))) (c_row_length : Int32) (c_row_numbers : Nat → Int64) (c_trial_firstFull : Int32) (c_trial_full : Int32) (c_trial_lastFull : Int32) (c_trial_size : Int32) (c_trial_turns : Int32) (c_trial_marks : Nat → Int32) (n2 : Int32) (n3 : Int32) (n4 : Int32) : Option (Int32 × Int32 × (Nat → Int64) × Int32 × Int32 × Int32 × Int32 × Int32 × (Nat → Int32)) := if n2 ≤ n4 then bd4 (fX1_survey c_trial_size c_trial_marks c_trial_firstFull c_trial_full c_trial_lastFull c_trial_turns) fun v1 v2 v3 v4 => (fX0_outers c_trial_size c_trial_marks (0 : Int32)).bind fun v5 => (fX0_outers c_trial_size c_trial_marks (1 : Int32)).bind fun v6 => (fX0_outers c_trial_size c_trial_marks (2 : Int32)).bind fun v7 => bd2 (fX3_tell___ c_row_length c_row_numbers ((v4).toInt64) ((v5).toInt64) ((v6).toInt64) ((v7).toInt64)) fun v8 v9 => some (v2, v8, v9, v1, v2, v3, c_trial_size, v4, c_trial_marks) else (fX7_nextDraw n3).bind fun v10 => (fX1_points c_trial_size).bind fun v11 => (fX7_drawn v10 v11).bind fun v12 => (fX7_nextDraw v10).bind fun v13 => (fX1_pointI c_trial_size v12).bind fun v14 => (fX1_pointJ c_trial_size v12).bind fun v15 => (fX7_drawn v13 (3 : Int32)).bind fun v16 => bd2 (fX1_lay c_trial_size c_trial_marks v14 v15 v16) fun v17 v18 => (some (n4 + (1 : Int32))).bind fun v19 => rc32 c_row_length c_row_numbers c_trial_firstFull c_trial_full c_trial_lastFull c_trial_size c_trial_turns v18 n2 v13 v19
def fX7_years (c_now_grid_size : Int32) (c_now_grid_marks : Nat → Int32) (c_row_length : Int32) (c_row_numbers : Nat → Int64) (c_trial_firstFull : Int32) (c_trial_full : Int32) (c_trial_lastFull : Int32) (c_trial_size : Int32) (c_trial_turns : Int32) (c_trial_marks : Nat → Int32) (x1 : Int32) (x2 : Int32) : Option (Int32 × Int32 × (Nat → Int64) × Int32 × Int32 × Int32 × Int32 × Int32 × (Nat → Int32)) := if x2 < (1 : Int32) then some ((-1 : Int32), c_row_length, c_row_numbers, c_trial_firstFull, c_trial_full, c_trial_lastFull, c_trial_size, c_trial_turns, c_trial_marks) else if x2 ≤ (40 : Int32) then bd2 (fX1_copy c_now_grid_size c_now_grid_marks c_trial_size c_trial_marks) fun v1 v2 => lfix (fX7_years_b32 c_now_grid_size c_now_grid_marks) (fun _ _ _ _ _ _ _ _ _ _ _ => none) FU c_row_length c_row_numbers c_trial_firstFull c_trial_full c_trial_lastFull v1 c_trial_turns v2 x2 x1 (0 : Int32) else some ((-1 : Int32), c_row_length, c_row_numbers, c_trial_firstFull, c_trial_full, c_trial_lastFull, c_trial_size, c_trial_turns, c_trial_marks)
set_option maxHeartbeats 4000000 in
set_option maxRecDepth 100000 in
theorem tX7_years (l : Launch) (D : va_G) (k : Nat → ClassId) (q_this q_text q_row q_now q_trial q_doors q_history q_kept q_doors_way q_doors_seen q_now_grid q_now_rule q_now_grid_marks q_row_numbers q_trial_marks : Nat) (c_doors_length : Int32) (c_doors_cameOut : Int32) (c_doors_longest : Int32) (c_now_grid_size : Int32) (c_now_grid_full : Int32) (c_now_grid_turns : Int32) (c_now_grid_firstFull : Int32) (c_now_grid_lastFull : Int32) (c_now_grid_marks : Nat → Int32) (c_row_length : Int32) (c_row_numbers : Nat → Int64) (c_trial_size : Int32) (c_trial_full : Int32) (c_trial_turns : Int32) (c_trial_firstFull : Int32) (c_trial_lastFull : Int32) (c_trial_marks : Nat → Int32) (x1 : Int32) (x2 : Int32) (r_ : Int32) (w_row_length : Int32) (w_row_numbers : Nat → Int64) (w_trial_firstFull : Int32) (w_trial_full : Int32) (w_trial_lastFull : Int32) (w_trial_size : Int32) (w_trial_turns : Int32) (w_trial_marks : Nat → Int32) (hf : fX7_years c_now_grid_size c_now_grid_marks c_row_length c_row_numbers c_trial_firstFull c_trial_full c_trial_lastFull c_trial_size c_trial_turns c_trial_marks x1 x2 = some (r_, w_row_length, w_row_numbers, w_trial_firstFull, w_trial_full, w_trial_lastFull, w_trial_size, w_trial_turns, w_trial_marks)) : MI l yX7_years cX7_years 6 .int (RM 6 144) D k [.ref q_this, .int x1, .int x2] [oX7 q_this q_text q_row q_now q_trial q_doors q_history q_kept, oX0 q_doors q_doors_way q_doors_seen c_doors_length c_doors_cameOut c_doors_longest, oX5 q_now q_now_grid q_now_rule, oX1 q_now_grid q_now_grid_marks c_now_grid_size c_now_grid_full c_now_grid_turns c_now_grid_firstFull c_now_grid_lastFull, aI k q_now_grid_marks 153 c_now_grid_marks, oX3 q_row q_row_numbers c_row_length, aJ k q_row_numbers 16 c_row_numbers, oX1 q_trial q_trial_marks c_trial_size c_trial_full c_trial_turns c_trial_firstFull c_trial_lastFull, aI k q_trial_marks 153 c_trial_marks] r_ [oX7 q_this q_text q_row q_now q_trial q_doors q_history q_kept, oX0 q_doors q_doors_way q_doors_seen c_doors_length c_doors_cameOut c_doors_longest, oX5 q_now q_now_grid q_now_rule, oX1 q_now_grid q_now_grid_marks c_now_grid_size c_now_grid_full c_now_grid_turns c_now_grid_firstFull c_now_grid_lastFull, aI k q_now_grid_marks 153 c_now_grid_marks, oX3 q_row q_row_numbers w_row_length, aJ k q_row_numbers 16 w_row_numbers, oX1 q_trial q_trial_marks w_trial_size w_trial_full w_trial_turns w_trial_firstFull w_trial_lastFull, aI k q_trial_marks 153 w_trial_marks] := by
  refine mkMI' (own := "DoorWalk") (by decide) rfl (Nat.le_of_ble_eq_true rfl) ?_
  intro p e s m args below meth c Q A hret C
  refine ww_lv (lv' := [(0, .ref q_this), (1, .int x1), (2, .int x2)]) [0, 1, 2] rfl ?_
  have hL32 : ∀ (n : Nat) (c_row_length : Int32) (c_row_numbers : Nat → Int64) (c_trial_firstFull : Int32) (c_trial_full : Int32) (c_trial_lastFull : Int32) (c_trial_size : Int32) (c_trial_turns : Int32) (c_trial_marks : Nat → Int32) (n2 : Int32) (n3 : Int32) (n4 : Int32), lfix (fX7_years_b32 c_now_grid_size c_now_grid_marks) (fun _ _ _ _ _ _ _ _ _ _ _ => none) n c_row_length c_row_numbers c_trial_firstFull c_trial_full c_trial_lastFull c_trial_size c_trial_turns c_trial_marks n2 n3 n4 = some (r_, w_row_length, w_row_numbers, w_trial_firstFull, w_trial_full, w_trial_lastFull, w_trial_size, w_trial_turns, w_trial_marks) → WW p l e (RM 6 144) s m args below meth c Q 6 D A 0 0 [oX7 q_this q_text q_row q_now q_trial q_doors q_history q_kept, oX0 q_doors q_doors_way q_doors_seen c_doors_length c_doors_cameOut c_doors_longest, oX5 q_now q_now_grid q_now_rule, oX1 q_now_grid q_now_grid_marks c_now_grid_size c_now_grid_full c_now_grid_turns c_now_grid_firstFull c_now_grid_lastFull, aI k q_now_grid_marks 153 c_now_grid_marks, oX3 q_row q_row_numbers c_row_length, aJ k q_row_numbers 16 c_row_numbers, oX1 q_trial q_trial_marks c_trial_size c_trial_full c_trial_turns c_trial_firstFull c_trial_lastFull, aI k q_trial_marks 153 c_trial_marks] [(0, .ref q_this), (2, .int n2), (3, .int n3), (4, .int n4)] 32 [] := by
    intro n
    induction n with
    | zero => intro c_row_length c_row_numbers c_trial_firstFull c_trial_full c_trial_lastFull c_trial_size c_trial_turns c_trial_marks n2 n3 n4 hf; cases hf
    | succ n ih32 =>
      obtain ⟨rc32, hrc32⟩ : ∃ f9, f9 = lfix (fX7_years_b32 c_now_grid_size c_now_grid_marks) (fun _ _ _ _ _ _ _ _ _ _ _ => none) n := ⟨_, rfl⟩
      rw [← hrc32] at ih32
      intro c_row_length c_row_numbers c_trial_firstFull c_trial_full c_trial_lastFull c_trial_size c_trial_turns c_trial_marks n2 n3 n4 hf
      have hf : fX7_years_b32 c_now_grid_size c_now_grid_marks rc32 c_row_length c_row_numbers c_trial_firstFull c_trial_full c_trial_lastFull c_trial_size c_trial_turns c_trial_marks n2 n3 n4 = some (r_, w_row_length, w_row_numbers, w_trial_firstFull, w_trial_full, w_trial_lastFull, w_trial_size, w_trial_turns, w_trial_marks) := by rw [hrc32]; exact hf
      unfold fX7_years_b32 at hf
      refine ww_iload (pc := 32) C dX7_years_32 3 rfl ?_
      refine ww_iload_n (pc := 34) C dX7_years_34 rfl 1 rfl ?_
      refine ww_icmp_ge (pc := 35) (tgt := 98) C dX7_years_35 (by decide) (fun hc => ?_) (fun hc => ?_)
      · have hf := ifT hc hf
        refine ww_aload_n (pc := 98) C dX7_years_98 rfl 0 rfl ?_
        refine gf7_3 (pc := 99) C kf_X7_33 0 rfl rfl dX7_years_99 ?_
        obtain ⟨v1, v2, v3, v4, h1, hf⟩ := bd4_some hf
        refine ww_callVv (pc := 102) (ws' := [oX7 q_this q_text q_row q_now q_trial q_doors q_history q_kept, oX0 q_doors q_doors_way q_doors_seen c_doors_length c_doors_cameOut c_doors_longest, oX5 q_now q_now_grid q_now_rule, oX1 q_now_grid q_now_grid_marks c_now_grid_size c_now_grid_full c_now_grid_turns c_now_grid_firstFull c_now_grid_lastFull, aI k q_now_grid_marks 153 c_now_grid_marks, oX3 q_row q_row_numbers c_row_length, aJ k q_row_numbers 16 c_row_numbers, oX1 q_trial q_trial_marks c_trial_size v2 v4 v1 v3, aI k q_trial_marks 153 c_trial_marks]) (As := []) (rest := []) C (tX1_survey l D k q_trial q_trial_marks c_trial_size c_trial_full c_trial_turns c_trial_firstFull c_trial_lastFull c_trial_marks v1 v2 v3 v4 h1) cv_X7_168 ⟨⟨by decide, by decide⟩, rfl, rfl⟩ 7 rfl rfl [7, 8] rfl rfl rfl rfl rfl rfl (Nat.le_of_ble_eq_true rfl) ⟨Nat.zero_le _, Nat.zero_le _⟩ dX7_years_102 ?_
        refine ww_aload_n (pc := 105) C dX7_years_105 rfl 0 rfl ?_
        refine gf7_1 (pc := 106) C kf_X7_19 0 rfl rfl dX7_years_106 ?_
        refine ww_aload_n (pc := 109) C dX7_years_109 rfl 0 rfl ?_
        refine gf7_3 (pc := 110) C kf_X7_33 0 rfl rfl dX7_years_110 ?_
        refine gf1_3 (pc := 113) C kf_X7_171 7 rfl rfl dX7_years_113 ?_
        refine ww_i2l (pc := 116) C dX7_years_116  ?_
        refine ww_aload_n (pc := 117) C dX7_years_117 rfl 0 rfl ?_
        refine gf7_4 (pc := 118) C kf_X7_40 0 rfl rfl dX7_years_118 ?_
        refine ww_aload_n (pc := 121) C dX7_years_121 rfl 0 rfl ?_
        refine gf7_3 (pc := 122) C kf_X7_33 0 rfl rfl dX7_years_122 ?_
        refine ww_iconst (pc := 125) C dX7_years_125 kI_0 ?_
        obtain ⟨v5, h5, hf⟩ := bsome hf
        refine ww_callVi0 (pc := 126) (As := [.ref q_trial, .int (0 : Int32)]) (rest := [.long ((v4).toInt64), .ref q_row]) C (tX0_outers l D k q_doors q_doors_way q_doors_seen q_trial q_trial_marks c_doors_length c_doors_cameOut c_doors_longest c_trial_size v2 v4 v1 v3 c_trial_marks (0 : Int32) v5 h5) cv_X7_399 ⟨⟨by decide, by decide⟩, rfl, rfl⟩ 1 rfl rfl [1, 7, 8] rfl rfl rfl rfl (Nat.le_of_ble_eq_true rfl) ⟨Nat.zero_le _, Nat.zero_le _⟩ dX7_years_126 (fun hb5 => ?_)
        refine ww_i2l (pc := 129) C dX7_years_129  ?_
        refine ww_aload_n (pc := 130) C dX7_years_130 rfl 0 rfl ?_
        refine gf7_4 (pc := 131) C kf_X7_40 0 rfl rfl dX7_years_131 ?_
        refine ww_aload_n (pc := 134) C dX7_years_134 rfl 0 rfl ?_
        refine gf7_3 (pc := 135) C kf_X7_33 0 rfl rfl dX7_years_135 ?_
        refine ww_iconst (pc := 138) C dX7_years_138 kI_1 ?_
        obtain ⟨v6, h6, hf⟩ := bsome hf
        refine ww_callVi0 (pc := 139) (As := [.ref q_trial, .int (1 : Int32)]) (rest := [.long ((v5).toInt64), .long ((v4).toInt64), .ref q_row]) C (tX0_outers l D k q_doors q_doors_way q_doors_seen q_trial q_trial_marks c_doors_length c_doors_cameOut c_doors_longest c_trial_size v2 v4 v1 v3 c_trial_marks (1 : Int32) v6 h6) cv_X7_399 ⟨⟨by decide, by decide⟩, rfl, rfl⟩ 1 rfl rfl [1, 7, 8] rfl rfl rfl rfl (Nat.le_of_ble_eq_true rfl) ⟨Nat.zero_le _, Nat.zero_le _⟩ dX7_years_139 (fun hb6 => ?_)
        refine ww_i2l (pc := 142) C dX7_years_142  ?_
        refine ww_aload_n (pc := 143) C dX7_years_143 rfl 0 rfl ?_
        refine gf7_4 (pc := 144) C kf_X7_40 0 rfl rfl dX7_years_144 ?_
        refine ww_aload_n (pc := 147) C dX7_years_147 rfl 0 rfl ?_
        refine gf7_3 (pc := 148) C kf_X7_33 0 rfl rfl dX7_years_148 ?_
        refine ww_iconst (pc := 151) C dX7_years_151 kI_2 ?_
        obtain ⟨v7, h7, hf⟩ := bsome hf
        refine ww_callVi0 (pc := 152) (As := [.ref q_trial, .int (2 : Int32)]) (rest := [.long ((v6).toInt64), .long ((v5).toInt64), .long ((v4).toInt64), .ref q_row]) C (tX0_outers l D k q_doors q_doors_way q_doors_seen q_trial q_trial_marks c_doors_length c_doors_cameOut c_doors_longest c_trial_size v2 v4 v1 v3 c_trial_marks (2 : Int32) v7 h7) cv_X7_399 ⟨⟨by decide, by decide⟩, rfl, rfl⟩ 1 rfl rfl [1, 7, 8] rfl rfl rfl rfl (Nat.le_of_ble_eq_true rfl) ⟨Nat.zero_le _, Nat.zero_le _⟩ dX7_years_152 (fun hb7 => ?_)
        refine ww_i2l (pc := 155) C dX7_years_155  ?_
        obtain ⟨v8, v9, h8, hf⟩ := bd2_some hf
        refine ww_callVv (pc := 156) (ws' := [oX7 q_this q_text q_row q_now q_trial q_doors q_history q_kept, oX0 q_doors q_doors_way q_doors_seen c_doors_length c_doors_cameOut c_doors_longest, oX5 q_now q_now_grid q_now_rule, oX1 q_now_grid q_now_grid_marks c_now_grid_size c_now_grid_full c_now_grid_turns c_now_grid_firstFull c_now_grid_lastFull, aI k q_now_grid_marks 153 c_now_grid_marks, oX3 q_row q_row_numbers v8, aJ k q_row_numbers 16 v9, oX1 q_trial q_trial_marks c_trial_size v2 v4 v1 v3, aI k q_trial_marks 153 c_trial_marks]) (As := [.long ((v4).toInt64), .long ((v5).toInt64), .long ((v6).toInt64), .long ((v7).toInt64)]) (rest := []) C (tX3_tell___ l D k q_row q_row_numbers c_row_length c_row_numbers ((v4).toInt64) ((v5).toInt64) ((v6).toInt64) ((v7).toInt64) v8 v9 h8) cv_X7_165 ⟨⟨by decide, by decide⟩, rfl, rfl⟩ 5 rfl rfl [5, 6] rfl rfl rfl rfl rfl rfl (Nat.le_of_ble_eq_true rfl) ⟨Nat.zero_le _, Nat.zero_le _⟩ dX7_years_156 ?_
        refine ww_aload_n (pc := 159) C dX7_years_159 rfl 0 rfl ?_
        refine gf7_3 (pc := 160) C kf_X7_33 0 rfl rfl dX7_years_160 ?_
        refine gf1_2 (pc := 163) C kf_X7_180 7 rfl rfl dX7_years_163 ?_
        obtain ⟨e0, e1, e2, e3, e4, e5, e6, e7, e8⟩ := ij9 hf
        exact hret _ _ 166 _ dX7_years_166 rfl e0 (by rw [← e1, ← e2, ← e3, ← e4, ← e5, ← e6, ← e7, ← e8])
      · have hf := ifF hc hf
        refine ww_iload_n (pc := 38) C dX7_years_38 rfl 2 rfl ?_
        obtain ⟨v10, h10, hf⟩ := bsome hf
        refine ww_callSi0 (pc := 39) (As := [.int n3]) (rest := []) C (tX7_nextDraw l D k n3 v10 h10) cs_X7_384 ⟨⟨by decide, by decide⟩, rfl, rfl⟩ [] rfl rfl rfl rfl (Nat.le_of_ble_eq_true rfl) ⟨Nat.zero_le _, Nat.zero_le _⟩ dX7_years_39 (fun hb10 => ?_)
        refine ww_istore_n (pc := 42) (lv' := [(3, .int v10), (0, .ref q_this), (2, .int n2), (4, .int n4)]) C dX7_years_42 rfl (by decide) rfl ?_
        refine ww_iload_n (pc := 43) C dX7_years_43 rfl 0 rfl ?_
        refine ww_aload_n (pc := 44) C dX7_years_44 rfl 1 rfl ?_
        refine gf7_3 (pc := 45) C kf_X7_33 0 rfl rfl dX7_years_45 ?_
        obtain ⟨v11, h11, hf⟩ := bsome hf
        refine ww_callVi0 (pc := 48) (As := []) (rest := [.int v10]) C (tX1_points l D k q_trial q_trial_marks c_trial_size c_trial_full c_trial_turns c_trial_firstFull c_trial_lastFull v11 h11) cv_X7_90 ⟨⟨by decide, by decide⟩, rfl, rfl⟩ 7 rfl rfl [7] rfl rfl rfl rfl (Nat.le_of_ble_eq_true rfl) ⟨Nat.zero_le _, Nat.zero_le _⟩ dX7_years_48 (fun hb11 => ?_)
        obtain ⟨v12, h12, hf⟩ := bsome hf
        refine ww_callSi0 (pc := 51) (As := [.int v10, .int v11]) (rest := []) C (tX7_drawn l D k v10 v11 v12 h12) cs_X7_387 ⟨⟨by decide, by decide⟩, rfl, rfl⟩ [] rfl rfl rfl rfl (Nat.le_of_ble_eq_true rfl) ⟨Nat.zero_le _, Nat.zero_le _⟩ dX7_years_51 (fun hb12 => ?_)
        refine ww_istore (pc := 54) (lv' := [(5, .int v12), (3, .int v10), (0, .ref q_this), (2, .int n2), (4, .int n4)]) C dX7_years_54 (by decide) rfl ?_
        refine ww_iload_n (pc := 56) C dX7_years_56 rfl 1 rfl ?_
        obtain ⟨v13, h13, hf⟩ := bsome hf
        refine ww_callSi0 (pc := 57) (As := [.int v10]) (rest := []) C (tX7_nextDraw l D k v10 v13 h13) cs_X7_384 ⟨⟨by decide, by decide⟩, rfl, rfl⟩ [] rfl rfl rfl rfl (Nat.le_of_ble_eq_true rfl) ⟨Nat.zero_le _, Nat.zero_le _⟩ dX7_years_57 (fun hb13 => ?_)
        refine ww_istore_n (pc := 60) (lv' := [(3, .int v13), (5, .int v12), (0, .ref q_this), (2, .int n2), (4, .int n4)]) C dX7_years_60 rfl (by decide) rfl ?_
        refine ww_aload_n (pc := 61) C dX7_years_61 rfl 2 rfl ?_
        refine gf7_3 (pc := 62) C kf_X7_33 0 rfl rfl dX7_years_62 ?_
        refine ww_aload_n (pc := 65) C dX7_years_65 rfl 2 rfl ?_
        refine gf7_3 (pc := 66) C kf_X7_33 0 rfl rfl dX7_years_66 ?_
        refine ww_iload (pc := 69) C dX7_years_69 1 rfl ?_
        obtain ⟨v14, h14, hf⟩ := bsome hf
        refine ww_callVi0 (pc := 71) (As := [.int v12]) (rest := [.ref q_trial]) C (tX1_pointI l D k q_trial q_trial_marks c_trial_size c_trial_full c_trial_turns c_trial_firstFull c_trial_lastFull v12 v14 h14) cv_X7_390 ⟨⟨by decide, by decide⟩, rfl, rfl⟩ 7 rfl rfl [7] rfl rfl rfl rfl (Nat.le_of_ble_eq_true rfl) ⟨Nat.zero_le _, Nat.zero_le _⟩ dX7_years_71 (fun hb14 => ?_)
        refine ww_aload_n (pc := 74) C dX7_years_74 rfl 2 rfl ?_
        refine gf7_3 (pc := 75) C kf_X7_33 0 rfl rfl dX7_years_75 ?_
        refine ww_iload (pc := 78) C dX7_years_78 1 rfl ?_
        obtain ⟨v15, h15, hf⟩ := bsome hf
        refine ww_callVi0 (pc := 80) (As := [.int v12]) (rest := [.int v14, .ref q_trial]) C (tX1_pointJ l D k q_trial q_trial_marks c_trial_size c_trial_full c_trial_turns c_trial_firstFull c_trial_lastFull v12 v15 h15) cv_X7_393 ⟨⟨by decide, by decide⟩, rfl, rfl⟩ 7 rfl rfl [7] rfl rfl rfl rfl (Nat.le_of_ble_eq_true rfl) ⟨Nat.zero_le _, Nat.zero_le _⟩ dX7_years_80 (fun hb15 => ?_)
        refine ww_iload_n (pc := 83) C dX7_years_83 rfl 0 rfl ?_
        refine ww_iconst (pc := 84) C dX7_years_84 kI_3 ?_
        obtain ⟨v16, h16, hf⟩ := bsome hf
        refine ww_callSi0 (pc := 85) (As := [.int v13, .int (3 : Int32)]) (rest := [.int v15, .int v14, .ref q_trial]) C (tX7_drawn l D k v13 (3 : Int32) v16 h16) cs_X7_387 ⟨⟨by decide, by decide⟩, rfl, rfl⟩ [] rfl rfl rfl rfl (Nat.le_of_ble_eq_true rfl) ⟨Nat.zero_le _, Nat.zero_le _⟩ dX7_years_85 (fun hb16 => ?_)
        obtain ⟨v17, v18, h17, hf⟩ := bd2_some hf
        refine ww_callVi (pc := 88) (ws' := [oX7 q_this q_text q_row q_now q_trial q_doors q_history q_kept, oX0 q_doors q_doors_way q_doors_seen c_doors_length c_doors_cameOut c_doors_longest, oX5 q_now q_now_grid q_now_rule, oX1 q_now_grid q_now_grid_marks c_now_grid_size c_now_grid_full c_now_grid_turns c_now_grid_firstFull c_now_grid_lastFull, aI k q_now_grid_marks 153 c_now_grid_marks, oX3 q_row q_row_numbers c_row_length, aJ k q_row_numbers 16 c_row_numbers, oX1 q_trial q_trial_marks c_trial_size c_trial_full c_trial_turns c_trial_firstFull c_trial_lastFull, aI k q_trial_marks 153 v18]) (As := [.int v14, .int v15, .int v16]) (rest := []) C (tX1_lay l D k q_trial q_trial_marks c_trial_size c_trial_full c_trial_turns c_trial_firstFull c_trial_lastFull c_trial_marks v14 v15 v16 v17 v18 h17) cv_X7_396 ⟨⟨by decide, by decide⟩, rfl, rfl⟩ 7 rfl rfl [7, 8] rfl rfl rfl rfl rfl rfl (Nat.le_of_ble_eq_true rfl) ⟨Nat.zero_le _, Nat.zero_le _⟩ dX7_years_88 (fun hb17 => ?_)
        refine ww_pop (pc := 91) C dX7_years_91 rfl ?_
        obtain ⟨v19, h19, hf⟩ := bsome hf
        refine ww_iincN (pc := 92) (lv' := [(4, .int v19), (3, .int v13), (5, .int v12), (0, .ref q_this), (2, .int n2)]) (j := 4) C dX7_years_92 kI_1 rfl h19 (by decide) rfl ?_
        refine ww_goto (pc := 95) (tgt := 32) C dX7_years_95 (by decide) ?_
        exact ww_lv [3, 4, 1, 0] rfl (ih32 c_row_length c_row_numbers c_trial_firstFull c_trial_full c_trial_lastFull c_trial_size c_trial_turns v18 n2 v13 v19 hf)
  unfold fX7_years at hf
  refine ww_iload_n (pc := 0) C dX7_years_0 rfl 2 rfl ?_
  refine ww_iconst (pc := 1) C dX7_years_1 kI_1 ?_
  refine ww_icmp_lt (pc := 2) (tgt := 11) C dX7_years_2 (by decide) (fun hc => ?_) (fun hc => ?_)
  · have hf := ifT hc hf
    refine ww_iconst (pc := 11) C dX7_years_11 kI_m1 ?_
    obtain ⟨e0, e1, e2, e3, e4, e5, e6, e7, e8⟩ := ij9 hf
    exact hret _ _ 12 _ dX7_years_12 rfl e0 (by rw [← e1, ← e2, ← e3, ← e4, ← e5, ← e6, ← e7, ← e8])
  · have hf := ifF hc hf
    refine ww_iload_n (pc := 5) C dX7_years_5 rfl 2 rfl ?_
    refine ww_bipush (pc := 6) C dX7_years_6 kB_40 ?_
    refine ww_icmp_le (pc := 8) (tgt := 13) C dX7_years_8 (by decide) (fun hc => ?_) (fun hc => ?_)
    · have hf := ifT hc hf
      refine ww_aload_n (pc := 13) C dX7_years_13 rfl 0 rfl ?_
      refine gf7_3 (pc := 14) C kf_X7_33 0 rfl rfl dX7_years_14 ?_
      refine ww_aload_n (pc := 17) C dX7_years_17 rfl 0 rfl ?_
      refine gf7_2 (pc := 18) C kf_X7_26 0 rfl rfl dX7_years_18 ?_
      refine gf5_0 (pc := 21) C kf_X7_74 2 rfl rfl dX7_years_21 ?_
      obtain ⟨v1, v2, h1, hf⟩ := bd2_some hf
      refine ww_callVv (pc := 24) (ws' := [oX7 q_this q_text q_row q_now q_trial q_doors q_history q_kept, oX0 q_doors q_doors_way q_doors_seen c_doors_length c_doors_cameOut c_doors_longest, oX5 q_now q_now_grid q_now_rule, oX1 q_now_grid q_now_grid_marks c_now_grid_size c_now_grid_full c_now_grid_turns c_now_grid_firstFull c_now_grid_lastFull, aI k q_now_grid_marks 153 c_now_grid_marks, oX3 q_row q_row_numbers c_row_length, aJ k q_row_numbers 16 c_row_numbers, oX1 q_trial q_trial_marks v1 c_trial_full c_trial_turns c_trial_firstFull c_trial_lastFull, aI k q_trial_marks 153 v2]) (As := [.ref q_now_grid]) (rest := []) C (tX1_copy l D k q_trial q_trial_marks q_now_grid q_now_grid_marks c_trial_size c_trial_full c_trial_turns c_trial_firstFull c_trial_lastFull c_trial_marks c_now_grid_size c_now_grid_full c_now_grid_turns c_now_grid_firstFull c_now_grid_lastFull c_now_grid_marks v1 v2 h1) cv_X7_77 ⟨⟨by decide, by decide⟩, rfl, rfl⟩ 7 rfl rfl [7, 8, 3, 4] rfl rfl rfl rfl rfl rfl (Nat.le_of_ble_eq_true rfl) ⟨Nat.zero_le _, Nat.zero_le _⟩ dX7_years_24 ?_
      refine ww_iload_n (pc := 27) C dX7_years_27 rfl 1 rfl ?_
      refine ww_istore_n (pc := 28) (lv' := [(3, .int x1), (0, .ref q_this), (1, .int x1), (2, .int x2)]) C dX7_years_28 rfl (by decide) rfl ?_
      refine ww_iconst (pc := 29) C dX7_years_29 kI_0 ?_
      refine ww_istore (pc := 30) (lv' := [(4, .int (0 : Int32)), (3, .int x1), (0, .ref q_this), (1, .int x1), (2, .int x2)]) C dX7_years_30 (by decide) rfl ?_
      exact ww_lv [2, 4, 1, 0] rfl (hL32 FU c_row_length c_row_numbers c_trial_firstFull c_trial_full c_trial_lastFull v1 c_trial_turns v2 x2 x1 (0 : Int32) hf)
    · have hf := ifF hc hf
      refine ww_iconst (pc := 11) C dX7_years_11 kI_m1 ?_
      obtain ⟨e0, e1, e2, e3, e4, e5, e6, e7, e8⟩ := ij9 hf
      exact hret _ _ 12 _ dX7_years_12 rfl e0 (by rw [← e1, ← e2, ← e3, ← e4, ← e5, ← e6, ← e7, ← e8])
