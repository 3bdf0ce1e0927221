def fX4_copy (c_p1_kind : Int32) (c_p1_traders : Int32) (c_p1_owned : Nat → Int32) (c_p1_pulls : Nat → Int64) (c_p1_wished : Nat → Int32) (c_kind : Int32) (c_traders : Int32) (c_owned : Nat → Int32) (c_pulls : Nat → Int64) (c_wished : Nat → Int32) : Option (Int32 × Int32 × (Nat → Int32) × (Nat → Int64) × (Nat → Int32)) := (some (va_cpy c_p1_owned c_owned 0 0 12)).bind fun v1 => (some (va_cpy c_p1_wished c_wished 0 0 12)).bind fun v2 => (some (va_cpy c_p1_pulls c_pulls 0 0 9)).bind fun v3 => some (c_p1_kind, c_p1_traders, v1, v3, v2)
set_option maxHeartbeats 4000000 in
set_option maxRecDepth 100000 in
theorem tX4_copy (l : Launch) (D : va_G) (k : Nat → ClassId) (q_this q_owned q_wished q_pulls q_p1 q_p1_owned q_p1_wished q_p1_pulls : Nat) (c_kind : Int32) (c_traders : Int32) (c_owned : Nat → Int32) (c_pulls : Nat → Int64) (c_wished : Nat → Int32) (c_p1_kind : Int32) (c_p1_traders : Int32) (c_p1_owned : Nat → Int32) (c_p1_pulls : Nat → Int64) (c_p1_wished : Nat → Int32)  (w_kind : Int32) (w_traders : Int32) (w_owned : Nat → Int32) (w_pulls : Nat → Int64) (w_wished : Nat → Int32) (hf : fX4_copy c_p1_kind c_p1_traders c_p1_owned c_p1_pulls c_p1_wished c_kind c_traders c_owned c_pulls c_wished = some (w_kind, w_traders, w_owned, w_pulls, w_wished)) : MV l yX4_copy cX4_copy 2 (RM 1 60) D k [.ref q_this, .ref q_p1] [oX4 q_this q_owned q_wished q_pulls c_kind c_traders, aI k q_owned 12 c_owned, aJ k q_pulls 9 c_pulls, aI k q_wished 12 c_wished, oX4 q_p1 q_p1_owned q_p1_wished q_p1_pulls c_p1_kind c_p1_traders, aI k q_p1_owned 12 c_p1_owned, aJ k q_p1_pulls 9 c_p1_pulls, aI k q_p1_wished 12 c_p1_wished] [oX4 q_this q_owned q_wished q_pulls w_kind w_traders, aI k q_owned 12 w_owned, aJ k q_pulls 9 w_pulls, aI k q_wished 12 w_wished, oX4 q_p1 q_p1_owned q_p1_wished q_p1_pulls c_p1_kind c_p1_traders, aI k q_p1_owned 12 c_p1_owned, aJ k q_p1_pulls 9 c_p1_pulls, aI k q_p1_wished 12 c_p1_wished] := by
  refine mkMV' (own := "DoorWalk$Rule") (by decide) rfl (Nat.le_of_ble_eq_true rfl) ?_
  intro p e s m args below meth c Q A hret C
  refine ww_lv (lv' := [(0, .ref q_this), (1, .ref q_p1)]) [0, 1] rfl ?_
  unfold fX4_copy at hf
  refine ww_aload_n (pc := 0) C dX4_copy_0 rfl 0 rfl ?_
  refine ww_aload_n (pc := 1) C dX4_copy_1 rfl 1 rfl ?_
  refine gf4_3 (pc := 2) C kf_X4_22 4 rfl rfl dX4_copy_2 ?_
  refine pf4_3 (pc := 5) (ws' := [oX4 q_this q_owned q_wished q_pulls c_p1_kind c_traders, aI k q_owned 12 c_owned, aJ k q_pulls 9 c_pulls, aI k q_wished 12 c_wished, oX4 q_p1 q_p1_owned q_p1_wished q_p1_pulls c_p1_kind c_p1_traders, aI k q_p1_owned 12 c_p1_owned, aJ k q_p1_pulls 9 c_p1_pulls, aI k q_p1_wished 12 c_p1_wished]) C kf_X4_22 0 rfl (Nat.le_of_ble_eq_true rfl) rfl dX4_copy_5 ?_
  refine ww_aload_n (pc := 8) C dX4_copy_8 rfl 0 rfl ?_
  refine ww_aload_n (pc := 9) C dX4_copy_9 rfl 1 rfl ?_
  refine gf4_4 (pc := 10) C kf_X4_26 4 rfl rfl dX4_copy_10 ?_
  refine pf4_4 (pc := 13) (ws' := [oX4 q_this q_owned q_wished q_pulls c_p1_kind c_p1_traders, aI k q_owned 12 c_owned, aJ k q_pulls 9 c_pulls, aI k q_wished 12 c_wished, oX4 q_p1 q_p1_owned q_p1_wished q_p1_pulls c_p1_kind c_p1_traders, aI k q_p1_owned 12 c_p1_owned, aJ k q_p1_pulls 9 c_p1_pulls, aI k q_p1_wished 12 c_p1_wished]) C kf_X4_26 0 rfl (Nat.le_of_ble_eq_true rfl) rfl dX4_copy_13 ?_
  refine ww_aload_n (pc := 16) C dX4_copy_16 rfl 1 rfl ?_
  refine gf4_0 (pc := 17) C kf_X4_9 4 rfl rfl dX4_copy_17 ?_
  refine ww_iconst (pc := 20) C dX4_copy_20 kI_0 ?_
  refine ww_aload_n (pc := 21) C dX4_copy_21 rfl 0 rfl ?_
  refine gf4_0 (pc := 22) C kf_X4_9 0 rfl rfl dX4_copy_22 ?_
  refine ww_iconst (pc := 25) C dX4_copy_25 kI_0 ?_
  refine ww_aload_n (pc := 26) C dX4_copy_26 rfl 0 rfl ?_
  refine gf4_0 (pc := 27) C kf_X4_9 0 rfl rfl dX4_copy_27 ?_
  refine ww_alen (pc := 30) C 1 1 rfl rfl kN_12 dX4_copy_30 ?_
  obtain ⟨v1, h1, hf⟩ := bsome hf
  refine ww_copyi (pc := 31) (ws' := [oX4 q_this q_owned q_wished q_pulls c_p1_kind c_p1_traders, aI k q_owned 12 v1, aJ k q_pulls 9 c_pulls, aI k q_wished 12 c_wished, oX4 q_p1 q_p1_owned q_p1_wished q_p1_pulls c_p1_kind c_p1_traders, aI k q_p1_owned 12 c_p1_owned, aJ k q_p1_pulls 9 c_p1_pulls, aI k q_p1_wished 12 c_p1_wished]) C kac_X4 5 1 rfl rfl (by decide) (by decide) (by decide) ⟨Nat.le_of_ble_eq_true rfl, Nat.le_of_ble_eq_true rfl⟩ h1 rfl trivial dX4_copy_31 ?_
  refine ww_aload_n (pc := 34) C dX4_copy_34 rfl 1 rfl ?_
  refine gf4_1 (pc := 35) C kf_X4_15 4 rfl rfl dX4_copy_35 ?_
  refine ww_iconst (pc := 38) C dX4_copy_38 kI_0 ?_
  refine ww_aload_n (pc := 39) C dX4_copy_39 rfl 0 rfl ?_
  refine gf4_1 (pc := 40) C kf_X4_15 0 rfl rfl dX4_copy_40 ?_
  refine ww_iconst (pc := 43) C dX4_copy_43 kI_0 ?_
  refine ww_aload_n (pc := 44) C dX4_copy_44 rfl 0 rfl ?_
  refine gf4_1 (pc := 45) C kf_X4_15 0 rfl rfl dX4_copy_45 ?_
  refine ww_alen (pc := 48) C 3 1 rfl rfl kN_12 dX4_copy_48 ?_
  obtain ⟨v2, h2, hf⟩ := bsome hf
  refine ww_copyi (pc := 49) (ws' := [oX4 q_this q_owned q_wished q_pulls c_p1_kind c_p1_traders, aI k q_owned 12 v1, aJ k q_pulls 9 c_pulls, aI k q_wished 12 v2, oX4 q_p1 q_p1_owned q_p1_wished q_p1_pulls c_p1_kind c_p1_traders, aI k q_p1_owned 12 c_p1_owned, aJ k q_p1_pulls 9 c_p1_pulls, aI k q_p1_wished 12 c_p1_wished]) C kac_X4 7 3 rfl rfl (by decide) (by decide) (by decide) ⟨Nat.le_of_ble_eq_true rfl, Nat.le_of_ble_eq_true rfl⟩ h2 rfl trivial dX4_copy_49 ?_
  refine ww_aload_n (pc := 52) C dX4_copy_52 rfl 1 rfl ?_
  refine gf4_2 (pc := 53) C kf_X4_18 4 rfl rfl dX4_copy_53 ?_
  refine ww_iconst (pc := 56) C dX4_copy_56 kI_0 ?_
  refine ww_aload_n (pc := 57) C dX4_copy_57 rfl 0 rfl ?_
  refine gf4_2 (pc := 58) C kf_X4_18 0 rfl rfl dX4_copy_58 ?_
  refine ww_iconst (pc := 61) C dX4_copy_61 kI_0 ?_
  refine ww_aload_n (pc := 62) C dX4_copy_62 rfl 0 rfl ?_
  refine gf4_2 (pc := 63) C kf_X4_18 0 rfl rfl dX4_copy_63 ?_
  refine ww_alen (pc := 66) C 2 2 rfl rfl kN_9 dX4_copy_66 ?_
  obtain ⟨v3, h3, hf⟩ := bsome hf
  refine ww_copyl (pc := 67) (ws' := [oX4 q_this q_owned q_wished q_pulls c_p1_kind c_p1_traders, aI k q_owned 12 v1, aJ k q_pulls 9 v3, aI k q_wished 12 v2, oX4 q_p1 q_p1_owned q_p1_wished q_p1_pulls c_p1_kind c_p1_traders, aI k q_p1_owned 12 c_p1_owned, aJ k q_p1_pulls 9 c_p1_pulls, aI k q_p1_wished 12 c_p1_wished]) C kac_X4 6 2 rfl rfl (by decide) (by decide) (by decide) ⟨Nat.le_of_ble_eq_true rfl, Nat.le_of_ble_eq_true rfl⟩ h3 rfl trivial dX4_copy_67 ?_
  obtain ⟨e0, e1, e2, e3, e4⟩ := ij5 hf
  exact hret _ _ 70 dX4_copy_70 (by rw [← e0, ← e1, ← e2, ← e3, ← e4])
def fX5_copy (c_p1_grid_size : Int32) (c_p1_grid_marks : Nat → Int32) (c_p1_rule_kind : Int32) (c_p1_rule_traders : Int32) (c_p1_rule_owned : Nat → Int32) (c_p1_rule_pulls : Nat → Int64) (c_p1_rule_wished : Nat → Int32) (c_grid_size : Int32) (c_grid_marks : Nat → Int32) (c_rule_kind : Int32) (c_rule_traders : Int32) (c_rule_owned : Nat → Int32) (c_rule_pulls : Nat → Int64) (c_rule_wished : Nat → Int32) : Option (Int32 × (Nat → Int32) × Int32 × Int32 × (Nat → Int32) × (Nat → Int64) × (Nat → Int32)) := bd2 (fX1_copy c_p1_grid_size c_p1_grid_marks c_grid_size c_grid_marks) fun v1 v2 => bd5 (fX4_copy c_p1_rule_kind c_p1_rule_traders c_p1_rule_owned c_p1_rule_pulls c_p1_rule_wished c_rule_kind c_rule_traders c_rule_owned c_rule_pulls c_rule_wished) fun v3 v4 v5 v6 v7 => some (v1, v2, v3, v4, v5, v6, v7)
set_option maxHeartbeats 4000000 in
set_option maxRecDepth 100000 in
theorem tX5_copy (l : Launch) (D : va_G) (k : Nat → ClassId) (q_this q_grid q_rule q_grid_marks q_rule_owned q_rule_wished q_rule_pulls q_p1 q_p1_grid q_p1_rule q_p1_grid_marks q_p1_rule_owned q_p1_rule_wished q_p1_rule_pulls : Nat) (c_grid_size : Int32) (c_grid_full : Int32) (c_grid_turns : Int32) (c_grid_firstFull : Int32) (c_grid_lastFull : Int32) (c_grid_marks : Nat → Int32) (c_rule_kind : Int32) (c_rule_traders : Int32) (c_rule_owned : Nat → Int32) (c_rule_pulls : Nat → Int64) (c_rule_wished : Nat → Int32) (c_p1_grid_size : Int32) (c_p1_grid_full : Int32) (c_p1_grid_turns : Int32) (c_p1_grid_firstFull : Int32) (c_p1_grid_lastFull : Int32) (c_p1_grid_marks : Nat → Int32) (c_p1_rule_kind : Int32) (c_p1_rule_traders : Int32) (c_p1_rule_owned : Nat → Int32) (c_p1_rule_pulls : Nat → Int64) (c_p1_rule_wished : Nat → Int32)  (w_grid_size : Int32) (w_grid_marks : Nat → Int32) (w_rule_kind : Int32) (w_rule_traders : Int32) (w_rule_owned : Nat → Int32) (w_rule_pulls : Nat → Int64) (w_rule_wished : Nat → Int32) (hf : fX5_copy c_p1_grid_size c_p1_grid_marks c_p1_rule_kind c_p1_rule_traders c_p1_rule_owned c_p1_rule_pulls c_p1_rule_wished c_grid_size c_grid_marks c_rule_kind c_rule_traders c_rule_owned c_rule_pulls c_rule_wished = some (w_grid_size, w_grid_marks, w_rule_kind, w_rule_traders, w_rule_owned, w_rule_pulls, w_rule_wished)) : MV l yX5_copy cX5_copy 2 (RM 2 81) D k [.ref q_this, .ref q_p1] [oX5 q_this q_grid q_rule, oX1 q_grid q_grid_marks c_grid_size c_grid_full c_grid_turns c_grid_firstFull c_grid_lastFull, aI k q_grid_marks 153 c_grid_marks, oX4 q_rule q_rule_owned q_rule_wished q_rule_pulls c_rule_kind c_rule_traders, aI k q_rule_owned 12 c_rule_owned, aJ k q_rule_pulls 9 c_rule_pulls, aI k q_rule_wished 12 c_rule_wished, oX5 q_p1 q_p1_grid q_p1_rule, oX1 q_p1_grid q_p1_grid_marks c_p1_grid_size c_p1_grid_full c_p1_grid_turns c_p1_grid_firstFull c_p1_grid_lastFull, aI k q_p1_grid_marks 153 c_p1_grid_marks, oX4 q_p1_rule q_p1_rule_owned q_p1_rule_wished q_p1_rule_pulls c_p1_rule_kind c_p1_rule_traders, aI k q_p1_rule_owned 12 c_p1_rule_owned, aJ k q_p1_rule_pulls 9 c_p1_rule_pulls, aI k q_p1_rule_wished 12 c_p1_rule_wished] [oX5 q_this q_grid q_rule, oX1 q_grid q_grid_marks w_grid_size c_grid_full c_grid_turns c_grid_firstFull c_grid_lastFull, aI k q_grid_marks 153 w_grid_marks, oX4 q_rule q_rule_owned q_rule_wished q_rule_pulls w_rule_kind w_rule_traders, aI k q_rule_owned 12 w_rule_owned, aJ k q_rule_pulls 9 w_rule_pulls, aI k q_rule_wished 12 w_rule_wished, oX5 q_p1 q_p1_grid q_p1_rule, oX1 q_p1_grid q_p1_grid_marks c_p1_grid_size c_p1_grid_full c_p1_grid_turns c_p1_grid_firstFull c_p1_grid_lastFull, aI k q_p1_grid_marks 153 c_p1_grid_marks, oX4 q_p1_rule q_p1_rule_owned q_p1_rule_wished q_p1_rule_pulls c_p1_rule_kind c_p1_rule_traders, aI k q_p1_rule_owned 12 c_p1_rule_owned, aJ k q_p1_rule_pulls 9 c_p1_rule_pulls, aI k q_p1_rule_wished 12 c_p1_rule_wished] := by
  refine mkMV' (own := "DoorWalk$State") (by decide) rfl (Nat.le_of_ble_eq_true rfl) ?_
  intro p e s m args below meth c Q A hret C
  refine ww_lv (lv' := [(0, .ref q_this), (1, .ref q_p1)]) [0, 1] rfl ?_
  unfold fX5_copy at hf
  refine ww_aload_n (pc := 0) C dX5_copy_0 rfl 0 rfl ?_
  refine gf5_0 (pc := 1) C kf_X5_10 0 rfl rfl dX5_copy_1 ?_
  refine ww_aload_n (pc := 4) C dX5_copy_4 rfl 1 rfl ?_
  refine gf5_0 (pc := 5) C kf_X5_10 7 rfl rfl dX5_copy_5 ?_
  obtain ⟨v1, v2, h1, hf⟩ := bd2_some hf
  refine ww_callVv (pc := 8) (ws' := [oX5 q_this q_grid q_rule, oX1 q_grid q_grid_marks v1 c_grid_full c_grid_turns c_grid_firstFull c_grid_lastFull, aI k q_grid_marks 153 v2, oX4 q_rule q_rule_owned q_rule_wished q_rule_pulls c_rule_kind c_rule_traders, aI k q_rule_owned 12 c_rule_owned, aJ k q_rule_pulls 9 c_rule_pulls, aI k q_rule_wished 12 c_rule_wished, oX5 q_p1 q_p1_grid q_p1_rule, oX1 q_p1_grid q_p1_grid_marks c_p1_grid_size c_p1_grid_full c_p1_grid_turns c_p1_grid_firstFull c_p1_grid_lastFull, aI k q_p1_grid_marks 153 c_p1_grid_marks, oX4 q_p1_rule q_p1_rule_owned q_p1_rule_wished q_p1_rule_pulls c_p1_rule_kind c_p1_rule_traders, aI k q_p1_rule_owned 12 c_p1_rule_owned, aJ k q_p1_rule_pulls 9 c_p1_rule_pulls, aI k q_p1_rule_wished 12 c_p1_rule_wished]) (As := [.ref q_p1_grid]) (rest := []) C (tX1_copy l D k q_grid q_grid_marks q_p1_grid q_p1_grid_marks c_grid_size c_grid_full c_grid_turns c_grid_firstFull c_grid_lastFull c_grid_marks c_p1_grid_size c_p1_grid_full c_p1_grid_turns c_p1_grid_firstFull c_p1_grid_lastFull c_p1_grid_marks v1 v2 h1) cv_X5_23 ⟨⟨by decide, by decide⟩, rfl, rfl⟩ 1 rfl rfl [1, 2, 8, 9] rfl rfl rfl rfl rfl rfl (Nat.le_of_ble_eq_true rfl) ⟨Nat.zero_le _, Nat.zero_le _⟩ dX5_copy_8 ?_
  refine ww_aload_n (pc := 11) C dX5_copy_11 rfl 0 rfl ?_
  refine gf5_1 (pc := 12) C kf_X5_19 0 rfl rfl dX5_copy_12 ?_
  refine ww_aload_n (pc := 15) C dX5_copy_15 rfl 1 rfl ?_
  refine gf5_1 (pc := 16) C kf_X5_19 7 rfl rfl dX5_copy_16 ?_
  obtain ⟨v3, v4, v5, v6, v7, h3, hf⟩ := bd5_some hf
  refine ww_callVv (pc := 19) (ws' := [oX5 q_this q_grid q_rule, oX1 q_grid q_grid_marks v1 c_grid_full c_grid_turns c_grid_firstFull c_grid_lastFull, aI k q_grid_marks 153 v2, oX4 q_rule q_rule_owned q_rule_wished q_rule_pulls v3 v4, aI k q_rule_owned 12 v5, aJ k q_rule_pulls 9 v6, aI k q_rule_wished 12 v7, oX5 q_p1 q_p1_grid q_p1_rule, oX1 q_p1_grid q_p1_grid_marks c_p1_grid_size c_p1_grid_full c_p1_grid_turns c_p1_grid_firstFull c_p1_grid_lastFull, aI k q_p1_grid_marks 153 c_p1_grid_marks, oX4 q_p1_rule q_p1_rule_owned q_p1_rule_wished q_p1_rule_pulls c_p1_rule_kind c_p1_rule_traders, aI k q_p1_rule_owned 12 c_p1_rule_owned, aJ k q_p1_rule_pulls 9 c_p1_rule_pulls, aI k q_p1_rule_wished 12 c_p1_rule_wished]) (As := [.ref q_p1_rule]) (rest := []) C (tX4_copy l D k q_rule q_rule_owned q_rule_wished q_rule_pulls q_p1_rule q_p1_rule_owned q_p1_rule_wished q_p1_rule_pulls c_rule_kind c_rule_traders c_rule_owned c_rule_pulls c_rule_wished c_p1_rule_kind c_p1_rule_traders c_p1_rule_owned c_p1_rule_pulls c_p1_rule_wished v3 v4 v5 v6 v7 h3) cv_X5_27 ⟨⟨by decide, by decide⟩, rfl, rfl⟩ 3 rfl rfl [3, 4, 5, 6, 10, 11, 12, 13] rfl rfl rfl rfl rfl rfl (Nat.le_of_ble_eq_true rfl) ⟨Nat.zero_le _, Nat.zero_le _⟩ dX5_copy_19 ?_
  obtain ⟨e0, e1, e2, e3, e4, e5, e6⟩ := ij7 hf
  exact hret _ _ 22 dX5_copy_22 (by rw [← e0, ← e1, ← e2, ← e3, ← e4, ← e5, ← e6])
def fX2_hold (c_next : Int32) (c_size : Int32) : Option (Int32 × Int32) := (some ((c_next + (1 : Int32)) - (c_next + (1 : Int32)) / (9 : Int32) * (9 : Int32))).bind fun v1 => (some (mnI (c_size + (1 : Int32)) (8 : Int32))).bind fun v2 => some (v1, v2)
set_option maxHeartbeats 4000000 in
set_option maxRecDepth 100000 in
theorem tX2_hold (l : Launch) (D : va_G) (k : Nat → ClassId) (q_this q_ring : Nat) (c_next : Int32) (c_size : Int32)  (w_next : Int32) (w_size : Int32) (hf : fX2_hold c_next c_size = some (w_next, w_size)) : MV l yX2_hold cX2_hold 1 (RM 1 23) D k [.ref q_this] [oX2 q_this q_ring c_next c_size] [oX2 q_this q_ring w_next w_size] := by
  refine mkMV' (own := "DoorWalk$History") (by decide) rfl (Nat.le_of_ble_eq_true rfl) ?_
  intro p e s m args below meth c Q A hret C
  refine ww_lv (lv' := [(0, .ref q_this)]) [0] rfl ?_
  unfold fX2_hold at hf
  refine ww_aload_n (pc := 0) C dX2_hold_0 rfl 0 rfl ?_
  refine ww_aload_n (pc := 1) C dX2_hold_1 rfl 0 rfl ?_
  refine gf2_1 (pc := 2) C kf_X2_17 0 rfl rfl dX2_hold_2 ?_
  refine ww_iconst (pc := 5) C dX2_hold_5 kI_1 ?_
  refine ww_iadd (pc := 6) C dX2_hold_6  ?_
  refine ww_bipush (pc := 7) C dX2_hold_7 kB_9 ?_
  refine ww_iremC (pc := 9) C dX2_hold_9 (by decide) ?_
  obtain ⟨v1, h1, hf⟩ := bsome hf
  refine ww_nmi h1 ?_
  refine pf2_1 (pc := 10) (ws' := [oX2 q_this q_ring v1 c_size]) C kf_X2_17 0 rfl (Nat.le_of_ble_eq_true rfl) rfl dX2_hold_10 ?_
  refine ww_aload_n (pc := 13) C dX2_hold_13 rfl 0 rfl ?_
  refine ww_aload_n (pc := 14) C dX2_hold_14 rfl 0 rfl ?_
  refine gf2_2 (pc := 15) C kf_X2_21 0 rfl rfl dX2_hold_15 ?_
  refine ww_iconst (pc := 18) C dX2_hold_18 kI_1 ?_
  refine ww_iadd (pc := 19) C dX2_hold_19  ?_
  refine ww_bipush (pc := 20) C dX2_hold_20 kB_8 ?_
  refine ww_mmin (pc := 22) C cs_X2_29.1 (Nat.le_of_ble_eq_true rfl) (Nat.le_of_ble_eq_true rfl) ⟨Nat.zero_le _, Nat.zero_le _⟩ dX2_hold_22 ?_
  obtain ⟨v2, h2, hf⟩ := bsome hf
  refine ww_nmi h2 ?_
  refine pf2_2 (pc := 25) (ws' := [oX2 q_this q_ring v1 v2]) C kf_X2_21 0 rfl (Nat.le_of_ble_eq_true rfl) rfl dX2_hold_25 ?_
  obtain ⟨e0, e1⟩ := ij2 hf
  exact hret _ _ 28 dX2_hold_28 (by rw [← e0, ← e1])
def fX4_wish (c_wished : Nat → Int32) (x1 : Int32) (x2 : Int32) : Option Int32 := (some (((3 : Int32) * x1) + x2)).bind fun v1 => if v1 < 0 then some ((0 : Int32)) else if (12 : Int32) ≤ v1 then some ((0 : Int32)) else (ald 12 v1 c_wished).bind fun v2 => some (v2)
set_option maxHeartbeats 4000000 in
set_option maxRecDepth 100000 in
theorem tX4_wish (l : Launch) (D : va_G) (k : Nat → ClassId) (q_this q_owned q_wished q_pulls : Nat) (c_kind : Int32) (c_traders : Int32) (c_wished : Nat → Int32) (x1 : Int32) (x2 : Int32) (r_ : Int32) (hf : fX4_wish c_wished x1 x2 = some (r_)) : MI l yX4_wish cX4_wish 4 .int (RM 0 0) D k [.ref q_this, .int x1, .int x2] [oX4 q_this q_owned q_wished q_pulls c_kind c_traders, aI k q_wished 12 c_wished] r_ [oX4 q_this q_owned q_wished q_pulls c_kind c_traders, aI k q_wished 12 c_wished] := by
  refine mkMI' (own := "DoorWalk$Rule") (by decide) rfl (Nat.le_of_ble_eq_true rfl) ?_
  intro p e s m args below meth c Q A hret C
  refine ww_lv (lv' := [(0, .ref q_this), (1, .int x1), (2, .int x2)]) [0, 1, 2] rfl ?_
  unfold fX4_wish at hf
  refine ww_iconst (pc := 0) C dX4_wish_0 kI_3 ?_
  refine ww_iload_n (pc := 1) C dX4_wish_1 rfl 1 rfl ?_
  refine ww_imul (pc := 2) C dX4_wish_2  ?_
  refine ww_iload_n (pc := 3) C dX4_wish_3 rfl 2 rfl ?_
  refine ww_iadd (pc := 4) C dX4_wish_4  ?_
  obtain ⟨v1, h1, hf⟩ := bsome hf
  refine ww_nmi h1 ?_
  refine ww_istore_n (pc := 5) (lv' := [(3, .int v1), (0, .ref q_this), (1, .int x1), (2, .int x2)]) C dX4_wish_5 rfl (by decide) rfl ?_
  refine ww_iload_n (pc := 6) C dX4_wish_6 rfl 0 rfl ?_
  refine ww_if_lt (pc := 7) (tgt := 28) C dX4_wish_7 (by decide) (fun hc => ?_) (fun hc => ?_)
  · have hf := ifT hc hf
    refine ww_iconst (pc := 28) C dX4_wish_28 kI_0 ?_
    obtain e0 := ij1 hf
    exact hret _ _ 29 _ dX4_wish_29 rfl e0 rfl
  · have hf := ifF hc hf
    refine ww_iload_n (pc := 10) C dX4_wish_10 rfl 0 rfl ?_
    refine ww_aload_n (pc := 11) C dX4_wish_11 rfl 1 rfl ?_
    refine gf4_1 (pc := 12) C kf_X4_15 0 rfl rfl dX4_wish_12 ?_
    refine ww_alen (pc := 15) C 1 1 rfl rfl kN_12 dX4_wish_15 ?_
    refine ww_icmp_ge (pc := 16) (tgt := 28) C dX4_wish_16 (by decide) (fun hc => ?_) (fun hc => ?_)
    · have hf := ifT hc hf
      refine ww_iconst (pc := 28) C dX4_wish_28 kI_0 ?_
      obtain e0 := ij1 hf
      exact hret _ _ 29 _ dX4_wish_29 rfl e0 rfl
    · have hf := ifF hc hf
      refine ww_aload_n (pc := 19) C dX4_wish_19 rfl 1 rfl ?_
      refine gf4_1 (pc := 20) C kf_X4_15 0 rfl rfl dX4_wish_20 ?_
      refine ww_iload_n (pc := 23) C dX4_wish_23 rfl 0 rfl ?_
      obtain ⟨v2, h2, hf⟩ := bsome hf
      refine ww_iald (pc := 24) C 1 rfl h2 dX4_wish_24 ?_
      refine ww_goto (pc := 25) (tgt := 29) C dX4_wish_25 (by decide) ?_
      obtain e0 := ij1 hf
      exact hret _ _ 29 _ dX4_wish_29 rfl e0 rfl
def fX4_wishes (c_wished : Nat → Int32) (x1 : Int32) : Option Int32 := (fX4_wish c_wished x1 (0 : Int32)).bind fun v1 => (fX4_wish c_wished x1 (1 : Int32)).bind fun v2 => (fX4_wish c_wished x1 (2 : Int32)).bind fun v3 => some (((v1 + v2) + v3))
set_option maxHeartbeats 4000000 in
set_option maxRecDepth 100000 in
theorem tX4_wishes (l : Launch) (D : va_G) (k : Nat → ClassId) (q_this q_owned q_wished q_pulls : Nat) (c_kind : Int32) (c_traders : Int32) (c_wished : Nat → Int32) (x1 : Int32) (r_ : Int32) (hf : fX4_wishes c_wished x1 = some (r_)) : MI l yX4_wishes cX4_wishes 2 .int (RM 1 23) D k [.ref q_this, .int x1] [oX4 q_this q_owned q_wished q_pulls c_kind c_traders, aI k q_wished 12 c_wished] r_ [oX4 q_this q_owned q_wished q_pulls c_kind c_traders, aI k q_wished 12 c_wished] := by
  refine mkMI' (own := "DoorWalk$Rule") (by decide) rfl (Nat.le_of_ble_eq_true rfl) ?_
  intro p e s m args below meth c Q A hret C
  refine ww_lv (lv' := [(0, .ref q_this), (1, .int x1)]) [0, 1] rfl ?_
  unfold fX4_wishes at hf
  refine ww_aload_n (pc := 0) C dX4_wishes_0 rfl 0 rfl ?_
  refine ww_iload_n (pc := 1) C dX4_wishes_1 rfl 1 rfl ?_
  refine ww_iconst (pc := 2) C dX4_wishes_2 kI_0 ?_
  obtain ⟨v1, h1, hf⟩ := bsome hf
  refine ww_callVi0 (pc := 3) (As := [.int x1, .int (0 : Int32)]) (rest := []) C (tX4_wish l D k q_this q_owned q_wished q_pulls c_kind c_traders c_wished x1 (0 : Int32) v1 h1) cv_X4_50 ⟨⟨by decide, by decide⟩, rfl, rfl⟩ 0 rfl rfl [0, 1] rfl rfl rfl rfl (Nat.le_of_ble_eq_true rfl) ⟨Nat.zero_le _, Nat.zero_le _⟩ dX4_wishes_3 (fun hb1 => ?_)
  refine ww_aload_n (pc := 6) C dX4_wishes_6 rfl 0 rfl ?_
  refine ww_iload_n (pc := 7) C dX4_wishes_7 rfl 1 rfl ?_
  refine ww_iconst (pc := 8) C dX4_wishes_8 kI_1 ?_
  obtain ⟨v2, h2, hf⟩ := bsome hf
  refine ww_callVi0 (pc := 9) (As := [.int x1, .int (1 : Int32)]) (rest := [.int v1]) C (tX4_wish l D k q_this q_owned q_wished q_pulls c_kind c_traders c_wished x1 (1 : Int32) v2 h2) cv_X4_50 ⟨⟨by decide, by decide⟩, rfl, rfl⟩ 0 rfl rfl [0, 1] rfl rfl rfl rfl (Nat.le_of_ble_eq_true rfl) ⟨Nat.zero_le _, Nat.zero_le _⟩ dX4_wishes_9 (fun hb2 => ?_)
  refine ww_iadd (pc := 12) C dX4_wishes_12  ?_
  refine ww_aload_n (pc := 13) C dX4_wishes_13 rfl 0 rfl ?_
  refine ww_iload_n (pc := 14) C dX4_wishes_14 rfl 1 rfl ?_
  refine ww_iconst (pc := 15) C dX4_wishes_15 kI_2 ?_
  obtain ⟨v3, h3, hf⟩ := bsome hf
  refine ww_callVi0 (pc := 16) (As := [.int x1, .int (2 : Int32)]) (rest := [.int (v1 + v2)]) C (tX4_wish l D k q_this q_owned q_wished q_pulls c_kind c_traders c_wished x1 (2 : Int32) v3 h3) cv_X4_50 ⟨⟨by decide, by decide⟩, rfl, rfl⟩ 0 rfl rfl [0, 1] rfl rfl rfl rfl (Nat.le_of_ble_eq_true rfl) ⟨Nat.zero_le _, Nat.zero_le _⟩ dX4_wishes_16 (fun hb3 => ?_)
  refine ww_iadd (pc := 19) C dX4_wishes_19  ?_
  obtain e0 := ij1 hf
  exact hret _ _ 20 _ dX4_wishes_20 rfl e0 rfl
def fX4_productWithout_b32 (c_traders : Int32) (c_wished : Nat → Int32) (rc5 : Int32 → Int64 → Int32 → Option Int64) (n1 : Int32) (n4 : Int32) (s0 : Int64) (s1 : Int64) : Option Int64 := (some (s0 * s1)).bind fun v1 => (some (n4 + (1 : Int32))).bind fun v2 => rc5 n1 v1 v2
def fX4_productWithout_b5 (c_traders : Int32) (c_wished : Nat → Int32) (rc5 : Int32 → Int64 → Int32 → Option Int64) (n1 : Int32) (n2 : Int64) (n4 : Int32) : Option Int64 := if c_traders ≤ n4 then some (n2) else if n4 = n1 then fX4_productWithout_b32 c_traders c_wished rc5 n1 n4 n2 (1 : Int64) else (fX4_wishes c_wished n4).bind fun v1 => fX4_productWithout_b32 c_traders c_wished rc5 n1 n4 n2 ((v1).toInt64)
def fX4_productWithout (c_traders : Int32) (c_wished : Nat → Int32) (x1 : Int32) : Option Int64 := lfix (fX4_productWithout_b5 c_traders c_wished) (fun _ _ _ => none) FU x1 (1 : Int64) (0 : Int32)
set_option maxHeartbeats 4000000 in
set_option maxRecDepth 100000 in
theorem tX4_productWithout (l : Launch) (D : va_G) (k : Nat → ClassId) (q_this q_owned q_wished q_pulls : Nat) (c_kind : Int32) (c_traders : Int32) (c_wished : Nat → Int32) (x1 : Int32) (r_ : Int64) (hf : fX4_productWithout c_traders c_wished x1 = some (r_)) : ML l yX4_productWithout cX4_productWithout 5 (RM 2 44) D k [.ref q_this, .int x1] [oX4 q_this q_owned q_wished q_pulls c_kind c_traders, aI k q_wished 12 c_wished] r_ [oX4 q_this q_owned q_wished q_pulls c_kind c_traders, aI k q_wished 12 c_wished] := by
  refine mkML' (own := "DoorWalk$Rule") (by decide) rfl (Nat.le_of_ble_eq_true rfl) ?_
  intro p e s m args below meth c Q A hret C
  refine ww_lv (lv' := [(0, .ref q_this), (1, .int x1)]) [0, 1] rfl ?_
  have hL5 : ∀ (n : Nat) (n1 : Int32) (n2 : Int64) (n4 : Int32), lfix (fX4_productWithout_b5 c_traders c_wished) (fun _ _ _ => none) n n1 n2 n4 = some (r_) → WW p l e (RM 2 44) s m args below meth c Q 5 D A 0 0 [oX4 q_this q_owned q_wished q_pulls c_kind c_traders, aI k q_wished 12 c_wished] [(0, .ref q_this), (1, .int n1), (2, .long n2), (4, .int n4)] 5 [] := by
    intro n
    induction n with
    | zero => intro n1 n2 n4 hf; cases hf
    | succ n ih5 =>
      obtain ⟨rc5, hrc5⟩ : ∃ f9, f9 = lfix (fX4_productWithout_b5 c_traders c_wished) (fun _ _ _ => none) n := ⟨_, rfl⟩
      rw [← hrc5] at ih5
      have hJ32 : ∀ (n1 : Int32) (n4 : Int32) (s0 : Int64) (s1 : Int64), fX4_productWithout_b32 c_traders c_wished rc5 n1 n4 s0 s1 = some (r_) → WW p l e (RM 2 44) s m args below meth c Q 5 D A 0 0 [oX4 q_this q_owned q_wished q_pulls c_kind c_traders, aI k q_wished 12 c_wished] [(0, .ref q_this), (1, .int n1), (4, .int n4)] 32 [.long s1, .long s0] := by
        intro n1 n4 s0 s1
        intro hf
        unfold fX4_productWithout_b32 at hf
        refine ww_lmul (pc := 32) C dX4_productWithout_32  ?_
        obtain ⟨v1, h1, hf⟩ := bsome hf
        refine ww_nml h1 ?_
        refine ww_lstore_n (pc := 33) (lv' := [(2, .long v1), (0, .ref q_this), (1, .int n1), (4, .int n4)]) C dX4_productWithout_33 rfl (by decide) rfl ?_
        obtain ⟨v2, h2, hf⟩ := bsome hf
        refine ww_iincN (pc := 34) (lv' := [(4, .int v2), (2, .long v1), (0, .ref q_this), (1, .int n1)]) (j := 3) C dX4_productWithout_34 kI_1 rfl h2 (by decide) rfl ?_
        refine ww_goto (pc := 37) (tgt := 5) C dX4_productWithout_37 (by decide) ?_
        exact ww_lv [2, 3, 1, 0] rfl (ih5 n1 v1 v2 hf)
      intro n1 n2 n4 hf
      have hf : fX4_productWithout_b5 c_traders c_wished rc5 n1 n2 n4 = some (r_) := by rw [hrc5]; exact hf
      unfold fX4_productWithout_b5 at hf
      refine ww_iload (pc := 5) C dX4_productWithout_5 3 rfl ?_
      refine ww_aload_n (pc := 7) C dX4_productWithout_7 rfl 0 rfl ?_
      refine gf4_4 (pc := 8) C kf_X4_26 0 rfl rfl dX4_productWithout_8 ?_
      refine ww_icmp_ge (pc := 11) (tgt := 40) C dX4_productWithout_11 (by decide) (fun hc => ?_) (fun hc => ?_)
      · have hf := ifT hc hf
        refine ww_lload_n (pc := 40) C dX4_productWithout_40 rfl 2 rfl ?_
        obtain e0 := ij1 hf
        exact hret _ _ 41 _ dX4_productWithout_41 e0 rfl
      · have hf := ifF hc hf
        refine ww_lload_n (pc := 14) C dX4_productWithout_14 rfl 2 rfl ?_
        refine ww_iload (pc := 15) C dX4_productWithout_15 3 rfl ?_
        refine ww_iload_n (pc := 17) C dX4_productWithout_17 rfl 1 rfl ?_
        refine ww_icmp_ne (pc := 18) (tgt := 25) C dX4_productWithout_18 (by decide) (fun hc => ?_) (fun hc => ?_)
        · have hf := ifF hc hf
          refine ww_aload_n (pc := 25) C dX4_productWithout_25 rfl 0 rfl ?_
          refine ww_iload (pc := 26) C dX4_productWithout_26 3 rfl ?_
          obtain ⟨v1, h1, hf⟩ := bsome hf
          refine ww_callVi0 (pc := 28) (As := [.int n4]) (rest := [.long n2]) C (tX4_wishes l D k q_this q_owned q_wished q_pulls c_kind c_traders c_wished n4 v1 h1) cv_X4_53 ⟨⟨by decide, by decide⟩, rfl, rfl⟩ 0 rfl rfl [0, 1] rfl rfl rfl rfl (Nat.le_of_ble_eq_true rfl) ⟨Nat.zero_le _, Nat.zero_le _⟩ dX4_productWithout_28 (fun hb1 => ?_)
          refine ww_i2l (pc := 31) C dX4_productWithout_31  ?_
          exact ww_lv [0, 1, 3] rfl (hJ32 n1 n4 n2 ((v1).toInt64) hf)
        · have hf := ifT hc hf
          refine ww_lconst (pc := 21) C dX4_productWithout_21 kL_1 ?_
          refine ww_goto (pc := 22) (tgt := 32) C dX4_productWithout_22 (by decide) ?_
          exact ww_lv [0, 1, 3] rfl (hJ32 n1 n4 n2 (1 : Int64) hf)
  unfold fX4_productWithout at hf
  refine ww_lconst (pc := 0) C dX4_productWithout_0 kL_1 ?_
  refine ww_lstore_n (pc := 1) (lv' := [(2, .long (1 : Int64)), (0, .ref q_this), (1, .int x1)]) C dX4_productWithout_1 rfl (by decide) rfl ?_
  refine ww_iconst (pc := 2) C dX4_productWithout_2 kI_0 ?_
  refine ww_istore (pc := 3) (lv' := [(4, .int (0 : Int32)), (2, .long (1 : Int64)), (0, .ref q_this), (1, .int x1)]) C dX4_productWithout_3 (by decide) rfl ?_
  exact ww_lv [2, 3, 1, 0] rfl (hL5 FU x1 (1 : Int64) (0 : Int32) hf)
def fX4_amount (c_owned : Nat → Int32) (x1 : Int32) (x2 : Int32) : Option Int32 := (some (((3 : Int32) * x1) + x2)).bind fun v1 => if v1 < 0 then some ((0 : Int32)) else if (12 : Int32) ≤ v1 then some ((0 : Int32)) else (ald 12 v1 c_owned).bind fun v2 => some (v2)
set_option maxHeartbeats 4000000 in
set_option maxRecDepth 100000 in
theorem tX4_amount (l : Launch) (D : va_G) (k : Nat → ClassId) (q_this q_owned q_wished q_pulls : Nat) (c_kind : Int32) (c_traders : Int32) (c_owned : Nat → Int32) (x1 : Int32) (x2 : Int32) (r_ : Int32) (hf : fX4_amount c_owned x1 x2 = some (r_)) : MI l yX4_amount cX4_amount 4 .int (RM 0 0) D k [.ref q_this, .int x1, .int x2] [oX4 q_this q_owned q_wished q_pulls c_kind c_traders, aI k q_owned 12 c_owned] r_ [oX4 q_this q_owned q_wished q_pulls c_kind c_traders, aI k q_owned 12 c_owned] := by
  refine mkMI' (own := "DoorWalk$Rule") (by decide) rfl (Nat.le_of_ble_eq_true rfl) ?_
  intro p e s m args below meth c Q A hret C
  refine ww_lv (lv' := [(0, .ref q_this), (1, .int x1), (2, .int x2)]) [0, 1, 2] rfl ?_
  unfold fX4_amount at hf
  refine ww_iconst (pc := 0) C dX4_amount_0 kI_3 ?_
  refine ww_iload_n (pc := 1) C dX4_amount_1 rfl 1 rfl ?_
  refine ww_imul (pc := 2) C dX4_amount_2  ?_
  refine ww_iload_n (pc := 3) C dX4_amount_3 rfl 2 rfl ?_
  refine ww_iadd (pc := 4) C dX4_amount_4  ?_
  obtain ⟨v1, h1, hf⟩ := bsome hf
  refine ww_nmi h1 ?_
  refine ww_istore_n (pc := 5) (lv' := [(3, .int v1), (0, .ref q_this), (1, .int x1), (2, .int x2)]) C dX4_amount_5 rfl (by decide) rfl ?_
  refine ww_iload_n (pc := 6) C dX4_amount_6 rfl 0 rfl ?_
  refine ww_if_lt (pc := 7) (tgt := 28) C dX4_amount_7 (by decide) (fun hc => ?_) (fun hc => ?_)
  · have hf := ifT hc hf
    refine ww_iconst (pc := 28) C dX4_amount_28 kI_0 ?_
    obtain e0 := ij1 hf
    exact hret _ _ 29 _ dX4_amount_29 rfl e0 rfl
  · have hf := ifF hc hf
    refine ww_iload_n (pc := 10) C dX4_amount_10 rfl 0 rfl ?_
    refine ww_aload_n (pc := 11) C dX4_amount_11 rfl 1 rfl ?_
    refine gf4_0 (pc := 12) C kf_X4_9 0 rfl rfl dX4_amount_12 ?_
    refine ww_alen (pc := 15) C 1 1 rfl rfl kN_12 dX4_amount_15 ?_
    refine ww_icmp_ge (pc := 16) (tgt := 28) C dX4_amount_16 (by decide) (fun hc => ?_) (fun hc => ?_)
    · have hf := ifT hc hf
      refine ww_iconst (pc := 28) C dX4_amount_28 kI_0 ?_
      obtain e0 := ij1 hf
      exact hret _ _ 29 _ dX4_amount_29 rfl e0 rfl
    · have hf := ifF hc hf
      refine ww_aload_n (pc := 19) C dX4_amount_19 rfl 1 rfl ?_
      refine gf4_0 (pc := 20) C kf_X4_9 0 rfl rfl dX4_amount_20 ?_
      refine ww_iload_n (pc := 23) C dX4_amount_23 rfl 0 rfl ?_
      obtain ⟨v2, h2, hf⟩ := bsome hf
      refine ww_iald (pc := 24) C 1 rfl h2 dX4_amount_24 ?_
      refine ww_goto (pc := 25) (tgt := 29) C dX4_amount_25 (by decide) ?_
      obtain e0 := ij1 hf
      exact hret _ _ 29 _ dX4_amount_29 rfl e0 rfl
def fX4_setPulls_b88 (c_traders : Int32) (c_owned : Nat → Int32) (c_wished : Nat → Int32) (rc8 : (Nat → Int64) → Int64 → Int32 → Option ((Nat → Int64))) (rc16 : (Nat → Int64) → Int64 → Int32 → Int32 → Option ((Nat → Int64))) (rc28 : (Nat → Int64) → Int64 → Int32 → Int32 → Int64 → Int32 → Option ((Nat → Int64))) (c_pulls : Nat → Int64) (n1 : Int64) (n3 : Int32) (n4 : Int32) (n7 : Int32) (s0 : Int64) (s1 : Int64) : Option ((Nat → Int64)) := (some (s0 - s1)).bind fun v1 => (some (n7 + (1 : Int32))).bind fun v2 => rc28 c_pulls n1 n3 n4 v1 v2
def fX4_setPulls_b28 (c_traders : Int32) (c_owned : Nat → Int32) (c_wished : Nat → Int32) (rc8 : (Nat → Int64) → Int64 → Int32 → Option ((Nat → Int64))) (rc16 : (Nat → Int64) → Int64 → Int32 → Int32 → Option ((Nat → Int64))) (rc28 : (Nat → Int64) → Int64 → Int32 → Int32 → Int64 → Int32 → Option ((Nat → Int64))) (c_pulls : Nat → Int64) (n1 : Int64) (n3 : Int32) (n4 : Int32) (n5 : Int64) (n7 : Int32) : Option ((Nat → Int64)) := if c_traders ≤ n7 then (astL 9 (((3 : Int32) * n3) + n4) c_pulls n5).bind fun v1 => (some (n4 + (1 : Int32))).bind fun v2 => rc16 v1 n1 n3 v2 else (fX4_amount c_owned n7 n4).bind fun v3 => (fX4_wish c_wished n7 n3).bind fun v4 => (fX4_productWithout c_traders c_wished n7).bind fun v5 => (some (n5 + ((((v3 * v4)).toInt64) * v5))).bind fun v6 => if n3 = n4 then (fX4_amount c_owned n7 n3).bind fun v7 => fX4_setPulls_b88 c_traders c_owned c_wished rc8 rc16 rc28 c_pulls n1 n3 n4 n7 v6 (n1 * ((v7).toInt64)) else fX4_setPulls_b88 c_traders c_owned c_wished rc8 rc16 rc28 c_pulls n1 n3 n4 n7 v6 (0 : Int64)
def fX4_setPulls_b16 (c_traders : Int32) (c_owned : Nat → Int32) (c_wished : Nat → Int32) (rc8 : (Nat → Int64) → Int64 → Int32 → Option ((Nat → Int64))) (rc16 : (Nat → Int64) → Int64 → Int32 → Int32 → Option ((Nat → Int64))) (c_pulls : Nat → Int64) (n1 : Int64) (n3 : Int32) (n4 : Int32) : Option ((Nat → Int64)) := if (3 : Int32) ≤ n4 then (some (n3 + (1 : Int32))).bind fun v1 => rc8 c_pulls n1 v1 else lfix (fX4_setPulls_b28 c_traders c_owned c_wished rc8 rc16) (fun _ _ _ _ _ _ => none) FU c_pulls n1 n3 n4 (0 : Int64) (0 : Int32)
def fX4_setPulls_b8 (c_traders : Int32) (c_owned : Nat → Int32) (c_wished : Nat → Int32) (rc8 : (Nat → Int64) → Int64 → Int32 → Option ((Nat → Int64))) (c_pulls : Nat → Int64) (n1 : Int64) (n3 : Int32) : Option ((Nat → Int64)) := if (3 : Int32) ≤ n3 then some (c_pulls) else lfix (fX4_setPulls_b16 c_traders c_owned c_wished rc8) (fun _ _ _ _ => none) FU c_pulls n1 n3 (0 : Int32)
def fX4_setPulls (c_traders : Int32) (c_owned : Nat → Int32) (c_wished : Nat → Int32) (c_pulls : Nat → Int64) : Option ((Nat → Int64)) := (fX4_productWithout c_traders c_wished (-1 : Int32)).bind fun v1 => lfix (fX4_setPulls_b8 c_traders c_owned c_wished) (fun _ _ _ => none) FU c_pulls v1 (0 : Int32)
set_option maxHeartbeats 4000000 in
set_option maxRecDepth 100000 in
theorem tX4_setPulls (l : Launch) (D : va_G) (k : Nat → ClassId) (q_this q_owned q_wished q_pulls : Nat) (c_kind : Int32) (c_traders : Int32) (c_owned : Nat → Int32) (c_pulls : Nat → Int64) (c_wished : Nat → Int32)  (w_pulls : Nat → Int64) (hf : fX4_setPulls c_traders c_owned c_wished c_pulls = some (w_pulls)) : MV l yX4_setPulls cX4_setPulls 8 (RM 3 68) D k [.ref q_this] [oX4 q_this q_owned q_wished q_pulls c_kind c_traders, aI k q_owned 12 c_owned, aJ k q_pulls 9 c_pulls, aI k q_wished 12 c_wished] [oX4 q_this q_owned q_wished q_pulls c_kind c_traders, aI k q_owned 12 c_owned, aJ k q_pulls 9 w_pulls, aI k q_wished 12 c_wished] := by
  refine mkMV' (own := "DoorWalk$Rule") (by decide) rfl (Nat.le_of_ble_eq_true rfl) ?_
  intro p e s m args below meth c Q A hret C
  refine ww_lv (lv' := [(0, .ref q_this)]) [0] rfl ?_
  have hL8 : ∀ (n : Nat) (c_pulls : Nat → Int64) (n1 : Int64) (n3 : Int32), lfix (fX4_setPulls_b8 c_traders c_owned c_wished) (fun _ _ _ => none) n c_pulls n1 n3 = some (w_pulls) → WW p l e (RM 3 68) s m args below meth c Q 8 D A 0 0 [oX4 q_this q_owned q_wished q_pulls c_kind c_traders, aI k q_owned 12 c_owned, aJ k q_pulls 9 c_pulls, aI k q_wished 12 c_wished] [(0, .ref q_this), (1, .long n1), (3, .int n3)] 8 [] := by
    intro n
    induction n with
    | zero => intro c_pulls n1 n3 hf; cases hf
    | succ n ih8 =>
      obtain ⟨rc8, hrc8⟩ : ∃ f9, f9 = lfix (fX4_setPulls_b8 c_traders c_owned c_wished) (fun _ _ _ => none) n := ⟨_, rfl⟩
      rw [← hrc8] at ih8
      have hL16 : ∀ (n : Nat) (c_pulls : Nat → Int64) (n1 : Int64) (n3 : Int32) (n4 : Int32), lfix (fX4_setPulls_b16 c_traders c_owned c_wished rc8) (fun _ _ _ _ => none) n c_pulls n1 n3 n4 = some (w_pulls) → WW p l e (RM 3 68) s m args below meth c Q 8 D A 0 0 [oX4 q_this q_owned q_wished q_pulls c_kind c_traders, aI k q_owned 12 c_owned, aJ k q_pulls 9 c_pulls, aI k q_wished 12 c_wished] [(0, .ref q_this), (1, .long n1), (3, .int n3), (4, .int n4)] 16 [] := by
        intro n
        induction n with
        | zero => intro c_pulls n1 n3 n4 hf; cases hf
        | succ n ih16 =>
          obtain ⟨rc16, hrc16⟩ : ∃ f9, f9 = lfix (fX4_setPulls_b16 c_traders c_owned c_wished rc8) (fun _ _ _ _ => none) n := ⟨_, rfl⟩
          rw [← hrc16] at ih16
          have hL28 : ∀ (n : Nat) (c_pulls : Nat → Int64) (n1 : Int64) (n3 : Int32) (n4 : Int32) (n5 : Int64) (n7 : Int32), lfix (fX4_setPulls_b28 c_traders c_owned c_wished rc8 rc16) (fun _ _ _ _ _ _ => none) n c_pulls n1 n3 n4 n5 n7 = some (w_pulls) → WW p l e (RM 3 68) s m args below meth c Q 8 D A 0 0 [oX4 q_this q_owned q_wished q_pulls c_kind c_traders, aI k q_owned 12 c_owned, aJ k q_pulls 9 c_pulls, aI k q_wished 12 c_wished] [(0, .ref q_this), (1, .long n1), (3, .int n3), (4, .int n4), (5, .long n5), (7, .int n7)] 28 [] := by
            intro n
            induction n with
            | zero => intro c_pulls n1 n3 n4 n5 n7 hf; cases hf
            | succ n ih28 =>
              obtain ⟨rc28, hrc28⟩ : ∃ f9, f9 = lfix (fX4_setPulls_b28 c_traders c_owned c_wished rc8 rc16) (fun _ _ _ _ _ _ => none) n := ⟨_, rfl⟩
              rw [← hrc28] at ih28
              have hJ88 : ∀ (c_pulls : Nat → Int64) (n1 : Int64) (n3 : Int32) (n4 : Int32) (n7 : Int32) (s0 : Int64) (s1 : Int64), fX4_setPulls_b88 c_traders c_owned c_wished rc8 rc16 rc28 c_pulls n1 n3 n4 n7 s0 s1 = some (w_pulls) → WW p l e (RM 3 68) s m args below meth c Q 8 D A 0 0 [oX4 q_this q_owned q_wished q_pulls c_kind c_traders, aI k q_owned 12 c_owned, aJ k q_pulls 9 c_pulls, aI k q_wished 12 c_wished] [(0, .ref q_this), (1, .long n1), (3, .int n3), (4, .int n4), (7, .int n7)] 88 [.long s1, .long s0] := by
                intro c_pulls n1 n3 n4 n7 s0 s1
                intro hf
                unfold fX4_setPulls_b88 at hf
                refine ww_lsub (pc := 88) C dX4_setPulls_88  ?_
                obtain ⟨v1, h1, hf⟩ := bsome hf
                refine ww_nml h1 ?_
                refine ww_lstore (pc := 89) (lv' := [(5, .long v1), (0, .ref q_this), (1, .long n1), (3, .int n3), (4, .int n4), (7, .int n7)]) C dX4_setPulls_89 (by decide) rfl ?_
                obtain ⟨v2, h2, hf⟩ := bsome hf
                refine ww_iincN (pc := 91) (lv' := [(7, .int v2), (5, .long v1), (0, .ref q_this), (1, .long n1), (3, .int n3), (4, .int n4)]) (j := 5) C dX4_setPulls_91 kI_1 rfl h2 (by decide) rfl ?_
                refine ww_goto (pc := 94) (tgt := 28) C dX4_setPulls_94 (by decide) ?_
                exact ww_lv [2, 3, 4, 5, 1, 0] rfl (ih28 c_pulls n1 n3 n4 v1 v2 hf)
              intro c_pulls n1 n3 n4 n5 n7 hf
              have hf : fX4_setPulls_b28 c_traders c_owned c_wished rc8 rc16 rc28 c_pulls n1 n3 n4 n5 n7 = some (w_pulls) := by rw [hrc28]; exact hf
              unfold fX4_setPulls_b28 at hf
              refine ww_iload (pc := 28) C dX4_setPulls_28 5 rfl ?_
              refine ww_aload_n (pc := 30) C dX4_setPulls_30 rfl 0 rfl ?_
              refine gf4_4 (pc := 31) C kf_X4_26 0 rfl rfl dX4_setPulls_31 ?_
              refine ww_icmp_ge (pc := 34) (tgt := 97) C dX4_setPulls_34 (by decide) (fun hc => ?_) (fun hc => ?_)
              · have hf := ifT hc hf
                refine ww_aload_n (pc := 97) C dX4_setPulls_97 rfl 0 rfl ?_
                refine gf4_2 (pc := 98) C kf_X4_18 0 rfl rfl dX4_setPulls_98 ?_
                refine ww_iconst (pc := 101) C dX4_setPulls_101 kI_3 ?_
                refine ww_iload_n (pc := 102) C dX4_setPulls_102 rfl 2 rfl ?_
                refine ww_imul (pc := 103) C dX4_setPulls_103  ?_
                refine ww_iload (pc := 104) C dX4_setPulls_104 3 rfl ?_
                refine ww_iadd (pc := 106) C dX4_setPulls_106  ?_
                refine ww_lload (pc := 107) C dX4_setPulls_107 4 rfl ?_
                obtain ⟨v1, h1, hf⟩ := bsome hf
                refine ww_last (pc := 109) (ws' := [oX4 q_this q_owned q_wished q_pulls c_kind c_traders, aI k q_owned 12 c_owned, aJ k q_pulls 9 v1, aI k q_wished 12 c_wished]) C 2 rfl h1 rfl dX4_setPulls_109 ?_
                obtain ⟨v2, h2, hf⟩ := bsome hf
                refine ww_iincN (pc := 110) (lv' := [(4, .int v2), (0, .ref q_this), (1, .long n1), (3, .int n3), (5, .long n5), (7, .int n7)]) (j := 3) C dX4_setPulls_110 kI_1 rfl h2 (by decide) rfl ?_
                refine ww_goto (pc := 113) (tgt := 16) C dX4_setPulls_113 (by decide) ?_
                exact ww_lv [1, 2, 3, 0] rfl (ih16 v1 n1 n3 v2 hf)
              · have hf := ifF hc hf
                refine ww_lload (pc := 37) C dX4_setPulls_37 4 rfl ?_
                refine ww_aload_n (pc := 39) C dX4_setPulls_39 rfl 0 rfl ?_
                refine ww_iload (pc := 40) C dX4_setPulls_40 5 rfl ?_
                refine ww_iload (pc := 42) C dX4_setPulls_42 3 rfl ?_
                obtain ⟨v3, h3, hf⟩ := bsome hf
                refine ww_callVi0 (pc := 44) (As := [.int n7, .int n4]) (rest := [.long n5]) C (tX4_amount l D k q_this q_owned q_wished q_pulls c_kind c_traders c_owned n7 n4 v3 h3) cv_X4_60 ⟨⟨by decide, by decide⟩, rfl, rfl⟩ 0 rfl rfl [0, 1] rfl rfl rfl rfl (Nat.le_of_ble_eq_true rfl) ⟨Nat.zero_le _, Nat.zero_le _⟩ dX4_setPulls_44 (fun hb3 => ?_)
                refine ww_aload_n (pc := 47) C dX4_setPulls_47 rfl 0 rfl ?_
                refine ww_iload (pc := 48) C dX4_setPulls_48 5 rfl ?_
                refine ww_iload_n (pc := 50) C dX4_setPulls_50 rfl 2 rfl ?_
                obtain ⟨v4, h4, hf⟩ := bsome hf
                refine ww_callVi0 (pc := 51) (As := [.int n7, .int n3]) (rest := [.int v3, .long n5]) C (tX4_wish l D k q_this q_owned q_wished q_pulls c_kind c_traders c_wished n7 n3 v4 h4) cv_X4_50 ⟨⟨by decide, by decide⟩, rfl, rfl⟩ 0 rfl rfl [0, 3] rfl rfl rfl rfl (Nat.le_of_ble_eq_true rfl) ⟨Nat.zero_le _, Nat.zero_le _⟩ dX4_setPulls_51 (fun hb4 => ?_)
                refine ww_imul (pc := 54) C dX4_setPulls_54  ?_
                refine ww_i2l (pc := 55) C dX4_setPulls_55  ?_
                refine ww_aload_n (pc := 56) C dX4_setPulls_56 rfl 0 rfl ?_
                refine ww_iload (pc := 57) C dX4_setPulls_57 5 rfl ?_
                obtain ⟨v5, h5, hf⟩ := bsome hf
                refine ww_callVl0 (pc := 59) (As := [.int n7]) (rest := [.long (((v3 * v4)).toInt64), .long n5]) C (tX4_productWithout l D k q_this q_owned q_wished q_pulls c_kind c_traders c_wished n7 v5 h5) cv_X4_56 ⟨⟨by decide, by decide⟩, rfl, rfl⟩ 0 rfl rfl [0, 3] rfl rfl rfl rfl (Nat.le_of_ble_eq_true rfl) ⟨Nat.zero_le _, Nat.zero_le _⟩ dX4_setPulls_59 ?_
                refine ww_lmul (pc := 62) C dX4_setPulls_62  ?_
                refine ww_ladd (pc := 63) C dX4_setPulls_63  ?_
                obtain ⟨v6, h6, hf⟩ := bsome hf
                refine ww_nml h6 ?_
                refine ww_lstore (pc := 64) (lv' := [(5, .long v6), (0, .ref q_this), (1, .long n1), (3, .int n3), (4, .int n4), (7, .int n7)]) C dX4_setPulls_64 (by decide) rfl ?_
                refine ww_lload (pc := 66) C dX4_setPulls_66 0 rfl ?_
                refine ww_iload_n (pc := 68) C dX4_setPulls_68 rfl 3 rfl ?_
                refine ww_iload (pc := 69) C dX4_setPulls_69 4 rfl ?_
                refine ww_icmp_ne (pc := 71) (tgt := 87) C dX4_setPulls_71 (by decide) (fun hc => ?_) (fun hc => ?_)
                · have hf := ifF hc hf
                  refine ww_lconst (pc := 87) C dX4_setPulls_87 kL_0 ?_
                  exact ww_lv [1, 2, 3, 4, 5] rfl (hJ88 c_pulls n1 n3 n4 n7 v6 (0 : Int64) hf)
                · have hf := ifT hc hf
                  refine ww_lload_n (pc := 74) C dX4_setPulls_74 rfl 2 rfl ?_
                  refine ww_aload_n (pc := 75) C dX4_setPulls_75 rfl 1 rfl ?_
                  refine ww_iload (pc := 76) C dX4_setPulls_76 5 rfl ?_
                  refine ww_iload_n (pc := 78) C dX4_setPulls_78 rfl 3 rfl ?_
                  obtain ⟨v7, h7, hf⟩ := bsome hf
                  refine ww_callVi0 (pc := 79) (As := [.int n7, .int n3]) (rest := [.long n1, .long v6]) C (tX4_amount l D k q_this q_owned q_wished q_pulls c_kind c_traders c_owned n7 n3 v7 h7) cv_X4_60 ⟨⟨by decide, by decide⟩, rfl, rfl⟩ 0 rfl rfl [0, 1] rfl rfl rfl rfl (Nat.le_of_ble_eq_true rfl) ⟨Nat.zero_le _, Nat.zero_le _⟩ dX4_setPulls_79 (fun hb7 => ?_)
                  refine ww_i2l (pc := 82) C dX4_setPulls_82  ?_
                  refine ww_lmul (pc := 83) C dX4_setPulls_83  ?_
                  refine ww_goto (pc := 84) (tgt := 88) C dX4_setPulls_84 (by decide) ?_
                  exact ww_lv [1, 2, 3, 4, 5] rfl (hJ88 c_pulls n1 n3 n4 n7 v6 (n1 * ((v7).toInt64)) hf)
          intro c_pulls n1 n3 n4 hf
          have hf : fX4_setPulls_b16 c_traders c_owned c_wished rc8 rc16 c_pulls n1 n3 n4 = some (w_pulls) := by rw [hrc16]; exact hf
          unfold fX4_setPulls_b16 at hf
          refine ww_iload (pc := 16) C dX4_setPulls_16 3 rfl ?_
          refine ww_iconst (pc := 18) C dX4_setPulls_18 kI_3 ?_
          refine ww_icmp_ge (pc := 19) (tgt := 116) C dX4_setPulls_19 (by decide) (fun hc => ?_) (fun hc => ?_)
          · have hf := ifT hc hf
            obtain ⟨v1, h1, hf⟩ := bsome hf
            refine ww_iincN (pc := 116) (lv' := [(3, .int v1), (0, .ref q_this), (1, .long n1), (4, .int n4)]) (j := 2) C dX4_setPulls_116 kI_1 rfl h1 (by decide) rfl ?_
            refine ww_goto (pc := 119) (tgt := 8) C dX4_setPulls_119 (by decide) ?_
            exact ww_lv [1, 2, 0] rfl (ih8 c_pulls n1 v1 hf)
          · have hf := ifF hc hf
            refine ww_lconst (pc := 22) C dX4_setPulls_22 kL_0 ?_
            refine ww_lstore (pc := 23) (lv' := [(5, .long (0 : Int64)), (0, .ref q_this), (1, .long n1), (3, .int n3), (4, .int n4)]) C dX4_setPulls_23 (by decide) rfl ?_
            refine ww_iconst (pc := 25) C dX4_setPulls_25 kI_0 ?_
            refine ww_istore (pc := 26) (lv' := [(7, .int (0 : Int32)), (5, .long (0 : Int64)), (0, .ref q_this), (1, .long n1), (3, .int n3), (4, .int n4)]) C dX4_setPulls_26 (by decide) rfl ?_
            exact ww_lv [2, 3, 4, 5, 1, 0] rfl (hL28 FU c_pulls n1 n3 n4 (0 : Int64) (0 : Int32) hf)
      intro c_pulls n1 n3 hf
      have hf : fX4_setPulls_b8 c_traders c_owned c_wished rc8 c_pulls n1 n3 = some (w_pulls) := by rw [hrc8]; exact hf
      unfold fX4_setPulls_b8 at hf
      refine ww_iload_n (pc := 8) C dX4_setPulls_8 rfl 2 rfl ?_
      refine ww_iconst (pc := 9) C dX4_setPulls_9 kI_3 ?_
      refine ww_icmp_ge (pc := 10) (tgt := 122) C dX4_setPulls_10 (by decide) (fun hc => ?_) (fun hc => ?_)
      · have hf := ifT hc hf
        obtain e0 := ij1 hf
        exact hret _ _ 122 dX4_setPulls_122 (by rw [← e0])
      · have hf := ifF hc hf
        refine ww_iconst (pc := 13) C dX4_setPulls_13 kI_0 ?_
        refine ww_istore (pc := 14) (lv' := [(4, .int (0 : Int32)), (0, .ref q_this), (1, .long n1), (3, .int n3)]) C dX4_setPulls_14 (by decide) rfl ?_
        exact ww_lv [1, 2, 3, 0] rfl (hL16 FU c_pulls n1 n3 (0 : Int32) hf)
  unfold fX4_setPulls at hf
  refine ww_aload_n (pc := 0) C dX4_setPulls_0 rfl 0 rfl ?_
  refine ww_iconst (pc := 1) C dX4_setPulls_1 kI_m1 ?_
  obtain ⟨v1, h1, hf⟩ := bsome hf
  refine ww_callVl0 (pc := 2) (As := [.int (-1 : Int32)]) (rest := []) C (tX4_productWithout l D k q_this q_owned q_wished q_pulls c_kind c_traders c_wished (-1 : Int32) v1 h1) cv_X4_56 ⟨⟨by decide, by decide⟩, rfl, rfl⟩ 0 rfl rfl [0, 3] rfl rfl rfl rfl (Nat.le_of_ble_eq_true rfl) ⟨Nat.zero_le _, Nat.zero_le _⟩ dX4_setPulls_2 ?_
  refine ww_lstore_n (pc := 5) (lv' := [(1, .long v1), (0, .ref q_this)]) C dX4_setPulls_5 rfl (by decide) rfl ?_
  refine ww_iconst (pc := 6) C dX4_setPulls_6 kI_0 ?_
  refine ww_istore_n (pc := 7) (lv' := [(3, .int (0 : Int32)), (1, .long v1), (0, .ref q_this)]) C dX4_setPulls_7 rfl (by decide) rfl ?_
  exact ww_lv [2, 1, 0] rfl (hL8 FU c_pulls v1 (0 : Int32) hf)
def fX4_readExchange_b27 (c_p1_length : Int32) (c_p1_signs : Nat → Int32) (rc16 : Int32 → Int32 → (Nat → Int32) → (Nat → Int64) → (Nat → Int32) → Int32 → Option (Int32 × Int32 × (Nat → Int32) × (Nat → Int64) × (Nat → Int32))) (rc27 : Int32 → Int32 → (Nat → Int32) → (Nat → Int64) → (Nat → Int32) → Int32 → Int32 → Option (Int32 × Int32 × (Nat → Int32) × (Nat → Int64) × (Nat → Int32))) (c_kind : Int32) (c_traders : Int32) (c_owned : Nat → Int32) (c_pulls : Nat → Int64) (c_wished : Nat → Int32) (n3 : Int32) (n4 : Int32) : Option (Int32 × Int32 × (Nat → Int32) × (Nat → Int64) × (Nat → Int32)) := if (3 : Int32) ≤ n4 then (some (n3 + (1 : Int32))).bind fun v1 => rc16 c_kind c_traders c_owned c_pulls c_wished v1 else (fX6_digit c_p1_length c_p1_signs (((7 : Int32) * n3) + n4)).bind fun v2 => (ast 12 (((3 : Int32) * n3) + n4) c_owned v2).bind fun v3 => (fX6_digit c_p1_length c_p1_signs ((((7 : Int32) * n3) + (3 : Int32)) + n4)).bind fun v4 => (ast 12 (((3 : Int32) * n3) + n4) c_wished v4).bind fun v5 => (some (n4 + (1 : Int32))).bind fun v6 => rc27 c_kind c_traders v3 c_pulls v5 n3 v6
def fX4_readExchange_b16 (c_p1_length : Int32) (c_p1_signs : Nat → Int32) (rc16 : Int32 → Int32 → (Nat → Int32) → (Nat → Int64) → (Nat → Int32) → Int32 → Option (Int32 × Int32 × (Nat → Int32) × (Nat → Int64) × (Nat → Int32))) (c_kind : Int32) (c_traders : Int32) (c_owned : Nat → Int32) (c_pulls : Nat → Int64) (c_wished : Nat → Int32) (n3 : Int32) : Option (Int32 × Int32 × (Nat → Int32) × (Nat → Int64) × (Nat → Int32)) := if c_traders ≤ n3 then (fX4_setPulls c_traders c_owned c_wished c_pulls).bind fun v1 => some (c_kind, c_traders, c_owned, v1, c_wished) else lfix (fX4_readExchange_b27 c_p1_length c_p1_signs rc16) (fun _ _ _ _ _ _ _ => none) FU c_kind c_traders c_owned c_pulls c_wished n3 (0 : Int32)
def fX4_readExchange (c_p1_length : Int32) (c_p1_signs : Nat → Int32) (c_kind : Int32) (c_traders : Int32) (c_owned : Nat → Int32) (c_pulls : Nat → Int64) (c_wished : Nat → Int32) (x2 : Int32) : Option (Int32 × Int32 × (Nat → Int32) × (Nat → Int64) × (Nat → Int32)) := (some (mnI x2 (4 : Int32))).bind fun v1 => lfix (fX4_readExchange_b16 c_p1_length c_p1_signs) (fun _ _ _ _ _ _ => none) FU (1 : Int32) v1 c_owned c_pulls c_wished (0 : Int32)
set_option maxHeartbeats 4000000 in
set_option maxRecDepth 100000 in
theorem tX4_readExchange (l : Launch) (D : va_G) (k : Nat → ClassId) (q_this q_owned q_wished q_pulls q_p1 q_p1_signs : Nat) (c_kind : Int32) (c_traders : Int32) (c_owned : Nat → Int32) (c_pulls : Nat → Int64) (c_wished : Nat → Int32) (c_p1_length : Int32) (c_p1_signs : Nat → Int32) (x2 : Int32) (w_kind : Int32) (w_traders : Int32) (w_owned : Nat → Int32) (w_pulls : Nat → Int64) (w_wished : Nat → Int32) (hf : fX4_readExchange c_p1_length c_p1_signs c_kind c_traders c_owned c_pulls c_wished x2 = some (w_kind, w_traders, w_owned, w_pulls, w_wished)) : MV l yX4_readExchange cX4_readExchange 5 (RM 4 95) D k [.ref q_this, .ref q_p1, .int x2] [oX4 q_this q_owned q_wished q_pulls c_kind c_traders, aI k q_owned 12 c_owned, aJ k q_pulls 9 c_pulls, aI k q_wished 12 c_wished, oX6 q_p1 q_p1_signs c_p1_length, aI k q_p1_signs 80 c_p1_signs] [oX4 q_this q_owned q_wished q_pulls w_kind w_traders, aI k q_owned 12 w_owned, aJ k q_pulls 9 w_pulls, aI k q_wished 12 w_wished, oX6 q_p1 q_p1_signs c_p1_length, aI k q_p1_signs 80 c_p1_signs] := by
  refine mkMV' (own := "DoorWalk$Rule") (by decide) rfl (Nat.le_of_ble_eq_true rfl) ?_
  intro p e s m args below meth c Q A hret C
  refine ww_lv (lv' := [(0, .ref q_this), (1, .ref q_p1), (2, .int x2)]) [0, 1, 2] rfl ?_
  have hL16 : ∀ (n : Nat) (c_kind : Int32) (c_traders : Int32) (c_owned : Nat → Int32) (c_pulls : Nat → Int64) (c_wished : Nat → Int32) (n3 : Int32), lfix (fX4_readExchange_b16 c_p1_length c_p1_signs) (fun _ _ _ _ _ _ => none) n c_kind c_traders c_owned c_pulls c_wished n3 = some (w_kind, w_traders, w_owned, w_pulls, w_wished) → WW p l e (RM 4 95) s m args below meth c Q 5 D A 0 0 [oX4 q_this q_owned q_wished q_pulls c_kind c_traders, aI k q_owned 12 c_owned, aJ k q_pulls 9 c_pulls, aI k q_wished 12 c_wished, oX6 q_p1 q_p1_signs c_p1_length, aI k q_p1_signs 80 c_p1_signs] [(0, .ref q_this), (1, .ref q_p1), (3, .int n3)] 16 [] := by
    intro n
    induction n with
    | zero => intro c_kind c_traders c_owned c_pulls c_wished n3 hf; cases hf
    | succ n ih16 =>
      obtain ⟨rc16, hrc16⟩ : ∃ f9, f9 = lfix (fX4_readExchange_b16 c_p1_length c_p1_signs) (fun _ _ _ _ _ _ => none) n := ⟨_, rfl⟩
      rw [← hrc16] at ih16
      have hL27 : ∀ (n : Nat) (c_kind : Int32) (c_traders : Int32) (c_owned : Nat → Int32) (c_pulls : Nat → Int64) (c_wished : Nat → Int32) (n3 : Int32) (n4 : Int32), lfix (fX4_readExchange_b27 c_p1_length c_p1_signs rc16) (fun _ _ _ _ _ _ _ => none) n c_kind c_traders c_owned c_pulls c_wished n3 n4 = some (w_kind, w_traders, w_owned, w_pulls, w_wished) → WW p l e (RM 4 95) s m args below meth c Q 5 D A 0 0 [oX4 q_this q_owned q_wished q_pulls c_kind c_traders, aI k q_owned 12 c_owned, aJ k q_pulls 9 c_pulls, aI k q_wished 12 c_wished, oX6 q_p1 q_p1_signs c_p1_length, aI k q_p1_signs 80 c_p1_signs] [(0, .ref q_this), (1, .ref q_p1), (3, .int n3), (4, .int n4)] 27 [] := by
        intro n
        induction n with
        | zero => intro c_kind c_traders c_owned c_pulls c_wished n3 n4 hf; cases hf
        | succ n ih27 =>
          obtain ⟨rc27, hrc27⟩ : ∃ f9, f9 = lfix (fX4_readExchange_b27 c_p1_length c_p1_signs rc16) (fun _ _ _ _ _ _ _ => none) n := ⟨_, rfl⟩
          rw [← hrc27] at ih27
          intro c_kind c_traders c_owned c_pulls c_wished n3 n4 hf
          have hf : fX4_readExchange_b27 c_p1_length c_p1_signs rc16 rc27 c_kind c_traders c_owned c_pulls c_wished n3 n4 = some (w_kind, w_traders, w_owned, w_pulls, w_wished) := by rw [hrc27]; exact hf
          unfold fX4_readExchange_b27 at hf
          refine ww_iload (pc := 27) C dX4_readExchange_27 3 rfl ?_
          refine ww_iconst (pc := 29) C dX4_readExchange_29 kI_3 ?_
          refine ww_icmp_ge (pc := 30) (tgt := 85) C dX4_readExchange_30 (by decide) (fun hc => ?_) (fun hc => ?_)
          · have hf := ifT hc hf
            obtain ⟨v1, h1, hf⟩ := bsome hf
            refine ww_iincN (pc := 85) (lv' := [(3, .int v1), (0, .ref q_this), (1, .ref q_p1), (4, .int n4)]) (j := 2) C dX4_readExchange_85 kI_1 rfl h1 (by decide) rfl ?_
            refine ww_goto (pc := 88) (tgt := 16) C dX4_readExchange_88 (by decide) ?_
            exact ww_lv [1, 2, 0] rfl (ih16 c_kind c_traders c_owned c_pulls c_wished v1 hf)
          · have hf := ifF hc hf
            refine ww_aload_n (pc := 33) C dX4_readExchange_33 rfl 0 rfl ?_
            refine gf4_0 (pc := 34) C kf_X4_9 0 rfl rfl dX4_readExchange_34 ?_
            refine ww_iconst (pc := 37) C dX4_readExchange_37 kI_3 ?_
            refine ww_iload_n (pc := 38) C dX4_readExchange_38 rfl 2 rfl ?_
            refine ww_imul (pc := 39) C dX4_readExchange_39  ?_
            refine ww_iload (pc := 40) C dX4_readExchange_40 3 rfl ?_
            refine ww_iadd (pc := 42) C dX4_readExchange_42  ?_
            refine ww_aload_n (pc := 43) C dX4_readExchange_43 rfl 1 rfl ?_
            refine ww_bipush (pc := 44) C dX4_readExchange_44 kB_7 ?_
            refine ww_iload_n (pc := 46) C dX4_readExchange_46 rfl 2 rfl ?_
            refine ww_imul (pc := 47) C dX4_readExchange_47  ?_
            refine ww_iload (pc := 48) C dX4_readExchange_48 3 rfl ?_
            refine ww_iadd (pc := 50) C dX4_readExchange_50  ?_
            obtain ⟨v2, h2, hf⟩ := bsome hf
            refine ww_callVi0 (pc := 51) (As := [.int (((7 : Int32) * n3) + n4)]) (rest := [.int (((3 : Int32) * n3) + n4), .ref q_owned]) C (tX6_digit l D k q_p1 q_p1_signs c_p1_length c_p1_signs (((7 : Int32) * n3) + n4) v2 h2) cv_X4_41 ⟨⟨by decide, by decide⟩, rfl, rfl⟩ 4 rfl rfl [4, 5] rfl rfl rfl rfl (Nat.le_of_ble_eq_true rfl) ⟨Nat.zero_le _, Nat.zero_le _⟩ dX4_readExchange_51 (fun hb2 => ?_)
            obtain ⟨v3, h3, hf⟩ := bsome hf
            refine ww_iast (pc := 54) (ws' := [oX4 q_this q_owned q_wished q_pulls c_kind c_traders, aI k q_owned 12 v3, aJ k q_pulls 9 c_pulls, aI k q_wished 12 c_wished, oX6 q_p1 q_p1_signs c_p1_length, aI k q_p1_signs 80 c_p1_signs]) C 1 rfl h3 rfl dX4_readExchange_54 ?_
            refine ww_aload_n (pc := 55) C dX4_readExchange_55 rfl 0 rfl ?_
            refine gf4_1 (pc := 56) C kf_X4_15 0 rfl rfl dX4_readExchange_56 ?_
            refine ww_iconst (pc := 59) C dX4_readExchange_59 kI_3 ?_
            refine ww_iload_n (pc := 60) C dX4_readExchange_60 rfl 2 rfl ?_
            refine ww_imul (pc := 61) C dX4_readExchange_61  ?_
            refine ww_iload (pc := 62) C dX4_readExchange_62 3 rfl ?_
            refine ww_iadd (pc := 64) C dX4_readExchange_64  ?_
            refine ww_aload_n (pc := 65) C dX4_readExchange_65 rfl 1 rfl ?_
            refine ww_bipush (pc := 66) C dX4_readExchange_66 kB_7 ?_
            refine ww_iload_n (pc := 68) C dX4_readExchange_68 rfl 2 rfl ?_
            refine ww_imul (pc := 69) C dX4_readExchange_69  ?_
            refine ww_iconst (pc := 70) C dX4_readExchange_70 kI_3 ?_
            refine ww_iadd (pc := 71) C dX4_readExchange_71  ?_
            refine ww_iload (pc := 72) C dX4_readExchange_72 3 rfl ?_
            refine ww_iadd (pc := 74) C dX4_readExchange_74  ?_
            obtain ⟨v4, h4, hf⟩ := bsome hf
            refine ww_callVi0 (pc := 75) (As := [.int ((((7 : Int32) * n3) + (3 : Int32)) + n4)]) (rest := [.int (((3 : Int32) * n3) + n4), .ref q_wished]) C (tX6_digit l D k q_p1 q_p1_signs c_p1_length c_p1_signs ((((7 : Int32) * n3) + (3 : Int32)) + n4) v4 h4) cv_X4_41 ⟨⟨by decide, by decide⟩, rfl, rfl⟩ 4 rfl rfl [4, 5] rfl rfl rfl rfl (Nat.le_of_ble_eq_true rfl) ⟨Nat.zero_le _, Nat.zero_le _⟩ dX4_readExchange_75 (fun hb4 => ?_)
            obtain ⟨v5, h5, hf⟩ := bsome hf
            refine ww_iast (pc := 78) (ws' := [oX4 q_this q_owned q_wished q_pulls c_kind c_traders, aI k q_owned 12 v3, aJ k q_pulls 9 c_pulls, aI k q_wished 12 v5, oX6 q_p1 q_p1_signs c_p1_length, aI k q_p1_signs 80 c_p1_signs]) C 3 rfl h5 rfl dX4_readExchange_78 ?_
            obtain ⟨v6, h6, hf⟩ := bsome hf
            refine ww_iincN (pc := 79) (lv' := [(4, .int v6), (0, .ref q_this), (1, .ref q_p1), (3, .int n3)]) (j := 3) C dX4_readExchange_79 kI_1 rfl h6 (by decide) rfl ?_
            refine ww_goto (pc := 82) (tgt := 27) C dX4_readExchange_82 (by decide) ?_
            exact ww_lv [1, 2, 3, 0] rfl (ih27 c_kind c_traders v3 c_pulls v5 n3 v6 hf)
      intro c_kind c_traders c_owned c_pulls c_wished n3 hf
      have hf : fX4_readExchange_b16 c_p1_length c_p1_signs rc16 c_kind c_traders c_owned c_pulls c_wished n3 = some (w_kind, w_traders, w_owned, w_pulls, w_wished) := by rw [hrc16]; exact hf
      unfold fX4_readExchange_b16 at hf
      refine ww_iload_n (pc := 16) C dX4_readExchange_16 rfl 2 rfl ?_
      refine ww_aload_n (pc := 17) C dX4_readExchange_17 rfl 0 rfl ?_
      refine gf4_4 (pc := 18) C kf_X4_26 0 rfl rfl dX4_readExchange_18 ?_
      refine ww_icmp_ge (pc := 21) (tgt := 91) C dX4_readExchange_21 (by decide) (fun hc => ?_) (fun hc => ?_)
      · have hf := ifT hc hf
        refine ww_aload_n (pc := 91) C dX4_readExchange_91 rfl 0 rfl ?_
        obtain ⟨v1, h1, hf⟩ := bsome hf
        refine ww_callVv (pc := 92) (ws' := [oX4 q_this q_owned q_wished q_pulls c_kind c_traders, aI k q_owned 12 c_owned, aJ k q_pulls 9 v1, aI k q_wished 12 c_wished, oX6 q_p1 q_p1_signs c_p1_length, aI k q_p1_signs 80 c_p1_signs]) (As := []) (rest := []) C (tX4_setPulls l D k q_this q_owned q_wished q_pulls c_kind c_traders c_owned c_pulls c_wished v1 h1) cv_X4_47 ⟨⟨by decide, by decide⟩, rfl, rfl⟩ 0 rfl rfl [0, 1, 2, 3] rfl rfl rfl rfl rfl rfl (Nat.le_of_ble_eq_true rfl) ⟨Nat.zero_le _, Nat.zero_le _⟩ dX4_readExchange_92 ?_
        obtain ⟨e0, e1, e2, e3, e4⟩ := ij5 hf
        exact hret _ _ 95 dX4_readExchange_95 (by rw [← e0, ← e1, ← e2, ← e3, ← e4])
      · have hf := ifF hc hf
        refine ww_iconst (pc := 24) C dX4_readExchange_24 kI_0 ?_
        refine ww_istore (pc := 25) (lv' := [(4, .int (0 : Int32)), (0, .ref q_this), (1, .ref q_p1), (3, .int n3)]) C dX4_readExchange_25 (by decide) rfl ?_
        exact ww_lv [1, 2, 3, 0] rfl (hL27 FU c_kind c_traders c_owned c_pulls c_wished n3 (0 : Int32) hf)
  unfold fX4_readExchange at hf
  refine ww_aload_n (pc := 0) C dX4_readExchange_0 rfl 0 rfl ?_
  refine ww_iconst (pc := 1) C dX4_readExchange_1 kI_1 ?_
  refine pf4_3 (pc := 2) (ws' := [oX4 q_this q_owned q_wished q_pulls (1 : Int32) c_traders, aI k q_owned 12 c_owned, aJ k q_pulls 9 c_pulls, aI k q_wished 12 c_wished, oX6 q_p1 q_p1_signs c_p1_length, aI k q_p1_signs 80 c_p1_signs]) C kf_X4_22 0 rfl (Nat.le_of_ble_eq_true rfl) rfl dX4_readExchange_2 ?_
  refine ww_aload_n (pc := 5) C dX4_readExchange_5 rfl 0 rfl ?_
  refine ww_iload_n (pc := 6) C dX4_readExchange_6 rfl 2 rfl ?_
  refine ww_iconst (pc := 7) C dX4_readExchange_7 kI_4 ?_
  refine ww_mmin (pc := 8) C cs_X4_35.1 (Nat.le_of_ble_eq_true rfl) (Nat.le_of_ble_eq_true rfl) ⟨Nat.zero_le _, Nat.zero_le _⟩ dX4_readExchange_8 ?_
  obtain ⟨v1, h1, hf⟩ := bsome hf
  refine ww_nmi h1 ?_
  refine pf4_4 (pc := 11) (ws' := [oX4 q_this q_owned q_wished q_pulls (1 : Int32) v1, aI k q_owned 12 c_owned, aJ k q_pulls 9 c_pulls, aI k q_wished 12 c_wished, oX6 q_p1 q_p1_signs c_p1_length, aI k q_p1_signs 80 c_p1_signs]) C kf_X4_26 0 rfl (Nat.le_of_ble_eq_true rfl) rfl dX4_readExchange_11 ?_
  refine ww_iconst (pc := 14) C dX4_readExchange_14 kI_0 ?_
  refine ww_istore_n (pc := 15) (lv' := [(3, .int (0 : Int32)), (0, .ref q_this), (1, .ref q_p1), (2, .int x2)]) C dX4_readExchange_15 rfl (by decide) rfl ?_
  exact ww_lv [1, 2, 0] rfl (hL16 FU (1 : Int32) v1 c_owned c_pulls c_wished (0 : Int32) hf)
def fX4_readMap_b52 (c_p1_length : Int32) (c_p1_signs : Nat → Int32) (rc7 : Int32 → (Nat → Int64) → Int32 → Int32 → Option (Int32 × (Nat → Int64))) (rc15 : Int32 → (Nat → Int64) → Int32 → Int32 → Int32 → Option (Int32 × (Nat → Int64))) (c_kind : Int32) (c_pulls : Nat → Int64) (n2 : Int32) (n3 : Int32) (n4 : Int32) (s1 : Int32) (s2 : Int32) (s3 : Int32) : Option (Int32 × (Nat → Int64)) := (astL 9 s1 c_pulls (((s2 - s3)).toInt64)).bind fun v1 => (some (n4 + (1 : Int32))).bind fun v2 => rc15 c_kind v1 n2 n3 v2
def fX4_readMap_b15 (c_p1_length : Int32) (c_p1_signs : Nat → Int32) (rc7 : Int32 → (Nat → Int64) → Int32 → Int32 → Option (Int32 × (Nat → Int64))) (rc15 : Int32 → (Nat → Int64) → Int32 → Int32 → Int32 → Option (Int32 × (Nat → Int64))) (c_kind : Int32) (c_pulls : Nat → Int64) (n2 : Int32) (n3 : Int32) (n4 : Int32) : Option (Int32 × (Nat → Int64)) := if (3 : Int32) ≤ n4 then (some (n3 + (1 : Int32))).bind fun v1 => rc7 c_kind c_pulls n2 v1 else (fX6_digit c_p1_length c_p1_signs (((3 : Int32) * n3) + n4)).bind fun v2 => if n3 = n4 then fX4_readMap_b52 c_p1_length c_p1_signs rc7 rc15 c_kind c_pulls n2 n3 n4 (((3 : Int32) * n3) + n4) v2 n2 else fX4_readMap_b52 c_p1_length c_p1_signs rc7 rc15 c_kind c_pulls n2 n3 n4 (((3 : Int32) * n3) + n4) v2 (0 : Int32)
def fX4_readMap_b7 (c_p1_length : Int32) (c_p1_signs : Nat → Int32) (rc7 : Int32 → (Nat → Int64) → Int32 → Int32 → Option (Int32 × (Nat → Int64))) (c_kind : Int32) (c_pulls : Nat → Int64) (n2 : Int32) (n3 : Int32) : Option (Int32 × (Nat → Int64)) := if (3 : Int32) ≤ n3 then some (c_kind, c_pulls) else lfix (fX4_readMap_b15 c_p1_length c_p1_signs rc7) (fun _ _ _ _ _ => none) FU c_kind c_pulls n2 n3 (0 : Int32)
def fX4_readMap (c_p1_length : Int32) (c_p1_signs : Nat → Int32) (c_kind : Int32) (c_pulls : Nat → Int64) (x2 : Int32) : Option (Int32 × (Nat → Int64)) := lfix (fX4_readMap_b7 c_p1_length c_p1_signs) (fun _ _ _ _ => none) FU (2 : Int32) c_pulls x2 (0 : Int32)
set_option maxHeartbeats 4000000 in
set_option maxRecDepth 100000 in
theorem tX4_readMap (l : Launch) (D : va_G) (k : Nat → ClassId) (q_this q_owned q_wished q_pulls q_p1 q_p1_signs : Nat) (c_kind : Int32) (c_traders : Int32) (c_pulls : Nat → Int64) (c_p1_length : Int32) (c_p1_signs : Nat → Int32) (x2 : Int32) (w_kind : Int32) (w_pulls : Nat → Int64) (hf : fX4_readMap c_p1_length c_p1_signs c_kind c_pulls x2 = some (w_kind, w_pulls)) : MV l yX4_readMap cX4_readMap 5 (RM 2 43) D k [.ref q_this, .ref q_p1, .int x2] [oX4 q_this q_owned q_wished q_pulls c_kind c_traders, aJ k q_pulls 9 c_pulls, oX6 q_p1 q_p1_signs c_p1_length, aI k q_p1_signs 80 c_p1_signs] [oX4 q_this q_owned q_wished q_pulls w_kind c_traders, aJ k q_pulls 9 w_pulls, oX6 q_p1 q_p1_signs c_p1_length, aI k q_p1_signs 80 c_p1_signs] := by
  refine mkMV' (own := "DoorWalk$Rule") (by decide) rfl (Nat.le_of_ble_eq_true rfl) ?_
  intro p e s m args below meth c Q A hret C
  refine ww_lv (lv' := [(0, .ref q_this), (1, .ref q_p1), (2, .int x2)]) [0, 1, 2] rfl ?_
  have hL7 : ∀ (n : Nat) (c_kind : Int32) (c_pulls : Nat → Int64) (n2 : Int32) (n3 : Int32), lfix (fX4_readMap_b7 c_p1_length c_p1_signs) (fun _ _ _ _ => none) n c_kind c_pulls n2 n3 = some (w_kind, w_pulls) → WW p l e (RM 2 43) s m args below meth c Q 5 D A 0 0 [oX4 q_this q_owned q_wished q_pulls c_kind c_traders, aJ k q_pulls 9 c_pulls, oX6 q_p1 q_p1_signs c_p1_length, aI k q_p1_signs 80 c_p1_signs] [(0, .ref q_this), (1, .ref q_p1), (2, .int n2), (3, .int n3)] 7 [] := by
    intro n
    induction n with
    | zero => intro c_kind c_pulls n2 n3 hf; cases hf
    | succ n ih7 =>
      obtain ⟨rc7, hrc7⟩ : ∃ f9, f9 = lfix (fX4_readMap_b7 c_p1_length c_p1_signs) (fun _ _ _ _ => none) n := ⟨_, rfl⟩
      rw [← hrc7] at ih7
      have hL15 : ∀ (n : Nat) (c_kind : Int32) (c_pulls : Nat → Int64) (n2 : Int32) (n3 : Int32) (n4 : Int32), lfix (fX4_readMap_b15 c_p1_length c_p1_signs rc7) (fun _ _ _ _ _ => none) n c_kind c_pulls n2 n3 n4 = some (w_kind, w_pulls) → WW p l e (RM 2 43) s m args below meth c Q 5 D A 0 0 [oX4 q_this q_owned q_wished q_pulls c_kind c_traders, aJ k q_pulls 9 c_pulls, oX6 q_p1 q_p1_signs c_p1_length, aI k q_p1_signs 80 c_p1_signs] [(0, .ref q_this), (1, .ref q_p1), (2, .int n2), (3, .int n3), (4, .int n4)] 15 [] := by
        intro n
        induction n with
        | zero => intro c_kind c_pulls n2 n3 n4 hf; cases hf
        | succ n ih15 =>
          obtain ⟨rc15, hrc15⟩ : ∃ f9, f9 = lfix (fX4_readMap_b15 c_p1_length c_p1_signs rc7) (fun _ _ _ _ _ => none) n := ⟨_, rfl⟩
          rw [← hrc15] at ih15
          have hJ52 : ∀ (c_kind : Int32) (c_pulls : Nat → Int64) (n2 : Int32) (n3 : Int32) (n4 : Int32) (s1 : Int32) (s2 : Int32) (s3 : Int32), fX4_readMap_b52 c_p1_length c_p1_signs rc7 rc15 c_kind c_pulls n2 n3 n4 s1 s2 s3 = some (w_kind, w_pulls) → WW p l e (RM 2 43) s m args below meth c Q 5 D A 0 0 [oX4 q_this q_owned q_wished q_pulls c_kind c_traders, aJ k q_pulls 9 c_pulls, oX6 q_p1 q_p1_signs c_p1_length, aI k q_p1_signs 80 c_p1_signs] [(0, .ref q_this), (1, .ref q_p1), (2, .int n2), (3, .int n3), (4, .int n4)] 52 [.int s3, .int s2, .int s1, .ref q_pulls] := by
            intro c_kind c_pulls n2 n3 n4 s1 s2 s3
            intro hf
            unfold fX4_readMap_b52 at hf
            refine ww_isub (pc := 52) C dX4_readMap_52  ?_
            refine ww_i2l (pc := 53) C dX4_readMap_53  ?_
            obtain ⟨v1, h1, hf⟩ := bsome hf
            refine ww_last (pc := 54) (ws' := [oX4 q_this q_owned q_wished q_pulls c_kind c_traders, aJ k q_pulls 9 v1, oX6 q_p1 q_p1_signs c_p1_length, aI k q_p1_signs 80 c_p1_signs]) C 1 rfl h1 rfl dX4_readMap_54 ?_
            obtain ⟨v2, h2, hf⟩ := bsome hf
            refine ww_iincN (pc := 55) (lv' := [(4, .int v2), (0, .ref q_this), (1, .ref q_p1), (2, .int n2), (3, .int n3)]) (j := 4) C dX4_readMap_55 kI_1 rfl h2 (by decide) rfl ?_
            refine ww_goto (pc := 58) (tgt := 15) C dX4_readMap_58 (by decide) ?_
            exact ww_lv [1, 2, 3, 4, 0] rfl (ih15 c_kind v1 n2 n3 v2 hf)
          intro c_kind c_pulls n2 n3 n4 hf
          have hf : fX4_readMap_b15 c_p1_length c_p1_signs rc7 rc15 c_kind c_pulls n2 n3 n4 = some (w_kind, w_pulls) := by rw [hrc15]; exact hf
          unfold fX4_readMap_b15 at hf
          refine ww_iload (pc := 15) C dX4_readMap_15 4 rfl ?_
          refine ww_iconst (pc := 17) C dX4_readMap_17 kI_3 ?_
          refine ww_icmp_ge (pc := 18) (tgt := 61) C dX4_readMap_18 (by decide) (fun hc => ?_) (fun hc => ?_)
          · have hf := ifT hc hf
            obtain ⟨v1, h1, hf⟩ := bsome hf
            refine ww_iincN (pc := 61) (lv' := [(3, .int v1), (0, .ref q_this), (1, .ref q_p1), (2, .int n2), (4, .int n4)]) (j := 3) C dX4_readMap_61 kI_1 rfl h1 (by decide) rfl ?_
            refine ww_goto (pc := 64) (tgt := 7) C dX4_readMap_64 (by decide) ?_
            exact ww_lv [1, 2, 3, 0] rfl (ih7 c_kind c_pulls n2 v1 hf)
          · have hf := ifF hc hf
            refine ww_aload_n (pc := 21) C dX4_readMap_21 rfl 0 rfl ?_
            refine gf4_2 (pc := 22) C kf_X4_18 0 rfl rfl dX4_readMap_22 ?_
            refine ww_iconst (pc := 25) C dX4_readMap_25 kI_3 ?_
            refine ww_iload_n (pc := 26) C dX4_readMap_26 rfl 3 rfl ?_
            refine ww_imul (pc := 27) C dX4_readMap_27  ?_
            refine ww_iload (pc := 28) C dX4_readMap_28 4 rfl ?_
            refine ww_iadd (pc := 30) C dX4_readMap_30  ?_
            refine ww_aload_n (pc := 31) C dX4_readMap_31 rfl 1 rfl ?_
            refine ww_iconst (pc := 32) C dX4_readMap_32 kI_3 ?_
            refine ww_iload_n (pc := 33) C dX4_readMap_33 rfl 3 rfl ?_
            refine ww_imul (pc := 34) C dX4_readMap_34  ?_
            refine ww_iload (pc := 35) C dX4_readMap_35 4 rfl ?_
            refine ww_iadd (pc := 37) C dX4_readMap_37  ?_
            obtain ⟨v2, h2, hf⟩ := bsome hf
            refine ww_callVi0 (pc := 38) (As := [.int (((3 : Int32) * n3) + n4)]) (rest := [.int (((3 : Int32) * n3) + n4), .ref q_pulls]) C (tX6_digit l D k q_p1 q_p1_signs c_p1_length c_p1_signs (((3 : Int32) * n3) + n4) v2 h2) cv_X4_41 ⟨⟨by decide, by decide⟩, rfl, rfl⟩ 2 rfl rfl [2, 3] rfl rfl rfl rfl (Nat.le_of_ble_eq_true rfl) ⟨Nat.zero_le _, Nat.zero_le _⟩ dX4_readMap_38 (fun hb2 => ?_)
            refine ww_iload_n (pc := 41) C dX4_readMap_41 rfl 3 rfl ?_
            refine ww_iload (pc := 42) C dX4_readMap_42 4 rfl ?_
            refine ww_icmp_ne (pc := 44) (tgt := 51) C dX4_readMap_44 (by decide) (fun hc => ?_) (fun hc => ?_)
            · have hf := ifF hc hf
              refine ww_iconst (pc := 51) C dX4_readMap_51 kI_0 ?_
              exact hJ52 c_kind c_pulls n2 n3 n4 (((3 : Int32) * n3) + n4) v2 (0 : Int32) hf
            · have hf := ifT hc hf
              refine ww_iload_n (pc := 47) C dX4_readMap_47 rfl 2 rfl ?_
              refine ww_goto (pc := 48) (tgt := 52) C dX4_readMap_48 (by decide) ?_
              exact hJ52 c_kind c_pulls n2 n3 n4 (((3 : Int32) * n3) + n4) v2 n2 hf
      intro c_kind c_pulls n2 n3 hf
      have hf : fX4_readMap_b7 c_p1_length c_p1_signs rc7 c_kind c_pulls n2 n3 = some (w_kind, w_pulls) := by rw [hrc7]; exact hf
      unfold fX4_readMap_b7 at hf
      refine ww_iload_n (pc := 7) C dX4_readMap_7 rfl 3 rfl ?_
      refine ww_iconst (pc := 8) C dX4_readMap_8 kI_3 ?_
      refine ww_icmp_ge (pc := 9) (tgt := 67) C dX4_readMap_9 (by decide) (fun hc => ?_) (fun hc => ?_)
      · have hf := ifT hc hf
        obtain ⟨e0, e1⟩ := ij2 hf
        exact hret _ _ 67 dX4_readMap_67 (by rw [← e0, ← e1])
      · have hf := ifF hc hf
        refine ww_iconst (pc := 12) C dX4_readMap_12 kI_0 ?_
        refine ww_istore (pc := 13) (lv' := [(4, .int (0 : Int32)), (0, .ref q_this), (1, .ref q_p1), (2, .int n2), (3, .int n3)]) C dX4_readMap_13 (by decide) rfl ?_
        exact ww_lv [1, 2, 3, 4, 0] rfl (hL15 FU c_kind c_pulls n2 n3 (0 : Int32) hf)
  unfold fX4_readMap at hf
  refine ww_aload_n (pc := 0) C dX4_readMap_0 rfl 0 rfl ?_
  refine ww_iconst (pc := 1) C dX4_readMap_1 kI_2 ?_
  refine pf4_3 (pc := 2) (ws' := [oX4 q_this q_owned q_wished q_pulls (2 : Int32) c_traders, aJ k q_pulls 9 c_pulls, oX6 q_p1 q_p1_signs c_p1_length, aI k q_p1_signs 80 c_p1_signs]) C kf_X4_22 0 rfl (Nat.le_of_ble_eq_true rfl) rfl dX4_readMap_2 ?_
  refine ww_iconst (pc := 5) C dX4_readMap_5 kI_0 ?_
  refine ww_istore_n (pc := 6) (lv' := [(3, .int (0 : Int32)), (0, .ref q_this), (1, .ref q_p1), (2, .int x2)]) C dX4_readMap_6 rfl (by decide) rfl ?_
  exact ww_lv [1, 2, 3, 0] rfl (hL7 FU (2 : Int32) c_pulls x2 (0 : Int32) hf)
def fX4_setAmount (c_owned : Nat → Int32) (x1 : Int32) (x2 : Int32) (x3 : Int32) : Option ((Nat → Int32)) := (some (((3 : Int32) * x1) + x2)).bind fun v1 => if v1 < 0 then some (c_owned) else if (12 : Int32) ≤ v1 then some (c_owned) else (ast 12 v1 c_owned x3).bind fun v2 => some (v2)
set_option maxHeartbeats 4000000 in
set_option maxRecDepth 100000 in
theorem tX4_setAmount (l : Launch) (D : va_G) (k : Nat → ClassId) (q_this q_owned q_wished q_pulls : Nat) (c_kind : Int32) (c_traders : Int32) (c_owned : Nat → Int32) (x1 : Int32) (x2 : Int32) (x3 : Int32) (w_owned : Nat → Int32) (hf : fX4_setAmount c_owned x1 x2 x3 = some (w_owned)) : MV l yX4_setAmount cX4_setAmount 5 (RM 0 0) D k [.ref q_this, .int x1, .int x2, .int x3] [oX4 q_this q_owned q_wished q_pulls c_kind c_traders, aI k q_owned 12 c_owned] [oX4 q_this q_owned q_wished q_pulls c_kind c_traders, aI k q_owned 12 w_owned] := by
  refine mkMV' (own := "DoorWalk$Rule") (by decide) rfl (Nat.le_of_ble_eq_true rfl) ?_
  intro p e s m args below meth c Q A hret C
  refine ww_lv (lv' := [(0, .ref q_this), (1, .int x1), (2, .int x2), (3, .int x3)]) [0, 1, 2, 3] rfl ?_
  unfold fX4_setAmount at hf
  refine ww_iconst (pc := 0) C dX4_setAmount_0 kI_3 ?_
  refine ww_iload_n (pc := 1) C dX4_setAmount_1 rfl 1 rfl ?_
  refine ww_imul (pc := 2) C dX4_setAmount_2  ?_
  refine ww_iload_n (pc := 3) C dX4_setAmount_3 rfl 2 rfl ?_
  refine ww_iadd (pc := 4) C dX4_setAmount_4  ?_
  obtain ⟨v1, h1, hf⟩ := bsome hf
  refine ww_nmi h1 ?_
  refine ww_istore (pc := 5) (lv' := [(4, .int v1), (0, .ref q_this), (1, .int x1), (2, .int x2), (3, .int x3)]) C dX4_setAmount_5 (by decide) rfl ?_
  refine ww_iload (pc := 7) C dX4_setAmount_7 0 rfl ?_
  refine ww_if_lt (pc := 9) (tgt := 30) C dX4_setAmount_9 (by decide) (fun hc => ?_) (fun hc => ?_)
  · have hf := ifT hc hf
    obtain e0 := ij1 hf
    exact hret _ _ 30 dX4_setAmount_30 (by rw [← e0])
  · have hf := ifF hc hf
    refine ww_iload (pc := 12) C dX4_setAmount_12 0 rfl ?_
    refine ww_aload_n (pc := 14) C dX4_setAmount_14 rfl 1 rfl ?_
    refine gf4_0 (pc := 15) C kf_X4_9 0 rfl rfl dX4_setAmount_15 ?_
    refine ww_alen (pc := 18) C 1 1 rfl rfl kN_12 dX4_setAmount_18 ?_
    refine ww_icmp_ge (pc := 19) (tgt := 30) C dX4_setAmount_19 (by decide) (fun hc => ?_) (fun hc => ?_)
    · have hf := ifT hc hf
      obtain e0 := ij1 hf
      exact hret _ _ 30 dX4_setAmount_30 (by rw [← e0])
    · have hf := ifF hc hf
      refine ww_aload_n (pc := 22) C dX4_setAmount_22 rfl 1 rfl ?_
      refine gf4_0 (pc := 23) C kf_X4_9 0 rfl rfl dX4_setAmount_23 ?_
      refine ww_iload (pc := 26) C dX4_setAmount_26 0 rfl ?_
      refine ww_iload_n (pc := 28) C dX4_setAmount_28 rfl 4 rfl ?_
      obtain ⟨v2, h2, hf⟩ := bsome hf
      refine ww_iast (pc := 29) (ws' := [oX4 q_this q_owned q_wished q_pulls c_kind c_traders, aI k q_owned 12 v2]) C 1 rfl h2 rfl dX4_setAmount_29 ?_
      obtain e0 := ij1 hf
      exact hret _ _ 30 dX4_setAmount_30 (by rw [← e0])
def fX4_pull (c_pulls : Nat → Int64) (c_p1_size : Int32) (x2 : Int32) (x3 : Int32) (x4 : Int32) : Option Int64 := (fX7_isGood x4).bind fun v1 => if v1 = 0 then some ((0 : Int64)) else (some ((3 : Int32) * x4)).bind fun v2 => (ald 9 v2 c_pulls).bind fun v3 => (ald 9 (v2 + (1 : Int32)) c_pulls).bind fun v4 => (ald 9 (v2 + (2 : Int32)) c_pulls).bind fun v5 => (fX1_price c_p1_size x2 x3 (2 : Int32)).bind fun v6 => some ((((v3 * ((x2).toInt64)) + (v4 * ((x3).toInt64))) + (v5 * ((v6).toInt64))))
set_option maxHeartbeats 4000000 in
set_option maxRecDepth 100000 in
theorem tX4_pull (l : Launch) (D : va_G) (k : Nat → ClassId) (q_this q_owned q_wished q_pulls q_p1 q_p1_marks : Nat) (c_kind : Int32) (c_traders : Int32) (c_pulls : Nat → Int64) (c_p1_size : Int32) (c_p1_full : Int32) (c_p1_turns : Int32) (c_p1_firstFull : Int32) (c_p1_lastFull : Int32) (x2 : Int32) (x3 : Int32) (x4 : Int32) (r_ : Int64) (hf : fX4_pull c_pulls c_p1_size x2 x3 x4 = some (r_)) : ML l yX4_pull cX4_pull 6 (RM 1 23) D k [.ref q_this, .ref q_p1, .int x2, .int x3, .int x4] [oX4 q_this q_owned q_wished q_pulls c_kind c_traders, aJ k q_pulls 9 c_pulls, oX1 q_p1 q_p1_marks c_p1_size c_p1_full c_p1_turns c_p1_firstFull c_p1_lastFull] r_ [oX4 q_this q_owned q_wished q_pulls c_kind c_traders, aJ k q_pulls 9 c_pulls, oX1 q_p1 q_p1_marks c_p1_size c_p1_full c_p1_turns c_p1_firstFull c_p1_lastFull] := by
  refine mkML' (own := "DoorWalk$Rule") (by decide) rfl (Nat.le_of_ble_eq_true rfl) ?_
  intro p e s m args below meth c Q A hret C
  refine ww_lv (lv' := [(0, .ref q_this), (1, .ref q_p1), (2, .int x2), (3, .int x3), (4, .int x4)]) [0, 1, 2, 3, 4] rfl ?_
  unfold fX4_pull at hf
  refine ww_iload (pc := 0) C dX4_pull_0 4 rfl ?_
  obtain ⟨v1, h1, hf⟩ := bsome hf
  refine ww_callNi0 (pc := 2) (As := [.int x4]) (rest := []) C (tX7_isGood l D k x4 v1 h1) cn_X4_63 ⟨⟨by decide, by decide⟩, rfl, rfl⟩ [] rfl rfl rfl rfl (Nat.le_of_ble_eq_true rfl) ⟨Nat.zero_le _, Nat.zero_le _⟩ dX4_pull_2 (fun hb1 => ?_)
  refine ww_if_ne (pc := 5) (tgt := 10) C dX4_pull_5 (by decide) (fun hc => ?_) (fun hc => ?_)
  · have hf := ifF hc hf
    refine ww_iconst (pc := 10) C dX4_pull_10 kI_3 ?_
    refine ww_iload (pc := 11) C dX4_pull_11 4 rfl ?_
    refine ww_imul (pc := 13) C dX4_pull_13  ?_
    obtain ⟨v2, h2, hf⟩ := bsome hf
    refine ww_nmi h2 ?_
    refine ww_istore (pc := 14) (lv' := [(5, .int v2), (0, .ref q_this), (1, .ref q_p1), (2, .int x2), (3, .int x3), (4, .int x4)]) C dX4_pull_14 (by decide) rfl ?_
    refine ww_aload_n (pc := 16) C dX4_pull_16 rfl 1 rfl ?_
    refine gf4_2 (pc := 17) C kf_X4_18 0 rfl rfl dX4_pull_17 ?_
    refine ww_iload (pc := 20) C dX4_pull_20 0 rfl ?_
    obtain ⟨v3, h3, hf⟩ := bsome hf
    refine ww_lald (pc := 22) C 1 rfl h3 dX4_pull_22 ?_
    refine ww_iload_n (pc := 23) C dX4_pull_23 rfl 3 rfl ?_
    refine ww_i2l (pc := 24) C dX4_pull_24  ?_
    refine ww_lmul (pc := 25) C dX4_pull_25  ?_
    refine ww_aload_n (pc := 26) C dX4_pull_26 rfl 1 rfl ?_
    refine gf4_2 (pc := 27) C kf_X4_18 0 rfl rfl dX4_pull_27 ?_
    refine ww_iload (pc := 30) C dX4_pull_30 0 rfl ?_
    refine ww_iconst (pc := 32) C dX4_pull_32 kI_1 ?_
    refine ww_iadd (pc := 33) C dX4_pull_33  ?_
    obtain ⟨v4, h4, hf⟩ := bsome hf
    refine ww_lald (pc := 34) C 1 rfl h4 dX4_pull_34 ?_
    refine ww_iload_n (pc := 35) C dX4_pull_35 rfl 4 rfl ?_
    refine ww_i2l (pc := 36) C dX4_pull_36  ?_
    refine ww_lmul (pc := 37) C dX4_pull_37  ?_
    refine ww_ladd (pc := 38) C dX4_pull_38  ?_
    refine ww_aload_n (pc := 39) C dX4_pull_39 rfl 1 rfl ?_
    refine gf4_2 (pc := 40) C kf_X4_18 0 rfl rfl dX4_pull_40 ?_
    refine ww_iload (pc := 43) C dX4_pull_43 0 rfl ?_
    refine ww_iconst (pc := 45) C dX4_pull_45 kI_2 ?_
    refine ww_iadd (pc := 46) C dX4_pull_46  ?_
    obtain ⟨v5, h5, hf⟩ := bsome hf
    refine ww_lald (pc := 47) C 1 rfl h5 dX4_pull_47 ?_
    refine ww_aload_n (pc := 48) C dX4_pull_48 rfl 2 rfl ?_
    refine ww_iload_n (pc := 49) C dX4_pull_49 rfl 3 rfl ?_
    refine ww_iload_n (pc := 50) C dX4_pull_50 rfl 4 rfl ?_
    refine ww_iconst (pc := 51) C dX4_pull_51 kI_2 ?_
    obtain ⟨v6, h6, hf⟩ := bsome hf
    refine ww_callVi0 (pc := 52) (As := [.int x2, .int x3, .int (2 : Int32)]) (rest := [.long v5, .long ((v3 * ((x2).toInt64)) + (v4 * ((x3).toInt64)))]) C (tX1_price l D k q_p1 q_p1_marks c_p1_size c_p1_full c_p1_turns c_p1_firstFull c_p1_lastFull x2 x3 (2 : Int32) v6 h6) cv_X4_67 ⟨⟨by decide, by decide⟩, rfl, rfl⟩ 2 rfl rfl [2] rfl rfl rfl rfl (Nat.le_of_ble_eq_true rfl) ⟨Nat.zero_le _, Nat.zero_le _⟩ dX4_pull_52 (fun hb6 => ?_)
    refine ww_i2l (pc := 55) C dX4_pull_55  ?_
    refine ww_lmul (pc := 56) C dX4_pull_56  ?_
    refine ww_ladd (pc := 57) C dX4_pull_57  ?_
    obtain e0 := ij1 hf
    exact hret _ _ 58 _ dX4_pull_58 e0 rfl
  · have hf := ifT hc hf
    refine ww_lconst (pc := 8) C dX4_pull_8 kL_0 ?_
    obtain e0 := ij1 hf
    exact hret _ _ 9 _ dX4_pull_9 e0 rfl
def fX4_off_b6 (c_pulls : Nat → Int64) (c_p1_size : Int32) (rc6 : Int32 → Int32 → Int64 → Int32 → Option Int64) (n2 : Int32) (n3 : Int32) (n4 : Int64) (n6 : Int32) : Option Int64 := if (3 : Int32) ≤ n6 then some (n4) else (fX4_pull c_pulls c_p1_size n2 n3 n6).bind fun v1 => (some (mxL n4 (abL v1))).bind fun v2 => (some (n6 + (1 : Int32))).bind fun v3 => rc6 n2 n3 v2 v3
def fX4_off (c_pulls : Nat → Int64) (c_p1_size : Int32) (x2 : Int32) (x3 : Int32) : Option Int64 := lfix (fX4_off_b6 c_pulls c_p1_size) (fun _ _ _ _ => none) FU x2 x3 (0 : Int64) (0 : Int32)
set_option maxHeartbeats 4000000 in
set_option maxRecDepth 100000 in
theorem tX4_off (l : Launch) (D : va_G) (k : Nat → ClassId) (q_this q_owned q_wished q_pulls q_p1 q_p1_marks : Nat) (c_kind : Int32) (c_traders : Int32) (c_pulls : Nat → Int64) (c_p1_size : Int32) (c_p1_full : Int32) (c_p1_turns : Int32) (c_p1_firstFull : Int32) (c_p1_lastFull : Int32) (x2 : Int32) (x3 : Int32) (r_ : Int64) (hf : fX4_off c_pulls c_p1_size x2 x3 = some (r_)) : ML l yX4_off cX4_off 7 (RM 2 48) D k [.ref q_this, .ref q_p1, .int x2, .int x3] [oX4 q_this q_owned q_wished q_pulls c_kind c_traders, aJ k q_pulls 9 c_pulls, oX1 q_p1 q_p1_marks c_p1_size c_p1_full c_p1_turns c_p1_firstFull c_p1_lastFull] r_ [oX4 q_this q_owned q_wished q_pulls c_kind c_traders, aJ k q_pulls 9 c_pulls, oX1 q_p1 q_p1_marks c_p1_size c_p1_full c_p1_turns c_p1_firstFull c_p1_lastFull] := by
  refine mkML' (own := "DoorWalk$Rule") (by decide) rfl (Nat.le_of_ble_eq_true rfl) ?_
  intro p e s m args below meth c Q A hret C
  refine ww_lv (lv' := [(0, .ref q_this), (1, .ref q_p1), (2, .int x2), (3, .int x3)]) [0, 1, 2, 3] rfl ?_
  have hL6 : ∀ (n : Nat) (n2 : Int32) (n3 : Int32) (n4 : Int64) (n6 : Int32), lfix (fX4_off_b6 c_pulls c_p1_size) (fun _ _ _ _ => none) n n2 n3 n4 n6 = some (r_) → WW p l e (RM 2 48) s m args below meth c Q 7 D A 0 0 [oX4 q_this q_owned q_wished q_pulls c_kind c_traders, aJ k q_pulls 9 c_pulls, oX1 q_p1 q_p1_marks c_p1_size c_p1_full c_p1_turns c_p1_firstFull c_p1_lastFull] [(0, .ref q_this), (1, .ref q_p1), (2, .int n2), (3, .int n3), (4, .long n4), (6, .int n6)] 6 [] := by
    intro n
    induction n with
    | zero => intro n2 n3 n4 n6 hf; cases hf
    | succ n ih6 =>
      obtain ⟨rc6, hrc6⟩ : ∃ f9, f9 = lfix (fX4_off_b6 c_pulls c_p1_size) (fun _ _ _ _ => none) n := ⟨_, rfl⟩
      rw [← hrc6] at ih6
      intro n2 n3 n4 n6 hf
      have hf : fX4_off_b6 c_pulls c_p1_size rc6 n2 n3 n4 n6 = some (r_) := by rw [hrc6]; exact hf
      unfold fX4_off_b6 at hf
      refine ww_iload (pc := 6) C dX4_off_6 5 rfl ?_
      refine ww_iconst (pc := 8) C dX4_off_8 kI_3 ?_
      refine ww_icmp_ge (pc := 9) (tgt := 37) C dX4_off_9 (by decide) (fun hc => ?_) (fun hc => ?_)
      · have hf := ifT hc hf
        refine ww_lload (pc := 37) C dX4_off_37 4 rfl ?_
        obtain e0 := ij1 hf
        exact hret _ _ 39 _ dX4_off_39 e0 rfl
      · have hf := ifF hc hf
        refine ww_lload (pc := 12) C dX4_off_12 4 rfl ?_
        refine ww_aload_n (pc := 14) C dX4_off_14 rfl 0 rfl ?_
        refine ww_aload_n (pc := 15) C dX4_off_15 rfl 1 rfl ?_
        refine ww_iload_n (pc := 16) C dX4_off_16 rfl 2 rfl ?_
        refine ww_iload_n (pc := 17) C dX4_off_17 rfl 3 rfl ?_
        refine ww_iload (pc := 18) C dX4_off_18 5 rfl ?_
        obtain ⟨v1, h1, hf⟩ := bsome hf
        refine ww_callVl0 (pc := 20) (As := [.ref q_p1, .int n2, .int n3, .int n6]) (rest := [.long n4]) C (tX4_pull l D k q_this q_owned q_wished q_pulls q_p1 q_p1_marks c_kind c_traders c_pulls c_p1_size c_p1_full c_p1_turns c_p1_firstFull c_p1_lastFull n2 n3 n6 v1 h1) cv_X4_73 ⟨⟨by decide, by decide⟩, rfl, rfl⟩ 0 rfl rfl [0, 1, 2] rfl rfl rfl rfl (Nat.le_of_ble_eq_true rfl) ⟨Nat.zero_le _, Nat.zero_le _⟩ dX4_off_20 ?_
        refine ww_mabsL (pc := 23) C cs_X4_77.1 (Nat.le_of_ble_eq_true rfl) (Nat.le_of_ble_eq_true rfl) ⟨Nat.zero_le _, Nat.zero_le _⟩ dX4_off_23 ?_
        refine ww_mmaxL (pc := 26) C cs_X4_81.1 (Nat.le_of_ble_eq_true rfl) (Nat.le_of_ble_eq_true rfl) ⟨Nat.zero_le _, Nat.zero_le _⟩ dX4_off_26 ?_
        obtain ⟨v2, h2, hf⟩ := bsome hf
        refine ww_nml h2 ?_
        refine ww_lstore (pc := 29) (lv' := [(4, .long v2), (0, .ref q_this), (1, .ref q_p1), (2, .int n2), (3, .int n3), (6, .int n6)]) C dX4_off_29 (by decide) rfl ?_
        obtain ⟨v3, h3, hf⟩ := bsome hf
        refine ww_iincN (pc := 31) (lv' := [(6, .int v3), (4, .long v2), (0, .ref q_this), (1, .ref q_p1), (2, .int n2), (3, .int n3)]) (j := 5) C dX4_off_31 kI_1 rfl h3 (by decide) rfl ?_
        refine ww_goto (pc := 34) (tgt := 6) C dX4_off_34 (by decide) ?_
        exact ww_lv [2, 3, 4, 5, 1, 0] rfl (ih6 n2 n3 v2 v3 hf)
  unfold fX4_off at hf
  refine ww_lconst (pc := 0) C dX4_off_0 kL_0 ?_
  refine ww_lstore (pc := 1) (lv' := [(4, .long (0 : Int64)), (0, .ref q_this), (1, .ref q_p1), (2, .int x2), (3, .int x3)]) C dX4_off_1 (by decide) rfl ?_
  refine ww_iconst (pc := 3) C dX4_off_3 kI_0 ?_
  refine ww_istore (pc := 4) (lv' := [(6, .int (0 : Int32)), (4, .long (0 : Int64)), (0, .ref q_this), (1, .ref q_p1), (2, .int x2), (3, .int x3)]) C dX4_off_4 (by decide) rfl ?_
  exact ww_lv [2, 3, 4, 5, 1, 0] rfl (hL6 FU x2 x3 (0 : Int64) (0 : Int32) hf)
def fX4_lessOff_b51 (c_pulls : Nat → Int64) (c_p1_size : Int32) (rc6 : Int64 → Int32 → Int32 → Option Int32) (rc18 : Int64 → Int32 → Int32 → Int32 → Option Int32) (n2 : Int64) (n5 : Int32) (n6 : Int32) (s0 : Int32) (s1 : Int32) : Option Int32 := (some (s0 + s1)).bind fun v1 => (some (n6 + (1 : Int32))).bind fun v2 => rc18 n2 v1 n5 v2
def fX4_lessOff_b18 (c_pulls : Nat → Int64) (c_p1_size : Int32) (rc6 : Int64 → Int32 → Int32 → Option Int32) (rc18 : Int64 → Int32 → Int32 → Int32 → Option Int32) (n2 : Int64) (n4 : Int32) (n5 : Int32) (n6 : Int32) : Option Int32 := if (c_p1_size - n5) < n6 then (some (n5 + (1 : Int32))).bind fun v1 => rc6 n2 n4 v1 else (fX4_off c_pulls c_p1_size n5 n6).bind fun v2 => if 0 ≤ (lg_cmp v2 n2) then fX4_lessOff_b51 c_pulls c_p1_size rc6 rc18 n2 n5 n6 n4 (0 : Int32) else fX4_lessOff_b51 c_pulls c_p1_size rc6 rc18 n2 n5 n6 n4 (1 : Int32)
def fX4_lessOff_b6 (c_pulls : Nat → Int64) (c_p1_size : Int32) (rc6 : Int64 → Int32 → Int32 → Option Int32) (n2 : Int64) (n4 : Int32) (n5 : Int32) : Option Int32 := if c_p1_size < n5 then some (n4) else lfix (fX4_lessOff_b18 c_pulls c_p1_size rc6) (fun _ _ _ _ => none) FU n2 n4 n5 (0 : Int32)
def fX4_lessOff (c_pulls : Nat → Int64) (c_p1_size : Int32) (x2 : Int64) : Option Int32 := lfix (fX4_lessOff_b6 c_pulls c_p1_size) (fun _ _ _ => none) FU x2 (0 : Int32) (0 : Int32)
set_option maxHeartbeats 4000000 in
set_option maxRecDepth 100000 in
theorem tX4_lessOff (l : Launch) (D : va_G) (k : Nat → ClassId) (q_this q_owned q_wished q_pulls q_p1 q_p1_marks : Nat) (c_kind : Int32) (c_traders : Int32) (c_pulls : Nat → Int64) (c_p1_size : Int32) (c_p1_full : Int32) (c_p1_turns : Int32) (c_p1_firstFull : Int32) (c_p1_lastFull : Int32) (x2 : Int64) (r_ : Int32) (hf : fX4_lessOff c_pulls c_p1_size x2 = some (r_)) : MI l yX4_lessOff cX4_lessOff 7 .int (RM 3 74) D k [.ref q_this, .ref q_p1, .long x2] [oX4 q_this q_owned q_wished q_pulls c_kind c_traders, aJ k q_pulls 9 c_pulls, oX1 q_p1 q_p1_marks c_p1_size c_p1_full c_p1_turns c_p1_firstFull c_p1_lastFull] r_ [oX4 q_this q_owned q_wished q_pulls c_kind c_traders, aJ k q_pulls 9 c_pulls, oX1 q_p1 q_p1_marks c_p1_size c_p1_full c_p1_turns c_p1_firstFull c_p1_lastFull] := by
  refine mkMI' (own := "DoorWalk$Rule") (by decide) rfl (Nat.le_of_ble_eq_true rfl) ?_
  intro p e s m args below meth c Q A hret C
  refine ww_lv (lv' := [(0, .ref q_this), (1, .ref q_p1), (2, .long x2)]) [0, 1, 2] rfl ?_
  have hL6 : ∀ (n : Nat) (n2 : Int64) (n4 : Int32) (n5 : Int32), lfix (fX4_lessOff_b6 c_pulls c_p1_size) (fun _ _ _ => none) n n2 n4 n5 = some (r_) → WW p l e (RM 3 74) s m args below meth c Q 7 D A 0 0 [oX4 q_this q_owned q_wished q_pulls c_kind c_traders, aJ k q_pulls 9 c_pulls, oX1 q_p1 q_p1_marks c_p1_size c_p1_full c_p1_turns c_p1_firstFull c_p1_lastFull] [(0, .ref q_this), (1, .ref q_p1), (2, .long n2), (4, .int n4), (5, .int n5)] 6 [] := by
    intro n
    induction n with
    | zero => intro n2 n4 n5 hf; cases hf
    | succ n ih6 =>
      obtain ⟨rc6, hrc6⟩ : ∃ f9, f9 = lfix (fX4_lessOff_b6 c_pulls c_p1_size) (fun _ _ _ => none) n := ⟨_, rfl⟩
      rw [← hrc6] at ih6
      have hL18 : ∀ (n : Nat) (n2 : Int64) (n4 : Int32) (n5 : Int32) (n6 : Int32), lfix (fX4_lessOff_b18 c_pulls c_p1_size rc6) (fun _ _ _ _ => none) n n2 n4 n5 n6 = some (r_) → WW p l e (RM 3 74) s m args below meth c Q 7 D A 0 0 [oX4 q_this q_owned q_wished q_pulls c_kind c_traders, aJ k q_pulls 9 c_pulls, oX1 q_p1 q_p1_marks c_p1_size c_p1_full c_p1_turns c_p1_firstFull c_p1_lastFull] [(0, .ref q_this), (1, .ref q_p1), (2, .long n2), (4, .int n4), (5, .int n5), (6, .int n6)] 18 [] := by
        intro n
        induction n with
        | zero => intro n2 n4 n5 n6 hf; cases hf
        | succ n ih18 =>
          obtain ⟨rc18, hrc18⟩ : ∃ f9, f9 = lfix (fX4_lessOff_b18 c_pulls c_p1_size rc6) (fun _ _ _ _ => none) n := ⟨_, rfl⟩
          rw [← hrc18] at ih18
          have hJ51 : ∀ (n2 : Int64) (n5 : Int32) (n6 : Int32) (s0 : Int32) (s1 : Int32), fX4_lessOff_b51 c_pulls c_p1_size rc6 rc18 n2 n5 n6 s0 s1 = some (r_) → WW p l e (RM 3 74) s m args below meth c Q 7 D A 0 0 [oX4 q_this q_owned q_wished q_pulls c_kind c_traders, aJ k q_pulls 9 c_pulls, oX1 q_p1 q_p1_marks c_p1_size c_p1_full c_p1_turns c_p1_firstFull c_p1_lastFull] [(0, .ref q_this), (1, .ref q_p1), (2, .long n2), (5, .int n5), (6, .int n6)] 51 [.int s1, .int s0] := by
            intro n2 n5 n6 s0 s1
            intro hf
            unfold fX4_lessOff_b51 at hf
            refine ww_iadd (pc := 51) C dX4_lessOff_51  ?_
            obtain ⟨v1, h1, hf⟩ := bsome hf
            refine ww_nmi h1 ?_
            refine ww_istore (pc := 52) (lv' := [(4, .int v1), (0, .ref q_this), (1, .ref q_p1), (2, .long n2), (5, .int n5), (6, .int n6)]) C dX4_lessOff_52 (by decide) rfl ?_
            obtain ⟨v2, h2, hf⟩ := bsome hf
            refine ww_iincN (pc := 54) (lv' := [(6, .int v2), (4, .int v1), (0, .ref q_this), (1, .ref q_p1), (2, .long n2), (5, .int n5)]) (j := 5) C dX4_lessOff_54 kI_1 rfl h2 (by decide) rfl ?_
            refine ww_goto (pc := 57) (tgt := 18) C dX4_lessOff_57 (by decide) ?_
            exact ww_lv [2, 3, 4, 1, 5, 0] rfl (ih18 n2 v1 n5 v2 hf)
          intro n2 n4 n5 n6 hf
          have hf : fX4_lessOff_b18 c_pulls c_p1_size rc6 rc18 n2 n4 n5 n6 = some (r_) := by rw [hrc18]; exact hf
          unfold fX4_lessOff_b18 at hf
          refine ww_iload (pc := 18) C dX4_lessOff_18 5 rfl ?_
          refine ww_aload_n (pc := 20) C dX4_lessOff_20 rfl 1 rfl ?_
          refine gf1_1 (pc := 21) C kf_X4_85 2 rfl rfl dX4_lessOff_21 ?_
          refine ww_iload (pc := 24) C dX4_lessOff_24 4 rfl ?_
          refine ww_isub (pc := 26) C dX4_lessOff_26  ?_
          refine ww_icmp_gt (pc := 27) (tgt := 60) C dX4_lessOff_27 (by decide) (fun hc => ?_) (fun hc => ?_)
          · have hf := ifT hc hf
            obtain ⟨v1, h1, hf⟩ := bsome hf
            refine ww_iincN (pc := 60) (lv' := [(5, .int v1), (0, .ref q_this), (1, .ref q_p1), (2, .long n2), (4, .int n4), (6, .int n6)]) (j := 4) C dX4_lessOff_60 kI_1 rfl h1 (by decide) rfl ?_
            refine ww_goto (pc := 63) (tgt := 6) C dX4_lessOff_63 (by decide) ?_
            exact ww_lv [1, 2, 3, 4, 0] rfl (ih6 n2 n4 v1 hf)
          · have hf := ifF hc hf
            refine ww_iload (pc := 30) C dX4_lessOff_30 3 rfl ?_
            refine ww_aload_n (pc := 32) C dX4_lessOff_32 rfl 0 rfl ?_
            refine ww_aload_n (pc := 33) C dX4_lessOff_33 rfl 1 rfl ?_
            refine ww_iload (pc := 34) C dX4_lessOff_34 4 rfl ?_
            refine ww_iload (pc := 36) C dX4_lessOff_36 5 rfl ?_
            obtain ⟨v2, h2, hf⟩ := bsome hf
            refine ww_callVl0 (pc := 38) (As := [.ref q_p1, .int n5, .int n6]) (rest := [.int n4]) C (tX4_off l D k q_this q_owned q_wished q_pulls q_p1 q_p1_marks c_kind c_traders c_pulls c_p1_size c_p1_full c_p1_turns c_p1_firstFull c_p1_lastFull n5 n6 v2 h2) cv_X4_88 ⟨⟨by decide, by decide⟩, rfl, rfl⟩ 0 rfl rfl [0, 1, 2] rfl rfl rfl rfl (Nat.le_of_ble_eq_true rfl) ⟨Nat.zero_le _, Nat.zero_le _⟩ dX4_lessOff_38 ?_
            refine ww_lload_n (pc := 41) C dX4_lessOff_41 rfl 2 rfl ?_
            refine ww_lcmp (pc := 42) C dX4_lessOff_42  ?_
            refine ww_if_ge (pc := 43) (tgt := 50) C dX4_lessOff_43 (by decide) (fun hc => ?_) (fun hc => ?_)
            · have hf := ifT hc hf
              refine ww_iconst (pc := 50) C dX4_lessOff_50 kI_0 ?_
              exact ww_lv [0, 1, 2, 4, 5] rfl (hJ51 n2 n5 n6 n4 (0 : Int32) hf)
            · have hf := ifF hc hf
              refine ww_iconst (pc := 46) C dX4_lessOff_46 kI_1 ?_
              refine ww_goto (pc := 47) (tgt := 51) C dX4_lessOff_47 (by decide) ?_
              exact ww_lv [0, 1, 2, 4, 5] rfl (hJ51 n2 n5 n6 n4 (1 : Int32) hf)
      intro n2 n4 n5 hf
      have hf : fX4_lessOff_b6 c_pulls c_p1_size rc6 n2 n4 n5 = some (r_) := by rw [hrc6]; exact hf
      unfold fX4_lessOff_b6 at hf
      refine ww_iload (pc := 6) C dX4_lessOff_6 4 rfl ?_
      refine ww_aload_n (pc := 8) C dX4_lessOff_8 rfl 1 rfl ?_
      refine gf1_1 (pc := 9) C kf_X4_85 2 rfl rfl dX4_lessOff_9 ?_
      refine ww_icmp_gt (pc := 12) (tgt := 66) C dX4_lessOff_12 (by decide) (fun hc => ?_) (fun hc => ?_)
      · have hf := ifT hc hf
        refine ww_iload (pc := 66) C dX4_lessOff_66 3 rfl ?_
        obtain e0 := ij1 hf
        exact hret _ _ 68 _ dX4_lessOff_68 rfl e0 rfl
      · have hf := ifF hc hf
        refine ww_iconst (pc := 15) C dX4_lessOff_15 kI_0 ?_
        refine ww_istore (pc := 16) (lv' := [(6, .int (0 : Int32)), (0, .ref q_this), (1, .ref q_p1), (2, .long n2), (4, .int n4), (5, .int n5)]) C dX4_lessOff_16 (by decide) rfl ?_
        exact ww_lv [1, 2, 3, 4, 5, 0] rfl (hL18 FU n2 n4 n5 (0 : Int32) hf)
  unfold fX4_lessOff at hf
  refine ww_iconst (pc := 0) C dX4_lessOff_0 kI_0 ?_
  refine ww_istore (pc := 1) (lv' := [(4, .int (0 : Int32)), (0, .ref q_this), (1, .ref q_p1), (2, .long x2)]) C dX4_lessOff_1 (by decide) rfl ?_
  refine ww_iconst (pc := 3) C dX4_lessOff_3 kI_0 ?_
  refine ww_istore (pc := 4) (lv' := [(5, .int (0 : Int32)), (4, .int (0 : Int32)), (0, .ref q_this), (1, .ref q_p1), (2, .long x2)]) C dX4_lessOff_4 (by decide) rfl ?_
  exact ww_lv [2, 3, 4, 1, 0] rfl (hL6 FU x2 (0 : Int32) (0 : Int32) hf)
def fX4_hasEnough_b6 (c_owned : Nat → Int32) (c_wished : Nat → Int32) (c_p1_size : Int32) (rc6 : Int32 → Int32 → Int32 → Int32 → Int32 → Int32 → Option Int32) (n2 : Int32) (n3 : Int32) (n4 : Int32) (n5 : Int32) (n6 : Int32) (n7 : Int32) : Option Int32 := if (3 : Int32) ≤ n7 then (fX4_wish c_wished n4 n5).bind fun v1 => (fX1_price c_p1_size n2 n3 n5).bind fun v2 => (fX4_amount c_owned n4 n5).bind fun v3 => (fX4_wishes c_wished n4).bind fun v4 => if ((v2 * v3) * v4) < (n6 * v1) then some ((0 : Int32)) else some ((1 : Int32)) else (fX1_price c_p1_size n2 n3 n7).bind fun v5 => (fX4_amount c_owned n4 n7).bind fun v6 => (some (n6 + (v5 * v6))).bind fun v7 => (some (n7 + (1 : Int32))).bind fun v8 => rc6 n2 n3 n4 n5 v7 v8
def fX4_hasEnough (c_owned : Nat → Int32) (c_wished : Nat → Int32) (c_p1_size : Int32) (x2 : Int32) (x3 : Int32) (x4 : Int32) (x5 : Int32) : Option Int32 := lfix (fX4_hasEnough_b6 c_owned c_wished c_p1_size) (fun _ _ _ _ _ _ => none) FU x2 x3 x4 x5 (0 : Int32) (0 : Int32)
set_option maxHeartbeats 4000000 in
set_option maxRecDepth 100000 in
theorem tX4_hasEnough (l : Launch) (D : va_G) (k : Nat → ClassId) (q_this q_owned q_wished q_pulls q_p1 q_p1_marks : Nat) (c_kind : Int32) (c_traders : Int32) (c_owned : Nat → Int32) (c_wished : Nat → Int32) (c_p1_size : Int32) (c_p1_full : Int32) (c_p1_turns : Int32) (c_p1_firstFull : Int32) (c_p1_lastFull : Int32) (x2 : Int32) (x3 : Int32) (x4 : Int32) (x5 : Int32) (r_ : Int32) (hf : fX4_hasEnough c_owned c_wished c_p1_size x2 x3 x4 x5 = some (r_)) : MI l yX4_hasEnough cX4_hasEnough 8 .boolean (RM 2 44) D k [.ref q_this, .ref q_p1, .int x2, .int x3, .int x4, .int x5] [oX4 q_this q_owned q_wished q_pulls c_kind c_traders, aI k q_owned 12 c_owned, aI k q_wished 12 c_wished, oX1 q_p1 q_p1_marks c_p1_size c_p1_full c_p1_turns c_p1_firstFull c_p1_lastFull] r_ [oX4 q_this q_owned q_wished q_pulls c_kind c_traders, aI k q_owned 12 c_owned, aI k q_wished 12 c_wished, oX1 q_p1 q_p1_marks c_p1_size c_p1_full c_p1_turns c_p1_firstFull c_p1_lastFull] := by
  refine mkMI' (own := "DoorWalk$Rule") (by decide) rfl (Nat.le_of_ble_eq_true rfl) ?_
  intro p e s m args below meth c Q A hret C
  refine ww_lv (lv' := [(0, .ref q_this), (1, .ref q_p1), (2, .int x2), (3, .int x3), (4, .int x4), (5, .int x5)]) [0, 1, 2, 3, 4, 5] rfl ?_
  have hL6 : ∀ (n : Nat) (n2 : Int32) (n3 : Int32) (n4 : Int32) (n5 : Int32) (n6 : Int32) (n7 : Int32), lfix (fX4_hasEnough_b6 c_owned c_wished c_p1_size) (fun _ _ _ _ _ _ => none) n n2 n3 n4 n5 n6 n7 = some (r_) → WW p l e (RM 2 44) s m args below meth c Q 8 D A 0 0 [oX4 q_this q_owned q_wished q_pulls c_kind c_traders, aI k q_owned 12 c_owned, aI k q_wished 12 c_wished, oX1 q_p1 q_p1_marks c_p1_size c_p1_full c_p1_turns c_p1_firstFull c_p1_lastFull] [(0, .ref q_this), (1, .ref q_p1), (2, .int n2), (3, .int n3), (4, .int n4), (5, .int n5), (6, .int n6), (7, .int n7)] 6 [] := by
    intro n
    induction n with
    | zero => intro n2 n3 n4 n5 n6 n7 hf; cases hf
    | succ n ih6 =>
      obtain ⟨rc6, hrc6⟩ : ∃ f9, f9 = lfix (fX4_hasEnough_b6 c_owned c_wished c_p1_size) (fun _ _ _ _ _ _ => none) n := ⟨_, rfl⟩
      rw [← hrc6] at ih6
      intro n2 n3 n4 n5 n6 n7 hf
      have hf : fX4_hasEnough_b6 c_owned c_wished c_p1_size rc6 n2 n3 n4 n5 n6 n7 = some (r_) := by rw [hrc6]; exact hf
      unfold fX4_hasEnough_b6 at hf
      refine ww_iload (pc := 6) C dX4_hasEnough_6 7 rfl ?_
      refine ww_iconst (pc := 8) C dX4_hasEnough_8 kI_3 ?_
      refine ww_icmp_ge (pc := 9) (tgt := 40) C dX4_hasEnough_9 (by decide) (fun hc => ?_) (fun hc => ?_)
      · have hf := ifT hc hf
        refine ww_iload (pc := 40) C dX4_hasEnough_40 6 rfl ?_
        refine ww_aload_n (pc := 42) C dX4_hasEnough_42 rfl 0 rfl ?_
        refine ww_iload (pc := 43) C dX4_hasEnough_43 4 rfl ?_
        refine ww_iload (pc := 45) C dX4_hasEnough_45 5 rfl ?_
        obtain ⟨v1, h1, hf⟩ := bsome hf
        refine ww_callVi0 (pc := 47) (As := [.int n4, .int n5]) (rest := [.int n6]) C (tX4_wish l D k q_this q_owned q_wished q_pulls c_kind c_traders c_wished n4 n5 v1 h1) cv_X4_50 ⟨⟨by decide, by decide⟩, rfl, rfl⟩ 0 rfl rfl [0, 2] rfl rfl rfl rfl (Nat.le_of_ble_eq_true rfl) ⟨Nat.zero_le _, Nat.zero_le _⟩ dX4_hasEnough_47 (fun hb1 => ?_)
        refine ww_imul (pc := 50) C dX4_hasEnough_50  ?_
        refine ww_aload_n (pc := 51) C dX4_hasEnough_51 rfl 1 rfl ?_
        refine ww_iload_n (pc := 52) C dX4_hasEnough_52 rfl 2 rfl ?_
        refine ww_iload_n (pc := 53) C dX4_hasEnough_53 rfl 3 rfl ?_
        refine ww_iload (pc := 54) C dX4_hasEnough_54 5 rfl ?_
        obtain ⟨v2, h2, hf⟩ := bsome hf
        refine ww_callVi0 (pc := 56) (As := [.int n2, .int n3, .int n5]) (rest := [.int (n6 * v1)]) C (tX1_price l D k q_p1 q_p1_marks c_p1_size c_p1_full c_p1_turns c_p1_firstFull c_p1_lastFull n2 n3 n5 v2 h2) cv_X4_67 ⟨⟨by decide, by decide⟩, rfl, rfl⟩ 3 rfl rfl [3] rfl rfl rfl rfl (Nat.le_of_ble_eq_true rfl) ⟨Nat.zero_le _, Nat.zero_le _⟩ dX4_hasEnough_56 (fun hb2 => ?_)
        refine ww_aload_n (pc := 59) C dX4_hasEnough_59 rfl 0 rfl ?_
        refine ww_iload (pc := 60) C dX4_hasEnough_60 4 rfl ?_
        refine ww_iload (pc := 62) C dX4_hasEnough_62 5 rfl ?_
        obtain ⟨v3, h3, hf⟩ := bsome hf
        refine ww_callVi0 (pc := 64) (As := [.int n4, .int n5]) (rest := [.int v2, .int (n6 * v1)]) C (tX4_amount l D k q_this q_owned q_wished q_pulls c_kind c_traders c_owned n4 n5 v3 h3) cv_X4_60 ⟨⟨by decide, by decide⟩, rfl, rfl⟩ 0 rfl rfl [0, 1] rfl rfl rfl rfl (Nat.le_of_ble_eq_true rfl) ⟨Nat.zero_le _, Nat.zero_le _⟩ dX4_hasEnough_64 (fun hb3 => ?_)
        refine ww_imul (pc := 67) C dX4_hasEnough_67  ?_
        refine ww_aload_n (pc := 68) C dX4_hasEnough_68 rfl 0 rfl ?_
        refine ww_iload (pc := 69) C dX4_hasEnough_69 4 rfl ?_
        obtain ⟨v4, h4, hf⟩ := bsome hf
        refine ww_callVi0 (pc := 71) (As := [.int n4]) (rest := [.int (v2 * v3), .int (n6 * v1)]) C (tX4_wishes l D k q_this q_owned q_wished q_pulls c_kind c_traders c_wished n4 v4 h4) cv_X4_53 ⟨⟨by decide, by decide⟩, rfl, rfl⟩ 0 rfl rfl [0, 2] rfl rfl rfl rfl (Nat.le_of_ble_eq_true rfl) ⟨Nat.zero_le _, Nat.zero_le _⟩ dX4_hasEnough_71 (fun hb4 => ?_)
        refine ww_imul (pc := 74) C dX4_hasEnough_74  ?_
        refine ww_icmp_gt (pc := 75) (tgt := 82) C dX4_hasEnough_75 (by decide) (fun hc => ?_) (fun hc => ?_)
        · have hf := ifT hc hf
          refine ww_iconst (pc := 82) C dX4_hasEnough_82 kI_0 ?_
          obtain e0 := ij1 hf
          exact hret _ _ 83 _ dX4_hasEnough_83 (by decide) e0 rfl
        · have hf := ifF hc hf
          refine ww_iconst (pc := 78) C dX4_hasEnough_78 kI_1 ?_
          refine ww_goto (pc := 79) (tgt := 83) C dX4_hasEnough_79 (by decide) ?_
          obtain e0 := ij1 hf
          exact hret _ _ 83 _ dX4_hasEnough_83 (by decide) e0 rfl
      · have hf := ifF hc hf
        refine ww_iload (pc := 12) C dX4_hasEnough_12 6 rfl ?_
        refine ww_aload_n (pc := 14) C dX4_hasEnough_14 rfl 1 rfl ?_
        refine ww_iload_n (pc := 15) C dX4_hasEnough_15 rfl 2 rfl ?_
        refine ww_iload_n (pc := 16) C dX4_hasEnough_16 rfl 3 rfl ?_
        refine ww_iload (pc := 17) C dX4_hasEnough_17 7 rfl ?_
        obtain ⟨v5, h5, hf⟩ := bsome hf
        refine ww_callVi0 (pc := 19) (As := [.int n2, .int n3, .int n7]) (rest := [.int n6]) C (tX1_price l D k q_p1 q_p1_marks c_p1_size c_p1_full c_p1_turns c_p1_firstFull c_p1_lastFull n2 n3 n7 v5 h5) cv_X4_67 ⟨⟨by decide, by decide⟩, rfl, rfl⟩ 3 rfl rfl [3] rfl rfl rfl rfl (Nat.le_of_ble_eq_true rfl) ⟨Nat.zero_le _, Nat.zero_le _⟩ dX4_hasEnough_19 (fun hb5 => ?_)
        refine ww_aload_n (pc := 22) C dX4_hasEnough_22 rfl 0 rfl ?_
        refine ww_iload (pc := 23) C dX4_hasEnough_23 4 rfl ?_
        refine ww_iload (pc := 25) C dX4_hasEnough_25 7 rfl ?_
        obtain ⟨v6, h6, hf⟩ := bsome hf
        refine ww_callVi0 (pc := 27) (As := [.int n4, .int n7]) (rest := [.int v5, .int n6]) C (tX4_amount l D k q_this q_owned q_wished q_pulls c_kind c_traders c_owned n4 n7 v6 h6) cv_X4_60 ⟨⟨by decide, by decide⟩, rfl, rfl⟩ 0 rfl rfl [0, 1] rfl rfl rfl rfl (Nat.le_of_ble_eq_true rfl) ⟨Nat.zero_le _, Nat.zero_le _⟩ dX4_hasEnough_27 (fun hb6 => ?_)
        refine ww_imul (pc := 30) C dX4_hasEnough_30  ?_
        refine ww_iadd (pc := 31) C dX4_hasEnough_31  ?_
        obtain ⟨v7, h7, hf⟩ := bsome hf
        refine ww_nmi h7 ?_
        refine ww_istore (pc := 32) (lv' := [(6, .int v7), (0, .ref q_this), (1, .ref q_p1), (2, .int n2), (3, .int n3), (4, .int n4), (5, .int n5), (7, .int n7)]) C dX4_hasEnough_32 (by decide) rfl ?_
        obtain ⟨v8, h8, hf⟩ := bsome hf
        refine ww_iincN (pc := 34) (lv' := [(7, .int v8), (6, .int v7), (0, .ref q_this), (1, .ref q_p1), (2, .int n2), (3, .int n3), (4, .int n4), (5, .int n5)]) (j := 7) C dX4_hasEnough_34 kI_1 rfl h8 (by decide) rfl ?_
        refine ww_goto (pc := 37) (tgt := 6) C dX4_hasEnough_37 (by decide) ?_
        exact ww_lv [2, 3, 4, 5, 6, 7, 1, 0] rfl (ih6 n2 n3 n4 n5 v7 v8 hf)
  unfold fX4_hasEnough at hf
  refine ww_iconst (pc := 0) C dX4_hasEnough_0 kI_0 ?_
  refine ww_istore (pc := 1) (lv' := [(6, .int (0 : Int32)), (0, .ref q_this), (1, .ref q_p1), (2, .int x2), (3, .int x3), (4, .int x4), (5, .int x5)]) C dX4_hasEnough_1 (by decide) rfl ?_
  refine ww_iconst (pc := 3) C dX4_hasEnough_3 kI_0 ?_
  refine ww_istore (pc := 4) (lv' := [(7, .int (0 : Int32)), (6, .int (0 : Int32)), (0, .ref q_this), (1, .ref q_p1), (2, .int x2), (3, .int x3), (4, .int x4), (5, .int x5)]) C dX4_hasEnough_4 (by decide) rfl ?_
  exact ww_lv [2, 3, 4, 5, 6, 7, 1, 0] rfl (hL6 FU x2 x3 x4 x5 (0 : Int32) (0 : Int32) hf)
def fX4_labelFor_b72 (c_kind : Int32) (c_pulls : Nat → Int64) (c_p1_size : Int32) (rc9 : Int32 → Int32 → Int32 → Int64 → Int32 → Option Int32) (n2 : Int32) (n3 : Int32) (n7 : Int32) (n8 : Int64) : Option Int32 := (some (n7 + (1 : Int32))).bind fun v1 => rc9 n2 n3 n7 n8 v1
def fX4_labelFor_b58 (c_kind : Int32) (c_pulls : Nat → Int64) (c_p1_size : Int32) (rc9 : Int32 → Int32 → Int32 → Int64 → Int32 → Option Int32) (n2 : Int32) (n3 : Int32) (n4 : Int32) (n5 : Int64) (n7 : Int32) (n8 : Int64) : Option Int32 := if n4 = (-1 : Int32) then fX4_labelFor_b72 c_kind c_pulls c_p1_size rc9 n2 n3 n7 n8 else if 0 ≤ (lg_cmp n8 n5) then (some (n7 + (1 : Int32))).bind fun v1 => rc9 n2 n3 n4 n5 v1 else fX4_labelFor_b72 c_kind c_pulls c_p1_size rc9 n2 n3 n7 n8
def fX4_labelFor_b9 (c_kind : Int32) (c_pulls : Nat → Int64) (c_p1_size : Int32) (rc9 : Int32 → Int32 → Int32 → Int64 → Int32 → Option Int32) (n2 : Int32) (n3 : Int32) (n4 : Int32) (n5 : Int64) (n7 : Int32) : Option Int32 := if (3 : Int32) ≤ n7 then some (n4) else (fX1_price c_p1_size n2 n3 n7).bind fun v1 => if v1 = 0 then (some (n7 + (1 : Int32))).bind fun v3 => rc9 n2 n3 n4 n5 v3 else (fX4_pull c_pulls c_p1_size n2 n3 n7).bind fun v2 => if c_kind = (2 : Int32) then if 0 < (lg_cmp v2 (0 : Int64)) then fX4_labelFor_b58 c_kind c_pulls c_p1_size rc9 n2 n3 n4 n5 n7 v2 else some (n7) else fX4_labelFor_b58 c_kind c_pulls c_p1_size rc9 n2 n3 n4 n5 n7 v2
def fX4_labelFor (c_kind : Int32) (c_pulls : Nat → Int64) (c_p1_size : Int32) (x2 : Int32) (x3 : Int32) : Option Int32 := lfix (fX4_labelFor_b9 c_kind c_pulls c_p1_size) (fun _ _ _ _ _ => none) FU x2 x3 (-1 : Int32) (0 : Int64) (0 : Int32)
set_option maxHeartbeats 4000000 in
set_option maxRecDepth 100000 in
theorem tX4_labelFor (l : Launch) (D : va_G) (k : Nat → ClassId) (q_this q_owned q_wished q_pulls q_p1 q_p1_marks : Nat) (c_kind : Int32) (c_traders : Int32) (c_pulls : Nat → Int64) (c_p1_size : Int32) (c_p1_full : Int32) (c_p1_turns : Int32) (c_p1_firstFull : Int32) (c_p1_lastFull : Int32) (x2 : Int32) (x3 : Int32) (r_ : Int32) (hf : fX4_labelFor c_kind c_pulls c_p1_size x2 x3 = some (r_)) : MI l yX4_labelFor cX4_labelFor 10 .int (RM 2 48) D k [.ref q_this, .ref q_p1, .int x2, .int x3] [oX4 q_this q_owned q_wished q_pulls c_kind c_traders, aJ k q_pulls 9 c_pulls, oX1 q_p1 q_p1_marks c_p1_size c_p1_full c_p1_turns c_p1_firstFull c_p1_lastFull] r_ [oX4 q_this q_owned q_wished q_pulls c_kind c_traders, aJ k q_pulls 9 c_pulls, oX1 q_p1 q_p1_marks c_p1_size c_p1_full c_p1_turns c_p1_firstFull c_p1_lastFull] := by
  refine mkMI' (own := "DoorWalk$Rule") (by decide) rfl (Nat.le_of_ble_eq_true rfl) ?_
  intro p e s m args below meth c Q A hret C
  refine ww_lv (lv' := [(0, .ref q_this), (1, .ref q_p1), (2, .int x2), (3, .int x3)]) [0, 1, 2, 3] rfl ?_
  have hL9 : ∀ (n : Nat) (n2 : Int32) (n3 : Int32) (n4 : Int32) (n5 : Int64) (n7 : Int32), lfix (fX4_labelFor_b9 c_kind c_pulls c_p1_size) (fun _ _ _ _ _ => none) n n2 n3 n4 n5 n7 = some (r_) → WW p l e (RM 2 48) s m args below meth c Q 10 D A 0 0 [oX4 q_this q_owned q_wished q_pulls c_kind c_traders, aJ k q_pulls 9 c_pulls, oX1 q_p1 q_p1_marks c_p1_size c_p1_full c_p1_turns c_p1_firstFull c_p1_lastFull] [(0, .ref q_this), (1, .ref q_p1), (2, .int n2), (3, .int n3), (4, .int n4), (5, .long n5), (7, .int n7)] 9 [] := by
    intro n
    induction n with
    | zero => intro n2 n3 n4 n5 n7 hf; cases hf
    | succ n ih9 =>
      obtain ⟨rc9, hrc9⟩ : ∃ f9, f9 = lfix (fX4_labelFor_b9 c_kind c_pulls c_p1_size) (fun _ _ _ _ _ => none) n := ⟨_, rfl⟩
      rw [← hrc9] at ih9
      have hJ72 : ∀ (n2 : Int32) (n3 : Int32) (n7 : Int32) (n8 : Int64), fX4_labelFor_b72 c_kind c_pulls c_p1_size rc9 n2 n3 n7 n8 = some (r_) → WW p l e (RM 2 48) s m args below meth c Q 10 D A 0 0 [oX4 q_this q_owned q_wished q_pulls c_kind c_traders, aJ k q_pulls 9 c_pulls, oX1 q_p1 q_p1_marks c_p1_size c_p1_full c_p1_turns c_p1_firstFull c_p1_lastFull] [(0, .ref q_this), (1, .ref q_p1), (2, .int n2), (3, .int n3), (7, .int n7), (8, .long n8)] 72 [] := by
        intro n2 n3 n7 n8
        intro hf
        unfold fX4_labelFor_b72 at hf
        refine ww_iload (pc := 72) C dX4_labelFor_72 4 rfl ?_
        refine ww_istore (pc := 74) (lv' := [(4, .int n7), (0, .ref q_this), (1, .ref q_p1), (2, .int n2), (3, .int n3), (7, .int n7), (8, .long n8)]) C dX4_labelFor_74 (by decide) rfl ?_
        refine ww_lload (pc := 76) C dX4_labelFor_76 6 rfl ?_
        refine ww_lstore (pc := 78) (lv' := [(5, .long n8), (4, .int n7), (0, .ref q_this), (1, .ref q_p1), (2, .int n2), (3, .int n3), (7, .int n7), (8, .long n8)]) C dX4_labelFor_78 (by decide) rfl ?_
        obtain ⟨v1, h1, hf⟩ := bsome hf
        refine ww_iincN (pc := 80) (lv' := [(7, .int v1), (5, .long n8), (4, .int n7), (0, .ref q_this), (1, .ref q_p1), (2, .int n2), (3, .int n3), (8, .long n8)]) (j := 6) C dX4_labelFor_80 kI_1 rfl h1 (by decide) rfl ?_
        refine ww_goto (pc := 83) (tgt := 9) C dX4_labelFor_83 (by decide) ?_
        exact ww_lv [3, 4, 5, 6, 2, 1, 0] rfl (ih9 n2 n3 n7 n8 v1 hf)
      have hJ58 : ∀ (n2 : Int32) (n3 : Int32) (n4 : Int32) (n5 : Int64) (n7 : Int32) (n8 : Int64), fX4_labelFor_b58 c_kind c_pulls c_p1_size rc9 n2 n3 n4 n5 n7 n8 = some (r_) → WW p l e (RM 2 48) s m args below meth c Q 10 D A 0 0 [oX4 q_this q_owned q_wished q_pulls c_kind c_traders, aJ k q_pulls 9 c_pulls, oX1 q_p1 q_p1_marks c_p1_size c_p1_full c_p1_turns c_p1_firstFull c_p1_lastFull] [(0, .ref q_this), (1, .ref q_p1), (2, .int n2), (3, .int n3), (4, .int n4), (5, .long n5), (7, .int n7), (8, .long n8)] 58 [] := by
        intro n2 n3 n4 n5 n7 n8
        intro hf
        unfold fX4_labelFor_b58 at hf
        refine ww_iload (pc := 58) C dX4_labelFor_58 4 rfl ?_
        refine ww_iconst (pc := 60) C dX4_labelFor_60 kI_m1 ?_
        refine ww_icmp_eq (pc := 61) (tgt := 72) C dX4_labelFor_61 (by decide) (fun hc => ?_) (fun hc => ?_)
        · have hf := ifT hc hf
          exact ww_lv [0, 1, 2, 3, 6, 7] rfl (hJ72 n2 n3 n7 n8 hf)
        · have hf := ifF hc hf
          refine ww_lload (pc := 64) C dX4_labelFor_64 7 rfl ?_
          refine ww_lload (pc := 66) C dX4_labelFor_66 5 rfl ?_
          refine ww_lcmp (pc := 68) C dX4_labelFor_68  ?_
          refine ww_if_ge (pc := 69) (tgt := 80) C dX4_labelFor_69 (by decide) (fun hc => ?_) (fun hc => ?_)
          · have hf := ifT hc hf
            obtain ⟨v1, h1, hf⟩ := bsome hf
            refine ww_iincN (pc := 80) (lv' := [(7, .int v1), (0, .ref q_this), (1, .ref q_p1), (2, .int n2), (3, .int n3), (4, .int n4), (5, .long n5), (8, .long n8)]) (j := 6) C dX4_labelFor_80 kI_1 rfl h1 (by decide) rfl ?_
            refine ww_goto (pc := 83) (tgt := 9) C dX4_labelFor_83 (by decide) ?_
            exact ww_lv [1, 2, 3, 4, 5, 6, 0] rfl (ih9 n2 n3 n4 n5 v1 hf)
          · have hf := ifF hc hf
            exact ww_lv [0, 1, 2, 3, 6, 7] rfl (hJ72 n2 n3 n7 n8 hf)
      intro n2 n3 n4 n5 n7 hf
      have hf : fX4_labelFor_b9 c_kind c_pulls c_p1_size rc9 n2 n3 n4 n5 n7 = some (r_) := by rw [hrc9]; exact hf
      unfold fX4_labelFor_b9 at hf
      refine ww_iload (pc := 9) C dX4_labelFor_9 6 rfl ?_
      refine ww_iconst (pc := 11) C dX4_labelFor_11 kI_3 ?_
      refine ww_icmp_ge (pc := 12) (tgt := 86) C dX4_labelFor_12 (by decide) (fun hc => ?_) (fun hc => ?_)
      · have hf := ifT hc hf
        refine ww_iload (pc := 86) C dX4_labelFor_86 4 rfl ?_
        obtain e0 := ij1 hf
        exact hret _ _ 88 _ dX4_labelFor_88 rfl e0 rfl
      · have hf := ifF hc hf
        refine ww_aload_n (pc := 15) C dX4_labelFor_15 rfl 1 rfl ?_
        refine ww_iload_n (pc := 16) C dX4_labelFor_16 rfl 2 rfl ?_
        refine ww_iload_n (pc := 17) C dX4_labelFor_17 rfl 3 rfl ?_
        refine ww_iload (pc := 18) C dX4_labelFor_18 6 rfl ?_
        obtain ⟨v1, h1, hf⟩ := bsome hf
        refine ww_callVi0 (pc := 20) (As := [.int n2, .int n3, .int n7]) (rest := []) C (tX1_price l D k q_p1 q_p1_marks c_p1_size c_p1_full c_p1_turns c_p1_firstFull c_p1_lastFull n2 n3 n7 v1 h1) cv_X4_67 ⟨⟨by decide, by decide⟩, rfl, rfl⟩ 2 rfl rfl [2] rfl rfl rfl rfl (Nat.le_of_ble_eq_true rfl) ⟨Nat.zero_le _, Nat.zero_le _⟩ dX4_labelFor_20 (fun hb1 => ?_)
        refine ww_if_ne (pc := 23) (tgt := 29) C dX4_labelFor_23 (by decide) (fun hc => ?_) (fun hc => ?_)
        · have hf := ifF hc hf
          refine ww_aload_n (pc := 29) C dX4_labelFor_29 rfl 0 rfl ?_
          refine ww_aload_n (pc := 30) C dX4_labelFor_30 rfl 1 rfl ?_
          refine ww_iload_n (pc := 31) C dX4_labelFor_31 rfl 2 rfl ?_
          refine ww_iload_n (pc := 32) C dX4_labelFor_32 rfl 3 rfl ?_
          refine ww_iload (pc := 33) C dX4_labelFor_33 6 rfl ?_
          obtain ⟨v2, h2, hf⟩ := bsome hf
          refine ww_callVl0 (pc := 35) (As := [.ref q_p1, .int n2, .int n3, .int n7]) (rest := []) C (tX4_pull l D k q_this q_owned q_wished q_pulls q_p1 q_p1_marks c_kind c_traders c_pulls c_p1_size c_p1_full c_p1_turns c_p1_firstFull c_p1_lastFull n2 n3 n7 v2 h2) cv_X4_73 ⟨⟨by decide, by decide⟩, rfl, rfl⟩ 0 rfl rfl [0, 1, 2] rfl rfl rfl rfl (Nat.le_of_ble_eq_true rfl) ⟨Nat.zero_le _, Nat.zero_le _⟩ dX4_labelFor_35 ?_
          refine ww_lstore (pc := 38) (lv' := [(8, .long v2), (0, .ref q_this), (1, .ref q_p1), (2, .int n2), (3, .int n3), (4, .int n4), (5, .long n5), (7, .int n7)]) C dX4_labelFor_38 (by decide) rfl ?_
          refine ww_aload_n (pc := 40) C dX4_labelFor_40 rfl 1 rfl ?_
          refine gf4_3 (pc := 41) C kf_X4_22 0 rfl rfl dX4_labelFor_41 ?_
          refine ww_iconst (pc := 44) C dX4_labelFor_44 kI_2 ?_
          refine ww_icmp_ne (pc := 45) (tgt := 58) C dX4_labelFor_45 (by decide) (fun hc => ?_) (fun hc => ?_)
          · have hf := ifF hc hf
            exact ww_lv [1, 2, 3, 4, 5, 6, 7, 0] rfl (hJ58 n2 n3 n4 n5 n7 v2 hf)
          · have hf := ifT hc hf
            refine ww_lload (pc := 48) C dX4_labelFor_48 0 rfl ?_
            refine ww_lconst (pc := 50) C dX4_labelFor_50 kL_0 ?_
            refine ww_lcmp (pc := 51) C dX4_labelFor_51  ?_
            refine ww_if_gt (pc := 52) (tgt := 58) C dX4_labelFor_52 (by decide) (fun hc => ?_) (fun hc => ?_)
            · have hf := ifT hc hf
              exact ww_lv [1, 2, 3, 4, 5, 6, 7, 0] rfl (hJ58 n2 n3 n4 n5 n7 v2 hf)
            · have hf := ifF hc hf
              refine ww_iload (pc := 55) C dX4_labelFor_55 7 rfl ?_
              obtain e0 := ij1 hf
              exact hret _ _ 57 _ dX4_labelFor_57 rfl e0 rfl
        · have hf := ifT hc hf
          refine ww_goto (pc := 26) (tgt := 80) C dX4_labelFor_26 (by decide) ?_
          obtain ⟨v3, h3, hf⟩ := bsome hf
          refine ww_iincN (pc := 80) (lv' := [(7, .int v3), (0, .ref q_this), (1, .ref q_p1), (2, .int n2), (3, .int n3), (4, .int n4), (5, .long n5)]) (j := 6) C dX4_labelFor_80 kI_1 rfl h3 (by decide) rfl ?_
          refine ww_goto (pc := 83) (tgt := 9) C dX4_labelFor_83 (by decide) ?_
          exact ww_lv [1, 2, 3, 4, 5, 6, 0] rfl (ih9 n2 n3 n4 n5 v3 hf)
  unfold fX4_labelFor at hf
  refine ww_iconst (pc := 0) C dX4_labelFor_0 kI_m1 ?_
  refine ww_istore (pc := 1) (lv' := [(4, .int (-1 : Int32)), (0, .ref q_this), (1, .ref q_p1), (2, .int x2), (3, .int x3)]) C dX4_labelFor_1 (by decide) rfl ?_
  refine ww_lconst (pc := 3) C dX4_labelFor_3 kL_0 ?_
  refine ww_lstore (pc := 4) (lv' := [(5, .long (0 : Int64)), (4, .int (-1 : Int32)), (0, .ref q_this), (1, .ref q_p1), (2, .int x2), (3, .int x3)]) C dX4_labelFor_4 (by decide) rfl ?_
  refine ww_iconst (pc := 6) C dX4_labelFor_6 kI_0 ?_
  refine ww_istore (pc := 7) (lv' := [(7, .int (0 : Int32)), (5, .long (0 : Int64)), (4, .int (-1 : Int32)), (0, .ref q_this), (1, .ref q_p1), (2, .int x2), (3, .int x3)]) C dX4_labelFor_7 (by decide) rfl ?_
  exact ww_lv [3, 4, 5, 6, 2, 1, 0] rfl (hL9 FU x2 x3 (-1 : Int32) (0 : Int64) (0 : Int32) hf)
def fX4_layOn_b12 (c_kind : Int32) (c_pulls : Nat → Int64) (c_p1_size : Int32) (rc2 : (Nat → Int32) → Int32 → Option ((Nat → Int32))) (rc12 : (Nat → Int32) → Int32 → Int32 → Option ((Nat → Int32))) (c_p1_marks : Nat → Int32) (n2 : Int32) (n3 : Int32) : Option ((Nat → Int32)) := if (c_p1_size - n2) < n3 then (some (n2 + (1 : Int32))).bind fun v1 => rc2 c_p1_marks v1 else (fX4_labelFor c_kind c_pulls c_p1_size n2 n3).bind fun v2 => (fX1_put c_p1_size c_p1_marks n2 n3 v2).bind fun v3 => (some (n3 + (1 : Int32))).bind fun v4 => rc12 v3 n2 v4
def fX4_layOn_b2 (c_kind : Int32) (c_pulls : Nat → Int64) (c_p1_size : Int32) (rc2 : (Nat → Int32) → Int32 → Option ((Nat → Int32))) (c_p1_marks : Nat → Int32) (n2 : Int32) : Option ((Nat → Int32)) := if c_p1_size < n2 then some (c_p1_marks) else lfix (fX4_layOn_b12 c_kind c_pulls c_p1_size rc2) (fun _ _ _ => none) FU c_p1_marks n2 (0 : Int32)
def fX4_layOn (c_kind : Int32) (c_pulls : Nat → Int64) (c_p1_size : Int32) (c_p1_marks : Nat → Int32) : Option ((Nat → Int32)) := lfix (fX4_layOn_b2 c_kind c_pulls c_p1_size) (fun _ _ => none) FU c_p1_marks (0 : Int32)
set_option maxHeartbeats 4000000 in
set_option maxRecDepth 100000 in
theorem tX4_layOn (l : Launch) (D : va_G) (k : Nat → ClassId) (q_this q_owned q_wished q_pulls q_p1 q_p1_marks : Nat) (c_kind : Int32) (c_traders : Int32) (c_pulls : Nat → Int64) (c_p1_size : Int32) (c_p1_full : Int32) (c_p1_turns : Int32) (c_p1_firstFull : Int32) (c_p1_lastFull : Int32) (c_p1_marks : Nat → Int32)  (w_p1_marks : Nat → Int32) (hf : fX4_layOn c_kind c_pulls c_p1_size c_p1_marks = some (w_p1_marks)) : MV l yX4_layOn cX4_layOn 4 (RM 3 77) D k [.ref q_this, .ref q_p1] [oX4 q_this q_owned q_wished q_pulls c_kind c_traders, aJ k q_pulls 9 c_pulls, oX1 q_p1 q_p1_marks c_p1_size c_p1_full c_p1_turns c_p1_firstFull c_p1_lastFull, aI k q_p1_marks 153 c_p1_marks] [oX4 q_this q_owned q_wished q_pulls c_kind c_traders, aJ k q_pulls 9 c_pulls, oX1 q_p1 q_p1_marks c_p1_size c_p1_full c_p1_turns c_p1_firstFull c_p1_lastFull, aI k q_p1_marks 153 w_p1_marks] := by
  refine mkMV' (own := "DoorWalk$Rule") (by decide) rfl (Nat.le_of_ble_eq_true rfl) ?_
  intro p e s m args below meth c Q A hret C
  refine ww_lv (lv' := [(0, .ref q_this), (1, .ref q_p1)]) [0, 1] rfl ?_
  have hL2 : ∀ (n : Nat) (c_p1_marks : Nat → Int32) (n2 : Int32), lfix (fX4_layOn_b2 c_kind c_pulls c_p1_size) (fun _ _ => none) n c_p1_marks n2 = some (w_p1_marks) → WW p l e (RM 3 77) s m args below meth c Q 4 D A 0 0 [oX4 q_this q_owned q_wished q_pulls c_kind c_traders, aJ k q_pulls 9 c_pulls, oX1 q_p1 q_p1_marks c_p1_size c_p1_full c_p1_turns c_p1_firstFull c_p1_lastFull, aI k q_p1_marks 153 c_p1_marks] [(0, .ref q_this), (1, .ref q_p1), (2, .int n2)] 2 [] := by
    intro n
    induction n with
    | zero => intro c_p1_marks n2 hf; cases hf
    | succ n ih2 =>
      obtain ⟨rc2, hrc2⟩ : ∃ f9, f9 = lfix (fX4_layOn_b2 c_kind c_pulls c_p1_size) (fun _ _ => none) n := ⟨_, rfl⟩
      rw [← hrc2] at ih2
      have hL12 : ∀ (n : Nat) (c_p1_marks : Nat → Int32) (n2 : Int32) (n3 : Int32), lfix (fX4_layOn_b12 c_kind c_pulls c_p1_size rc2) (fun _ _ _ => none) n c_p1_marks n2 n3 = some (w_p1_marks) → WW p l e (RM 3 77) s m args below meth c Q 4 D A 0 0 [oX4 q_this q_owned q_wished q_pulls c_kind c_traders, aJ k q_pulls 9 c_pulls, oX1 q_p1 q_p1_marks c_p1_size c_p1_full c_p1_turns c_p1_firstFull c_p1_lastFull, aI k q_p1_marks 153 c_p1_marks] [(0, .ref q_this), (1, .ref q_p1), (2, .int n2), (3, .int n3)] 12 [] := by
        intro n
        induction n with
        | zero => intro c_p1_marks n2 n3 hf; cases hf
        | succ n ih12 =>
          obtain ⟨rc12, hrc12⟩ : ∃ f9, f9 = lfix (fX4_layOn_b12 c_kind c_pulls c_p1_size rc2) (fun _ _ _ => none) n := ⟨_, rfl⟩
          rw [← hrc12] at ih12
          intro c_p1_marks n2 n3 hf
          have hf : fX4_layOn_b12 c_kind c_pulls c_p1_size rc2 rc12 c_p1_marks n2 n3 = some (w_p1_marks) := by rw [hrc12]; exact hf
          unfold fX4_layOn_b12 at hf
          refine ww_iload_n (pc := 12) C dX4_layOn_12 rfl 3 rfl ?_
          refine ww_aload_n (pc := 13) C dX4_layOn_13 rfl 1 rfl ?_
          refine gf1_1 (pc := 14) C kf_X4_85 2 rfl rfl dX4_layOn_14 ?_
          refine ww_iload_n (pc := 17) C dX4_layOn_17 rfl 2 rfl ?_
          refine ww_isub (pc := 18) C dX4_layOn_18  ?_
          refine ww_icmp_gt (pc := 19) (tgt := 41) C dX4_layOn_19 (by decide) (fun hc => ?_) (fun hc => ?_)
          · have hf := ifT hc hf
            obtain ⟨v1, h1, hf⟩ := bsome hf
            refine ww_iincN (pc := 41) (lv' := [(2, .int v1), (0, .ref q_this), (1, .ref q_p1), (3, .int n3)]) (j := 2) C dX4_layOn_41 kI_1 rfl h1 (by decide) rfl ?_
            refine ww_goto (pc := 44) (tgt := 2) C dX4_layOn_44 (by decide) ?_
            exact ww_lv [1, 2, 0] rfl (ih2 c_p1_marks v1 hf)
          · have hf := ifF hc hf
            refine ww_aload_n (pc := 22) C dX4_layOn_22 rfl 1 rfl ?_
            refine ww_iload_n (pc := 23) C dX4_layOn_23 rfl 2 rfl ?_
            refine ww_iload_n (pc := 24) C dX4_layOn_24 rfl 3 rfl ?_
            refine ww_aload_n (pc := 25) C dX4_layOn_25 rfl 0 rfl ?_
            refine ww_aload_n (pc := 26) C dX4_layOn_26 rfl 1 rfl ?_
            refine ww_iload_n (pc := 27) C dX4_layOn_27 rfl 2 rfl ?_
            refine ww_iload_n (pc := 28) C dX4_layOn_28 rfl 3 rfl ?_
            obtain ⟨v2, h2, hf⟩ := bsome hf
            refine ww_callVi0 (pc := 29) (As := [.ref q_p1, .int n2, .int n3]) (rest := [.int n3, .int n2, .ref q_p1]) C (tX4_labelFor l D k q_this q_owned q_wished q_pulls q_p1 q_p1_marks c_kind c_traders c_pulls c_p1_size c_p1_full c_p1_turns c_p1_firstFull c_p1_lastFull n2 n3 v2 h2) cv_X4_92 ⟨⟨by decide, by decide⟩, rfl, rfl⟩ 0 rfl rfl [0, 1, 2] rfl rfl rfl rfl (Nat.le_of_ble_eq_true rfl) ⟨Nat.zero_le _, Nat.zero_le _⟩ dX4_layOn_29 (fun hb2 => ?_)
            obtain ⟨v3, h3, hf⟩ := bsome hf
            refine ww_callVv (pc := 32) (ws' := [oX4 q_this q_owned q_wished q_pulls c_kind c_traders, aJ k q_pulls 9 c_pulls, oX1 q_p1 q_p1_marks c_p1_size c_p1_full c_p1_turns c_p1_firstFull c_p1_lastFull, aI k q_p1_marks 153 v3]) (As := [.int n2, .int n3, .int v2]) (rest := []) C (tX1_put l D k q_p1 q_p1_marks c_p1_size c_p1_full c_p1_turns c_p1_firstFull c_p1_lastFull c_p1_marks n2 n3 v2 v3 h3) cv_X4_96 ⟨⟨by decide, by decide⟩, rfl, rfl⟩ 2 rfl rfl [2, 3] rfl rfl rfl rfl rfl rfl (Nat.le_of_ble_eq_true rfl) ⟨Nat.zero_le _, Nat.zero_le _⟩ dX4_layOn_32 ?_
            obtain ⟨v4, h4, hf⟩ := bsome hf
            refine ww_iincN (pc := 35) (lv' := [(3, .int v4), (0, .ref q_this), (1, .ref q_p1), (2, .int n2)]) (j := 3) C dX4_layOn_35 kI_1 rfl h4 (by decide) rfl ?_
            refine ww_goto (pc := 38) (tgt := 12) C dX4_layOn_38 (by decide) ?_
            exact ww_lv [1, 2, 3, 0] rfl (ih12 v3 n2 v4 hf)
      intro c_p1_marks n2 hf
      have hf : fX4_layOn_b2 c_kind c_pulls c_p1_size rc2 c_p1_marks n2 = some (w_p1_marks) := by rw [hrc2]; exact hf
      unfold fX4_layOn_b2 at hf
      refine ww_iload_n (pc := 2) C dX4_layOn_2 rfl 2 rfl ?_
      refine ww_aload_n (pc := 3) C dX4_layOn_3 rfl 1 rfl ?_
      refine gf1_1 (pc := 4) C kf_X4_85 2 rfl rfl dX4_layOn_4 ?_
      refine ww_icmp_gt (pc := 7) (tgt := 47) C dX4_layOn_7 (by decide) (fun hc => ?_) (fun hc => ?_)
      · have hf := ifT hc hf
        obtain e0 := ij1 hf
        exact hret _ _ 47 dX4_layOn_47 (by rw [← e0])
      · have hf := ifF hc hf
        refine ww_iconst (pc := 10) C dX4_layOn_10 kI_0 ?_
        refine ww_istore_n (pc := 11) (lv' := [(3, .int (0 : Int32)), (0, .ref q_this), (1, .ref q_p1), (2, .int n2)]) C dX4_layOn_11 rfl (by decide) rfl ?_
        exact ww_lv [1, 2, 3, 0] rfl (hL12 FU c_p1_marks n2 (0 : Int32) hf)
  unfold fX4_layOn at hf
  refine ww_iconst (pc := 0) C dX4_layOn_0 kI_0 ?_
  refine ww_istore_n (pc := 1) (lv' := [(2, .int (0 : Int32)), (0, .ref q_this), (1, .ref q_p1)]) C dX4_layOn_1 rfl (by decide) rfl ?_
  exact ww_lv [1, 2, 0] rfl (hL2 FU c_p1_marks (0 : Int32) hf)
