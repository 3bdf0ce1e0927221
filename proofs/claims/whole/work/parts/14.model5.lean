def fX8_row (c_rowMany : Int32) (c_row : Nat → Int64) (c_thrown : Int32) (x1 : Int32) : Option (Int64 × Int32) := (fX8_in x1 (0 : Int32) (c_rowMany - (1 : Int32))).bind fun v1 => if v1 = 0 then bd2 (fX8_lost (0 : Int32)) fun v2 v3 => some (((v2).toInt64), v3) else (ald 64 x1 c_row).bind fun v4 => some (v4, (0 : Int32))
set_option maxHeartbeats 4000000 in
set_option maxRecDepth 100000 in
theorem tX8_row (l : Launch) (D : va_G) (k : Nat → ClassId) (q_this q_now q_text q_row q_read q_outerCell q_outerDoor q_walked q_onWalks q_far q_aside q_wasFull q_undos q_was q_kept q_isKept : Nat) (c_typed : Int32) (c_rowMany : Int32) (c_thrown : Int32) (c_length : Int32) (c_at : Int32) (c_wrong : Int32) (c_outerMany : Int32) (c_walkedMany : Int32) (c_cameOut : Int32) (c_undoMany : Int32) (c_drawn : Int32) (c_row : Nat → Int64) (x1 : Int32) (r_ : Int64) (w_thrown : Int32) (hf : fX8_row c_rowMany c_row c_thrown x1 = some (r_, w_thrown)) : ML l yX8_row cX8_row 2 (RM 1 22) D k [.ref q_this, .int x1] [oX8 q_this q_now q_text c_typed q_row c_rowMany c_thrown c_length c_at c_wrong q_read q_outerCell q_outerDoor c_outerMany q_walked c_walkedMany c_cameOut q_onWalks q_far q_aside q_wasFull q_undos q_was c_undoMany c_drawn q_kept q_isKept, aJ k q_row 64 c_row] r_ [oX8 q_this q_now q_text c_typed q_row c_rowMany w_thrown c_length c_at c_wrong q_read q_outerCell q_outerDoor c_outerMany q_walked c_walkedMany c_cameOut q_onWalks q_far q_aside q_wasFull q_undos q_was c_undoMany c_drawn q_kept q_isKept, aJ k q_row 64 c_row] := by
  refine mkML' (own := "DoorWalkModel") (by decide) rfl (Nat.le_of_ble_eq_true rfl) ?_
  intro p e s m args below meth c Q A hret C
  refine ww_lv (lv' := [(0, .ref q_this), (1, .int x1)]) [0, 1] rfl ?_
  unfold fX8_row at hf
  refine ww_aload_n (pc := 0) C dX8_row_0 rfl 0 rfl ?_
  refine ww_iconst (pc := 1) C dX8_row_1 kI_0 ?_
  refine pf8_5 (pc := 2) (ws' := [oX8 q_this q_now q_text c_typed q_row c_rowMany (0 : Int32) c_length c_at c_wrong q_read q_outerCell q_outerDoor c_outerMany q_walked c_walkedMany c_cameOut q_onWalks q_far q_aside q_wasFull q_undos q_was c_undoMany c_drawn q_kept q_isKept, aJ k q_row 64 c_row]) C kf_X8_61 0 rfl (Nat.le_of_ble_eq_true rfl) rfl dX8_row_2 ?_
  refine ww_iload_n (pc := 5) C dX8_row_5 rfl 1 rfl ?_
  refine ww_iconst (pc := 6) C dX8_row_6 kI_0 ?_
  refine ww_aload_n (pc := 7) C dX8_row_7 rfl 0 rfl ?_
  refine gf8_4 (pc := 8) C kf_X8_65 0 rfl rfl dX8_row_8 ?_
  refine ww_iconst (pc := 11) C dX8_row_11 kI_1 ?_
  refine ww_isub (pc := 12) C dX8_row_12  ?_
  obtain ⟨v1, h1, hf⟩ := bsome hf
  refine ww_callSi0 (pc := 13) (As := [.int x1, .int (0 : Int32), .int (c_rowMany - (1 : Int32))]) (rest := []) C (tX8_in l D k x1 (0 : Int32) (c_rowMany - (1 : Int32)) v1 h1) cs_X8_72 ⟨⟨by decide, by decide⟩, rfl, rfl⟩ [] rfl rfl rfl rfl (Nat.le_of_ble_eq_true rfl) ⟨Nat.zero_le _, Nat.zero_le _⟩ dX8_row_13 (fun hb1 => ?_)
  refine ww_if_eq (pc := 16) (tgt := 28) C dX8_row_16 (by decide) (fun hc => ?_) (fun hc => ?_)
  · have hf := ifT hc hf
    refine ww_aload_n (pc := 28) C dX8_row_28 rfl 0 rfl ?_
    obtain ⟨v2, v3, h2, hf⟩ := bd2_some hf
    refine ww_callVi (pc := 29) (ws' := [oX8 q_this q_now q_text c_typed q_row c_rowMany v3 c_length c_at c_wrong q_read q_outerCell q_outerDoor c_outerMany q_walked c_walkedMany c_cameOut q_onWalks q_far q_aside q_wasFull q_undos q_was c_undoMany c_drawn q_kept q_isKept, aJ k q_row 64 c_row]) (As := []) (rest := []) C (tX8_lost l D k q_this q_now q_text q_row q_read q_outerCell q_outerDoor q_walked q_onWalks q_far q_aside q_wasFull q_undos q_was q_kept q_isKept c_typed c_rowMany (0 : Int32) c_length c_at c_wrong c_outerMany c_walkedMany c_cameOut c_undoMany c_drawn v2 v3 h2) cv_X8_223 ⟨⟨by decide, by decide⟩, rfl, rfl⟩ 0 rfl rfl [0] rfl rfl rfl rfl rfl rfl (Nat.le_of_ble_eq_true rfl) ⟨Nat.zero_le _, Nat.zero_le _⟩ dX8_row_29 (fun hb2 => ?_)
    refine ww_i2l (pc := 32) C dX8_row_32  ?_
    obtain ⟨e0, e1⟩ := ij2 hf
    exact hret _ _ 33 _ dX8_row_33 e0 (by rw [← e1])
  · have hf := ifF hc hf
    refine ww_aload_n (pc := 19) C dX8_row_19 rfl 0 rfl ?_
    refine gf8_3 (pc := 20) C kf_X8_17 0 rfl rfl dX8_row_20 ?_
    refine ww_iload_n (pc := 23) C dX8_row_23 rfl 1 rfl ?_
    obtain ⟨v4, h4, hf⟩ := bsome hf
    refine ww_lald (pc := 24) C 1 rfl h4 dX8_row_24 ?_
    refine ww_goto (pc := 25) (tgt := 33) C dX8_row_25 (by decide) ?_
    obtain ⟨e0, e1⟩ := ij2 hf
    exact hret _ _ 33 _ dX8_row_33 e0 (by rw [← e1])
