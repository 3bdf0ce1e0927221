def fX8_labelSet (c_now : Nat → Int32) (x1 : Int32) : Option Int32 := (fX8_cornerLabel c_now x1 (0 : Int32)).bind fun v1 => (fX8_cornerLabel c_now x1 (1 : Int32)).bind fun v2 => (fX8_cornerLabel c_now x1 (2 : Int32)).bind fun v3 => some (((((1 : Int32) <<< (v1 &&& 31)) ||| ((1 : Int32) <<< (v2 &&& 31))) ||| ((1 : Int32) <<< (v3 &&& 31))))
set_option maxHeartbeats 4000000 in
set_option maxRecDepth 100000 in
theorem tX8_labelSet (l : Launch) (D : va_G) (k : Nat → ClassId) (q_this q_now q_text q_row q_read q_outerCell q_outerDoor q_walked q_onWalks q_far q_aside q_wasFull q_undos q_was q_kept q_isKept : Nat) (c_typed : Int32) (c_rowMany : Int32) (c_thrown : Int32) (c_length : Int32) (c_at : Int32) (c_wrong : Int32) (c_outerMany : Int32) (c_walkedMany : Int32) (c_cameOut : Int32) (c_undoMany : Int32) (c_drawn : Int32) (c_now : Nat → Int32) (x1 : Int32) (r_ : Int32) (hf : fX8_labelSet c_now x1 = some (r_)) : MI l yX8_labelSet cX8_labelSet 2 .int (RM 4 88) D k [.ref q_this, .int x1] [oX8 q_this q_now q_text c_typed q_row c_rowMany c_thrown c_length c_at c_wrong q_read q_outerCell q_outerDoor c_outerMany q_walked c_walkedMany c_cameOut q_onWalks q_far q_aside q_wasFull q_undos q_was c_undoMany c_drawn q_kept q_isKept, aI k q_now 189 c_now] r_ [oX8 q_this q_now q_text c_typed q_row c_rowMany c_thrown c_length c_at c_wrong q_read q_outerCell q_outerDoor c_outerMany q_walked c_walkedMany c_cameOut q_onWalks q_far q_aside q_wasFull q_undos q_was c_undoMany c_drawn q_kept q_isKept, aI k q_now 189 c_now] := by
  refine mkMI' (own := "DoorWalkModel") (by decide) rfl (Nat.le_of_ble_eq_true rfl) ?_
  intro p e s m args below meth c Q A hret C
  refine ww_lv (lv' := [(0, .ref q_this), (1, .int x1)]) [0, 1] rfl ?_
  unfold fX8_labelSet at hf
  refine ww_iconst (pc := 0) C dX8_labelSet_0 kI_1 ?_
  refine ww_aload_n (pc := 1) C dX8_labelSet_1 rfl 0 rfl ?_
  refine ww_iload_n (pc := 2) C dX8_labelSet_2 rfl 1 rfl ?_
  refine ww_iconst (pc := 3) C dX8_labelSet_3 kI_0 ?_
  obtain ⟨v1, h1, hf⟩ := bsome hf
  refine ww_callVi0 (pc := 4) (As := [.int x1, .int (0 : Int32)]) (rest := [.int (1 : Int32)]) C (tX8_cornerLabel l D k q_this q_now q_text q_row q_read q_outerCell q_outerDoor q_walked q_onWalks q_far q_aside q_wasFull q_undos q_was q_kept q_isKept c_typed c_rowMany c_thrown c_length c_at c_wrong c_outerMany c_walkedMany c_cameOut c_undoMany c_drawn c_now x1 (0 : Int32) v1 h1) cv_X8_200 ⟨⟨by decide, by decide⟩, rfl, rfl⟩ 0 rfl rfl [0, 1] rfl rfl rfl rfl (Nat.le_of_ble_eq_true rfl) ⟨Nat.zero_le _, Nat.zero_le _⟩ dX8_labelSet_4 (fun hb1 => ?_)
  refine ww_ishl (pc := 7) C dX8_labelSet_7  ?_
  refine ww_iconst (pc := 8) C dX8_labelSet_8 kI_1 ?_
  refine ww_aload_n (pc := 9) C dX8_labelSet_9 rfl 0 rfl ?_
  refine ww_iload_n (pc := 10) C dX8_labelSet_10 rfl 1 rfl ?_
  refine ww_iconst (pc := 11) C dX8_labelSet_11 kI_1 ?_
  obtain ⟨v2, h2, hf⟩ := bsome hf
  refine ww_callVi0 (pc := 12) (As := [.int x1, .int (1 : Int32)]) (rest := [.int (1 : Int32), .int ((1 : Int32) <<< (v1 &&& 31))]) C (tX8_cornerLabel l D k q_this q_now q_text q_row q_read q_outerCell q_outerDoor q_walked q_onWalks q_far q_aside q_wasFull q_undos q_was q_kept q_isKept c_typed c_rowMany c_thrown c_length c_at c_wrong c_outerMany c_walkedMany c_cameOut c_undoMany c_drawn c_now x1 (1 : Int32) v2 h2) cv_X8_200 ⟨⟨by decide, by decide⟩, rfl, rfl⟩ 0 rfl rfl [0, 1] rfl rfl rfl rfl (Nat.le_of_ble_eq_true rfl) ⟨Nat.zero_le _, Nat.zero_le _⟩ dX8_labelSet_12 (fun hb2 => ?_)
  refine ww_ishl (pc := 15) C dX8_labelSet_15  ?_
  refine ww_ior (pc := 16) C dX8_labelSet_16  ?_
  refine ww_iconst (pc := 17) C dX8_labelSet_17 kI_1 ?_
  refine ww_aload_n (pc := 18) C dX8_labelSet_18 rfl 0 rfl ?_
  refine ww_iload_n (pc := 19) C dX8_labelSet_19 rfl 1 rfl ?_
  refine ww_iconst (pc := 20) C dX8_labelSet_20 kI_2 ?_
  obtain ⟨v3, h3, hf⟩ := bsome hf
  refine ww_callVi0 (pc := 21) (As := [.int x1, .int (2 : Int32)]) (rest := [.int (1 : Int32), .int (((1 : Int32) <<< (v1 &&& 31)) ||| ((1 : Int32) <<< (v2 &&& 31)))]) C (tX8_cornerLabel l D k q_this q_now q_text q_row q_read q_outerCell q_outerDoor q_walked q_onWalks q_far q_aside q_wasFull q_undos q_was q_kept q_isKept c_typed c_rowMany c_thrown c_length c_at c_wrong c_outerMany c_walkedMany c_cameOut c_undoMany c_drawn c_now x1 (2 : Int32) v3 h3) cv_X8_200 ⟨⟨by decide, by decide⟩, rfl, rfl⟩ 0 rfl rfl [0, 1] rfl rfl rfl rfl (Nat.le_of_ble_eq_true rfl) ⟨Nat.zero_le _, Nat.zero_le _⟩ dX8_labelSet_21 (fun hb3 => ?_)
  refine ww_ishl (pc := 24) C dX8_labelSet_24  ?_
  refine ww_ior (pc := 25) C dX8_labelSet_25  ?_
  obtain e0 := ij1 hf
  exact hret _ _ 26 _ dX8_labelSet_26 rfl e0 rfl
def fX8_isFull (c_now : Nat → Int32) (x1 : Int32) : Option Int32 := (fX8_labelSet c_now x1).bind fun v1 => if v1 = (7 : Int32) then some ((1 : Int32)) else some ((0 : Int32))
set_option maxHeartbeats 4000000 in
set_option maxRecDepth 100000 in
theorem tX8_isFull (l : Launch) (D : va_G) (k : Nat → ClassId) (q_this q_now q_text q_row q_read q_outerCell q_outerDoor q_walked q_onWalks q_far q_aside q_wasFull q_undos q_was q_kept q_isKept : Nat) (c_typed : Int32) (c_rowMany : Int32) (c_thrown : Int32) (c_length : Int32) (c_at : Int32) (c_wrong : Int32) (c_outerMany : Int32) (c_walkedMany : Int32) (c_cameOut : Int32) (c_undoMany : Int32) (c_drawn : Int32) (c_now : Nat → Int32) (x1 : Int32) (r_ : Int32) (hf : fX8_isFull c_now x1 = some (r_)) : MI l yX8_isFull cX8_isFull 2 .boolean (RM 5 109) D k [.ref q_this, .int x1] [oX8 q_this q_now q_text c_typed q_row c_rowMany c_thrown c_length c_at c_wrong q_read q_outerCell q_outerDoor c_outerMany q_walked c_walkedMany c_cameOut q_onWalks q_far q_aside q_wasFull q_undos q_was c_undoMany c_drawn q_kept q_isKept, aI k q_now 189 c_now] r_ [oX8 q_this q_now q_text c_typed q_row c_rowMany c_thrown c_length c_at c_wrong q_read q_outerCell q_outerDoor c_outerMany q_walked c_walkedMany c_cameOut q_onWalks q_far q_aside q_wasFull q_undos q_was c_undoMany c_drawn q_kept q_isKept, aI k q_now 189 c_now] := by
  refine mkMI' (own := "DoorWalkModel") (by decide) rfl (Nat.le_of_ble_eq_true rfl) ?_
  intro p e s m args below meth c Q A hret C
  refine ww_lv (lv' := [(0, .ref q_this), (1, .int x1)]) [0, 1] rfl ?_
  unfold fX8_isFull at hf
  refine ww_aload_n (pc := 0) C dX8_isFull_0 rfl 0 rfl ?_
  refine ww_iload_n (pc := 1) C dX8_isFull_1 rfl 1 rfl ?_
  obtain ⟨v1, h1, hf⟩ := bsome hf
  refine ww_callVi0 (pc := 2) (As := [.int x1]) (rest := []) C (tX8_labelSet l D k q_this q_now q_text q_row q_read q_outerCell q_outerDoor q_walked q_onWalks q_far q_aside q_wasFull q_undos q_was q_kept q_isKept c_typed c_rowMany c_thrown c_length c_at c_wrong c_outerMany c_walkedMany c_cameOut c_undoMany c_drawn c_now x1 v1 h1) cv_X8_203 ⟨⟨by decide, by decide⟩, rfl, rfl⟩ 0 rfl rfl [0, 1] rfl rfl rfl rfl (Nat.le_of_ble_eq_true rfl) ⟨Nat.zero_le _, Nat.zero_le _⟩ dX8_isFull_2 (fun hb1 => ?_)
  refine ww_bipush (pc := 5) C dX8_isFull_5 kB_7 ?_
  refine ww_icmp_ne (pc := 7) (tgt := 14) C dX8_isFull_7 (by decide) (fun hc => ?_) (fun hc => ?_)
  · have hf := ifF hc hf
    refine ww_iconst (pc := 14) C dX8_isFull_14 kI_0 ?_
    obtain e0 := ij1 hf
    exact hret _ _ 15 _ dX8_isFull_15 (by decide) e0 rfl
  · have hf := ifT hc hf
    refine ww_iconst (pc := 10) C dX8_isFull_10 kI_1 ?_
    refine ww_goto (pc := 11) (tgt := 15) C dX8_isFull_11 (by decide) ?_
    obtain e0 := ij1 hf
    exact hret _ _ 15 _ dX8_isFull_15 (by decide) e0 rfl
def fX8_turn (c_now : Nat → Int32) (x1 : Int32) : Option Int32 := (fX8_isFull c_now x1).bind fun v1 => if v1 = 0 then some ((0 : Int32)) else (fX8_cornerLabel c_now x1 (0 : Int32)).bind fun v2 => (fX8_cornerLabel c_now x1 (1 : Int32)).bind fun v3 => if ((v2 + (1 : Int32)) - (v2 + (1 : Int32)) / (3 : Int32) * (3 : Int32)) = v3 then some ((1 : Int32)) else some ((-1 : Int32))
set_option maxHeartbeats 4000000 in
set_option maxRecDepth 100000 in
theorem tX8_turn (l : Launch) (D : va_G) (k : Nat → ClassId) (q_this q_now q_text q_row q_read q_outerCell q_outerDoor q_walked q_onWalks q_far q_aside q_wasFull q_undos q_was q_kept q_isKept : Nat) (c_typed : Int32) (c_rowMany : Int32) (c_thrown : Int32) (c_length : Int32) (c_at : Int32) (c_wrong : Int32) (c_outerMany : Int32) (c_walkedMany : Int32) (c_cameOut : Int32) (c_undoMany : Int32) (c_drawn : Int32) (c_now : Nat → Int32) (x1 : Int32) (r_ : Int32) (hf : fX8_turn c_now x1 = some (r_)) : MI l yX8_turn cX8_turn 2 .int (RM 6 130) D k [.ref q_this, .int x1] [oX8 q_this q_now q_text c_typed q_row c_rowMany c_thrown c_length c_at c_wrong q_read q_outerCell q_outerDoor c_outerMany q_walked c_walkedMany c_cameOut q_onWalks q_far q_aside q_wasFull q_undos q_was c_undoMany c_drawn q_kept q_isKept, aI k q_now 189 c_now] r_ [oX8 q_this q_now q_text c_typed q_row c_rowMany c_thrown c_length c_at c_wrong q_read q_outerCell q_outerDoor c_outerMany q_walked c_walkedMany c_cameOut q_onWalks q_far q_aside q_wasFull q_undos q_was c_undoMany c_drawn q_kept q_isKept, aI k q_now 189 c_now] := by
  refine mkMI' (own := "DoorWalkModel") (by decide) rfl (Nat.le_of_ble_eq_true rfl) ?_
  intro p e s m args below meth c Q A hret C
  refine ww_lv (lv' := [(0, .ref q_this), (1, .int x1)]) [0, 1] rfl ?_
  unfold fX8_turn at hf
  refine ww_aload_n (pc := 0) C dX8_turn_0 rfl 0 rfl ?_
  refine ww_iload_n (pc := 1) C dX8_turn_1 rfl 1 rfl ?_
  obtain ⟨v1, h1, hf⟩ := bsome hf
  refine ww_callVi0 (pc := 2) (As := [.int x1]) (rest := []) C (tX8_isFull l D k q_this q_now q_text q_row q_read q_outerCell q_outerDoor q_walked q_onWalks q_far q_aside q_wasFull q_undos q_was q_kept q_isKept c_typed c_rowMany c_thrown c_length c_at c_wrong c_outerMany c_walkedMany c_cameOut c_undoMany c_drawn c_now x1 v1 h1) cv_X8_206 ⟨⟨by decide, by decide⟩, rfl, rfl⟩ 0 rfl rfl [0, 1] rfl rfl rfl rfl (Nat.le_of_ble_eq_true rfl) ⟨Nat.zero_le _, Nat.zero_le _⟩ dX8_turn_2 (fun hb1 => ?_)
  refine ww_if_ne (pc := 5) (tgt := 10) C dX8_turn_5 (by decide) (fun hc => ?_) (fun hc => ?_)
  · have hf := ifF hc hf
    refine ww_aload_n (pc := 10) C dX8_turn_10 rfl 0 rfl ?_
    refine ww_iload_n (pc := 11) C dX8_turn_11 rfl 1 rfl ?_
    refine ww_iconst (pc := 12) C dX8_turn_12 kI_0 ?_
    obtain ⟨v2, h2, hf⟩ := bsome hf
    refine ww_callVi0 (pc := 13) (As := [.int x1, .int (0 : Int32)]) (rest := []) C (tX8_cornerLabel l D k q_this q_now q_text q_row q_read q_outerCell q_outerDoor q_walked q_onWalks q_far q_aside q_wasFull q_undos q_was q_kept q_isKept c_typed c_rowMany c_thrown c_length c_at c_wrong c_outerMany c_walkedMany c_cameOut c_undoMany c_drawn c_now x1 (0 : Int32) v2 h2) cv_X8_200 ⟨⟨by decide, by decide⟩, rfl, rfl⟩ 0 rfl rfl [0, 1] rfl rfl rfl rfl (Nat.le_of_ble_eq_true rfl) ⟨Nat.zero_le _, Nat.zero_le _⟩ dX8_turn_13 (fun hb2 => ?_)
    refine ww_iconst (pc := 16) C dX8_turn_16 kI_1 ?_
    refine ww_iadd (pc := 17) C dX8_turn_17  ?_
    refine ww_iconst (pc := 18) C dX8_turn_18 kI_3 ?_
    refine ww_iremC (pc := 19) C dX8_turn_19 (by decide) ?_
    refine ww_aload_n (pc := 20) C dX8_turn_20 rfl 0 rfl ?_
    refine ww_iload_n (pc := 21) C dX8_turn_21 rfl 1 rfl ?_
    refine ww_iconst (pc := 22) C dX8_turn_22 kI_1 ?_
    obtain ⟨v3, h3, hf⟩ := bsome hf
    refine ww_callVi0 (pc := 23) (As := [.int x1, .int (1 : Int32)]) (rest := [.int ((v2 + (1 : Int32)) - (v2 + (1 : Int32)) / (3 : Int32) * (3 : Int32))]) C (tX8_cornerLabel l D k q_this q_now q_text q_row q_read q_outerCell q_outerDoor q_walked q_onWalks q_far q_aside q_wasFull q_undos q_was q_kept q_isKept c_typed c_rowMany c_thrown c_length c_at c_wrong c_outerMany c_walkedMany c_cameOut c_undoMany c_drawn c_now x1 (1 : Int32) v3 h3) cv_X8_200 ⟨⟨by decide, by decide⟩, rfl, rfl⟩ 0 rfl rfl [0, 1] rfl rfl rfl rfl (Nat.le_of_ble_eq_true rfl) ⟨Nat.zero_le _, Nat.zero_le _⟩ dX8_turn_23 (fun hb3 => ?_)
    refine ww_icmp_ne (pc := 26) (tgt := 33) C dX8_turn_26 (by decide) (fun hc => ?_) (fun hc => ?_)
    · have hf := ifF hc hf
      refine ww_iconst (pc := 33) C dX8_turn_33 kI_m1 ?_
      obtain e0 := ij1 hf
      exact hret _ _ 34 _ dX8_turn_34 rfl e0 rfl
    · have hf := ifT hc hf
      refine ww_iconst (pc := 29) C dX8_turn_29 kI_1 ?_
      refine ww_goto (pc := 30) (tgt := 34) C dX8_turn_30 (by decide) ?_
      obtain e0 := ij1 hf
      exact hret _ _ 34 _ dX8_turn_34 rfl e0 rfl
  · have hf := ifT hc hf
    refine ww_iconst (pc := 8) C dX8_turn_8 kI_0 ?_
    obtain e0 := ij1 hf
    exact hret _ _ 9 _ dX8_turn_9 rfl e0 rfl
def fX8_numbers (c_now : Nat → Int32) : Option Int32 := (fX8_n c_now).bind fun v1 => (fX8_n c_now).bind fun v2 => some ((((2 : Int32) * v1) * v2))
set_option maxHeartbeats 4000000 in
set_option maxRecDepth 100000 in
theorem tX8_numbers (l : Launch) (D : va_G) (k : Nat → ClassId) (q_this q_now q_text q_row q_read q_outerCell q_outerDoor q_walked q_onWalks q_far q_aside q_wasFull q_undos q_was q_kept q_isKept : Nat) (c_typed : Int32) (c_rowMany : Int32) (c_thrown : Int32) (c_length : Int32) (c_at : Int32) (c_wrong : Int32) (c_outerMany : Int32) (c_walkedMany : Int32) (c_cameOut : Int32) (c_undoMany : Int32) (c_drawn : Int32) (c_now : Nat → Int32)  (r_ : Int32) (hf : fX8_numbers c_now = some (r_)) : MI l yX8_numbers cX8_numbers 1 .int (RM 1 20) D k [.ref q_this] [oX8 q_this q_now q_text c_typed q_row c_rowMany c_thrown c_length c_at c_wrong q_read q_outerCell q_outerDoor c_outerMany q_walked c_walkedMany c_cameOut q_onWalks q_far q_aside q_wasFull q_undos q_was c_undoMany c_drawn q_kept q_isKept, aI k q_now 189 c_now] r_ [oX8 q_this q_now q_text c_typed q_row c_rowMany c_thrown c_length c_at c_wrong q_read q_outerCell q_outerDoor c_outerMany q_walked c_walkedMany c_cameOut q_onWalks q_far q_aside q_wasFull q_undos q_was c_undoMany c_drawn q_kept q_isKept, aI k q_now 189 c_now] := by
  refine mkMI' (own := "DoorWalkModel") (by decide) rfl (Nat.le_of_ble_eq_true rfl) ?_
  intro p e s m args below meth c Q A hret C
  refine ww_lv (lv' := [(0, .ref q_this)]) [0] rfl ?_
  unfold fX8_numbers at hf
  refine ww_iconst (pc := 0) C dX8_numbers_0 kI_2 ?_
  refine ww_aload_n (pc := 1) C dX8_numbers_1 rfl 0 rfl ?_
  obtain ⟨v1, h1, hf⟩ := bsome hf
  refine ww_callVi0 (pc := 2) (As := []) (rest := [.int (2 : Int32)]) C (tX8_n l D k q_this q_now q_text q_row q_read q_outerCell q_outerDoor q_walked q_onWalks q_far q_aside q_wasFull q_undos q_was q_kept q_isKept c_typed c_rowMany c_thrown c_length c_at c_wrong c_outerMany c_walkedMany c_cameOut c_undoMany c_drawn c_now v1 h1) cv_X8_68 ⟨⟨by decide, by decide⟩, rfl, rfl⟩ 0 rfl rfl [0, 1] rfl rfl rfl rfl (Nat.le_of_ble_eq_true rfl) ⟨Nat.zero_le _, Nat.zero_le _⟩ dX8_numbers_2 (fun hb1 => ?_)
  refine ww_imul (pc := 5) C dX8_numbers_5  ?_
  refine ww_aload_n (pc := 6) C dX8_numbers_6 rfl 0 rfl ?_
  obtain ⟨v2, h2, hf⟩ := bsome hf
  refine ww_callVi0 (pc := 7) (As := []) (rest := [.int ((2 : Int32) * v1)]) C (tX8_n l D k q_this q_now q_text q_row q_read q_outerCell q_outerDoor q_walked q_onWalks q_far q_aside q_wasFull q_undos q_was q_kept q_isKept c_typed c_rowMany c_thrown c_length c_at c_wrong c_outerMany c_walkedMany c_cameOut c_undoMany c_drawn c_now v2 h2) cv_X8_68 ⟨⟨by decide, by decide⟩, rfl, rfl⟩ 0 rfl rfl [0, 1] rfl rfl rfl rfl (Nat.le_of_ble_eq_true rfl) ⟨Nat.zero_le _, Nat.zero_le _⟩ dX8_numbers_7 (fun hb2 => ?_)
  refine ww_imul (pc := 10) C dX8_numbers_10  ?_
  obtain e0 := ij1 hf
  exact hret _ _ 11 _ dX8_numbers_11 rfl e0 rfl
def fX8_fullMany_b34 (c_now : Nat → Int32) (rc4 : Int32 → Int32 → Option Int32) (n2 : Int32) (s0 : Int32) (s1 : Int32) : Option Int32 := (some (s0 + s1)).bind fun v1 => (some (n2 + (1 : Int32))).bind fun v2 => rc4 v1 v2
def fX8_fullMany_b33 (c_now : Nat → Int32) (rc4 : Int32 → Int32 → Option Int32) (n2 : Int32) (s0 : Int32) : Option Int32 := fX8_fullMany_b34 c_now rc4 n2 s0 (0 : Int32)
def fX8_fullMany_b4 (c_now : Nat → Int32) (rc4 : Int32 → Int32 → Option Int32) (n1 : Int32) (n2 : Int32) : Option Int32 := (fX8_numbers c_now).bind fun v1 => if v1 ≤ n2 then some (n1) else (fX8_isCell c_now n2).bind fun v2 => if v2 = 0 then fX8_fullMany_b33 c_now rc4 n2 n1 else (fX8_isFull c_now n2).bind fun v3 => if v3 = 0 then fX8_fullMany_b33 c_now rc4 n2 n1 else fX8_fullMany_b34 c_now rc4 n2 n1 (1 : Int32)
def fX8_fullMany (c_now : Nat → Int32) : Option Int32 := lfix (fX8_fullMany_b4 c_now) (fun _ _ => none) FU (0 : Int32) (0 : Int32)
set_option maxHeartbeats 4000000 in
set_option maxRecDepth 100000 in
theorem tX8_fullMany (l : Launch) (D : va_G) (k : Nat → ClassId) (q_this q_now q_text q_row q_read q_outerCell q_outerDoor q_walked q_onWalks q_far q_aside q_wasFull q_undos q_was q_kept q_isKept : Nat) (c_typed : Int32) (c_rowMany : Int32) (c_thrown : Int32) (c_length : Int32) (c_at : Int32) (c_wrong : Int32) (c_outerMany : Int32) (c_walkedMany : Int32) (c_cameOut : Int32) (c_undoMany : Int32) (c_drawn : Int32) (c_now : Nat → Int32)  (r_ : Int32) (hf : fX8_fullMany c_now = some (r_)) : MI l yX8_fullMany cX8_fullMany 3 .int (RM 6 130) D k [.ref q_this] [oX8 q_this q_now q_text c_typed q_row c_rowMany c_thrown c_length c_at c_wrong q_read q_outerCell q_outerDoor c_outerMany q_walked c_walkedMany c_cameOut q_onWalks q_far q_aside q_wasFull q_undos q_was c_undoMany c_drawn q_kept q_isKept, aI k q_now 189 c_now] r_ [oX8 q_this q_now q_text c_typed q_row c_rowMany c_thrown c_length c_at c_wrong q_read q_outerCell q_outerDoor c_outerMany q_walked c_walkedMany c_cameOut q_onWalks q_far q_aside q_wasFull q_undos q_was c_undoMany c_drawn q_kept q_isKept, aI k q_now 189 c_now] := by
  refine mkMI' (own := "DoorWalkModel") (by decide) rfl (Nat.le_of_ble_eq_true rfl) ?_
  intro p e s m args below meth c Q A hret C
  refine ww_lv (lv' := [(0, .ref q_this)]) [0] rfl ?_
  have hL4 : ∀ (n : Nat) (n1 : Int32) (n2 : Int32), lfix (fX8_fullMany_b4 c_now) (fun _ _ => none) n n1 n2 = some (r_) → WW p l e (RM 6 130) s m args below meth c Q 3 D A 0 0 [oX8 q_this q_now q_text c_typed q_row c_rowMany c_thrown c_length c_at c_wrong q_read q_outerCell q_outerDoor c_outerMany q_walked c_walkedMany c_cameOut q_onWalks q_far q_aside q_wasFull q_undos q_was c_undoMany c_drawn q_kept q_isKept, aI k q_now 189 c_now] [(0, .ref q_this), (1, .int n1), (2, .int n2)] 4 [] := by
    intro n
    induction n with
    | zero => intro n1 n2 hf; cases hf
    | succ n ih4 =>
      obtain ⟨rc4, hrc4⟩ : ∃ f9, f9 = lfix (fX8_fullMany_b4 c_now) (fun _ _ => none) n := ⟨_, rfl⟩
      rw [← hrc4] at ih4
      have hJ34 : ∀ (n2 : Int32) (s0 : Int32) (s1 : Int32), fX8_fullMany_b34 c_now rc4 n2 s0 s1 = some (r_) → WW p l e (RM 6 130) s m args below meth c Q 3 D A 0 0 [oX8 q_this q_now q_text c_typed q_row c_rowMany c_thrown c_length c_at c_wrong q_read q_outerCell q_outerDoor c_outerMany q_walked c_walkedMany c_cameOut q_onWalks q_far q_aside q_wasFull q_undos q_was c_undoMany c_drawn q_kept q_isKept, aI k q_now 189 c_now] [(0, .ref q_this), (2, .int n2)] 34 [.int s1, .int s0] := by
        intro n2 s0 s1
        intro hf
        unfold fX8_fullMany_b34 at hf
        refine ww_iadd (pc := 34) C dX8_fullMany_34  ?_
        obtain ⟨v1, h1, hf⟩ := bsome hf
        refine ww_nmi h1 ?_
        refine ww_istore_n (pc := 35) (lv' := [(1, .int v1), (0, .ref q_this), (2, .int n2)]) C dX8_fullMany_35 rfl (by decide) rfl ?_
        obtain ⟨v2, h2, hf⟩ := bsome hf
        refine ww_iincN (pc := 36) (lv' := [(2, .int v2), (1, .int v1), (0, .ref q_this)]) (j := 2) C dX8_fullMany_36 kI_1 rfl h2 (by decide) rfl ?_
        refine ww_goto (pc := 39) (tgt := 4) C dX8_fullMany_39 (by decide) ?_
        exact ww_lv [2, 1, 0] rfl (ih4 v1 v2 hf)
      have hJ33 : ∀ (n2 : Int32) (s0 : Int32), fX8_fullMany_b33 c_now rc4 n2 s0 = some (r_) → WW p l e (RM 6 130) s m args below meth c Q 3 D A 0 0 [oX8 q_this q_now q_text c_typed q_row c_rowMany c_thrown c_length c_at c_wrong q_read q_outerCell q_outerDoor c_outerMany q_walked c_walkedMany c_cameOut q_onWalks q_far q_aside q_wasFull q_undos q_was c_undoMany c_drawn q_kept q_isKept, aI k q_now 189 c_now] [(0, .ref q_this), (2, .int n2)] 33 [.int s0] := by
        intro n2 s0
        intro hf
        unfold fX8_fullMany_b33 at hf
        refine ww_iconst (pc := 33) C dX8_fullMany_33 kI_0 ?_
        exact hJ34 n2 s0 (0 : Int32) hf
      intro n1 n2 hf
      have hf : fX8_fullMany_b4 c_now rc4 n1 n2 = some (r_) := by rw [hrc4]; exact hf
      unfold fX8_fullMany_b4 at hf
      refine ww_iload_n (pc := 4) C dX8_fullMany_4 rfl 2 rfl ?_
      refine ww_aload_n (pc := 5) C dX8_fullMany_5 rfl 0 rfl ?_
      obtain ⟨v1, h1, hf⟩ := bsome hf
      refine ww_callVi0 (pc := 6) (As := []) (rest := [.int n2]) C (tX8_numbers l D k q_this q_now q_text q_row q_read q_outerCell q_outerDoor q_walked q_onWalks q_far q_aside q_wasFull q_undos q_was q_kept q_isKept c_typed c_rowMany c_thrown c_length c_at c_wrong c_outerMany c_walkedMany c_cameOut c_undoMany c_drawn c_now v1 h1) cv_X8_210 ⟨⟨by decide, by decide⟩, rfl, rfl⟩ 0 rfl rfl [0, 1] rfl rfl rfl rfl (Nat.le_of_ble_eq_true rfl) ⟨Nat.zero_le _, Nat.zero_le _⟩ dX8_fullMany_6 (fun hb1 => ?_)
      refine ww_icmp_ge (pc := 9) (tgt := 42) C dX8_fullMany_9 (by decide) (fun hc => ?_) (fun hc => ?_)
      · have hf := ifT hc hf
        refine ww_iload_n (pc := 42) C dX8_fullMany_42 rfl 1 rfl ?_
        obtain e0 := ij1 hf
        exact hret _ _ 43 _ dX8_fullMany_43 rfl e0 rfl
      · have hf := ifF hc hf
        refine ww_iload_n (pc := 12) C dX8_fullMany_12 rfl 1 rfl ?_
        refine ww_aload_n (pc := 13) C dX8_fullMany_13 rfl 0 rfl ?_
        refine ww_iload_n (pc := 14) C dX8_fullMany_14 rfl 2 rfl ?_
        obtain ⟨v2, h2, hf⟩ := bsome hf
        refine ww_callVi0 (pc := 15) (As := [.int n2]) (rest := [.int n1]) C (tX8_isCell l D k q_this q_now q_text q_row q_read q_outerCell q_outerDoor q_walked q_onWalks q_far q_aside q_wasFull q_undos q_was q_kept q_isKept c_typed c_rowMany c_thrown c_length c_at c_wrong c_outerMany c_walkedMany c_cameOut c_undoMany c_drawn c_now n2 v2 h2) cv_X8_213 ⟨⟨by decide, by decide⟩, rfl, rfl⟩ 0 rfl rfl [0, 1] rfl rfl rfl rfl (Nat.le_of_ble_eq_true rfl) ⟨Nat.zero_le _, Nat.zero_le _⟩ dX8_fullMany_15 (fun hb2 => ?_)
        refine ww_if_eq (pc := 18) (tgt := 33) C dX8_fullMany_18 (by decide) (fun hc => ?_) (fun hc => ?_)
        · have hf := ifT hc hf
          exact ww_lv [0, 2] rfl (hJ33 n2 n1 hf)
        · have hf := ifF hc hf
          refine ww_aload_n (pc := 21) C dX8_fullMany_21 rfl 0 rfl ?_
          refine ww_iload_n (pc := 22) C dX8_fullMany_22 rfl 2 rfl ?_
          obtain ⟨v3, h3, hf⟩ := bsome hf
          refine ww_callVi0 (pc := 23) (As := [.int n2]) (rest := [.int n1]) C (tX8_isFull l D k q_this q_now q_text q_row q_read q_outerCell q_outerDoor q_walked q_onWalks q_far q_aside q_wasFull q_undos q_was q_kept q_isKept c_typed c_rowMany c_thrown c_length c_at c_wrong c_outerMany c_walkedMany c_cameOut c_undoMany c_drawn c_now n2 v3 h3) cv_X8_206 ⟨⟨by decide, by decide⟩, rfl, rfl⟩ 0 rfl rfl [0, 1] rfl rfl rfl rfl (Nat.le_of_ble_eq_true rfl) ⟨Nat.zero_le _, Nat.zero_le _⟩ dX8_fullMany_23 (fun hb3 => ?_)
          refine ww_if_eq (pc := 26) (tgt := 33) C dX8_fullMany_26 (by decide) (fun hc => ?_) (fun hc => ?_)
          · have hf := ifT hc hf
            exact ww_lv [0, 2] rfl (hJ33 n2 n1 hf)
          · have hf := ifF hc hf
            refine ww_iconst (pc := 29) C dX8_fullMany_29 kI_1 ?_
            refine ww_goto (pc := 30) (tgt := 34) C dX8_fullMany_30 (by decide) ?_
            exact ww_lv [0, 2] rfl (hJ34 n2 n1 (1 : Int32) hf)
  unfold fX8_fullMany at hf
  refine ww_iconst (pc := 0) C dX8_fullMany_0 kI_0 ?_
  refine ww_istore_n (pc := 1) (lv' := [(1, .int (0 : Int32)), (0, .ref q_this)]) C dX8_fullMany_1 rfl (by decide) rfl ?_
  refine ww_iconst (pc := 2) C dX8_fullMany_2 kI_0 ?_
  refine ww_istore_n (pc := 3) (lv' := [(2, .int (0 : Int32)), (1, .int (0 : Int32)), (0, .ref q_this)]) C dX8_fullMany_3 rfl (by decide) rfl ?_
  exact ww_lv [2, 1, 0] rfl (hL4 FU (0 : Int32) (0 : Int32) hf)
def fX8_turns_b30 (c_now : Nat → Int32) (rc4 : Int32 → Int32 → Option Int32) (n2 : Int32) (s0 : Int32) (s1 : Int32) : Option Int32 := (some (s0 + s1)).bind fun v1 => (some (n2 + (1 : Int32))).bind fun v2 => rc4 v1 v2
def fX8_turns_b4 (c_now : Nat → Int32) (rc4 : Int32 → Int32 → Option Int32) (n1 : Int32) (n2 : Int32) : Option Int32 := (fX8_numbers c_now).bind fun v1 => if v1 ≤ n2 then some (n1) else (fX8_isCell c_now n2).bind fun v2 => if v2 = 0 then fX8_turns_b30 c_now rc4 n2 n1 (0 : Int32) else (fX8_turn c_now n2).bind fun v3 => fX8_turns_b30 c_now rc4 n2 n1 v3
def fX8_turns (c_now : Nat → Int32) : Option Int32 := lfix (fX8_turns_b4 c_now) (fun _ _ => none) FU (0 : Int32) (0 : Int32)
set_option maxHeartbeats 4000000 in
set_option maxRecDepth 100000 in
theorem tX8_turns (l : Launch) (D : va_G) (k : Nat → ClassId) (q_this q_now q_text q_row q_read q_outerCell q_outerDoor q_walked q_onWalks q_far q_aside q_wasFull q_undos q_was q_kept q_isKept : Nat) (c_typed : Int32) (c_rowMany : Int32) (c_thrown : Int32) (c_length : Int32) (c_at : Int32) (c_wrong : Int32) (c_outerMany : Int32) (c_walkedMany : Int32) (c_cameOut : Int32) (c_undoMany : Int32) (c_drawn : Int32) (c_now : Nat → Int32)  (r_ : Int32) (hf : fX8_turns c_now = some (r_)) : MI l yX8_turns cX8_turns 3 .int (RM 7 151) D k [.ref q_this] [oX8 q_this q_now q_text c_typed q_row c_rowMany c_thrown c_length c_at c_wrong q_read q_outerCell q_outerDoor c_outerMany q_walked c_walkedMany c_cameOut q_onWalks q_far q_aside q_wasFull q_undos q_was c_undoMany c_drawn q_kept q_isKept, aI k q_now 189 c_now] r_ [oX8 q_this q_now q_text c_typed q_row c_rowMany c_thrown c_length c_at c_wrong q_read q_outerCell q_outerDoor c_outerMany q_walked c_walkedMany c_cameOut q_onWalks q_far q_aside q_wasFull q_undos q_was c_undoMany c_drawn q_kept q_isKept, aI k q_now 189 c_now] := by
  refine mkMI' (own := "DoorWalkModel") (by decide) rfl (Nat.le_of_ble_eq_true rfl) ?_
  intro p e s m args below meth c Q A hret C
  refine ww_lv (lv' := [(0, .ref q_this)]) [0] rfl ?_
  have hL4 : ∀ (n : Nat) (n1 : Int32) (n2 : Int32), lfix (fX8_turns_b4 c_now) (fun _ _ => none) n n1 n2 = some (r_) → WW p l e (RM 7 151) s m args below meth c Q 3 D A 0 0 [oX8 q_this q_now q_text c_typed q_row c_rowMany c_thrown c_length c_at c_wrong q_read q_outerCell q_outerDoor c_outerMany q_walked c_walkedMany c_cameOut q_onWalks q_far q_aside q_wasFull q_undos q_was c_undoMany c_drawn q_kept q_isKept, aI k q_now 189 c_now] [(0, .ref q_this), (1, .int n1), (2, .int n2)] 4 [] := by
    intro n
    induction n with
    | zero => intro n1 n2 hf; cases hf
    | succ n ih4 =>
      obtain ⟨rc4, hrc4⟩ : ∃ f9, f9 = lfix (fX8_turns_b4 c_now) (fun _ _ => none) n := ⟨_, rfl⟩
      rw [← hrc4] at ih4
      have hJ30 : ∀ (n2 : Int32) (s0 : Int32) (s1 : Int32), fX8_turns_b30 c_now rc4 n2 s0 s1 = some (r_) → WW p l e (RM 7 151) s m args below meth c Q 3 D A 0 0 [oX8 q_this q_now q_text c_typed q_row c_rowMany c_thrown c_length c_at c_wrong q_read q_outerCell q_outerDoor c_outerMany q_walked c_walkedMany c_cameOut q_onWalks q_far q_aside q_wasFull q_undos q_was c_undoMany c_drawn q_kept q_isKept, aI k q_now 189 c_now] [(0, .ref q_this), (2, .int n2)] 30 [.int s1, .int s0] := by
        intro n2 s0 s1
        intro hf
        unfold fX8_turns_b30 at hf
        refine ww_iadd (pc := 30) C dX8_turns_30  ?_
        obtain ⟨v1, h1, hf⟩ := bsome hf
        refine ww_nmi h1 ?_
        refine ww_istore_n (pc := 31) (lv' := [(1, .int v1), (0, .ref q_this), (2, .int n2)]) C dX8_turns_31 rfl (by decide) rfl ?_
        obtain ⟨v2, h2, hf⟩ := bsome hf
        refine ww_iincN (pc := 32) (lv' := [(2, .int v2), (1, .int v1), (0, .ref q_this)]) (j := 2) C dX8_turns_32 kI_1 rfl h2 (by decide) rfl ?_
        refine ww_goto (pc := 35) (tgt := 4) C dX8_turns_35 (by decide) ?_
        exact ww_lv [2, 1, 0] rfl (ih4 v1 v2 hf)
      intro n1 n2 hf
      have hf : fX8_turns_b4 c_now rc4 n1 n2 = some (r_) := by rw [hrc4]; exact hf
      unfold fX8_turns_b4 at hf
      refine ww_iload_n (pc := 4) C dX8_turns_4 rfl 2 rfl ?_
      refine ww_aload_n (pc := 5) C dX8_turns_5 rfl 0 rfl ?_
      obtain ⟨v1, h1, hf⟩ := bsome hf
      refine ww_callVi0 (pc := 6) (As := []) (rest := [.int n2]) C (tX8_numbers l D k q_this q_now q_text q_row q_read q_outerCell q_outerDoor q_walked q_onWalks q_far q_aside q_wasFull q_undos q_was q_kept q_isKept c_typed c_rowMany c_thrown c_length c_at c_wrong c_outerMany c_walkedMany c_cameOut c_undoMany c_drawn c_now v1 h1) cv_X8_210 ⟨⟨by decide, by decide⟩, rfl, rfl⟩ 0 rfl rfl [0, 1] rfl rfl rfl rfl (Nat.le_of_ble_eq_true rfl) ⟨Nat.zero_le _, Nat.zero_le _⟩ dX8_turns_6 (fun hb1 => ?_)
      refine ww_icmp_ge (pc := 9) (tgt := 38) C dX8_turns_9 (by decide) (fun hc => ?_) (fun hc => ?_)
      · have hf := ifT hc hf
        refine ww_iload_n (pc := 38) C dX8_turns_38 rfl 1 rfl ?_
        obtain e0 := ij1 hf
        exact hret _ _ 39 _ dX8_turns_39 rfl e0 rfl
      · have hf := ifF hc hf
        refine ww_iload_n (pc := 12) C dX8_turns_12 rfl 1 rfl ?_
        refine ww_aload_n (pc := 13) C dX8_turns_13 rfl 0 rfl ?_
        refine ww_iload_n (pc := 14) C dX8_turns_14 rfl 2 rfl ?_
        obtain ⟨v2, h2, hf⟩ := bsome hf
        refine ww_callVi0 (pc := 15) (As := [.int n2]) (rest := [.int n1]) C (tX8_isCell l D k q_this q_now q_text q_row q_read q_outerCell q_outerDoor q_walked q_onWalks q_far q_aside q_wasFull q_undos q_was q_kept q_isKept c_typed c_rowMany c_thrown c_length c_at c_wrong c_outerMany c_walkedMany c_cameOut c_undoMany c_drawn c_now n2 v2 h2) cv_X8_213 ⟨⟨by decide, by decide⟩, rfl, rfl⟩ 0 rfl rfl [0, 1] rfl rfl rfl rfl (Nat.le_of_ble_eq_true rfl) ⟨Nat.zero_le _, Nat.zero_le _⟩ dX8_turns_15 (fun hb2 => ?_)
        refine ww_if_eq (pc := 18) (tgt := 29) C dX8_turns_18 (by decide) (fun hc => ?_) (fun hc => ?_)
        · have hf := ifT hc hf
          refine ww_iconst (pc := 29) C dX8_turns_29 kI_0 ?_
          exact ww_lv [0, 2] rfl (hJ30 n2 n1 (0 : Int32) hf)
        · have hf := ifF hc hf
          refine ww_aload_n (pc := 21) C dX8_turns_21 rfl 0 rfl ?_
          refine ww_iload_n (pc := 22) C dX8_turns_22 rfl 2 rfl ?_
          obtain ⟨v3, h3, hf⟩ := bsome hf
          refine ww_callVi0 (pc := 23) (As := [.int n2]) (rest := [.int n1]) C (tX8_turn l D k q_this q_now q_text q_row q_read q_outerCell q_outerDoor q_walked q_onWalks q_far q_aside q_wasFull q_undos q_was q_kept q_isKept c_typed c_rowMany c_thrown c_length c_at c_wrong c_outerMany c_walkedMany c_cameOut c_undoMany c_drawn c_now n2 v3 h3) cv_X8_216 ⟨⟨by decide, by decide⟩, rfl, rfl⟩ 0 rfl rfl [0, 1] rfl rfl rfl rfl (Nat.le_of_ble_eq_true rfl) ⟨Nat.zero_le _, Nat.zero_le _⟩ dX8_turns_23 (fun hb3 => ?_)
          refine ww_goto (pc := 26) (tgt := 30) C dX8_turns_26 (by decide) ?_
          exact ww_lv [0, 2] rfl (hJ30 n2 n1 v3 hf)
  unfold fX8_turns at hf
  refine ww_iconst (pc := 0) C dX8_turns_0 kI_0 ?_
  refine ww_istore_n (pc := 1) (lv' := [(1, .int (0 : Int32)), (0, .ref q_this)]) C dX8_turns_1 rfl (by decide) rfl ?_
  refine ww_iconst (pc := 2) C dX8_turns_2 kI_0 ?_
  refine ww_istore_n (pc := 3) (lv' := [(2, .int (0 : Int32)), (1, .int (0 : Int32)), (0, .ref q_this)]) C dX8_turns_3 rfl (by decide) rfl ?_
  exact ww_lv [2, 1, 0] rfl (hL4 FU (0 : Int32) (0 : Int32) hf)
def fX8_nthFull_b4 (c_now : Nat → Int32) (rc4 : Int32 → Int32 → Int32 → Option Int32) (n1 : Int32) (n2 : Int32) (n3 : Int32) : Option Int32 := (fX8_numbers c_now).bind fun v1 => if v1 ≤ n3 then some ((-1 : Int32)) else if n1 < 0 then some ((-1 : Int32)) else (fX8_isCell c_now n3).bind fun v2 => if v2 = 0 then (some (n3 + (1 : Int32))).bind fun v3 => rc4 n1 n2 v3 else (fX8_isFull c_now n3).bind fun v4 => if v4 = 0 then (some (n3 + (1 : Int32))).bind fun v7 => rc4 n1 n2 v7 else if n2 = 0 then some (n3) else (some (n2 + (-1 : Int32))).bind fun v5 => (some (n3 + (1 : Int32))).bind fun v6 => rc4 n1 v5 v6
def fX8_nthFull (c_now : Nat → Int32) (x1 : Int32) : Option Int32 := lfix (fX8_nthFull_b4 c_now) (fun _ _ _ => none) FU x1 x1 (0 : Int32)
set_option maxHeartbeats 4000000 in
set_option maxRecDepth 100000 in
theorem tX8_nthFull (l : Launch) (D : va_G) (k : Nat → ClassId) (q_this q_now q_text q_row q_read q_outerCell q_outerDoor q_walked q_onWalks q_far q_aside q_wasFull q_undos q_was q_kept q_isKept : Nat) (c_typed : Int32) (c_rowMany : Int32) (c_thrown : Int32) (c_length : Int32) (c_at : Int32) (c_wrong : Int32) (c_outerMany : Int32) (c_walkedMany : Int32) (c_cameOut : Int32) (c_undoMany : Int32) (c_drawn : Int32) (c_now : Nat → Int32) (x1 : Int32) (r_ : Int32) (hf : fX8_nthFull c_now x1 = some (r_)) : MI l yX8_nthFull cX8_nthFull 4 .int (RM 6 130) D k [.ref q_this, .int x1] [oX8 q_this q_now q_text c_typed q_row c_rowMany c_thrown c_length c_at c_wrong q_read q_outerCell q_outerDoor c_outerMany q_walked c_walkedMany c_cameOut q_onWalks q_far q_aside q_wasFull q_undos q_was c_undoMany c_drawn q_kept q_isKept, aI k q_now 189 c_now] r_ [oX8 q_this q_now q_text c_typed q_row c_rowMany c_thrown c_length c_at c_wrong q_read q_outerCell q_outerDoor c_outerMany q_walked c_walkedMany c_cameOut q_onWalks q_far q_aside q_wasFull q_undos q_was c_undoMany c_drawn q_kept q_isKept, aI k q_now 189 c_now] := by
  refine mkMI' (own := "DoorWalkModel") (by decide) rfl (Nat.le_of_ble_eq_true rfl) ?_
  intro p e s m args below meth c Q A hret C
  refine ww_lv (lv' := [(0, .ref q_this), (1, .int x1)]) [0, 1] rfl ?_
  have hL4 : ∀ (n : Nat) (n1 : Int32) (n2 : Int32) (n3 : Int32), lfix (fX8_nthFull_b4 c_now) (fun _ _ _ => none) n n1 n2 n3 = some (r_) → WW p l e (RM 6 130) s m args below meth c Q 4 D A 0 0 [oX8 q_this q_now q_text c_typed q_row c_rowMany c_thrown c_length c_at c_wrong q_read q_outerCell q_outerDoor c_outerMany q_walked c_walkedMany c_cameOut q_onWalks q_far q_aside q_wasFull q_undos q_was c_undoMany c_drawn q_kept q_isKept, aI k q_now 189 c_now] [(0, .ref q_this), (1, .int n1), (2, .int n2), (3, .int n3)] 4 [] := by
    intro n
    induction n with
    | zero => intro n1 n2 n3 hf; cases hf
    | succ n ih4 =>
      obtain ⟨rc4, hrc4⟩ : ∃ f9, f9 = lfix (fX8_nthFull_b4 c_now) (fun _ _ _ => none) n := ⟨_, rfl⟩
      rw [← hrc4] at ih4
      intro n1 n2 n3 hf
      have hf : fX8_nthFull_b4 c_now rc4 n1 n2 n3 = some (r_) := by rw [hrc4]; exact hf
      unfold fX8_nthFull_b4 at hf
      refine ww_iload_n (pc := 4) C dX8_nthFull_4 rfl 3 rfl ?_
      refine ww_aload_n (pc := 5) C dX8_nthFull_5 rfl 0 rfl ?_
      obtain ⟨v1, h1, hf⟩ := bsome hf
      refine ww_callVi0 (pc := 6) (As := []) (rest := [.int n3]) C (tX8_numbers l D k q_this q_now q_text q_row q_read q_outerCell q_outerDoor q_walked q_onWalks q_far q_aside q_wasFull q_undos q_was q_kept q_isKept c_typed c_rowMany c_thrown c_length c_at c_wrong c_outerMany c_walkedMany c_cameOut c_undoMany c_drawn c_now v1 h1) cv_X8_210 ⟨⟨by decide, by decide⟩, rfl, rfl⟩ 0 rfl rfl [0, 1] rfl rfl rfl rfl (Nat.le_of_ble_eq_true rfl) ⟨Nat.zero_le _, Nat.zero_le _⟩ dX8_nthFull_6 (fun hb1 => ?_)
      refine ww_icmp_ge (pc := 9) (tgt := 50) C dX8_nthFull_9 (by decide) (fun hc => ?_) (fun hc => ?_)
      · have hf := ifT hc hf
        refine ww_iconst (pc := 50) C dX8_nthFull_50 kI_m1 ?_
        obtain e0 := ij1 hf
        exact hret _ _ 51 _ dX8_nthFull_51 rfl e0 rfl
      · have hf := ifF hc hf
        refine ww_iload_n (pc := 12) C dX8_nthFull_12 rfl 1 rfl ?_
        refine ww_if_lt (pc := 13) (tgt := 50) C dX8_nthFull_13 (by decide) (fun hc => ?_) (fun hc => ?_)
        · have hf := ifT hc hf
          refine ww_iconst (pc := 50) C dX8_nthFull_50 kI_m1 ?_
          obtain e0 := ij1 hf
          exact hret _ _ 51 _ dX8_nthFull_51 rfl e0 rfl
        · have hf := ifF hc hf
          refine ww_aload_n (pc := 16) C dX8_nthFull_16 rfl 0 rfl ?_
          refine ww_iload_n (pc := 17) C dX8_nthFull_17 rfl 3 rfl ?_
          obtain ⟨v2, h2, hf⟩ := bsome hf
          refine ww_callVi0 (pc := 18) (As := [.int n3]) (rest := []) C (tX8_isCell l D k q_this q_now q_text q_row q_read q_outerCell q_outerDoor q_walked q_onWalks q_far q_aside q_wasFull q_undos q_was q_kept q_isKept c_typed c_rowMany c_thrown c_length c_at c_wrong c_outerMany c_walkedMany c_cameOut c_undoMany c_drawn c_now n3 v2 h2) cv_X8_213 ⟨⟨by decide, by decide⟩, rfl, rfl⟩ 0 rfl rfl [0, 1] rfl rfl rfl rfl (Nat.le_of_ble_eq_true rfl) ⟨Nat.zero_le _, Nat.zero_le _⟩ dX8_nthFull_18 (fun hb2 => ?_)
          refine ww_if_eq (pc := 21) (tgt := 44) C dX8_nthFull_21 (by decide) (fun hc => ?_) (fun hc => ?_)
          · have hf := ifT hc hf
            obtain ⟨v3, h3, hf⟩ := bsome hf
            refine ww_iincN (pc := 44) (lv' := [(3, .int v3), (0, .ref q_this), (1, .int n1), (2, .int n2)]) (j := 3) C dX8_nthFull_44 kI_1 rfl h3 (by decide) rfl ?_
            refine ww_goto (pc := 47) (tgt := 4) C dX8_nthFull_47 (by decide) ?_
            exact ww_lv [1, 2, 3, 0] rfl (ih4 n1 n2 v3 hf)
          · have hf := ifF hc hf
            refine ww_aload_n (pc := 24) C dX8_nthFull_24 rfl 0 rfl ?_
            refine ww_iload_n (pc := 25) C dX8_nthFull_25 rfl 3 rfl ?_
            obtain ⟨v4, h4, hf⟩ := bsome hf
            refine ww_callVi0 (pc := 26) (As := [.int n3]) (rest := []) C (tX8_isFull l D k q_this q_now q_text q_row q_read q_outerCell q_outerDoor q_walked q_onWalks q_far q_aside q_wasFull q_undos q_was q_kept q_isKept c_typed c_rowMany c_thrown c_length c_at c_wrong c_outerMany c_walkedMany c_cameOut c_undoMany c_drawn c_now n3 v4 h4) cv_X8_206 ⟨⟨by decide, by decide⟩, rfl, rfl⟩ 0 rfl rfl [0, 1] rfl rfl rfl rfl (Nat.le_of_ble_eq_true rfl) ⟨Nat.zero_le _, Nat.zero_le _⟩ dX8_nthFull_26 (fun hb4 => ?_)
            refine ww_if_ne (pc := 29) (tgt := 35) C dX8_nthFull_29 (by decide) (fun hc => ?_) (fun hc => ?_)
            · have hf := ifF hc hf
              refine ww_iload_n (pc := 35) C dX8_nthFull_35 rfl 2 rfl ?_
              refine ww_if_ne (pc := 36) (tgt := 41) C dX8_nthFull_36 (by decide) (fun hc => ?_) (fun hc => ?_)
              · have hf := ifF hc hf
                obtain ⟨v5, h5, hf⟩ := bsome hf
                refine ww_iincN (pc := 41) (lv' := [(2, .int v5), (0, .ref q_this), (1, .int n1), (3, .int n3)]) (j := 2) C dX8_nthFull_41 kI_m1 rfl h5 (by decide) rfl ?_
                obtain ⟨v6, h6, hf⟩ := bsome hf
                refine ww_iincN (pc := 44) (lv' := [(3, .int v6), (2, .int v5), (0, .ref q_this), (1, .int n1)]) (j := 3) C dX8_nthFull_44 kI_1 rfl h6 (by decide) rfl ?_
                refine ww_goto (pc := 47) (tgt := 4) C dX8_nthFull_47 (by decide) ?_
                exact ww_lv [2, 3, 1, 0] rfl (ih4 n1 v5 v6 hf)
              · have hf := ifT hc hf
                refine ww_iload_n (pc := 39) C dX8_nthFull_39 rfl 3 rfl ?_
                obtain e0 := ij1 hf
                exact hret _ _ 40 _ dX8_nthFull_40 rfl e0 rfl
            · have hf := ifT hc hf
              refine ww_goto (pc := 32) (tgt := 44) C dX8_nthFull_32 (by decide) ?_
              obtain ⟨v7, h7, hf⟩ := bsome hf
              refine ww_iincN (pc := 44) (lv' := [(3, .int v7), (0, .ref q_this), (1, .int n1), (2, .int n2)]) (j := 3) C dX8_nthFull_44 kI_1 rfl h7 (by decide) rfl ?_
              refine ww_goto (pc := 47) (tgt := 4) C dX8_nthFull_47 (by decide) ?_
              exact ww_lv [1, 2, 3, 0] rfl (ih4 n1 n2 v7 hf)
  unfold fX8_nthFull at hf
  refine ww_iload_n (pc := 0) C dX8_nthFull_0 rfl 1 rfl ?_
  refine ww_istore_n (pc := 1) (lv' := [(2, .int x1), (0, .ref q_this), (1, .int x1)]) C dX8_nthFull_1 rfl (by decide) rfl ?_
  refine ww_iconst (pc := 2) C dX8_nthFull_2 kI_0 ?_
  refine ww_istore_n (pc := 3) (lv' := [(3, .int (0 : Int32)), (2, .int x1), (0, .ref q_this), (1, .int x1)]) C dX8_nthFull_3 rfl (by decide) rfl ?_
  exact ww_lv [2, 3, 1, 0] rfl (hL4 FU x1 x1 (0 : Int32) hf)
def fX8_label (c_now : Nat → Int32) (c_thrown : Int32) (x1 : Int32) (x2 : Int32) : Option (Int32 × Int32) := (fX8_isPoint c_now x1 x2).bind fun v1 => if v1 = 0 then bd2 (fX8_lost (0 : Int32)) fun v2 v3 => some (v2, v3) else (fX8_place c_now x1 x2).bind fun v4 => (fX8_labelAt c_now v4).bind fun v5 => some (v5, (0 : Int32))
set_option maxHeartbeats 4000000 in
set_option maxRecDepth 100000 in
theorem tX8_label (l : Launch) (D : va_G) (k : Nat → ClassId) (q_this q_now q_text q_row q_read q_outerCell q_outerDoor q_walked q_onWalks q_far q_aside q_wasFull q_undos q_was q_kept q_isKept : Nat) (c_typed : Int32) (c_rowMany : Int32) (c_thrown : Int32) (c_length : Int32) (c_at : Int32) (c_wrong : Int32) (c_outerMany : Int32) (c_walkedMany : Int32) (c_cameOut : Int32) (c_undoMany : Int32) (c_drawn : Int32) (c_now : Nat → Int32) (x1 : Int32) (x2 : Int32) (r_ : Int32) (w_thrown : Int32) (hf : fX8_label c_now c_thrown x1 x2 = some (r_, w_thrown)) : MI l yX8_label cX8_label 3 .int (RM 2 44) D k [.ref q_this, .int x1, .int x2] [oX8 q_this q_now q_text c_typed q_row c_rowMany c_thrown c_length c_at c_wrong q_read q_outerCell q_outerDoor c_outerMany q_walked c_walkedMany c_cameOut q_onWalks q_far q_aside q_wasFull q_undos q_was c_undoMany c_drawn q_kept q_isKept, aI k q_now 189 c_now] r_ [oX8 q_this q_now q_text c_typed q_row c_rowMany w_thrown c_length c_at c_wrong q_read q_outerCell q_outerDoor c_outerMany q_walked c_walkedMany c_cameOut q_onWalks q_far q_aside q_wasFull q_undos q_was c_undoMany c_drawn q_kept q_isKept, aI k q_now 189 c_now] := by
  refine mkMI' (own := "DoorWalkModel") (by decide) rfl (Nat.le_of_ble_eq_true rfl) ?_
  intro p e s m args below meth c Q A hret C
  refine ww_lv (lv' := [(0, .ref q_this), (1, .int x1), (2, .int x2)]) [0, 1, 2] rfl ?_
  unfold fX8_label at hf
  refine ww_aload_n (pc := 0) C dX8_label_0 rfl 0 rfl ?_
  refine ww_iconst (pc := 1) C dX8_label_1 kI_0 ?_
  refine pf8_5 (pc := 2) (ws' := [oX8 q_this q_now q_text c_typed q_row c_rowMany (0 : Int32) c_length c_at c_wrong q_read q_outerCell q_outerDoor c_outerMany q_walked c_walkedMany c_cameOut q_onWalks q_far q_aside q_wasFull q_undos q_was c_undoMany c_drawn q_kept q_isKept, aI k q_now 189 c_now]) C kf_X8_61 0 rfl (Nat.le_of_ble_eq_true rfl) rfl dX8_label_2 ?_
  refine ww_aload_n (pc := 5) C dX8_label_5 rfl 0 rfl ?_
  refine ww_iload_n (pc := 6) C dX8_label_6 rfl 1 rfl ?_
  refine ww_iload_n (pc := 7) C dX8_label_7 rfl 2 rfl ?_
  obtain ⟨v1, h1, hf⟩ := bsome hf
  refine ww_callVi0 (pc := 8) (As := [.int x1, .int x2]) (rest := []) C (tX8_isPoint l D k q_this q_now q_text q_row q_read q_outerCell q_outerDoor q_walked q_onWalks q_far q_aside q_wasFull q_undos q_was q_kept q_isKept c_typed c_rowMany (0 : Int32) c_length c_at c_wrong c_outerMany c_walkedMany c_cameOut c_undoMany c_drawn c_now x1 x2 v1 h1) cv_X8_219 ⟨⟨by decide, by decide⟩, rfl, rfl⟩ 0 rfl rfl [0, 1] rfl rfl rfl rfl (Nat.le_of_ble_eq_true rfl) ⟨Nat.zero_le _, Nat.zero_le _⟩ dX8_label_8 (fun hb1 => ?_)
  refine ww_if_eq (pc := 11) (tgt := 27) C dX8_label_11 (by decide) (fun hc => ?_) (fun hc => ?_)
  · have hf := ifT hc hf
    refine ww_aload_n (pc := 27) C dX8_label_27 rfl 0 rfl ?_
    obtain ⟨v2, v3, h2, hf⟩ := bd2_some hf
    refine ww_callVi (pc := 28) (ws' := [oX8 q_this q_now q_text c_typed q_row c_rowMany v3 c_length c_at c_wrong q_read q_outerCell q_outerDoor c_outerMany q_walked c_walkedMany c_cameOut q_onWalks q_far q_aside q_wasFull q_undos q_was c_undoMany c_drawn q_kept q_isKept, aI k q_now 189 c_now]) (As := []) (rest := []) C (tX8_lost l D k q_this q_now q_text q_row q_read q_outerCell q_outerDoor q_walked q_onWalks q_far q_aside q_wasFull q_undos q_was q_kept q_isKept c_typed c_rowMany (0 : Int32) c_length c_at c_wrong c_outerMany c_walkedMany c_cameOut c_undoMany c_drawn v2 v3 h2) cv_X8_223 ⟨⟨by decide, by decide⟩, rfl, rfl⟩ 0 rfl rfl [0] rfl rfl rfl rfl rfl rfl (Nat.le_of_ble_eq_true rfl) ⟨Nat.zero_le _, Nat.zero_le _⟩ dX8_label_28 (fun hb2 => ?_)
    obtain ⟨e0, e1⟩ := ij2 hf
    exact hret _ _ 31 _ dX8_label_31 rfl e0 (by rw [← e1])
  · have hf := ifF hc hf
    refine ww_aload_n (pc := 14) C dX8_label_14 rfl 0 rfl ?_
    refine ww_aload_n (pc := 15) C dX8_label_15 rfl 0 rfl ?_
    refine ww_iload_n (pc := 16) C dX8_label_16 rfl 1 rfl ?_
    refine ww_iload_n (pc := 17) C dX8_label_17 rfl 2 rfl ?_
    obtain ⟨v4, h4, hf⟩ := bsome hf
    refine ww_callVi0 (pc := 18) (As := [.int x1, .int x2]) (rest := [.ref q_this]) C (tX8_place l D k q_this q_now q_text q_row q_read q_outerCell q_outerDoor q_walked q_onWalks q_far q_aside q_wasFull q_undos q_was q_kept q_isKept c_typed c_rowMany (0 : Int32) c_length c_at c_wrong c_outerMany c_walkedMany c_cameOut c_undoMany c_drawn c_now x1 x2 v4 h4) cv_X8_80 ⟨⟨by decide, by decide⟩, rfl, rfl⟩ 0 rfl rfl [0, 1] rfl rfl rfl rfl (Nat.le_of_ble_eq_true rfl) ⟨Nat.zero_le _, Nat.zero_le _⟩ dX8_label_18 (fun hb4 => ?_)
    obtain ⟨v5, h5, hf⟩ := bsome hf
    refine ww_callVi0 (pc := 21) (As := [.int v4]) (rest := []) C (tX8_labelAt l D k q_this q_now q_text q_row q_read q_outerCell q_outerDoor q_walked q_onWalks q_far q_aside q_wasFull q_undos q_was q_kept q_isKept c_typed c_rowMany (0 : Int32) c_length c_at c_wrong c_outerMany c_walkedMany c_cameOut c_undoMany c_drawn c_now v4 v5 h5) cv_X8_188 ⟨⟨by decide, by decide⟩, rfl, rfl⟩ 0 rfl rfl [0, 1] rfl rfl rfl rfl (Nat.le_of_ble_eq_true rfl) ⟨Nat.zero_le _, Nat.zero_le _⟩ dX8_label_21 (fun hb5 => ?_)
    refine ww_goto (pc := 24) (tgt := 31) C dX8_label_24 (by decide) ?_
    obtain ⟨e0, e1⟩ := ij2 hf
    exact hret _ _ 31 _ dX8_label_31 rfl e0 (by rw [← e1])
def fX8_point_b23 (c_now : Nat → Int32) (rc23 : Int32 → Int32 → (Nat → Int64) → Int32 → Int32 → Int32 → Option (Int32 × Int32 × Int32 × (Nat → Int64))) (c_rowMany : Int32) (c_thrown : Int32) (c_row : Nat → Int64) (n1 : Int32) (n2 : Int32) (n3 : Int32) : Option (Int32 × Int32 × Int32 × (Nat → Int64)) := if (3 : Int32) ≤ n3 then (fX8_place c_now n1 n2).bind fun v1 => some (v1, c_rowMany, c_thrown, c_row) else (fX8_price c_now n1 n2 n3).bind fun v2 => bd2 (fX8_tell c_rowMany c_row ((v2).toInt64)) fun v3 v4 => (some (n3 + (1 : Int32))).bind fun v5 => rc23 v3 c_thrown v4 n1 n2 v5
def fX8_point (c_now : Nat → Int32) (c_rowMany : Int32) (c_thrown : Int32) (c_row : Nat → Int64) (x1 : Int32) (x2 : Int32) : Option (Int32 × Int32 × Int32 × (Nat → Int64)) := (fX8_isPoint c_now x1 x2).bind fun v1 => if v1 = 0 then some ((-1 : Int32), c_rowMany, (0 : Int32), c_row) else lfix (fX8_point_b23 c_now) (fun _ _ _ _ _ _ => none) FU (0 : Int32) (0 : Int32) c_row x1 x2 (0 : Int32)
set_option maxHeartbeats 4000000 in
set_option maxRecDepth 100000 in
theorem tX8_point (l : Launch) (D : va_G) (k : Nat → ClassId) (q_this q_now q_text q_row q_read q_outerCell q_outerDoor q_walked q_onWalks q_far q_aside q_wasFull q_undos q_was q_kept q_isKept : Nat) (c_typed : Int32) (c_rowMany : Int32) (c_thrown : Int32) (c_length : Int32) (c_at : Int32) (c_wrong : Int32) (c_outerMany : Int32) (c_walkedMany : Int32) (c_cameOut : Int32) (c_undoMany : Int32) (c_drawn : Int32) (c_now : Nat → Int32) (c_row : Nat → Int64) (x1 : Int32) (x2 : Int32) (r_ : Int32) (w_rowMany : Int32) (w_thrown : Int32) (w_row : Nat → Int64) (hf : fX8_point c_now c_rowMany c_thrown c_row x1 x2 = some (r_, w_rowMany, w_thrown, w_row)) : MI l yX8_point cX8_point 4 .int (RM 2 44) D k [.ref q_this, .int x1, .int x2] [oX8 q_this q_now q_text c_typed q_row c_rowMany c_thrown c_length c_at c_wrong q_read q_outerCell q_outerDoor c_outerMany q_walked c_walkedMany c_cameOut q_onWalks q_far q_aside q_wasFull q_undos q_was c_undoMany c_drawn q_kept q_isKept, aI k q_now 189 c_now, aJ k q_row 64 c_row] r_ [oX8 q_this q_now q_text c_typed q_row w_rowMany w_thrown c_length c_at c_wrong q_read q_outerCell q_outerDoor c_outerMany q_walked c_walkedMany c_cameOut q_onWalks q_far q_aside q_wasFull q_undos q_was c_undoMany c_drawn q_kept q_isKept, aI k q_now 189 c_now, aJ k q_row 64 w_row] := by
  refine mkMI' (own := "DoorWalkModel") (by decide) rfl (Nat.le_of_ble_eq_true rfl) ?_
  intro p e s m args below meth c Q A hret C
  refine ww_lv (lv' := [(0, .ref q_this), (1, .int x1), (2, .int x2)]) [0, 1, 2] rfl ?_
  have hL23 : ∀ (n : Nat) (c_rowMany : Int32) (c_thrown : Int32) (c_row : Nat → Int64) (n1 : Int32) (n2 : Int32) (n3 : Int32), lfix (fX8_point_b23 c_now) (fun _ _ _ _ _ _ => none) n c_rowMany c_thrown c_row n1 n2 n3 = some (r_, w_rowMany, w_thrown, w_row) → WW p l e (RM 2 44) s m args below meth c Q 4 D A 0 0 [oX8 q_this q_now q_text c_typed q_row c_rowMany c_thrown c_length c_at c_wrong q_read q_outerCell q_outerDoor c_outerMany q_walked c_walkedMany c_cameOut q_onWalks q_far q_aside q_wasFull q_undos q_was c_undoMany c_drawn q_kept q_isKept, aI k q_now 189 c_now, aJ k q_row 64 c_row] [(0, .ref q_this), (1, .int n1), (2, .int n2), (3, .int n3)] 23 [] := by
    intro n
    induction n with
    | zero => intro c_rowMany c_thrown c_row n1 n2 n3 hf; cases hf
    | succ n ih23 =>
      obtain ⟨rc23, hrc23⟩ : ∃ f9, f9 = lfix (fX8_point_b23 c_now) (fun _ _ _ _ _ _ => none) n := ⟨_, rfl⟩
      rw [← hrc23] at ih23
      intro c_rowMany c_thrown c_row n1 n2 n3 hf
      have hf : fX8_point_b23 c_now rc23 c_rowMany c_thrown c_row n1 n2 n3 = some (r_, w_rowMany, w_thrown, w_row) := by rw [hrc23]; exact hf
      unfold fX8_point_b23 at hf
      refine ww_iload_n (pc := 23) C dX8_point_23 rfl 3 rfl ?_
      refine ww_iconst (pc := 24) C dX8_point_24 kI_3 ?_
      refine ww_icmp_ge (pc := 25) (tgt := 46) C dX8_point_25 (by decide) (fun hc => ?_) (fun hc => ?_)
      · have hf := ifT hc hf
        refine ww_aload_n (pc := 46) C dX8_point_46 rfl 0 rfl ?_
        refine ww_iload_n (pc := 47) C dX8_point_47 rfl 1 rfl ?_
        refine ww_iload_n (pc := 48) C dX8_point_48 rfl 2 rfl ?_
        obtain ⟨v1, h1, hf⟩ := bsome hf
        refine ww_callVi0 (pc := 49) (As := [.int n1, .int n2]) (rest := []) C (tX8_place l D k q_this q_now q_text q_row q_read q_outerCell q_outerDoor q_walked q_onWalks q_far q_aside q_wasFull q_undos q_was q_kept q_isKept c_typed c_rowMany c_thrown c_length c_at c_wrong c_outerMany c_walkedMany c_cameOut c_undoMany c_drawn c_now n1 n2 v1 h1) cv_X8_80 ⟨⟨by decide, by decide⟩, rfl, rfl⟩ 0 rfl rfl [0, 1] rfl rfl rfl rfl (Nat.le_of_ble_eq_true rfl) ⟨Nat.zero_le _, Nat.zero_le _⟩ dX8_point_49 (fun hb1 => ?_)
        obtain ⟨e0, e1, e2, e3⟩ := ij4 hf
        exact hret _ _ 52 _ dX8_point_52 rfl e0 (by rw [← e1, ← e2, ← e3])
      · have hf := ifF hc hf
        refine ww_aload_n (pc := 28) C dX8_point_28 rfl 0 rfl ?_
        refine ww_aload_n (pc := 29) C dX8_point_29 rfl 0 rfl ?_
        refine ww_iload_n (pc := 30) C dX8_point_30 rfl 1 rfl ?_
        refine ww_iload_n (pc := 31) C dX8_point_31 rfl 2 rfl ?_
        refine ww_iload_n (pc := 32) C dX8_point_32 rfl 3 rfl ?_
        obtain ⟨v2, h2, hf⟩ := bsome hf
        refine ww_callVi0 (pc := 33) (As := [.int n1, .int n2, .int n3]) (rest := [.ref q_this]) C (tX8_price l D k q_this q_now q_text q_row q_read q_outerCell q_outerDoor q_walked q_onWalks q_far q_aside q_wasFull q_undos q_was q_kept q_isKept c_typed c_rowMany c_thrown c_length c_at c_wrong c_outerMany c_walkedMany c_cameOut c_undoMany c_drawn c_now n1 n2 n3 v2 h2) cv_X8_76 ⟨⟨by decide, by decide⟩, rfl, rfl⟩ 0 rfl rfl [0, 1] rfl rfl rfl rfl (Nat.le_of_ble_eq_true rfl) ⟨Nat.zero_le _, Nat.zero_le _⟩ dX8_point_33 (fun hb2 => ?_)
        refine ww_i2l (pc := 36) C dX8_point_36  ?_
        obtain ⟨v3, v4, h3, hf⟩ := bd2_some hf
        refine ww_callVv (pc := 37) (ws' := [oX8 q_this q_now q_text c_typed q_row v3 c_thrown c_length c_at c_wrong q_read q_outerCell q_outerDoor c_outerMany q_walked c_walkedMany c_cameOut q_onWalks q_far q_aside q_wasFull q_undos q_was c_undoMany c_drawn q_kept q_isKept, aI k q_now 189 c_now, aJ k q_row 64 v4]) (As := [.long ((v2).toInt64)]) (rest := []) C (tX8_tell l D k q_this q_now q_text q_row q_read q_outerCell q_outerDoor q_walked q_onWalks q_far q_aside q_wasFull q_undos q_was q_kept q_isKept c_typed c_rowMany c_thrown c_length c_at c_wrong c_outerMany c_walkedMany c_cameOut c_undoMany c_drawn c_row ((v2).toInt64) v3 v4 h3) cv_X8_182 ⟨⟨by decide, by decide⟩, rfl, rfl⟩ 0 rfl rfl [0, 2] rfl rfl rfl rfl rfl rfl (Nat.le_of_ble_eq_true rfl) ⟨Nat.zero_le _, Nat.zero_le _⟩ dX8_point_37 ?_
        obtain ⟨v5, h5, hf⟩ := bsome hf
        refine ww_iincN (pc := 40) (lv' := [(3, .int v5), (0, .ref q_this), (1, .int n1), (2, .int n2)]) (j := 3) C dX8_point_40 kI_1 rfl h5 (by decide) rfl ?_
        refine ww_goto (pc := 43) (tgt := 23) C dX8_point_43 (by decide) ?_
        exact ww_lv [1, 2, 3, 0] rfl (ih23 v3 c_thrown v4 n1 n2 v5 hf)
  unfold fX8_point at hf
  refine ww_aload_n (pc := 0) C dX8_point_0 rfl 0 rfl ?_
  refine ww_iconst (pc := 1) C dX8_point_1 kI_0 ?_
  refine pf8_5 (pc := 2) (ws' := [oX8 q_this q_now q_text c_typed q_row c_rowMany (0 : Int32) c_length c_at c_wrong q_read q_outerCell q_outerDoor c_outerMany q_walked c_walkedMany c_cameOut q_onWalks q_far q_aside q_wasFull q_undos q_was c_undoMany c_drawn q_kept q_isKept, aI k q_now 189 c_now, aJ k q_row 64 c_row]) C kf_X8_61 0 rfl (Nat.le_of_ble_eq_true rfl) rfl dX8_point_2 ?_
  refine ww_aload_n (pc := 5) C dX8_point_5 rfl 0 rfl ?_
  refine ww_iload_n (pc := 6) C dX8_point_6 rfl 1 rfl ?_
  refine ww_iload_n (pc := 7) C dX8_point_7 rfl 2 rfl ?_
  obtain ⟨v1, h1, hf⟩ := bsome hf
  refine ww_callVi0 (pc := 8) (As := [.int x1, .int x2]) (rest := []) C (tX8_isPoint l D k q_this q_now q_text q_row q_read q_outerCell q_outerDoor q_walked q_onWalks q_far q_aside q_wasFull q_undos q_was q_kept q_isKept c_typed c_rowMany (0 : Int32) c_length c_at c_wrong c_outerMany c_walkedMany c_cameOut c_undoMany c_drawn c_now x1 x2 v1 h1) cv_X8_219 ⟨⟨by decide, by decide⟩, rfl, rfl⟩ 0 rfl rfl [0, 1] rfl rfl rfl rfl (Nat.le_of_ble_eq_true rfl) ⟨Nat.zero_le _, Nat.zero_le _⟩ dX8_point_8 (fun hb1 => ?_)
  refine ww_if_ne (pc := 11) (tgt := 16) C dX8_point_11 (by decide) (fun hc => ?_) (fun hc => ?_)
  · have hf := ifF hc hf
    refine ww_aload_n (pc := 16) C dX8_point_16 rfl 0 rfl ?_
    refine ww_iconst (pc := 17) C dX8_point_17 kI_0 ?_
    refine pf8_4 (pc := 18) (ws' := [oX8 q_this q_now q_text c_typed q_row (0 : Int32) (0 : Int32) c_length c_at c_wrong q_read q_outerCell q_outerDoor c_outerMany q_walked c_walkedMany c_cameOut q_onWalks q_far q_aside q_wasFull q_undos q_was c_undoMany c_drawn q_kept q_isKept, aI k q_now 189 c_now, aJ k q_row 64 c_row]) C kf_X8_65 0 rfl (Nat.le_of_ble_eq_true rfl) rfl dX8_point_18 ?_
    refine ww_iconst (pc := 21) C dX8_point_21 kI_0 ?_
    refine ww_istore_n (pc := 22) (lv' := [(3, .int (0 : Int32)), (0, .ref q_this), (1, .int x1), (2, .int x2)]) C dX8_point_22 rfl (by decide) rfl ?_
    exact ww_lv [1, 2, 3, 0] rfl (hL23 FU (0 : Int32) (0 : Int32) c_row x1 x2 (0 : Int32) hf)
  · have hf := ifT hc hf
    refine ww_iconst (pc := 14) C dX8_point_14 kI_m1 ?_
    obtain ⟨e0, e1, e2, e3⟩ := ij4 hf
    exact hret _ _ 15 _ dX8_point_15 rfl e0 (by rw [← e1, ← e2, ← e3])
def fX8_cell_b22 (c_now : Nat → Int32) (rc22 : Int32 → Int32 → (Nat → Int64) → Int32 → Int32 → Option (Int32 × Int32 × Int32 × (Nat → Int64))) (c_rowMany : Int32) (c_thrown : Int32) (c_row : Nat → Int64) (n1 : Int32) (n2 : Int32) : Option (Int32 × Int32 × Int32 × (Nat → Int64)) := if (3 : Int32) ≤ n2 then (fX8_turn c_now n1).bind fun v1 => bd2 (fX8_tell c_rowMany c_row ((v1).toInt64)) fun v2 v3 => (fX8_isFull c_now n1).bind fun v4 => if v4 = 0 then some ((0 : Int32), v2, c_thrown, v3) else some ((1 : Int32), v2, c_thrown, v3) else (fX8_cornerLabel c_now n1 n2).bind fun v5 => bd2 (fX8_tell c_rowMany c_row ((v5).toInt64)) fun v6 v7 => (some (n2 + (1 : Int32))).bind fun v8 => rc22 v6 c_thrown v7 n1 v8
def fX8_cell (c_now : Nat → Int32) (c_rowMany : Int32) (c_thrown : Int32) (c_row : Nat → Int64) (x1 : Int32) : Option (Int32 × Int32 × Int32 × (Nat → Int64)) := (fX8_isCell c_now x1).bind fun v1 => if v1 = 0 then some ((-1 : Int32), c_rowMany, (0 : Int32), c_row) else lfix (fX8_cell_b22 c_now) (fun _ _ _ _ _ => none) FU (0 : Int32) (0 : Int32) c_row x1 (0 : Int32)
set_option maxHeartbeats 4000000 in
set_option maxRecDepth 100000 in
theorem tX8_cell (l : Launch) (D : va_G) (k : Nat → ClassId) (q_this q_now q_text q_row q_read q_outerCell q_outerDoor q_walked q_onWalks q_far q_aside q_wasFull q_undos q_was q_kept q_isKept : Nat) (c_typed : Int32) (c_rowMany : Int32) (c_thrown : Int32) (c_length : Int32) (c_at : Int32) (c_wrong : Int32) (c_outerMany : Int32) (c_walkedMany : Int32) (c_cameOut : Int32) (c_undoMany : Int32) (c_drawn : Int32) (c_now : Nat → Int32) (c_row : Nat → Int64) (x1 : Int32) (r_ : Int32) (w_rowMany : Int32) (w_thrown : Int32) (w_row : Nat → Int64) (hf : fX8_cell c_now c_rowMany c_thrown c_row x1 = some (r_, w_rowMany, w_thrown, w_row)) : MI l yX8_cell cX8_cell 3 .int (RM 7 151) D k [.ref q_this, .int x1] [oX8 q_this q_now q_text c_typed q_row c_rowMany c_thrown c_length c_at c_wrong q_read q_outerCell q_outerDoor c_outerMany q_walked c_walkedMany c_cameOut q_onWalks q_far q_aside q_wasFull q_undos q_was c_undoMany c_drawn q_kept q_isKept, aI k q_now 189 c_now, aJ k q_row 64 c_row] r_ [oX8 q_this q_now q_text c_typed q_row w_rowMany w_thrown c_length c_at c_wrong q_read q_outerCell q_outerDoor c_outerMany q_walked c_walkedMany c_cameOut q_onWalks q_far q_aside q_wasFull q_undos q_was c_undoMany c_drawn q_kept q_isKept, aI k q_now 189 c_now, aJ k q_row 64 w_row] := by
  refine mkMI' (own := "DoorWalkModel") (by decide) rfl (Nat.le_of_ble_eq_true rfl) ?_
  intro p e s m args below meth c Q A hret C
  refine ww_lv (lv' := [(0, .ref q_this), (1, .int x1)]) [0, 1] rfl ?_
  have hL22 : ∀ (n : Nat) (c_rowMany : Int32) (c_thrown : Int32) (c_row : Nat → Int64) (n1 : Int32) (n2 : Int32), lfix (fX8_cell_b22 c_now) (fun _ _ _ _ _ => none) n c_rowMany c_thrown c_row n1 n2 = some (r_, w_rowMany, w_thrown, w_row) → WW p l e (RM 7 151) s m args below meth c Q 3 D A 0 0 [oX8 q_this q_now q_text c_typed q_row c_rowMany c_thrown c_length c_at c_wrong q_read q_outerCell q_outerDoor c_outerMany q_walked c_walkedMany c_cameOut q_onWalks q_far q_aside q_wasFull q_undos q_was c_undoMany c_drawn q_kept q_isKept, aI k q_now 189 c_now, aJ k q_row 64 c_row] [(0, .ref q_this), (1, .int n1), (2, .int n2)] 22 [] := by
    intro n
    induction n with
    | zero => intro c_rowMany c_thrown c_row n1 n2 hf; cases hf
    | succ n ih22 =>
      obtain ⟨rc22, hrc22⟩ : ∃ f9, f9 = lfix (fX8_cell_b22 c_now) (fun _ _ _ _ _ => none) n := ⟨_, rfl⟩
      rw [← hrc22] at ih22
      intro c_rowMany c_thrown c_row n1 n2 hf
      have hf : fX8_cell_b22 c_now rc22 c_rowMany c_thrown c_row n1 n2 = some (r_, w_rowMany, w_thrown, w_row) := by rw [hrc22]; exact hf
      unfold fX8_cell_b22 at hf
      refine ww_iload_n (pc := 22) C dX8_cell_22 rfl 2 rfl ?_
      refine ww_iconst (pc := 23) C dX8_cell_23 kI_3 ?_
      refine ww_icmp_ge (pc := 24) (tgt := 44) C dX8_cell_24 (by decide) (fun hc => ?_) (fun hc => ?_)
      · have hf := ifT hc hf
        refine ww_aload_n (pc := 44) C dX8_cell_44 rfl 0 rfl ?_
        refine ww_aload_n (pc := 45) C dX8_cell_45 rfl 0 rfl ?_
        refine ww_iload_n (pc := 46) C dX8_cell_46 rfl 1 rfl ?_
        obtain ⟨v1, h1, hf⟩ := bsome hf
        refine ww_callVi0 (pc := 47) (As := [.int n1]) (rest := [.ref q_this]) C (tX8_turn l D k q_this q_now q_text q_row q_read q_outerCell q_outerDoor q_walked q_onWalks q_far q_aside q_wasFull q_undos q_was q_kept q_isKept c_typed c_rowMany c_thrown c_length c_at c_wrong c_outerMany c_walkedMany c_cameOut c_undoMany c_drawn c_now n1 v1 h1) cv_X8_216 ⟨⟨by decide, by decide⟩, rfl, rfl⟩ 0 rfl rfl [0, 1] rfl rfl rfl rfl (Nat.le_of_ble_eq_true rfl) ⟨Nat.zero_le _, Nat.zero_le _⟩ dX8_cell_47 (fun hb1 => ?_)
        refine ww_i2l (pc := 50) C dX8_cell_50  ?_
        obtain ⟨v2, v3, h2, hf⟩ := bd2_some hf
        refine ww_callVv (pc := 51) (ws' := [oX8 q_this q_now q_text c_typed q_row v2 c_thrown c_length c_at c_wrong q_read q_outerCell q_outerDoor c_outerMany q_walked c_walkedMany c_cameOut q_onWalks q_far q_aside q_wasFull q_undos q_was c_undoMany c_drawn q_kept q_isKept, aI k q_now 189 c_now, aJ k q_row 64 v3]) (As := [.long ((v1).toInt64)]) (rest := []) C (tX8_tell l D k q_this q_now q_text q_row q_read q_outerCell q_outerDoor q_walked q_onWalks q_far q_aside q_wasFull q_undos q_was q_kept q_isKept c_typed c_rowMany c_thrown c_length c_at c_wrong c_outerMany c_walkedMany c_cameOut c_undoMany c_drawn c_row ((v1).toInt64) v2 v3 h2) cv_X8_182 ⟨⟨by decide, by decide⟩, rfl, rfl⟩ 0 rfl rfl [0, 2] rfl rfl rfl rfl rfl rfl (Nat.le_of_ble_eq_true rfl) ⟨Nat.zero_le _, Nat.zero_le _⟩ dX8_cell_51 ?_
        refine ww_aload_n (pc := 54) C dX8_cell_54 rfl 0 rfl ?_
        refine ww_iload_n (pc := 55) C dX8_cell_55 rfl 1 rfl ?_
        obtain ⟨v4, h4, hf⟩ := bsome hf
        refine ww_callVi0 (pc := 56) (As := [.int n1]) (rest := []) C (tX8_isFull l D k q_this q_now q_text q_row q_read q_outerCell q_outerDoor q_walked q_onWalks q_far q_aside q_wasFull q_undos q_was q_kept q_isKept c_typed v2 c_thrown c_length c_at c_wrong c_outerMany c_walkedMany c_cameOut c_undoMany c_drawn c_now n1 v4 h4) cv_X8_206 ⟨⟨by decide, by decide⟩, rfl, rfl⟩ 0 rfl rfl [0, 1] rfl rfl rfl rfl (Nat.le_of_ble_eq_true rfl) ⟨Nat.zero_le _, Nat.zero_le _⟩ dX8_cell_56 (fun hb4 => ?_)
        refine ww_if_eq (pc := 59) (tgt := 66) C dX8_cell_59 (by decide) (fun hc => ?_) (fun hc => ?_)
        · have hf := ifT hc hf
          refine ww_iconst (pc := 66) C dX8_cell_66 kI_0 ?_
          obtain ⟨e0, e1, e2, e3⟩ := ij4 hf
          exact hret _ _ 67 _ dX8_cell_67 rfl e0 (by rw [← e1, ← e2, ← e3])
        · have hf := ifF hc hf
          refine ww_iconst (pc := 62) C dX8_cell_62 kI_1 ?_
          refine ww_goto (pc := 63) (tgt := 67) C dX8_cell_63 (by decide) ?_
          obtain ⟨e0, e1, e2, e3⟩ := ij4 hf
          exact hret _ _ 67 _ dX8_cell_67 rfl e0 (by rw [← e1, ← e2, ← e3])
      · have hf := ifF hc hf
        refine ww_aload_n (pc := 27) C dX8_cell_27 rfl 0 rfl ?_
        refine ww_aload_n (pc := 28) C dX8_cell_28 rfl 0 rfl ?_
        refine ww_iload_n (pc := 29) C dX8_cell_29 rfl 1 rfl ?_
        refine ww_iload_n (pc := 30) C dX8_cell_30 rfl 2 rfl ?_
        obtain ⟨v5, h5, hf⟩ := bsome hf
        refine ww_callVi0 (pc := 31) (As := [.int n1, .int n2]) (rest := [.ref q_this]) C (tX8_cornerLabel l D k q_this q_now q_text q_row q_read q_outerCell q_outerDoor q_walked q_onWalks q_far q_aside q_wasFull q_undos q_was q_kept q_isKept c_typed c_rowMany c_thrown c_length c_at c_wrong c_outerMany c_walkedMany c_cameOut c_undoMany c_drawn c_now n1 n2 v5 h5) cv_X8_200 ⟨⟨by decide, by decide⟩, rfl, rfl⟩ 0 rfl rfl [0, 1] rfl rfl rfl rfl (Nat.le_of_ble_eq_true rfl) ⟨Nat.zero_le _, Nat.zero_le _⟩ dX8_cell_31 (fun hb5 => ?_)
        refine ww_i2l (pc := 34) C dX8_cell_34  ?_
        obtain ⟨v6, v7, h6, hf⟩ := bd2_some hf
        refine ww_callVv (pc := 35) (ws' := [oX8 q_this q_now q_text c_typed q_row v6 c_thrown c_length c_at c_wrong q_read q_outerCell q_outerDoor c_outerMany q_walked c_walkedMany c_cameOut q_onWalks q_far q_aside q_wasFull q_undos q_was c_undoMany c_drawn q_kept q_isKept, aI k q_now 189 c_now, aJ k q_row 64 v7]) (As := [.long ((v5).toInt64)]) (rest := []) C (tX8_tell l D k q_this q_now q_text q_row q_read q_outerCell q_outerDoor q_walked q_onWalks q_far q_aside q_wasFull q_undos q_was q_kept q_isKept c_typed c_rowMany c_thrown c_length c_at c_wrong c_outerMany c_walkedMany c_cameOut c_undoMany c_drawn c_row ((v5).toInt64) v6 v7 h6) cv_X8_182 ⟨⟨by decide, by decide⟩, rfl, rfl⟩ 0 rfl rfl [0, 2] rfl rfl rfl rfl rfl rfl (Nat.le_of_ble_eq_true rfl) ⟨Nat.zero_le _, Nat.zero_le _⟩ dX8_cell_35 ?_
        obtain ⟨v8, h8, hf⟩ := bsome hf
        refine ww_iincN (pc := 38) (lv' := [(2, .int v8), (0, .ref q_this), (1, .int n1)]) (j := 2) C dX8_cell_38 kI_1 rfl h8 (by decide) rfl ?_
        refine ww_goto (pc := 41) (tgt := 22) C dX8_cell_41 (by decide) ?_
        exact ww_lv [1, 2, 0] rfl (ih22 v6 c_thrown v7 n1 v8 hf)
  unfold fX8_cell at hf
  refine ww_aload_n (pc := 0) C dX8_cell_0 rfl 0 rfl ?_
  refine ww_iconst (pc := 1) C dX8_cell_1 kI_0 ?_
  refine pf8_5 (pc := 2) (ws' := [oX8 q_this q_now q_text c_typed q_row c_rowMany (0 : Int32) c_length c_at c_wrong q_read q_outerCell q_outerDoor c_outerMany q_walked c_walkedMany c_cameOut q_onWalks q_far q_aside q_wasFull q_undos q_was c_undoMany c_drawn q_kept q_isKept, aI k q_now 189 c_now, aJ k q_row 64 c_row]) C kf_X8_61 0 rfl (Nat.le_of_ble_eq_true rfl) rfl dX8_cell_2 ?_
  refine ww_aload_n (pc := 5) C dX8_cell_5 rfl 0 rfl ?_
  refine ww_iload_n (pc := 6) C dX8_cell_6 rfl 1 rfl ?_
  obtain ⟨v1, h1, hf⟩ := bsome hf
  refine ww_callVi0 (pc := 7) (As := [.int x1]) (rest := []) C (tX8_isCell l D k q_this q_now q_text q_row q_read q_outerCell q_outerDoor q_walked q_onWalks q_far q_aside q_wasFull q_undos q_was q_kept q_isKept c_typed c_rowMany (0 : Int32) c_length c_at c_wrong c_outerMany c_walkedMany c_cameOut c_undoMany c_drawn c_now x1 v1 h1) cv_X8_213 ⟨⟨by decide, by decide⟩, rfl, rfl⟩ 0 rfl rfl [0, 1] rfl rfl rfl rfl (Nat.le_of_ble_eq_true rfl) ⟨Nat.zero_le _, Nat.zero_le _⟩ dX8_cell_7 (fun hb1 => ?_)
  refine ww_if_ne (pc := 10) (tgt := 15) C dX8_cell_10 (by decide) (fun hc => ?_) (fun hc => ?_)
  · have hf := ifF hc hf
    refine ww_aload_n (pc := 15) C dX8_cell_15 rfl 0 rfl ?_
    refine ww_iconst (pc := 16) C dX8_cell_16 kI_0 ?_
    refine pf8_4 (pc := 17) (ws' := [oX8 q_this q_now q_text c_typed q_row (0 : Int32) (0 : Int32) c_length c_at c_wrong q_read q_outerCell q_outerDoor c_outerMany q_walked c_walkedMany c_cameOut q_onWalks q_far q_aside q_wasFull q_undos q_was c_undoMany c_drawn q_kept q_isKept, aI k q_now 189 c_now, aJ k q_row 64 c_row]) C kf_X8_65 0 rfl (Nat.le_of_ble_eq_true rfl) rfl dX8_cell_17 ?_
    refine ww_iconst (pc := 20) C dX8_cell_20 kI_0 ?_
    refine ww_istore_n (pc := 21) (lv' := [(2, .int (0 : Int32)), (0, .ref q_this), (1, .int x1)]) C dX8_cell_21 rfl (by decide) rfl ?_
    exact ww_lv [1, 2, 0] rfl (hL22 FU (0 : Int32) (0 : Int32) c_row x1 (0 : Int32) hf)
  · have hf := ifT hc hf
    refine ww_iconst (pc := 13) C dX8_cell_13 kI_m1 ?_
    obtain ⟨e0, e1, e2, e3⟩ := ij4 hf
    exact hret _ _ 14 _ dX8_cell_14 rfl e0 (by rw [← e1, ← e2, ← e3])
def fX8_full (c_now : Nat → Int32) (c_rowMany : Int32) (c_thrown : Int32) (c_row : Nat → Int64) : Option (Int32 × Int32 × Int32 × (Nat → Int64)) := (fX8_fullMany c_now).bind fun v1 => (fX8_turns c_now).bind fun v2 => bd2 (fX8_tell (0 : Int32) c_row ((v2).toInt64)) fun v3 v4 => (fX8_nthFull c_now (0 : Int32)).bind fun v5 => bd2 (fX8_tell v3 v4 ((v5).toInt64)) fun v6 v7 => (fX8_nthFull c_now (v1 - (1 : Int32))).bind fun v8 => bd2 (fX8_tell v6 v7 ((v8).toInt64)) fun v9 v10 => some (v1, v9, (0 : Int32), v10)
set_option maxHeartbeats 4000000 in
set_option maxRecDepth 100000 in
theorem tX8_full (l : Launch) (D : va_G) (k : Nat → ClassId) (q_this q_now q_text q_row q_read q_outerCell q_outerDoor q_walked q_onWalks q_far q_aside q_wasFull q_undos q_was q_kept q_isKept : Nat) (c_typed : Int32) (c_rowMany : Int32) (c_thrown : Int32) (c_length : Int32) (c_at : Int32) (c_wrong : Int32) (c_outerMany : Int32) (c_walkedMany : Int32) (c_cameOut : Int32) (c_undoMany : Int32) (c_drawn : Int32) (c_now : Nat → Int32) (c_row : Nat → Int64)  (r_ : Int32) (w_rowMany : Int32) (w_thrown : Int32) (w_row : Nat → Int64) (hf : fX8_full c_now c_rowMany c_thrown c_row = some (r_, w_rowMany, w_thrown, w_row)) : MI l yX8_full cX8_full 2 .int (RM 8 173) D k [.ref q_this] [oX8 q_this q_now q_text c_typed q_row c_rowMany c_thrown c_length c_at c_wrong q_read q_outerCell q_outerDoor c_outerMany q_walked c_walkedMany c_cameOut q_onWalks q_far q_aside q_wasFull q_undos q_was c_undoMany c_drawn q_kept q_isKept, aI k q_now 189 c_now, aJ k q_row 64 c_row] r_ [oX8 q_this q_now q_text c_typed q_row w_rowMany w_thrown c_length c_at c_wrong q_read q_outerCell q_outerDoor c_outerMany q_walked c_walkedMany c_cameOut q_onWalks q_far q_aside q_wasFull q_undos q_was c_undoMany c_drawn q_kept q_isKept, aI k q_now 189 c_now, aJ k q_row 64 w_row] := by
  refine mkMI' (own := "DoorWalkModel") (by decide) rfl (Nat.le_of_ble_eq_true rfl) ?_
  intro p e s m args below meth c Q A hret C
  refine ww_lv (lv' := [(0, .ref q_this)]) [0] rfl ?_
  unfold fX8_full at hf
  refine ww_aload_n (pc := 0) C dX8_full_0 rfl 0 rfl ?_
  refine ww_iconst (pc := 1) C dX8_full_1 kI_0 ?_
  refine pf8_5 (pc := 2) (ws' := [oX8 q_this q_now q_text c_typed q_row c_rowMany (0 : Int32) c_length c_at c_wrong q_read q_outerCell q_outerDoor c_outerMany q_walked c_walkedMany c_cameOut q_onWalks q_far q_aside q_wasFull q_undos q_was c_undoMany c_drawn q_kept q_isKept, aI k q_now 189 c_now, aJ k q_row 64 c_row]) C kf_X8_61 0 rfl (Nat.le_of_ble_eq_true rfl) rfl dX8_full_2 ?_
  refine ww_aload_n (pc := 5) C dX8_full_5 rfl 0 rfl ?_
  obtain ⟨v1, h1, hf⟩ := bsome hf
  refine ww_callVi0 (pc := 6) (As := []) (rest := []) C (tX8_fullMany l D k q_this q_now q_text q_row q_read q_outerCell q_outerDoor q_walked q_onWalks q_far q_aside q_wasFull q_undos q_was q_kept q_isKept c_typed c_rowMany (0 : Int32) c_length c_at c_wrong c_outerMany c_walkedMany c_cameOut c_undoMany c_drawn c_now v1 h1) cv_X8_226 ⟨⟨by decide, by decide⟩, rfl, rfl⟩ 0 rfl rfl [0, 1] rfl rfl rfl rfl (Nat.le_of_ble_eq_true rfl) ⟨Nat.zero_le _, Nat.zero_le _⟩ dX8_full_6 (fun hb1 => ?_)
  refine ww_istore_n (pc := 9) (lv' := [(1, .int v1), (0, .ref q_this)]) C dX8_full_9 rfl (by decide) rfl ?_
  refine ww_aload_n (pc := 10) C dX8_full_10 rfl 1 rfl ?_
  refine ww_iconst (pc := 11) C dX8_full_11 kI_0 ?_
  refine pf8_4 (pc := 12) (ws' := [oX8 q_this q_now q_text c_typed q_row (0 : Int32) (0 : Int32) c_length c_at c_wrong q_read q_outerCell q_outerDoor c_outerMany q_walked c_walkedMany c_cameOut q_onWalks q_far q_aside q_wasFull q_undos q_was c_undoMany c_drawn q_kept q_isKept, aI k q_now 189 c_now, aJ k q_row 64 c_row]) C kf_X8_65 0 rfl (Nat.le_of_ble_eq_true rfl) rfl dX8_full_12 ?_
  refine ww_aload_n (pc := 15) C dX8_full_15 rfl 1 rfl ?_
  refine ww_aload_n (pc := 16) C dX8_full_16 rfl 1 rfl ?_
  obtain ⟨v2, h2, hf⟩ := bsome hf
  refine ww_callVi0 (pc := 17) (As := []) (rest := [.ref q_this]) C (tX8_turns l D k q_this q_now q_text q_row q_read q_outerCell q_outerDoor q_walked q_onWalks q_far q_aside q_wasFull q_undos q_was q_kept q_isKept c_typed (0 : Int32) (0 : Int32) c_length c_at c_wrong c_outerMany c_walkedMany c_cameOut c_undoMany c_drawn c_now v2 h2) cv_X8_229 ⟨⟨by decide, by decide⟩, rfl, rfl⟩ 0 rfl rfl [0, 1] rfl rfl rfl rfl (Nat.le_of_ble_eq_true rfl) ⟨Nat.zero_le _, Nat.zero_le _⟩ dX8_full_17 (fun hb2 => ?_)
  refine ww_i2l (pc := 20) C dX8_full_20  ?_
  obtain ⟨v3, v4, h3, hf⟩ := bd2_some hf
  refine ww_callVv (pc := 21) (ws' := [oX8 q_this q_now q_text c_typed q_row v3 (0 : Int32) c_length c_at c_wrong q_read q_outerCell q_outerDoor c_outerMany q_walked c_walkedMany c_cameOut q_onWalks q_far q_aside q_wasFull q_undos q_was c_undoMany c_drawn q_kept q_isKept, aI k q_now 189 c_now, aJ k q_row 64 v4]) (As := [.long ((v2).toInt64)]) (rest := []) C (tX8_tell l D k q_this q_now q_text q_row q_read q_outerCell q_outerDoor q_walked q_onWalks q_far q_aside q_wasFull q_undos q_was q_kept q_isKept c_typed (0 : Int32) (0 : Int32) c_length c_at c_wrong c_outerMany c_walkedMany c_cameOut c_undoMany c_drawn c_row ((v2).toInt64) v3 v4 h3) cv_X8_182 ⟨⟨by decide, by decide⟩, rfl, rfl⟩ 0 rfl rfl [0, 2] rfl rfl rfl rfl rfl rfl (Nat.le_of_ble_eq_true rfl) ⟨Nat.zero_le _, Nat.zero_le _⟩ dX8_full_21 ?_
  refine ww_aload_n (pc := 24) C dX8_full_24 rfl 1 rfl ?_
  refine ww_aload_n (pc := 25) C dX8_full_25 rfl 1 rfl ?_
  refine ww_iconst (pc := 26) C dX8_full_26 kI_0 ?_
  obtain ⟨v5, h5, hf⟩ := bsome hf
  refine ww_callVi0 (pc := 27) (As := [.int (0 : Int32)]) (rest := [.ref q_this]) C (tX8_nthFull l D k q_this q_now q_text q_row q_read q_outerCell q_outerDoor q_walked q_onWalks q_far q_aside q_wasFull q_undos q_was q_kept q_isKept c_typed v3 (0 : Int32) c_length c_at c_wrong c_outerMany c_walkedMany c_cameOut c_undoMany c_drawn c_now (0 : Int32) v5 h5) cv_X8_232 ⟨⟨by decide, by decide⟩, rfl, rfl⟩ 0 rfl rfl [0, 1] rfl rfl rfl rfl (Nat.le_of_ble_eq_true rfl) ⟨Nat.zero_le _, Nat.zero_le _⟩ dX8_full_27 (fun hb5 => ?_)
  refine ww_i2l (pc := 30) C dX8_full_30  ?_
  obtain ⟨v6, v7, h6, hf⟩ := bd2_some hf
  refine ww_callVv (pc := 31) (ws' := [oX8 q_this q_now q_text c_typed q_row v6 (0 : Int32) c_length c_at c_wrong q_read q_outerCell q_outerDoor c_outerMany q_walked c_walkedMany c_cameOut q_onWalks q_far q_aside q_wasFull q_undos q_was c_undoMany c_drawn q_kept q_isKept, aI k q_now 189 c_now, aJ k q_row 64 v7]) (As := [.long ((v5).toInt64)]) (rest := []) C (tX8_tell l D k q_this q_now q_text q_row q_read q_outerCell q_outerDoor q_walked q_onWalks q_far q_aside q_wasFull q_undos q_was q_kept q_isKept c_typed v3 (0 : Int32) c_length c_at c_wrong c_outerMany c_walkedMany c_cameOut c_undoMany c_drawn v4 ((v5).toInt64) v6 v7 h6) cv_X8_182 ⟨⟨by decide, by decide⟩, rfl, rfl⟩ 0 rfl rfl [0, 2] rfl rfl rfl rfl rfl rfl (Nat.le_of_ble_eq_true rfl) ⟨Nat.zero_le _, Nat.zero_le _⟩ dX8_full_31 ?_
  refine ww_aload_n (pc := 34) C dX8_full_34 rfl 1 rfl ?_
  refine ww_aload_n (pc := 35) C dX8_full_35 rfl 1 rfl ?_
  refine ww_iload_n (pc := 36) C dX8_full_36 rfl 0 rfl ?_
  refine ww_iconst (pc := 37) C dX8_full_37 kI_1 ?_
  refine ww_isub (pc := 38) C dX8_full_38  ?_
  obtain ⟨v8, h8, hf⟩ := bsome hf
  refine ww_callVi0 (pc := 39) (As := [.int (v1 - (1 : Int32))]) (rest := [.ref q_this]) C (tX8_nthFull l D k q_this q_now q_text q_row q_read q_outerCell q_outerDoor q_walked q_onWalks q_far q_aside q_wasFull q_undos q_was q_kept q_isKept c_typed v6 (0 : Int32) c_length c_at c_wrong c_outerMany c_walkedMany c_cameOut c_undoMany c_drawn c_now (v1 - (1 : Int32)) v8 h8) cv_X8_232 ⟨⟨by decide, by decide⟩, rfl, rfl⟩ 0 rfl rfl [0, 1] rfl rfl rfl rfl (Nat.le_of_ble_eq_true rfl) ⟨Nat.zero_le _, Nat.zero_le _⟩ dX8_full_39 (fun hb8 => ?_)
  refine ww_i2l (pc := 42) C dX8_full_42  ?_
  obtain ⟨v9, v10, h9, hf⟩ := bd2_some hf
  refine ww_callVv (pc := 43) (ws' := [oX8 q_this q_now q_text c_typed q_row v9 (0 : Int32) c_length c_at c_wrong q_read q_outerCell q_outerDoor c_outerMany q_walked c_walkedMany c_cameOut q_onWalks q_far q_aside q_wasFull q_undos q_was c_undoMany c_drawn q_kept q_isKept, aI k q_now 189 c_now, aJ k q_row 64 v10]) (As := [.long ((v8).toInt64)]) (rest := []) C (tX8_tell l D k q_this q_now q_text q_row q_read q_outerCell q_outerDoor q_walked q_onWalks q_far q_aside q_wasFull q_undos q_was q_kept q_isKept c_typed v6 (0 : Int32) c_length c_at c_wrong c_outerMany c_walkedMany c_cameOut c_undoMany c_drawn v7 ((v8).toInt64) v9 v10 h9) cv_X8_182 ⟨⟨by decide, by decide⟩, rfl, rfl⟩ 0 rfl rfl [0, 2] rfl rfl rfl rfl rfl rfl (Nat.le_of_ble_eq_true rfl) ⟨Nat.zero_le _, Nat.zero_le _⟩ dX8_full_43 ?_
  refine ww_iload_n (pc := 46) C dX8_full_46 rfl 0 rfl ?_
  obtain ⟨e0, e1, e2, e3⟩ := ij4 hf
  exact hret _ _ 47 _ dX8_full_47 rfl e0 (by rw [← e1, ← e2, ← e3])
def fX8_nth (c_now : Nat → Int32) (c_rowMany : Int32) (c_thrown : Int32) (c_row : Nat → Int64) (x1 : Int32) : Option (Int32 × Int32 × Int32 × (Nat → Int64)) := (fX8_nthFull c_now x1).bind fun v1 => if v1 = (-1 : Int32) then some ((-1 : Int32), c_rowMany, (0 : Int32), c_row) else (fX8_turn c_now v1).bind fun v2 => bd2 (fX8_tell (0 : Int32) c_row ((v2).toInt64)) fun v3 v4 => some (v1, v3, (0 : Int32), v4)
set_option maxHeartbeats 4000000 in
set_option maxRecDepth 100000 in
theorem tX8_nth (l : Launch) (D : va_G) (k : Nat → ClassId) (q_this q_now q_text q_row q_read q_outerCell q_outerDoor q_walked q_onWalks q_far q_aside q_wasFull q_undos q_was q_kept q_isKept : Nat) (c_typed : Int32) (c_rowMany : Int32) (c_thrown : Int32) (c_length : Int32) (c_at : Int32) (c_wrong : Int32) (c_outerMany : Int32) (c_walkedMany : Int32) (c_cameOut : Int32) (c_undoMany : Int32) (c_drawn : Int32) (c_now : Nat → Int32) (c_row : Nat → Int64) (x1 : Int32) (r_ : Int32) (w_rowMany : Int32) (w_thrown : Int32) (w_row : Nat → Int64) (hf : fX8_nth c_now c_rowMany c_thrown c_row x1 = some (r_, w_rowMany, w_thrown, w_row)) : MI l yX8_nth cX8_nth 3 .int (RM 7 153) D k [.ref q_this, .int x1] [oX8 q_this q_now q_text c_typed q_row c_rowMany c_thrown c_length c_at c_wrong q_read q_outerCell q_outerDoor c_outerMany q_walked c_walkedMany c_cameOut q_onWalks q_far q_aside q_wasFull q_undos q_was c_undoMany c_drawn q_kept q_isKept, aI k q_now 189 c_now, aJ k q_row 64 c_row] r_ [oX8 q_this q_now q_text c_typed q_row w_rowMany w_thrown c_length c_at c_wrong q_read q_outerCell q_outerDoor c_outerMany q_walked c_walkedMany c_cameOut q_onWalks q_far q_aside q_wasFull q_undos q_was c_undoMany c_drawn q_kept q_isKept, aI k q_now 189 c_now, aJ k q_row 64 w_row] := by
  refine mkMI' (own := "DoorWalkModel") (by decide) rfl (Nat.le_of_ble_eq_true rfl) ?_
  intro p e s m args below meth c Q A hret C
  refine ww_lv (lv' := [(0, .ref q_this), (1, .int x1)]) [0, 1] rfl ?_
  unfold fX8_nth at hf
  refine ww_aload_n (pc := 0) C dX8_nth_0 rfl 0 rfl ?_
  refine ww_iconst (pc := 1) C dX8_nth_1 kI_0 ?_
  refine pf8_5 (pc := 2) (ws' := [oX8 q_this q_now q_text c_typed q_row c_rowMany (0 : Int32) c_length c_at c_wrong q_read q_outerCell q_outerDoor c_outerMany q_walked c_walkedMany c_cameOut q_onWalks q_far q_aside q_wasFull q_undos q_was c_undoMany c_drawn q_kept q_isKept, aI k q_now 189 c_now, aJ k q_row 64 c_row]) C kf_X8_61 0 rfl (Nat.le_of_ble_eq_true rfl) rfl dX8_nth_2 ?_
  refine ww_aload_n (pc := 5) C dX8_nth_5 rfl 0 rfl ?_
  refine ww_iload_n (pc := 6) C dX8_nth_6 rfl 1 rfl ?_
  obtain ⟨v1, h1, hf⟩ := bsome hf
  refine ww_callVi0 (pc := 7) (As := [.int x1]) (rest := []) C (tX8_nthFull l D k q_this q_now q_text q_row q_read q_outerCell q_outerDoor q_walked q_onWalks q_far q_aside q_wasFull q_undos q_was q_kept q_isKept c_typed c_rowMany (0 : Int32) c_length c_at c_wrong c_outerMany c_walkedMany c_cameOut c_undoMany c_drawn c_now x1 v1 h1) cv_X8_232 ⟨⟨by decide, by decide⟩, rfl, rfl⟩ 0 rfl rfl [0, 1] rfl rfl rfl rfl (Nat.le_of_ble_eq_true rfl) ⟨Nat.zero_le _, Nat.zero_le _⟩ dX8_nth_7 (fun hb1 => ?_)
  refine ww_istore_n (pc := 10) (lv' := [(2, .int v1), (0, .ref q_this), (1, .int x1)]) C dX8_nth_10 rfl (by decide) rfl ?_
  refine ww_iload_n (pc := 11) C dX8_nth_11 rfl 0 rfl ?_
  refine ww_iconst (pc := 12) C dX8_nth_12 kI_m1 ?_
  refine ww_icmp_ne (pc := 13) (tgt := 18) C dX8_nth_13 (by decide) (fun hc => ?_) (fun hc => ?_)
  · have hf := ifF hc hf
    refine ww_aload_n (pc := 18) C dX8_nth_18 rfl 1 rfl ?_
    refine ww_iconst (pc := 19) C dX8_nth_19 kI_0 ?_
    refine pf8_4 (pc := 20) (ws' := [oX8 q_this q_now q_text c_typed q_row (0 : Int32) (0 : Int32) c_length c_at c_wrong q_read q_outerCell q_outerDoor c_outerMany q_walked c_walkedMany c_cameOut q_onWalks q_far q_aside q_wasFull q_undos q_was c_undoMany c_drawn q_kept q_isKept, aI k q_now 189 c_now, aJ k q_row 64 c_row]) C kf_X8_65 0 rfl (Nat.le_of_ble_eq_true rfl) rfl dX8_nth_20 ?_
    refine ww_aload_n (pc := 23) C dX8_nth_23 rfl 1 rfl ?_
    refine ww_aload_n (pc := 24) C dX8_nth_24 rfl 1 rfl ?_
    refine ww_iload_n (pc := 25) C dX8_nth_25 rfl 0 rfl ?_
    obtain ⟨v2, h2, hf⟩ := bsome hf
    refine ww_callVi0 (pc := 26) (As := [.int v1]) (rest := [.ref q_this]) C (tX8_turn l D k q_this q_now q_text q_row q_read q_outerCell q_outerDoor q_walked q_onWalks q_far q_aside q_wasFull q_undos q_was q_kept q_isKept c_typed (0 : Int32) (0 : Int32) c_length c_at c_wrong c_outerMany c_walkedMany c_cameOut c_undoMany c_drawn c_now v1 v2 h2) cv_X8_216 ⟨⟨by decide, by decide⟩, rfl, rfl⟩ 0 rfl rfl [0, 1] rfl rfl rfl rfl (Nat.le_of_ble_eq_true rfl) ⟨Nat.zero_le _, Nat.zero_le _⟩ dX8_nth_26 (fun hb2 => ?_)
    refine ww_i2l (pc := 29) C dX8_nth_29  ?_
    obtain ⟨v3, v4, h3, hf⟩ := bd2_some hf
    refine ww_callVv (pc := 30) (ws' := [oX8 q_this q_now q_text c_typed q_row v3 (0 : Int32) c_length c_at c_wrong q_read q_outerCell q_outerDoor c_outerMany q_walked c_walkedMany c_cameOut q_onWalks q_far q_aside q_wasFull q_undos q_was c_undoMany c_drawn q_kept q_isKept, aI k q_now 189 c_now, aJ k q_row 64 v4]) (As := [.long ((v2).toInt64)]) (rest := []) C (tX8_tell l D k q_this q_now q_text q_row q_read q_outerCell q_outerDoor q_walked q_onWalks q_far q_aside q_wasFull q_undos q_was q_kept q_isKept c_typed (0 : Int32) (0 : Int32) c_length c_at c_wrong c_outerMany c_walkedMany c_cameOut c_undoMany c_drawn c_row ((v2).toInt64) v3 v4 h3) cv_X8_182 ⟨⟨by decide, by decide⟩, rfl, rfl⟩ 0 rfl rfl [0, 2] rfl rfl rfl rfl rfl rfl (Nat.le_of_ble_eq_true rfl) ⟨Nat.zero_le _, Nat.zero_le _⟩ dX8_nth_30 ?_
    refine ww_iload_n (pc := 33) C dX8_nth_33 rfl 0 rfl ?_
    obtain ⟨e0, e1, e2, e3⟩ := ij4 hf
    exact hret _ _ 34 _ dX8_nth_34 rfl e0 (by rw [← e1, ← e2, ← e3])
  · have hf := ifT hc hf
    refine ww_iconst (pc := 16) C dX8_nth_16 kI_m1 ?_
    obtain ⟨e0, e1, e2, e3⟩ := ij4 hf
    exact hret _ _ 17 _ dX8_nth_17 rfl e0 (by rw [← e1, ← e2, ← e3])
def fX8_with_b29 (c_now : Nat → Int32) (rc29 : Int32 → Int32 → (Nat → Int64) → Int32 → Int32 → Int32 → Int32 → Option (Int32 × Int32 × Int32 × (Nat → Int64))) (c_rowMany : Int32) (c_thrown : Int32) (c_row : Nat → Int64) (n1 : Int32) (n2 : Int32) (n3 : Int32) (n4 : Int32) : Option (Int32 × Int32 × Int32 × (Nat → Int64)) := if n4 < 0 then bd2 (fX8_tell (0 : Int32) c_row ((n3).toInt64)) fun v1 v2 => some (n2, v1, c_thrown, v2) else (fX8_isCell c_now n4).bind fun v3 => if v3 = 0 then (some (n4 + (-1 : Int32))).bind fun v4 => rc29 c_rowMany c_thrown c_row n1 n2 n3 v4 else (fX8_labelSet c_now n4).bind fun v5 => if v5 = n1 then (some (n2 + (1 : Int32))).bind fun v6 => (some (n4 + (-1 : Int32))).bind fun v7 => rc29 c_rowMany c_thrown c_row n1 v6 n4 v7 else (some (n4 + (-1 : Int32))).bind fun v8 => rc29 c_rowMany c_thrown c_row n1 n2 n3 v8
def fX8_with (c_now : Nat → Int32) (c_rowMany : Int32) (c_thrown : Int32) (c_row : Nat → Int64) (x1 : Int32) : Option (Int32 × Int32 × Int32 × (Nat → Int64)) := (fX8_in x1 (1 : Int32) (7 : Int32)).bind fun v1 => if v1 = 0 then some ((-1 : Int32), c_rowMany, (0 : Int32), c_row) else (fX8_numbers c_now).bind fun v2 => (some (v2 - (1 : Int32))).bind fun v3 => lfix (fX8_with_b29 c_now) (fun _ _ _ _ _ _ _ => none) FU c_rowMany (0 : Int32) c_row x1 (0 : Int32) (-1 : Int32) v3
set_option maxHeartbeats 4000000 in
set_option maxRecDepth 100000 in
theorem tX8_with (l : Launch) (D : va_G) (k : Nat → ClassId) (q_this q_now q_text q_row q_read q_outerCell q_outerDoor q_walked q_onWalks q_far q_aside q_wasFull q_undos q_was q_kept q_isKept : Nat) (c_typed : Int32) (c_rowMany : Int32) (c_thrown : Int32) (c_length : Int32) (c_at : Int32) (c_wrong : Int32) (c_outerMany : Int32) (c_walkedMany : Int32) (c_cameOut : Int32) (c_undoMany : Int32) (c_drawn : Int32) (c_now : Nat → Int32) (c_row : Nat → Int64) (x1 : Int32) (r_ : Int32) (w_rowMany : Int32) (w_thrown : Int32) (w_row : Nat → Int64) (hf : fX8_with c_now c_rowMany c_thrown c_row x1 = some (r_, w_rowMany, w_thrown, w_row)) : MI l yX8_with cX8_with 5 .int (RM 5 109) D k [.ref q_this, .int x1] [oX8 q_this q_now q_text c_typed q_row c_rowMany c_thrown c_length c_at c_wrong q_read q_outerCell q_outerDoor c_outerMany q_walked c_walkedMany c_cameOut q_onWalks q_far q_aside q_wasFull q_undos q_was c_undoMany c_drawn q_kept q_isKept, aI k q_now 189 c_now, aJ k q_row 64 c_row] r_ [oX8 q_this q_now q_text c_typed q_row w_rowMany w_thrown c_length c_at c_wrong q_read q_outerCell q_outerDoor c_outerMany q_walked c_walkedMany c_cameOut q_onWalks q_far q_aside q_wasFull q_undos q_was c_undoMany c_drawn q_kept q_isKept, aI k q_now 189 c_now, aJ k q_row 64 w_row] := by
  refine mkMI' (own := "DoorWalkModel") (by decide) rfl (Nat.le_of_ble_eq_true rfl) ?_
  intro p e s m args below meth c Q A hret C
  refine ww_lv (lv' := [(0, .ref q_this), (1, .int x1)]) [0, 1] rfl ?_
  have hL29 : ∀ (n : Nat) (c_rowMany : Int32) (c_thrown : Int32) (c_row : Nat → Int64) (n1 : Int32) (n2 : Int32) (n3 : Int32) (n4 : Int32), lfix (fX8_with_b29 c_now) (fun _ _ _ _ _ _ _ => none) n c_rowMany c_thrown c_row n1 n2 n3 n4 = some (r_, w_rowMany, w_thrown, w_row) → WW p l e (RM 5 109) s m args below meth c Q 5 D A 0 0 [oX8 q_this q_now q_text c_typed q_row c_rowMany c_thrown c_length c_at c_wrong q_read q_outerCell q_outerDoor c_outerMany q_walked c_walkedMany c_cameOut q_onWalks q_far q_aside q_wasFull q_undos q_was c_undoMany c_drawn q_kept q_isKept, aI k q_now 189 c_now, aJ k q_row 64 c_row] [(0, .ref q_this), (1, .int n1), (2, .int n2), (3, .int n3), (4, .int n4)] 29 [] := by
    intro n
    induction n with
    | zero => intro c_rowMany c_thrown c_row n1 n2 n3 n4 hf; cases hf
    | succ n ih29 =>
      obtain ⟨rc29, hrc29⟩ : ∃ f9, f9 = lfix (fX8_with_b29 c_now) (fun _ _ _ _ _ _ _ => none) n := ⟨_, rfl⟩
      rw [← hrc29] at ih29
      intro c_rowMany c_thrown c_row n1 n2 n3 n4 hf
      have hf : fX8_with_b29 c_now rc29 c_rowMany c_thrown c_row n1 n2 n3 n4 = some (r_, w_rowMany, w_thrown, w_row) := by rw [hrc29]; exact hf
      unfold fX8_with_b29 at hf
      refine ww_iload (pc := 29) C dX8_with_29 4 rfl ?_
      refine ww_if_lt (pc := 31) (tgt := 68) C dX8_with_31 (by decide) (fun hc => ?_) (fun hc => ?_)
      · have hf := ifT hc hf
        refine ww_aload_n (pc := 68) C dX8_with_68 rfl 0 rfl ?_
        refine ww_iconst (pc := 69) C dX8_with_69 kI_0 ?_
        refine pf8_4 (pc := 70) (ws' := [oX8 q_this q_now q_text c_typed q_row (0 : Int32) c_thrown c_length c_at c_wrong q_read q_outerCell q_outerDoor c_outerMany q_walked c_walkedMany c_cameOut q_onWalks q_far q_aside q_wasFull q_undos q_was c_undoMany c_drawn q_kept q_isKept, aI k q_now 189 c_now, aJ k q_row 64 c_row]) C kf_X8_65 0 rfl (Nat.le_of_ble_eq_true rfl) rfl dX8_with_70 ?_
        refine ww_aload_n (pc := 73) C dX8_with_73 rfl 0 rfl ?_
        refine ww_iload_n (pc := 74) C dX8_with_74 rfl 3 rfl ?_
        refine ww_i2l (pc := 75) C dX8_with_75  ?_
        obtain ⟨v1, v2, h1, hf⟩ := bd2_some hf
        refine ww_callVv (pc := 76) (ws' := [oX8 q_this q_now q_text c_typed q_row v1 c_thrown c_length c_at c_wrong q_read q_outerCell q_outerDoor c_outerMany q_walked c_walkedMany c_cameOut q_onWalks q_far q_aside q_wasFull q_undos q_was c_undoMany c_drawn q_kept q_isKept, aI k q_now 189 c_now, aJ k q_row 64 v2]) (As := [.long ((n3).toInt64)]) (rest := []) C (tX8_tell l D k q_this q_now q_text q_row q_read q_outerCell q_outerDoor q_walked q_onWalks q_far q_aside q_wasFull q_undos q_was q_kept q_isKept c_typed (0 : Int32) c_thrown c_length c_at c_wrong c_outerMany c_walkedMany c_cameOut c_undoMany c_drawn c_row ((n3).toInt64) v1 v2 h1) cv_X8_182 ⟨⟨by decide, by decide⟩, rfl, rfl⟩ 0 rfl rfl [0, 2] rfl rfl rfl rfl rfl rfl (Nat.le_of_ble_eq_true rfl) ⟨Nat.zero_le _, Nat.zero_le _⟩ dX8_with_76 ?_
        refine ww_iload_n (pc := 79) C dX8_with_79 rfl 2 rfl ?_
        obtain ⟨e0, e1, e2, e3⟩ := ij4 hf
        exact hret _ _ 80 _ dX8_with_80 rfl e0 (by rw [← e1, ← e2, ← e3])
      · have hf := ifF hc hf
        refine ww_aload_n (pc := 34) C dX8_with_34 rfl 0 rfl ?_
        refine ww_iload (pc := 35) C dX8_with_35 4 rfl ?_
        obtain ⟨v3, h3, hf⟩ := bsome hf
        refine ww_callVi0 (pc := 37) (As := [.int n4]) (rest := []) C (tX8_isCell l D k q_this q_now q_text q_row q_read q_outerCell q_outerDoor q_walked q_onWalks q_far q_aside q_wasFull q_undos q_was q_kept q_isKept c_typed c_rowMany c_thrown c_length c_at c_wrong c_outerMany c_walkedMany c_cameOut c_undoMany c_drawn c_now n4 v3 h3) cv_X8_213 ⟨⟨by decide, by decide⟩, rfl, rfl⟩ 0 rfl rfl [0, 1] rfl rfl rfl rfl (Nat.le_of_ble_eq_true rfl) ⟨Nat.zero_le _, Nat.zero_le _⟩ dX8_with_37 (fun hb3 => ?_)
        refine ww_if_eq (pc := 40) (tgt := 62) C dX8_with_40 (by decide) (fun hc => ?_) (fun hc => ?_)
        · have hf := ifT hc hf
          obtain ⟨v4, h4, hf⟩ := bsome hf
          refine ww_iincN (pc := 62) (lv' := [(4, .int v4), (0, .ref q_this), (1, .int n1), (2, .int n2), (3, .int n3)]) (j := 4) C dX8_with_62 kI_m1 rfl h4 (by decide) rfl ?_
          refine ww_goto (pc := 65) (tgt := 29) C dX8_with_65 (by decide) ?_
          exact ww_lv [1, 2, 3, 4, 0] rfl (ih29 c_rowMany c_thrown c_row n1 n2 n3 v4 hf)
        · have hf := ifF hc hf
          refine ww_aload_n (pc := 43) C dX8_with_43 rfl 0 rfl ?_
          refine ww_iload (pc := 44) C dX8_with_44 4 rfl ?_
          obtain ⟨v5, h5, hf⟩ := bsome hf
          refine ww_callVi0 (pc := 46) (As := [.int n4]) (rest := []) C (tX8_labelSet l D k q_this q_now q_text q_row q_read q_outerCell q_outerDoor q_walked q_onWalks q_far q_aside q_wasFull q_undos q_was q_kept q_isKept c_typed c_rowMany c_thrown c_length c_at c_wrong c_outerMany c_walkedMany c_cameOut c_undoMany c_drawn c_now n4 v5 h5) cv_X8_203 ⟨⟨by decide, by decide⟩, rfl, rfl⟩ 0 rfl rfl [0, 1] rfl rfl rfl rfl (Nat.le_of_ble_eq_true rfl) ⟨Nat.zero_le _, Nat.zero_le _⟩ dX8_with_46 (fun hb5 => ?_)
          refine ww_iload_n (pc := 49) C dX8_with_49 rfl 1 rfl ?_
          refine ww_icmp_eq (pc := 50) (tgt := 56) C dX8_with_50 (by decide) (fun hc => ?_) (fun hc => ?_)
          · have hf := ifT hc hf
            obtain ⟨v6, h6, hf⟩ := bsome hf
            refine ww_iincN (pc := 56) (lv' := [(2, .int v6), (0, .ref q_this), (1, .int n1), (3, .int n3), (4, .int n4)]) (j := 2) C dX8_with_56 kI_1 rfl h6 (by decide) rfl ?_
            refine ww_iload (pc := 59) C dX8_with_59 4 rfl ?_
            refine ww_istore_n (pc := 61) (lv' := [(3, .int n4), (2, .int v6), (0, .ref q_this), (1, .int n1), (4, .int n4)]) C dX8_with_61 rfl (by decide) rfl ?_
            obtain ⟨v7, h7, hf⟩ := bsome hf
            refine ww_iincN (pc := 62) (lv' := [(4, .int v7), (3, .int n4), (2, .int v6), (0, .ref q_this), (1, .int n1)]) (j := 4) C dX8_with_62 kI_m1 rfl h7 (by decide) rfl ?_
            refine ww_goto (pc := 65) (tgt := 29) C dX8_with_65 (by decide) ?_
            exact ww_lv [3, 4, 2, 1, 0] rfl (ih29 c_rowMany c_thrown c_row n1 v6 n4 v7 hf)
          · have hf := ifF hc hf
            refine ww_goto (pc := 53) (tgt := 62) C dX8_with_53 (by decide) ?_
            obtain ⟨v8, h8, hf⟩ := bsome hf
            refine ww_iincN (pc := 62) (lv' := [(4, .int v8), (0, .ref q_this), (1, .int n1), (2, .int n2), (3, .int n3)]) (j := 4) C dX8_with_62 kI_m1 rfl h8 (by decide) rfl ?_
            refine ww_goto (pc := 65) (tgt := 29) C dX8_with_65 (by decide) ?_
            exact ww_lv [1, 2, 3, 4, 0] rfl (ih29 c_rowMany c_thrown c_row n1 n2 n3 v8 hf)
  unfold fX8_with at hf
  refine ww_aload_n (pc := 0) C dX8_with_0 rfl 0 rfl ?_
  refine ww_iconst (pc := 1) C dX8_with_1 kI_0 ?_
  refine pf8_5 (pc := 2) (ws' := [oX8 q_this q_now q_text c_typed q_row c_rowMany (0 : Int32) c_length c_at c_wrong q_read q_outerCell q_outerDoor c_outerMany q_walked c_walkedMany c_cameOut q_onWalks q_far q_aside q_wasFull q_undos q_was c_undoMany c_drawn q_kept q_isKept, aI k q_now 189 c_now, aJ k q_row 64 c_row]) C kf_X8_61 0 rfl (Nat.le_of_ble_eq_true rfl) rfl dX8_with_2 ?_
  refine ww_iload_n (pc := 5) C dX8_with_5 rfl 1 rfl ?_
  refine ww_iconst (pc := 6) C dX8_with_6 kI_1 ?_
  refine ww_bipush (pc := 7) C dX8_with_7 kB_7 ?_
  obtain ⟨v1, h1, hf⟩ := bsome hf
  refine ww_callSi0 (pc := 9) (As := [.int x1, .int (1 : Int32), .int (7 : Int32)]) (rest := []) C (tX8_in l D k x1 (1 : Int32) (7 : Int32) v1 h1) cs_X8_72 ⟨⟨by decide, by decide⟩, rfl, rfl⟩ [] rfl rfl rfl rfl (Nat.le_of_ble_eq_true rfl) ⟨Nat.zero_le _, Nat.zero_le _⟩ dX8_with_9 (fun hb1 => ?_)
  refine ww_if_ne (pc := 12) (tgt := 17) C dX8_with_12 (by decide) (fun hc => ?_) (fun hc => ?_)
  · have hf := ifF hc hf
    refine ww_iconst (pc := 17) C dX8_with_17 kI_0 ?_
    refine ww_istore_n (pc := 18) (lv' := [(2, .int (0 : Int32)), (0, .ref q_this), (1, .int x1)]) C dX8_with_18 rfl (by decide) rfl ?_
    refine ww_iconst (pc := 19) C dX8_with_19 kI_m1 ?_
    refine ww_istore_n (pc := 20) (lv' := [(3, .int (-1 : Int32)), (2, .int (0 : Int32)), (0, .ref q_this), (1, .int x1)]) C dX8_with_20 rfl (by decide) rfl ?_
    refine ww_aload_n (pc := 21) C dX8_with_21 rfl 2 rfl ?_
    obtain ⟨v2, h2, hf⟩ := bsome hf
    refine ww_callVi0 (pc := 22) (As := []) (rest := []) C (tX8_numbers l D k q_this q_now q_text q_row q_read q_outerCell q_outerDoor q_walked q_onWalks q_far q_aside q_wasFull q_undos q_was q_kept q_isKept c_typed c_rowMany (0 : Int32) c_length c_at c_wrong c_outerMany c_walkedMany c_cameOut c_undoMany c_drawn c_now v2 h2) cv_X8_210 ⟨⟨by decide, by decide⟩, rfl, rfl⟩ 0 rfl rfl [0, 1] rfl rfl rfl rfl (Nat.le_of_ble_eq_true rfl) ⟨Nat.zero_le _, Nat.zero_le _⟩ dX8_with_22 (fun hb2 => ?_)
    refine ww_iconst (pc := 25) C dX8_with_25 kI_1 ?_
    refine ww_isub (pc := 26) C dX8_with_26  ?_
    obtain ⟨v3, h3, hf⟩ := bsome hf
    refine ww_nmi h3 ?_
    refine ww_istore (pc := 27) (lv' := [(4, .int v3), (3, .int (-1 : Int32)), (2, .int (0 : Int32)), (0, .ref q_this), (1, .int x1)]) C dX8_with_27 (by decide) rfl ?_
    exact ww_lv [3, 4, 2, 1, 0] rfl (hL29 FU c_rowMany (0 : Int32) c_row x1 (0 : Int32) (-1 : Int32) v3 hf)
  · have hf := ifT hc hf
    refine ww_iconst (pc := 15) C dX8_with_15 kI_m1 ?_
    obtain ⟨e0, e1, e2, e3⟩ := ij4 hf
    exact hret _ _ 16 _ dX8_with_16 rfl e0 (by rw [← e1, ← e2, ← e3])
def fX8_isRim_b18 (c_now : Nat → Int32) : Option Int32 := some ((1 : Int32))
def fX8_isRim (c_now : Nat → Int32) (x1 : Int32) (x2 : Int32) : Option Int32 := if x1 = 0 then fX8_isRim_b18 c_now else if x2 = 0 then fX8_isRim_b18 c_now else (fX8_n c_now).bind fun v1 => if (x1 + x2) = v1 then fX8_isRim_b18 c_now else some ((0 : Int32))
set_option maxHeartbeats 4000000 in
set_option maxRecDepth 100000 in
theorem tX8_isRim (l : Launch) (D : va_G) (k : Nat → ClassId) (q_this q_now q_text q_row q_read q_outerCell q_outerDoor q_walked q_onWalks q_far q_aside q_wasFull q_undos q_was q_kept q_isKept : Nat) (c_typed : Int32) (c_rowMany : Int32) (c_thrown : Int32) (c_length : Int32) (c_at : Int32) (c_wrong : Int32) (c_outerMany : Int32) (c_walkedMany : Int32) (c_cameOut : Int32) (c_undoMany : Int32) (c_drawn : Int32) (c_now : Nat → Int32) (x1 : Int32) (x2 : Int32) (r_ : Int32) (hf : fX8_isRim c_now x1 x2 = some (r_)) : MI l yX8_isRim cX8_isRim 3 .boolean (RM 1 20) D k [.ref q_this, .int x1, .int x2] [oX8 q_this q_now q_text c_typed q_row c_rowMany c_thrown c_length c_at c_wrong q_read q_outerCell q_outerDoor c_outerMany q_walked c_walkedMany c_cameOut q_onWalks q_far q_aside q_wasFull q_undos q_was c_undoMany c_drawn q_kept q_isKept, aI k q_now 189 c_now] r_ [oX8 q_this q_now q_text c_typed q_row c_rowMany c_thrown c_length c_at c_wrong q_read q_outerCell q_outerDoor c_outerMany q_walked c_walkedMany c_cameOut q_onWalks q_far q_aside q_wasFull q_undos q_was c_undoMany c_drawn q_kept q_isKept, aI k q_now 189 c_now] := by
  refine mkMI' (own := "DoorWalkModel") (by decide) rfl (Nat.le_of_ble_eq_true rfl) ?_
  intro p e s m args below meth c Q A hret C
  refine ww_lv (lv' := [(0, .ref q_this), (1, .int x1), (2, .int x2)]) [0, 1, 2] rfl ?_
  have hJ18 : fX8_isRim_b18 c_now = some (r_) → WW p l e (RM 1 20) s m args below meth c Q 3 D A 0 0 [oX8 q_this q_now q_text c_typed q_row c_rowMany c_thrown c_length c_at c_wrong q_read q_outerCell q_outerDoor c_outerMany q_walked c_walkedMany c_cameOut q_onWalks q_far q_aside q_wasFull q_undos q_was c_undoMany c_drawn q_kept q_isKept, aI k q_now 189 c_now] [] 18 [] := by
    intro hf
    unfold fX8_isRim_b18 at hf
    refine ww_iconst (pc := 18) C dX8_isRim_18 kI_1 ?_
    refine ww_goto (pc := 19) (tgt := 23) C dX8_isRim_19 (by decide) ?_
    obtain e0 := ij1 hf
    exact hret _ _ 23 _ dX8_isRim_23 (by decide) e0 rfl
  unfold fX8_isRim at hf
  refine ww_iload_n (pc := 0) C dX8_isRim_0 rfl 1 rfl ?_
  refine ww_if_eq (pc := 1) (tgt := 18) C dX8_isRim_1 (by decide) (fun hc => ?_) (fun hc => ?_)
  · have hf := ifT hc hf
    exact ww_lv [] rfl (hJ18  hf)
  · have hf := ifF hc hf
    refine ww_iload_n (pc := 4) C dX8_isRim_4 rfl 2 rfl ?_
    refine ww_if_eq (pc := 5) (tgt := 18) C dX8_isRim_5 (by decide) (fun hc => ?_) (fun hc => ?_)
    · have hf := ifT hc hf
      exact ww_lv [] rfl (hJ18  hf)
    · have hf := ifF hc hf
      refine ww_iload_n (pc := 8) C dX8_isRim_8 rfl 1 rfl ?_
      refine ww_iload_n (pc := 9) C dX8_isRim_9 rfl 2 rfl ?_
      refine ww_iadd (pc := 10) C dX8_isRim_10  ?_
      refine ww_aload_n (pc := 11) C dX8_isRim_11 rfl 0 rfl ?_
      obtain ⟨v1, h1, hf⟩ := bsome hf
      refine ww_callVi0 (pc := 12) (As := []) (rest := [.int (x1 + x2)]) C (tX8_n l D k q_this q_now q_text q_row q_read q_outerCell q_outerDoor q_walked q_onWalks q_far q_aside q_wasFull q_undos q_was q_kept q_isKept c_typed c_rowMany c_thrown c_length c_at c_wrong c_outerMany c_walkedMany c_cameOut c_undoMany c_drawn c_now v1 h1) cv_X8_68 ⟨⟨by decide, by decide⟩, rfl, rfl⟩ 0 rfl rfl [0, 1] rfl rfl rfl rfl (Nat.le_of_ble_eq_true rfl) ⟨Nat.zero_le _, Nat.zero_le _⟩ dX8_isRim_12 (fun hb1 => ?_)
      refine ww_icmp_ne (pc := 15) (tgt := 22) C dX8_isRim_15 (by decide) (fun hc => ?_) (fun hc => ?_)
      · have hf := ifF hc hf
        refine ww_iconst (pc := 22) C dX8_isRim_22 kI_0 ?_
        obtain e0 := ij1 hf
        exact hret _ _ 23 _ dX8_isRim_23 (by decide) e0 rfl
      · have hf := ifT hc hf
        exact ww_lv [] rfl (hJ18  hf)
def fX8_many_b86 (c_now : Nat → Int32) (rc23 : Int32 → Int32 → (Nat → Int64) → Int32 → Int32 → Int32 → Int32 → Option (Int32 × Int32 × Int32 × (Nat → Int64))) (rc35 : Int32 → Int32 → (Nat → Int64) → Int32 → Int32 → Int32 → Int32 → Int32 → Option (Int32 × Int32 × Int32 × (Nat → Int64))) (c_rowMany : Int32) (c_thrown : Int32) (c_row : Nat → Int64) (n1 : Int32) (n2 : Int32) (n4 : Int32) (n5 : Int32) (s0 : Int32) (s1 : Int32) : Option (Int32 × Int32 × Int32 × (Nat → Int64)) := (some (s0 + s1)).bind fun v1 => (some (n5 + (1 : Int32))).bind fun v2 => rc35 c_rowMany c_thrown c_row n1 n2 v1 n4 v2
def fX8_many_b35 (c_now : Nat → Int32) (rc23 : Int32 → Int32 → (Nat → Int64) → Int32 → Int32 → Int32 → Int32 → Option (Int32 × Int32 × Int32 × (Nat → Int64))) (rc35 : Int32 → Int32 → (Nat → Int64) → Int32 → Int32 → Int32 → Int32 → Int32 → Option (Int32 × Int32 × Int32 × (Nat → Int64))) (c_rowMany : Int32) (c_thrown : Int32) (c_row : Nat → Int64) (n1 : Int32) (n2 : Int32) (n3 : Int32) (n4 : Int32) (n5 : Int32) : Option (Int32 × Int32 × Int32 × (Nat → Int64)) := (fX8_n c_now).bind fun v1 => if (v1 - n4) < n5 then (some (n4 + (1 : Int32))).bind fun v2 => rc23 c_rowMany c_thrown c_row n1 n2 n3 v2 else (fX8_place c_now n4 n5).bind fun v3 => (fX8_labelAt c_now v3).bind fun v4 => if v4 = n1 then (some (n2 + (1 : Int32))).bind fun v5 => (fX8_isRim c_now n4 n5).bind fun v6 => if v6 = 0 then fX8_many_b86 c_now rc23 rc35 c_rowMany c_thrown c_row n1 v5 n4 n5 n3 (0 : Int32) else fX8_many_b86 c_now rc23 rc35 c_rowMany c_thrown c_row n1 v5 n4 n5 n3 (1 : Int32) else (some (n5 + (1 : Int32))).bind fun v7 => rc35 c_rowMany c_thrown c_row n1 n2 n3 n4 v7
def fX8_many_b23 (c_now : Nat → Int32) (rc23 : Int32 → Int32 → (Nat → Int64) → Int32 → Int32 → Int32 → Int32 → Option (Int32 × Int32 × Int32 × (Nat → Int64))) (c_rowMany : Int32) (c_thrown : Int32) (c_row : Nat → Int64) (n1 : Int32) (n2 : Int32) (n3 : Int32) (n4 : Int32) : Option (Int32 × Int32 × Int32 × (Nat → Int64)) := (fX8_n c_now).bind fun v1 => if v1 < n4 then bd2 (fX8_tell (0 : Int32) c_row ((n3).toInt64)) fun v2 v3 => some (n2, v2, c_thrown, v3) else lfix (fX8_many_b35 c_now rc23) (fun _ _ _ _ _ _ _ _ => none) FU c_rowMany c_thrown c_row n1 n2 n3 n4 (0 : Int32)
def fX8_many (c_now : Nat → Int32) (c_rowMany : Int32) (c_thrown : Int32) (c_row : Nat → Int64) (x1 : Int32) : Option (Int32 × Int32 × Int32 × (Nat → Int64)) := (fX8_in x1 (0 : Int32) (2 : Int32)).bind fun v1 => if v1 = 0 then some ((-1 : Int32), c_rowMany, (0 : Int32), c_row) else lfix (fX8_many_b23 c_now) (fun _ _ _ _ _ _ _ => none) FU c_rowMany (0 : Int32) c_row x1 (0 : Int32) (0 : Int32) (0 : Int32)
set_option maxHeartbeats 4000000 in
set_option maxRecDepth 100000 in
theorem tX8_many (l : Launch) (D : va_G) (k : Nat → ClassId) (q_this q_now q_text q_row q_read q_outerCell q_outerDoor q_walked q_onWalks q_far q_aside q_wasFull q_undos q_was q_kept q_isKept : Nat) (c_typed : Int32) (c_rowMany : Int32) (c_thrown : Int32) (c_length : Int32) (c_at : Int32) (c_wrong : Int32) (c_outerMany : Int32) (c_walkedMany : Int32) (c_cameOut : Int32) (c_undoMany : Int32) (c_drawn : Int32) (c_now : Nat → Int32) (c_row : Nat → Int64) (x1 : Int32) (r_ : Int32) (w_rowMany : Int32) (w_thrown : Int32) (w_row : Nat → Int64) (hf : fX8_many c_now c_rowMany c_thrown c_row x1 = some (r_, w_rowMany, w_thrown, w_row)) : MI l yX8_many cX8_many 6 .int (RM 2 42) D k [.ref q_this, .int x1] [oX8 q_this q_now q_text c_typed q_row c_rowMany c_thrown c_length c_at c_wrong q_read q_outerCell q_outerDoor c_outerMany q_walked c_walkedMany c_cameOut q_onWalks q_far q_aside q_wasFull q_undos q_was c_undoMany c_drawn q_kept q_isKept, aI k q_now 189 c_now, aJ k q_row 64 c_row] r_ [oX8 q_this q_now q_text c_typed q_row w_rowMany w_thrown c_length c_at c_wrong q_read q_outerCell q_outerDoor c_outerMany q_walked c_walkedMany c_cameOut q_onWalks q_far q_aside q_wasFull q_undos q_was c_undoMany c_drawn q_kept q_isKept, aI k q_now 189 c_now, aJ k q_row 64 w_row] := by
  refine mkMI' (own := "DoorWalkModel") (by decide) rfl (Nat.le_of_ble_eq_true rfl) ?_
  intro p e s m args below meth c Q A hret C
  refine ww_lv (lv' := [(0, .ref q_this), (1, .int x1)]) [0, 1] rfl ?_
  have hL23 : ∀ (n : Nat) (c_rowMany : Int32) (c_thrown : Int32) (c_row : Nat → Int64) (n1 : Int32) (n2 : Int32) (n3 : Int32) (n4 : Int32), lfix (fX8_many_b23 c_now) (fun _ _ _ _ _ _ _ => none) n c_rowMany c_thrown c_row n1 n2 n3 n4 = some (r_, w_rowMany, w_thrown, w_row) → WW p l e (RM 2 42) s m args below meth c Q 6 D A 0 0 [oX8 q_this q_now q_text c_typed q_row c_rowMany c_thrown c_length c_at c_wrong q_read q_outerCell q_outerDoor c_outerMany q_walked c_walkedMany c_cameOut q_onWalks q_far q_aside q_wasFull q_undos q_was c_undoMany c_drawn q_kept q_isKept, aI k q_now 189 c_now, aJ k q_row 64 c_row] [(0, .ref q_this), (1, .int n1), (2, .int n2), (3, .int n3), (4, .int n4)] 23 [] := by
    intro n
    induction n with
    | zero => intro c_rowMany c_thrown c_row n1 n2 n3 n4 hf; cases hf
    | succ n ih23 =>
      obtain ⟨rc23, hrc23⟩ : ∃ f9, f9 = lfix (fX8_many_b23 c_now) (fun _ _ _ _ _ _ _ => none) n := ⟨_, rfl⟩
      rw [← hrc23] at ih23
      have hL35 : ∀ (n : Nat) (c_rowMany : Int32) (c_thrown : Int32) (c_row : Nat → Int64) (n1 : Int32) (n2 : Int32) (n3 : Int32) (n4 : Int32) (n5 : Int32), lfix (fX8_many_b35 c_now rc23) (fun _ _ _ _ _ _ _ _ => none) n c_rowMany c_thrown c_row n1 n2 n3 n4 n5 = some (r_, w_rowMany, w_thrown, w_row) → WW p l e (RM 2 42) s m args below meth c Q 6 D A 0 0 [oX8 q_this q_now q_text c_typed q_row c_rowMany c_thrown c_length c_at c_wrong q_read q_outerCell q_outerDoor c_outerMany q_walked c_walkedMany c_cameOut q_onWalks q_far q_aside q_wasFull q_undos q_was c_undoMany c_drawn q_kept q_isKept, aI k q_now 189 c_now, aJ k q_row 64 c_row] [(0, .ref q_this), (1, .int n1), (2, .int n2), (3, .int n3), (4, .int n4), (5, .int n5)] 35 [] := by
        intro n
        induction n with
        | zero => intro c_rowMany c_thrown c_row n1 n2 n3 n4 n5 hf; cases hf
        | succ n ih35 =>
          obtain ⟨rc35, hrc35⟩ : ∃ f9, f9 = lfix (fX8_many_b35 c_now rc23) (fun _ _ _ _ _ _ _ _ => none) n := ⟨_, rfl⟩
          rw [← hrc35] at ih35
          have hJ86 : ∀ (c_rowMany : Int32) (c_thrown : Int32) (c_row : Nat → Int64) (n1 : Int32) (n2 : Int32) (n4 : Int32) (n5 : Int32) (s0 : Int32) (s1 : Int32), fX8_many_b86 c_now rc23 rc35 c_rowMany c_thrown c_row n1 n2 n4 n5 s0 s1 = some (r_, w_rowMany, w_thrown, w_row) → WW p l e (RM 2 42) s m args below meth c Q 6 D A 0 0 [oX8 q_this q_now q_text c_typed q_row c_rowMany c_thrown c_length c_at c_wrong q_read q_outerCell q_outerDoor c_outerMany q_walked c_walkedMany c_cameOut q_onWalks q_far q_aside q_wasFull q_undos q_was c_undoMany c_drawn q_kept q_isKept, aI k q_now 189 c_now, aJ k q_row 64 c_row] [(0, .ref q_this), (1, .int n1), (2, .int n2), (4, .int n4), (5, .int n5)] 86 [.int s1, .int s0] := by
            intro c_rowMany c_thrown c_row n1 n2 n4 n5 s0 s1
            intro hf
            unfold fX8_many_b86 at hf
            refine ww_iadd (pc := 86) C dX8_many_86  ?_
            obtain ⟨v1, h1, hf⟩ := bsome hf
            refine ww_nmi h1 ?_
            refine ww_istore_n (pc := 87) (lv' := [(3, .int v1), (0, .ref q_this), (1, .int n1), (2, .int n2), (4, .int n4), (5, .int n5)]) C dX8_many_87 rfl (by decide) rfl ?_
            obtain ⟨v2, h2, hf⟩ := bsome hf
            refine ww_iincN (pc := 88) (lv' := [(5, .int v2), (3, .int v1), (0, .ref q_this), (1, .int n1), (2, .int n2), (4, .int n4)]) (j := 5) C dX8_many_88 kI_1 rfl h2 (by decide) rfl ?_
            refine ww_goto (pc := 91) (tgt := 35) C dX8_many_91 (by decide) ?_
            exact ww_lv [2, 3, 4, 1, 5, 0] rfl (ih35 c_rowMany c_thrown c_row n1 n2 v1 n4 v2 hf)
          intro c_rowMany c_thrown c_row n1 n2 n3 n4 n5 hf
          have hf : fX8_many_b35 c_now rc23 rc35 c_rowMany c_thrown c_row n1 n2 n3 n4 n5 = some (r_, w_rowMany, w_thrown, w_row) := by rw [hrc35]; exact hf
          unfold fX8_many_b35 at hf
          refine ww_iload (pc := 35) C dX8_many_35 5 rfl ?_
          refine ww_aload_n (pc := 37) C dX8_many_37 rfl 0 rfl ?_
          obtain ⟨v1, h1, hf⟩ := bsome hf
          refine ww_callVi0 (pc := 38) (As := []) (rest := [.int n5]) C (tX8_n l D k q_this q_now q_text q_row q_read q_outerCell q_outerDoor q_walked q_onWalks q_far q_aside q_wasFull q_undos q_was q_kept q_isKept c_typed c_rowMany c_thrown c_length c_at c_wrong c_outerMany c_walkedMany c_cameOut c_undoMany c_drawn c_now v1 h1) cv_X8_68 ⟨⟨by decide, by decide⟩, rfl, rfl⟩ 0 rfl rfl [0, 1] rfl rfl rfl rfl (Nat.le_of_ble_eq_true rfl) ⟨Nat.zero_le _, Nat.zero_le _⟩ dX8_many_38 (fun hb1 => ?_)
          refine ww_iload (pc := 41) C dX8_many_41 4 rfl ?_
          refine ww_isub (pc := 43) C dX8_many_43  ?_
          refine ww_icmp_gt (pc := 44) (tgt := 94) C dX8_many_44 (by decide) (fun hc => ?_) (fun hc => ?_)
          · have hf := ifT hc hf
            obtain ⟨v2, h2, hf⟩ := bsome hf
            refine ww_iincN (pc := 94) (lv' := [(4, .int v2), (0, .ref q_this), (1, .int n1), (2, .int n2), (3, .int n3), (5, .int n5)]) (j := 4) C dX8_many_94 kI_1 rfl h2 (by decide) rfl ?_
            refine ww_goto (pc := 97) (tgt := 23) C dX8_many_97 (by decide) ?_
            exact ww_lv [1, 2, 3, 4, 0] rfl (ih23 c_rowMany c_thrown c_row n1 n2 n3 v2 hf)
          · have hf := ifF hc hf
            refine ww_aload_n (pc := 47) C dX8_many_47 rfl 0 rfl ?_
            refine ww_aload_n (pc := 48) C dX8_many_48 rfl 0 rfl ?_
            refine ww_iload (pc := 49) C dX8_many_49 4 rfl ?_
            refine ww_iload (pc := 51) C dX8_many_51 5 rfl ?_
            obtain ⟨v3, h3, hf⟩ := bsome hf
            refine ww_callVi0 (pc := 53) (As := [.int n4, .int n5]) (rest := [.ref q_this]) C (tX8_place l D k q_this q_now q_text q_row q_read q_outerCell q_outerDoor q_walked q_onWalks q_far q_aside q_wasFull q_undos q_was q_kept q_isKept c_typed c_rowMany c_thrown c_length c_at c_wrong c_outerMany c_walkedMany c_cameOut c_undoMany c_drawn c_now n4 n5 v3 h3) cv_X8_80 ⟨⟨by decide, by decide⟩, rfl, rfl⟩ 0 rfl rfl [0, 1] rfl rfl rfl rfl (Nat.le_of_ble_eq_true rfl) ⟨Nat.zero_le _, Nat.zero_le _⟩ dX8_many_53 (fun hb3 => ?_)
            obtain ⟨v4, h4, hf⟩ := bsome hf
            refine ww_callVi0 (pc := 56) (As := [.int v3]) (rest := []) C (tX8_labelAt l D k q_this q_now q_text q_row q_read q_outerCell q_outerDoor q_walked q_onWalks q_far q_aside q_wasFull q_undos q_was q_kept q_isKept c_typed c_rowMany c_thrown c_length c_at c_wrong c_outerMany c_walkedMany c_cameOut c_undoMany c_drawn c_now v3 v4 h4) cv_X8_188 ⟨⟨by decide, by decide⟩, rfl, rfl⟩ 0 rfl rfl [0, 1] rfl rfl rfl rfl (Nat.le_of_ble_eq_true rfl) ⟨Nat.zero_le _, Nat.zero_le _⟩ dX8_many_56 (fun hb4 => ?_)
            refine ww_iload_n (pc := 59) C dX8_many_59 rfl 1 rfl ?_
            refine ww_icmp_eq (pc := 60) (tgt := 66) C dX8_many_60 (by decide) (fun hc => ?_) (fun hc => ?_)
            · have hf := ifT hc hf
              obtain ⟨v5, h5, hf⟩ := bsome hf
              refine ww_iincN (pc := 66) (lv' := [(2, .int v5), (0, .ref q_this), (1, .int n1), (3, .int n3), (4, .int n4), (5, .int n5)]) (j := 2) C dX8_many_66 kI_1 rfl h5 (by decide) rfl ?_
              refine ww_iload_n (pc := 69) C dX8_many_69 rfl 3 rfl ?_
              refine ww_aload_n (pc := 70) C dX8_many_70 rfl 1 rfl ?_
              refine ww_iload (pc := 71) C dX8_many_71 4 rfl ?_
              refine ww_iload (pc := 73) C dX8_many_73 5 rfl ?_
              obtain ⟨v6, h6, hf⟩ := bsome hf
              refine ww_callVi0 (pc := 75) (As := [.int n4, .int n5]) (rest := [.int n3]) C (tX8_isRim l D k q_this q_now q_text q_row q_read q_outerCell q_outerDoor q_walked q_onWalks q_far q_aside q_wasFull q_undos q_was q_kept q_isKept c_typed c_rowMany c_thrown c_length c_at c_wrong c_outerMany c_walkedMany c_cameOut c_undoMany c_drawn c_now n4 n5 v6 h6) cv_X8_235 ⟨⟨by decide, by decide⟩, rfl, rfl⟩ 0 rfl rfl [0, 1] rfl rfl rfl rfl (Nat.le_of_ble_eq_true rfl) ⟨Nat.zero_le _, Nat.zero_le _⟩ dX8_many_75 (fun hb6 => ?_)
              refine ww_if_eq (pc := 78) (tgt := 85) C dX8_many_78 (by decide) (fun hc => ?_) (fun hc => ?_)
              · have hf := ifT hc hf
                refine ww_iconst (pc := 85) C dX8_many_85 kI_0 ?_
                exact ww_lv [1, 2, 0, 4, 5] rfl (hJ86 c_rowMany c_thrown c_row n1 v5 n4 n5 n3 (0 : Int32) hf)
              · have hf := ifF hc hf
                refine ww_iconst (pc := 81) C dX8_many_81 kI_1 ?_
                refine ww_goto (pc := 82) (tgt := 86) C dX8_many_82 (by decide) ?_
                exact ww_lv [1, 2, 0, 4, 5] rfl (hJ86 c_rowMany c_thrown c_row n1 v5 n4 n5 n3 (1 : Int32) hf)
            · have hf := ifF hc hf
              refine ww_goto (pc := 63) (tgt := 88) C dX8_many_63 (by decide) ?_
              obtain ⟨v7, h7, hf⟩ := bsome hf
              refine ww_iincN (pc := 88) (lv' := [(5, .int v7), (0, .ref q_this), (1, .int n1), (2, .int n2), (3, .int n3), (4, .int n4)]) (j := 5) C dX8_many_88 kI_1 rfl h7 (by decide) rfl ?_
              refine ww_goto (pc := 91) (tgt := 35) C dX8_many_91 (by decide) ?_
              exact ww_lv [1, 2, 3, 4, 5, 0] rfl (ih35 c_rowMany c_thrown c_row n1 n2 n3 n4 v7 hf)
      intro c_rowMany c_thrown c_row n1 n2 n3 n4 hf
      have hf : fX8_many_b23 c_now rc23 c_rowMany c_thrown c_row n1 n2 n3 n4 = some (r_, w_rowMany, w_thrown, w_row) := by rw [hrc23]; exact hf
      unfold fX8_many_b23 at hf
      refine ww_iload (pc := 23) C dX8_many_23 4 rfl ?_
      refine ww_aload_n (pc := 25) C dX8_many_25 rfl 0 rfl ?_
      obtain ⟨v1, h1, hf⟩ := bsome hf
      refine ww_callVi0 (pc := 26) (As := []) (rest := [.int n4]) C (tX8_n l D k q_this q_now q_text q_row q_read q_outerCell q_outerDoor q_walked q_onWalks q_far q_aside q_wasFull q_undos q_was q_kept q_isKept c_typed c_rowMany c_thrown c_length c_at c_wrong c_outerMany c_walkedMany c_cameOut c_undoMany c_drawn c_now v1 h1) cv_X8_68 ⟨⟨by decide, by decide⟩, rfl, rfl⟩ 0 rfl rfl [0, 1] rfl rfl rfl rfl (Nat.le_of_ble_eq_true rfl) ⟨Nat.zero_le _, Nat.zero_le _⟩ dX8_many_26 (fun hb1 => ?_)
      refine ww_icmp_gt (pc := 29) (tgt := 100) C dX8_many_29 (by decide) (fun hc => ?_) (fun hc => ?_)
      · have hf := ifT hc hf
        refine ww_aload_n (pc := 100) C dX8_many_100 rfl 0 rfl ?_
        refine ww_iconst (pc := 101) C dX8_many_101 kI_0 ?_
        refine pf8_4 (pc := 102) (ws' := [oX8 q_this q_now q_text c_typed q_row (0 : Int32) c_thrown c_length c_at c_wrong q_read q_outerCell q_outerDoor c_outerMany q_walked c_walkedMany c_cameOut q_onWalks q_far q_aside q_wasFull q_undos q_was c_undoMany c_drawn q_kept q_isKept, aI k q_now 189 c_now, aJ k q_row 64 c_row]) C kf_X8_65 0 rfl (Nat.le_of_ble_eq_true rfl) rfl dX8_many_102 ?_
        refine ww_aload_n (pc := 105) C dX8_many_105 rfl 0 rfl ?_
        refine ww_iload_n (pc := 106) C dX8_many_106 rfl 3 rfl ?_
        refine ww_i2l (pc := 107) C dX8_many_107  ?_
        obtain ⟨v2, v3, h2, hf⟩ := bd2_some hf
        refine ww_callVv (pc := 108) (ws' := [oX8 q_this q_now q_text c_typed q_row v2 c_thrown c_length c_at c_wrong q_read q_outerCell q_outerDoor c_outerMany q_walked c_walkedMany c_cameOut q_onWalks q_far q_aside q_wasFull q_undos q_was c_undoMany c_drawn q_kept q_isKept, aI k q_now 189 c_now, aJ k q_row 64 v3]) (As := [.long ((n3).toInt64)]) (rest := []) C (tX8_tell l D k q_this q_now q_text q_row q_read q_outerCell q_outerDoor q_walked q_onWalks q_far q_aside q_wasFull q_undos q_was q_kept q_isKept c_typed (0 : Int32) c_thrown c_length c_at c_wrong c_outerMany c_walkedMany c_cameOut c_undoMany c_drawn c_row ((n3).toInt64) v2 v3 h2) cv_X8_182 ⟨⟨by decide, by decide⟩, rfl, rfl⟩ 0 rfl rfl [0, 2] rfl rfl rfl rfl rfl rfl (Nat.le_of_ble_eq_true rfl) ⟨Nat.zero_le _, Nat.zero_le _⟩ dX8_many_108 ?_
        refine ww_iload_n (pc := 111) C dX8_many_111 rfl 2 rfl ?_
        obtain ⟨e0, e1, e2, e3⟩ := ij4 hf
        exact hret _ _ 112 _ dX8_many_112 rfl e0 (by rw [← e1, ← e2, ← e3])
      · have hf := ifF hc hf
        refine ww_iconst (pc := 32) C dX8_many_32 kI_0 ?_
        refine ww_istore (pc := 33) (lv' := [(5, .int (0 : Int32)), (0, .ref q_this), (1, .int n1), (2, .int n2), (3, .int n3), (4, .int n4)]) C dX8_many_33 (by decide) rfl ?_
        exact ww_lv [1, 2, 3, 4, 5, 0] rfl (hL35 FU c_rowMany c_thrown c_row n1 n2 n3 n4 (0 : Int32) hf)
  unfold fX8_many at hf
  refine ww_aload_n (pc := 0) C dX8_many_0 rfl 0 rfl ?_
  refine ww_iconst (pc := 1) C dX8_many_1 kI_0 ?_
  refine pf8_5 (pc := 2) (ws' := [oX8 q_this q_now q_text c_typed q_row c_rowMany (0 : Int32) c_length c_at c_wrong q_read q_outerCell q_outerDoor c_outerMany q_walked c_walkedMany c_cameOut q_onWalks q_far q_aside q_wasFull q_undos q_was c_undoMany c_drawn q_kept q_isKept, aI k q_now 189 c_now, aJ k q_row 64 c_row]) C kf_X8_61 0 rfl (Nat.le_of_ble_eq_true rfl) rfl dX8_many_2 ?_
  refine ww_iload_n (pc := 5) C dX8_many_5 rfl 1 rfl ?_
  refine ww_iconst (pc := 6) C dX8_many_6 kI_0 ?_
  refine ww_iconst (pc := 7) C dX8_many_7 kI_2 ?_
  obtain ⟨v1, h1, hf⟩ := bsome hf
  refine ww_callSi0 (pc := 8) (As := [.int x1, .int (0 : Int32), .int (2 : Int32)]) (rest := []) C (tX8_in l D k x1 (0 : Int32) (2 : Int32) v1 h1) cs_X8_72 ⟨⟨by decide, by decide⟩, rfl, rfl⟩ [] rfl rfl rfl rfl (Nat.le_of_ble_eq_true rfl) ⟨Nat.zero_le _, Nat.zero_le _⟩ dX8_many_8 (fun hb1 => ?_)
  refine ww_if_ne (pc := 11) (tgt := 16) C dX8_many_11 (by decide) (fun hc => ?_) (fun hc => ?_)
  · have hf := ifF hc hf
    refine ww_iconst (pc := 16) C dX8_many_16 kI_0 ?_
    refine ww_istore_n (pc := 17) (lv' := [(2, .int (0 : Int32)), (0, .ref q_this), (1, .int x1)]) C dX8_many_17 rfl (by decide) rfl ?_
    refine ww_iconst (pc := 18) C dX8_many_18 kI_0 ?_
    refine ww_istore_n (pc := 19) (lv' := [(3, .int (0 : Int32)), (2, .int (0 : Int32)), (0, .ref q_this), (1, .int x1)]) C dX8_many_19 rfl (by decide) rfl ?_
    refine ww_iconst (pc := 20) C dX8_many_20 kI_0 ?_
    refine ww_istore (pc := 21) (lv' := [(4, .int (0 : Int32)), (3, .int (0 : Int32)), (2, .int (0 : Int32)), (0, .ref q_this), (1, .int x1)]) C dX8_many_21 (by decide) rfl ?_
    exact ww_lv [3, 4, 2, 1, 0] rfl (hL23 FU c_rowMany (0 : Int32) c_row x1 (0 : Int32) (0 : Int32) (0 : Int32) hf)
  · have hf := ifT hc hf
    refine ww_iconst (pc := 14) C dX8_many_14 kI_m1 ?_
    obtain ⟨e0, e1, e2, e3⟩ := ij4 hf
    exact hret _ _ 15 _ dX8_many_15 rfl e0 (by rw [← e1, ← e2, ← e3])
def fX8_isDoor (c_now : Nat → Int32) (x1 : Int32) (x2 : Int32) (x3 : Int32) : Option Int32 := (fX8_cornerLabel c_now x1 ((x2 + (1 : Int32)) - (x2 + (1 : Int32)) / (3 : Int32) * (3 : Int32))).bind fun v1 => (fX8_cornerLabel c_now x1 ((x2 + (2 : Int32)) - (x2 + (2 : Int32)) / (3 : Int32) * (3 : Int32))).bind fun v2 => if v1 = v2 then some ((0 : Int32)) else if v1 = x3 then some ((0 : Int32)) else if v2 = x3 then some ((0 : Int32)) else some ((1 : Int32))
set_option maxHeartbeats 4000000 in
set_option maxRecDepth 100000 in
theorem tX8_isDoor (l : Launch) (D : va_G) (k : Nat → ClassId) (q_this q_now q_text q_row q_read q_outerCell q_outerDoor q_walked q_onWalks q_far q_aside q_wasFull q_undos q_was q_kept q_isKept : Nat) (c_typed : Int32) (c_rowMany : Int32) (c_thrown : Int32) (c_length : Int32) (c_at : Int32) (c_wrong : Int32) (c_outerMany : Int32) (c_walkedMany : Int32) (c_cameOut : Int32) (c_undoMany : Int32) (c_drawn : Int32) (c_now : Nat → Int32) (x1 : Int32) (x2 : Int32) (x3 : Int32) (r_ : Int32) (hf : fX8_isDoor c_now x1 x2 x3 = some (r_)) : MI l yX8_isDoor cX8_isDoor 6 .boolean (RM 4 88) D k [.ref q_this, .int x1, .int x2, .int x3] [oX8 q_this q_now q_text c_typed q_row c_rowMany c_thrown c_length c_at c_wrong q_read q_outerCell q_outerDoor c_outerMany q_walked c_walkedMany c_cameOut q_onWalks q_far q_aside q_wasFull q_undos q_was c_undoMany c_drawn q_kept q_isKept, aI k q_now 189 c_now] r_ [oX8 q_this q_now q_text c_typed q_row c_rowMany c_thrown c_length c_at c_wrong q_read q_outerCell q_outerDoor c_outerMany q_walked c_walkedMany c_cameOut q_onWalks q_far q_aside q_wasFull q_undos q_was c_undoMany c_drawn q_kept q_isKept, aI k q_now 189 c_now] := by
  refine mkMI' (own := "DoorWalkModel") (by decide) rfl (Nat.le_of_ble_eq_true rfl) ?_
  intro p e s m args below meth c Q A hret C
  refine ww_lv (lv' := [(0, .ref q_this), (1, .int x1), (2, .int x2), (3, .int x3)]) [0, 1, 2, 3] rfl ?_
  unfold fX8_isDoor at hf
  refine ww_aload_n (pc := 0) C dX8_isDoor_0 rfl 0 rfl ?_
  refine ww_iload_n (pc := 1) C dX8_isDoor_1 rfl 1 rfl ?_
  refine ww_iload_n (pc := 2) C dX8_isDoor_2 rfl 2 rfl ?_
  refine ww_iconst (pc := 3) C dX8_isDoor_3 kI_1 ?_
  refine ww_iadd (pc := 4) C dX8_isDoor_4  ?_
  refine ww_iconst (pc := 5) C dX8_isDoor_5 kI_3 ?_
  refine ww_iremC (pc := 6) C dX8_isDoor_6 (by decide) ?_
  obtain ⟨v1, h1, hf⟩ := bsome hf
  refine ww_callVi0 (pc := 7) (As := [.int x1, .int ((x2 + (1 : Int32)) - (x2 + (1 : Int32)) / (3 : Int32) * (3 : Int32))]) (rest := []) C (tX8_cornerLabel l D k q_this q_now q_text q_row q_read q_outerCell q_outerDoor q_walked q_onWalks q_far q_aside q_wasFull q_undos q_was q_kept q_isKept c_typed c_rowMany c_thrown c_length c_at c_wrong c_outerMany c_walkedMany c_cameOut c_undoMany c_drawn c_now x1 ((x2 + (1 : Int32)) - (x2 + (1 : Int32)) / (3 : Int32) * (3 : Int32)) v1 h1) cv_X8_200 ⟨⟨by decide, by decide⟩, rfl, rfl⟩ 0 rfl rfl [0, 1] rfl rfl rfl rfl (Nat.le_of_ble_eq_true rfl) ⟨Nat.zero_le _, Nat.zero_le _⟩ dX8_isDoor_7 (fun hb1 => ?_)
  refine ww_istore (pc := 10) (lv' := [(4, .int v1), (0, .ref q_this), (1, .int x1), (2, .int x2), (3, .int x3)]) C dX8_isDoor_10 (by decide) rfl ?_
  refine ww_aload_n (pc := 12) C dX8_isDoor_12 rfl 1 rfl ?_
  refine ww_iload_n (pc := 13) C dX8_isDoor_13 rfl 2 rfl ?_
  refine ww_iload_n (pc := 14) C dX8_isDoor_14 rfl 3 rfl ?_
  refine ww_iconst (pc := 15) C dX8_isDoor_15 kI_2 ?_
  refine ww_iadd (pc := 16) C dX8_isDoor_16  ?_
  refine ww_iconst (pc := 17) C dX8_isDoor_17 kI_3 ?_
  refine ww_iremC (pc := 18) C dX8_isDoor_18 (by decide) ?_
  obtain ⟨v2, h2, hf⟩ := bsome hf
  refine ww_callVi0 (pc := 19) (As := [.int x1, .int ((x2 + (2 : Int32)) - (x2 + (2 : Int32)) / (3 : Int32) * (3 : Int32))]) (rest := []) C (tX8_cornerLabel l D k q_this q_now q_text q_row q_read q_outerCell q_outerDoor q_walked q_onWalks q_far q_aside q_wasFull q_undos q_was q_kept q_isKept c_typed c_rowMany c_thrown c_length c_at c_wrong c_outerMany c_walkedMany c_cameOut c_undoMany c_drawn c_now x1 ((x2 + (2 : Int32)) - (x2 + (2 : Int32)) / (3 : Int32) * (3 : Int32)) v2 h2) cv_X8_200 ⟨⟨by decide, by decide⟩, rfl, rfl⟩ 0 rfl rfl [0, 1] rfl rfl rfl rfl (Nat.le_of_ble_eq_true rfl) ⟨Nat.zero_le _, Nat.zero_le _⟩ dX8_isDoor_19 (fun hb2 => ?_)
  refine ww_istore (pc := 22) (lv' := [(5, .int v2), (4, .int v1), (0, .ref q_this), (1, .int x1), (2, .int x2), (3, .int x3)]) C dX8_isDoor_22 (by decide) rfl ?_
  refine ww_iload (pc := 24) C dX8_isDoor_24 1 rfl ?_
  refine ww_iload (pc := 26) C dX8_isDoor_26 0 rfl ?_
  refine ww_icmp_eq (pc := 28) (tgt := 47) C dX8_isDoor_28 (by decide) (fun hc => ?_) (fun hc => ?_)
  · have hf := ifT hc hf
    refine ww_iconst (pc := 47) C dX8_isDoor_47 kI_0 ?_
    obtain e0 := ij1 hf
    exact hret _ _ 48 _ dX8_isDoor_48 (by decide) e0 rfl
  · have hf := ifF hc hf
    refine ww_iload (pc := 31) C dX8_isDoor_31 1 rfl ?_
    refine ww_iload_n (pc := 33) C dX8_isDoor_33 rfl 5 rfl ?_
    refine ww_icmp_eq (pc := 34) (tgt := 47) C dX8_isDoor_34 (by decide) (fun hc => ?_) (fun hc => ?_)
    · have hf := ifT hc hf
      refine ww_iconst (pc := 47) C dX8_isDoor_47 kI_0 ?_
      obtain e0 := ij1 hf
      exact hret _ _ 48 _ dX8_isDoor_48 (by decide) e0 rfl
    · have hf := ifF hc hf
      refine ww_iload (pc := 37) C dX8_isDoor_37 0 rfl ?_
      refine ww_iload_n (pc := 39) C dX8_isDoor_39 rfl 5 rfl ?_
      refine ww_icmp_eq (pc := 40) (tgt := 47) C dX8_isDoor_40 (by decide) (fun hc => ?_) (fun hc => ?_)
      · have hf := ifT hc hf
        refine ww_iconst (pc := 47) C dX8_isDoor_47 kI_0 ?_
        obtain e0 := ij1 hf
        exact hret _ _ 48 _ dX8_isDoor_48 (by decide) e0 rfl
      · have hf := ifF hc hf
        refine ww_iconst (pc := 43) C dX8_isDoor_43 kI_1 ?_
        refine ww_goto (pc := 44) (tgt := 48) C dX8_isDoor_44 (by decide) ?_
        obtain e0 := ij1 hf
        exact hret _ _ 48 _ dX8_isDoor_48 (by decide) e0 rfl
def fX8_doorMany_b28 (c_now : Nat → Int32) (rc5 : Int32 → Int32 → Int32 → Int32 → Option Int32) (n1 : Int32) (n2 : Int32) (n4 : Int32) (s0 : Int32) (s1 : Int32) : Option Int32 := (some (s0 + s1)).bind fun v1 => (some (n4 + (1 : Int32))).bind fun v2 => rc5 n1 n2 v1 v2
def fX8_doorMany_b5 (c_now : Nat → Int32) (rc5 : Int32 → Int32 → Int32 → Int32 → Option Int32) (n1 : Int32) (n2 : Int32) (n3 : Int32) (n4 : Int32) : Option Int32 := if (3 : Int32) ≤ n4 then some (n3) else (fX8_isDoor c_now n1 n4 n2).bind fun v1 => if v1 = 0 then fX8_doorMany_b28 c_now rc5 n1 n2 n4 n3 (0 : Int32) else fX8_doorMany_b28 c_now rc5 n1 n2 n4 n3 (1 : Int32)
def fX8_doorMany (c_now : Nat → Int32) (x1 : Int32) (x2 : Int32) : Option Int32 := lfix (fX8_doorMany_b5 c_now) (fun _ _ _ _ => none) FU x1 x2 (0 : Int32) (0 : Int32)
set_option maxHeartbeats 4000000 in
set_option maxRecDepth 100000 in
theorem tX8_doorMany (l : Launch) (D : va_G) (k : Nat → ClassId) (q_this q_now q_text q_row q_read q_outerCell q_outerDoor q_walked q_onWalks q_far q_aside q_wasFull q_undos q_was q_kept q_isKept : Nat) (c_typed : Int32) (c_rowMany : Int32) (c_thrown : Int32) (c_length : Int32) (c_at : Int32) (c_wrong : Int32) (c_outerMany : Int32) (c_walkedMany : Int32) (c_cameOut : Int32) (c_undoMany : Int32) (c_drawn : Int32) (c_now : Nat → Int32) (x1 : Int32) (x2 : Int32) (r_ : Int32) (hf : fX8_doorMany c_now x1 x2 = some (r_)) : MI l yX8_doorMany cX8_doorMany 5 .int (RM 5 113) D k [.ref q_this, .int x1, .int x2] [oX8 q_this q_now q_text c_typed q_row c_rowMany c_thrown c_length c_at c_wrong q_read q_outerCell q_outerDoor c_outerMany q_walked c_walkedMany c_cameOut q_onWalks q_far q_aside q_wasFull q_undos q_was c_undoMany c_drawn q_kept q_isKept, aI k q_now 189 c_now] r_ [oX8 q_this q_now q_text c_typed q_row c_rowMany c_thrown c_length c_at c_wrong q_read q_outerCell q_outerDoor c_outerMany q_walked c_walkedMany c_cameOut q_onWalks q_far q_aside q_wasFull q_undos q_was c_undoMany c_drawn q_kept q_isKept, aI k q_now 189 c_now] := by
  refine mkMI' (own := "DoorWalkModel") (by decide) rfl (Nat.le_of_ble_eq_true rfl) ?_
  intro p e s m args below meth c Q A hret C
  refine ww_lv (lv' := [(0, .ref q_this), (1, .int x1), (2, .int x2)]) [0, 1, 2] rfl ?_
  have hL5 : ∀ (n : Nat) (n1 : Int32) (n2 : Int32) (n3 : Int32) (n4 : Int32), lfix (fX8_doorMany_b5 c_now) (fun _ _ _ _ => none) n n1 n2 n3 n4 = some (r_) → WW p l e (RM 5 113) s m args below meth c Q 5 D A 0 0 [oX8 q_this q_now q_text c_typed q_row c_rowMany c_thrown c_length c_at c_wrong q_read q_outerCell q_outerDoor c_outerMany q_walked c_walkedMany c_cameOut q_onWalks q_far q_aside q_wasFull q_undos q_was c_undoMany c_drawn q_kept q_isKept, aI k q_now 189 c_now] [(0, .ref q_this), (1, .int n1), (2, .int n2), (3, .int n3), (4, .int n4)] 5 [] := by
    intro n
    induction n with
    | zero => intro n1 n2 n3 n4 hf; cases hf
    | succ n ih5 =>
      obtain ⟨rc5, hrc5⟩ : ∃ f9, f9 = lfix (fX8_doorMany_b5 c_now) (fun _ _ _ _ => none) n := ⟨_, rfl⟩
      rw [← hrc5] at ih5
      have hJ28 : ∀ (n1 : Int32) (n2 : Int32) (n4 : Int32) (s0 : Int32) (s1 : Int32), fX8_doorMany_b28 c_now rc5 n1 n2 n4 s0 s1 = some (r_) → WW p l e (RM 5 113) s m args below meth c Q 5 D A 0 0 [oX8 q_this q_now q_text c_typed q_row c_rowMany c_thrown c_length c_at c_wrong q_read q_outerCell q_outerDoor c_outerMany q_walked c_walkedMany c_cameOut q_onWalks q_far q_aside q_wasFull q_undos q_was c_undoMany c_drawn q_kept q_isKept, aI k q_now 189 c_now] [(0, .ref q_this), (1, .int n1), (2, .int n2), (4, .int n4)] 28 [.int s1, .int s0] := by
        intro n1 n2 n4 s0 s1
        intro hf
        unfold fX8_doorMany_b28 at hf
        refine ww_iadd (pc := 28) C dX8_doorMany_28  ?_
        obtain ⟨v1, h1, hf⟩ := bsome hf
        refine ww_nmi h1 ?_
        refine ww_istore_n (pc := 29) (lv' := [(3, .int v1), (0, .ref q_this), (1, .int n1), (2, .int n2), (4, .int n4)]) C dX8_doorMany_29 rfl (by decide) rfl ?_
        obtain ⟨v2, h2, hf⟩ := bsome hf
        refine ww_iincN (pc := 30) (lv' := [(4, .int v2), (3, .int v1), (0, .ref q_this), (1, .int n1), (2, .int n2)]) (j := 4) C dX8_doorMany_30 kI_1 rfl h2 (by decide) rfl ?_
        refine ww_goto (pc := 33) (tgt := 5) C dX8_doorMany_33 (by decide) ?_
        exact ww_lv [2, 3, 4, 1, 0] rfl (ih5 n1 n2 v1 v2 hf)
      intro n1 n2 n3 n4 hf
      have hf : fX8_doorMany_b5 c_now rc5 n1 n2 n3 n4 = some (r_) := by rw [hrc5]; exact hf
      unfold fX8_doorMany_b5 at hf
      refine ww_iload (pc := 5) C dX8_doorMany_5 4 rfl ?_
      refine ww_iconst (pc := 7) C dX8_doorMany_7 kI_3 ?_
      refine ww_icmp_ge (pc := 8) (tgt := 36) C dX8_doorMany_8 (by decide) (fun hc => ?_) (fun hc => ?_)
      · have hf := ifT hc hf
        refine ww_iload_n (pc := 36) C dX8_doorMany_36 rfl 3 rfl ?_
        obtain e0 := ij1 hf
        exact hret _ _ 37 _ dX8_doorMany_37 rfl e0 rfl
      · have hf := ifF hc hf
        refine ww_iload_n (pc := 11) C dX8_doorMany_11 rfl 3 rfl ?_
        refine ww_aload_n (pc := 12) C dX8_doorMany_12 rfl 0 rfl ?_
        refine ww_iload_n (pc := 13) C dX8_doorMany_13 rfl 1 rfl ?_
        refine ww_iload (pc := 14) C dX8_doorMany_14 4 rfl ?_
        refine ww_iload_n (pc := 16) C dX8_doorMany_16 rfl 2 rfl ?_
        obtain ⟨v1, h1, hf⟩ := bsome hf
        refine ww_callVi0 (pc := 17) (As := [.int n1, .int n4, .int n2]) (rest := [.int n3]) C (tX8_isDoor l D k q_this q_now q_text q_row q_read q_outerCell q_outerDoor q_walked q_onWalks q_far q_aside q_wasFull q_undos q_was q_kept q_isKept c_typed c_rowMany c_thrown c_length c_at c_wrong c_outerMany c_walkedMany c_cameOut c_undoMany c_drawn c_now n1 n4 n2 v1 h1) cv_X8_238 ⟨⟨by decide, by decide⟩, rfl, rfl⟩ 0 rfl rfl [0, 1] rfl rfl rfl rfl (Nat.le_of_ble_eq_true rfl) ⟨Nat.zero_le _, Nat.zero_le _⟩ dX8_doorMany_17 (fun hb1 => ?_)
        refine ww_if_eq (pc := 20) (tgt := 27) C dX8_doorMany_20 (by decide) (fun hc => ?_) (fun hc => ?_)
        · have hf := ifT hc hf
          refine ww_iconst (pc := 27) C dX8_doorMany_27 kI_0 ?_
          exact ww_lv [0, 1, 2, 4] rfl (hJ28 n1 n2 n4 n3 (0 : Int32) hf)
        · have hf := ifF hc hf
          refine ww_iconst (pc := 23) C dX8_doorMany_23 kI_1 ?_
          refine ww_goto (pc := 24) (tgt := 28) C dX8_doorMany_24 (by decide) ?_
          exact ww_lv [0, 1, 2, 4] rfl (hJ28 n1 n2 n4 n3 (1 : Int32) hf)
  unfold fX8_doorMany at hf
  refine ww_iconst (pc := 0) C dX8_doorMany_0 kI_0 ?_
  refine ww_istore_n (pc := 1) (lv' := [(3, .int (0 : Int32)), (0, .ref q_this), (1, .int x1), (2, .int x2)]) C dX8_doorMany_1 rfl (by decide) rfl ?_
  refine ww_iconst (pc := 2) C dX8_doorMany_2 kI_0 ?_
  refine ww_istore (pc := 3) (lv' := [(4, .int (0 : Int32)), (3, .int (0 : Int32)), (0, .ref q_this), (1, .int x1), (2, .int x2)]) C dX8_doorMany_3 (by decide) rfl ?_
  exact ww_lv [2, 3, 4, 1, 0] rfl (hL5 FU x1 x2 (0 : Int32) (0 : Int32) hf)
def fX8_beyond_b98 (c_now : Nat → Int32) (n5 : Int32) (n7 : Int32) (n8 : Int32) (s0 : Int32) (s1 : Int32) (s2 : Int32) : Option Int32 := if s0 ≤ (s1 - s2) then (fX8_n c_now).bind fun v1 => if n5 = 0 then some ((((2 : Int32) * ((v1 * n7) + n8)) + (0 : Int32))) else some ((((2 : Int32) * ((v1 * n7) + n8)) + (1 : Int32))) else some ((-1 : Int32))
def fX8_beyond_b66 (c_now : Nat → Int32) (n5 : Int32) (n7 : Int32) (s0 : Int32) (s1 : Int32) : Option Int32 := (some (s0 + s1)).bind fun v1 => if n7 < 0 then some ((-1 : Int32)) else if v1 < 0 then some ((-1 : Int32)) else (fX8_n c_now).bind fun v2 => if n5 = 0 then fX8_beyond_b98 c_now n5 n7 v1 (n7 + v1) v2 (1 : Int32) else fX8_beyond_b98 c_now n5 n7 v1 (n7 + v1) v2 (2 : Int32)
def fX8_beyond_b50 (c_now : Nat → Int32) (n2 : Int32) (n4 : Int32) (n5 : Int32) (n6 : Int32) (s0 : Int32) (s1 : Int32) : Option Int32 := (some (s0 + s1)).bind fun v1 => if n2 = (2 : Int32) then fX8_beyond_b66 c_now n5 v1 n4 n6 else fX8_beyond_b66 c_now n5 v1 n4 (0 : Int32)
def fX8_beyond_b36 (c_now : Nat → Int32) (n2 : Int32) (n3 : Int32) (n4 : Int32) (n5 : Int32) (s0 : Int32) : Option Int32 := if n2 = (1 : Int32) then fX8_beyond_b50 c_now n2 n4 n5 s0 n3 s0 else fX8_beyond_b50 c_now n2 n4 n5 s0 n3 (0 : Int32)
def fX8_beyond_b24 (c_now : Nat → Int32) (n2 : Int32) (n3 : Int32) (n4 : Int32) (s0 : Int32) : Option Int32 := if s0 = 0 then fX8_beyond_b36 c_now n2 n3 n4 s0 (1 : Int32) else fX8_beyond_b36 c_now n2 n3 n4 s0 (-1 : Int32)
def fX8_beyond (c_now : Nat → Int32) (x1 : Int32) (x2 : Int32) : Option Int32 := (fX8_cellI c_now x1).bind fun v1 => (fX8_cellJ c_now x1).bind fun v2 => if (x1 - x1 / (2 : Int32) * (2 : Int32)) = 0 then fX8_beyond_b24 c_now x2 v1 v2 (1 : Int32) else fX8_beyond_b24 c_now x2 v1 v2 (0 : Int32)
set_option maxHeartbeats 4000000 in
set_option maxRecDepth 100000 in
theorem tX8_beyond (l : Launch) (D : va_G) (k : Nat → ClassId) (q_this q_now q_text q_row q_read q_outerCell q_outerDoor q_walked q_onWalks q_far q_aside q_wasFull q_undos q_was q_kept q_isKept : Nat) (c_typed : Int32) (c_rowMany : Int32) (c_thrown : Int32) (c_length : Int32) (c_at : Int32) (c_wrong : Int32) (c_outerMany : Int32) (c_walkedMany : Int32) (c_cameOut : Int32) (c_undoMany : Int32) (c_drawn : Int32) (c_now : Nat → Int32) (x1 : Int32) (x2 : Int32) (r_ : Int32) (hf : fX8_beyond c_now x1 x2 = some (r_)) : MI l yX8_beyond cX8_beyond 9 .int (RM 2 41) D k [.ref q_this, .int x1, .int x2] [oX8 q_this q_now q_text c_typed q_row c_rowMany c_thrown c_length c_at c_wrong q_read q_outerCell q_outerDoor c_outerMany q_walked c_walkedMany c_cameOut q_onWalks q_far q_aside q_wasFull q_undos q_was c_undoMany c_drawn q_kept q_isKept, aI k q_now 189 c_now] r_ [oX8 q_this q_now q_text c_typed q_row c_rowMany c_thrown c_length c_at c_wrong q_read q_outerCell q_outerDoor c_outerMany q_walked c_walkedMany c_cameOut q_onWalks q_far q_aside q_wasFull q_undos q_was c_undoMany c_drawn q_kept q_isKept, aI k q_now 189 c_now] := by
  refine mkMI' (own := "DoorWalkModel") (by decide) rfl (Nat.le_of_ble_eq_true rfl) ?_
  intro p e s m args below meth c Q A hret C
  refine ww_lv (lv' := [(0, .ref q_this), (1, .int x1), (2, .int x2)]) [0, 1, 2] rfl ?_
  have hJ98 : ∀ (n5 : Int32) (n7 : Int32) (n8 : Int32) (s0 : Int32) (s1 : Int32) (s2 : Int32), fX8_beyond_b98 c_now n5 n7 n8 s0 s1 s2 = some (r_) → WW p l e (RM 2 41) s m args below meth c Q 9 D A 0 0 [oX8 q_this q_now q_text c_typed q_row c_rowMany c_thrown c_length c_at c_wrong q_read q_outerCell q_outerDoor c_outerMany q_walked c_walkedMany c_cameOut q_onWalks q_far q_aside q_wasFull q_undos q_was c_undoMany c_drawn q_kept q_isKept, aI k q_now 189 c_now] [(0, .ref q_this), (5, .int n5), (7, .int n7), (8, .int n8)] 98 [.int s2, .int s1, .int s0] := by
    intro n5 n7 n8 s0 s1 s2
    intro hf
    unfold fX8_beyond_b98 at hf
    refine ww_isub (pc := 98) C dX8_beyond_98  ?_
    refine ww_icmp_le (pc := 99) (tgt := 104) C dX8_beyond_99 (by decide) (fun hc => ?_) (fun hc => ?_)
    · have hf := ifT hc hf
      refine ww_iconst (pc := 104) C dX8_beyond_104 kI_2 ?_
      refine ww_aload_n (pc := 105) C dX8_beyond_105 rfl 0 rfl ?_
      obtain ⟨v1, h1, hf⟩ := bsome hf
      refine ww_callVi0 (pc := 106) (As := []) (rest := [.int (2 : Int32)]) C (tX8_n l D k q_this q_now q_text q_row q_read q_outerCell q_outerDoor q_walked q_onWalks q_far q_aside q_wasFull q_undos q_was q_kept q_isKept c_typed c_rowMany c_thrown c_length c_at c_wrong c_outerMany c_walkedMany c_cameOut c_undoMany c_drawn c_now v1 h1) cv_X8_68 ⟨⟨by decide, by decide⟩, rfl, rfl⟩ 0 rfl rfl [0, 1] rfl rfl rfl rfl (Nat.le_of_ble_eq_true rfl) ⟨Nat.zero_le _, Nat.zero_le _⟩ dX8_beyond_106 (fun hb1 => ?_)
      refine ww_iload (pc := 109) C dX8_beyond_109 2 rfl ?_
      refine ww_imul (pc := 111) C dX8_beyond_111  ?_
      refine ww_iload (pc := 112) C dX8_beyond_112 3 rfl ?_
      refine ww_iadd (pc := 114) C dX8_beyond_114  ?_
      refine ww_imul (pc := 115) C dX8_beyond_115  ?_
      refine ww_iload (pc := 116) C dX8_beyond_116 1 rfl ?_
      refine ww_if_eq (pc := 118) (tgt := 125) C dX8_beyond_118 (by decide) (fun hc => ?_) (fun hc => ?_)
      · have hf := ifT hc hf
        refine ww_iconst (pc := 125) C dX8_beyond_125 kI_0 ?_
        refine ww_iadd (pc := 126) C dX8_beyond_126  ?_
        obtain e0 := ij1 hf
        exact hret _ _ 127 _ dX8_beyond_127 rfl e0 rfl
      · have hf := ifF hc hf
        refine ww_iconst (pc := 121) C dX8_beyond_121 kI_1 ?_
        refine ww_goto (pc := 122) (tgt := 126) C dX8_beyond_122 (by decide) ?_
        refine ww_iadd (pc := 126) C dX8_beyond_126  ?_
        obtain e0 := ij1 hf
        exact hret _ _ 127 _ dX8_beyond_127 rfl e0 rfl
    · have hf := ifF hc hf
      refine ww_iconst (pc := 102) C dX8_beyond_102 kI_m1 ?_
      obtain e0 := ij1 hf
      exact hret _ _ 103 _ dX8_beyond_103 rfl e0 rfl
  have hJ66 : ∀ (n5 : Int32) (n7 : Int32) (s0 : Int32) (s1 : Int32), fX8_beyond_b66 c_now n5 n7 s0 s1 = some (r_) → WW p l e (RM 2 41) s m args below meth c Q 9 D A 0 0 [oX8 q_this q_now q_text c_typed q_row c_rowMany c_thrown c_length c_at c_wrong q_read q_outerCell q_outerDoor c_outerMany q_walked c_walkedMany c_cameOut q_onWalks q_far q_aside q_wasFull q_undos q_was c_undoMany c_drawn q_kept q_isKept, aI k q_now 189 c_now] [(0, .ref q_this), (5, .int n5), (7, .int n7)] 66 [.int s1, .int s0] := by
    intro n5 n7 s0 s1
    intro hf
    unfold fX8_beyond_b66 at hf
    refine ww_iadd (pc := 66) C dX8_beyond_66  ?_
    obtain ⟨v1, h1, hf⟩ := bsome hf
    refine ww_nmi h1 ?_
    refine ww_istore (pc := 67) (lv' := [(8, .int v1), (0, .ref q_this), (5, .int n5), (7, .int n7)]) C dX8_beyond_67 (by decide) rfl ?_
    refine ww_iload (pc := 69) C dX8_beyond_69 3 rfl ?_
    refine ww_if_lt (pc := 71) (tgt := 102) C dX8_beyond_71 (by decide) (fun hc => ?_) (fun hc => ?_)
    · have hf := ifT hc hf
      refine ww_iconst (pc := 102) C dX8_beyond_102 kI_m1 ?_
      obtain e0 := ij1 hf
      exact hret _ _ 103 _ dX8_beyond_103 rfl e0 rfl
    · have hf := ifF hc hf
      refine ww_iload (pc := 74) C dX8_beyond_74 0 rfl ?_
      refine ww_if_lt (pc := 76) (tgt := 102) C dX8_beyond_76 (by decide) (fun hc => ?_) (fun hc => ?_)
      · have hf := ifT hc hf
        refine ww_iconst (pc := 102) C dX8_beyond_102 kI_m1 ?_
        obtain e0 := ij1 hf
        exact hret _ _ 103 _ dX8_beyond_103 rfl e0 rfl
      · have hf := ifF hc hf
        refine ww_iload (pc := 79) C dX8_beyond_79 3 rfl ?_
        refine ww_iload (pc := 81) C dX8_beyond_81 0 rfl ?_
        refine ww_iadd (pc := 83) C dX8_beyond_83  ?_
        refine ww_aload_n (pc := 84) C dX8_beyond_84 rfl 1 rfl ?_
        obtain ⟨v2, h2, hf⟩ := bsome hf
        refine ww_callVi0 (pc := 85) (As := []) (rest := [.int (n7 + v1)]) C (tX8_n l D k q_this q_now q_text q_row q_read q_outerCell q_outerDoor q_walked q_onWalks q_far q_aside q_wasFull q_undos q_was q_kept q_isKept c_typed c_rowMany c_thrown c_length c_at c_wrong c_outerMany c_walkedMany c_cameOut c_undoMany c_drawn c_now v2 h2) cv_X8_68 ⟨⟨by decide, by decide⟩, rfl, rfl⟩ 0 rfl rfl [0, 1] rfl rfl rfl rfl (Nat.le_of_ble_eq_true rfl) ⟨Nat.zero_le _, Nat.zero_le _⟩ dX8_beyond_85 (fun hb2 => ?_)
        refine ww_iload (pc := 88) C dX8_beyond_88 2 rfl ?_
        refine ww_if_eq (pc := 90) (tgt := 97) C dX8_beyond_90 (by decide) (fun hc => ?_) (fun hc => ?_)
        · have hf := ifT hc hf
          refine ww_iconst (pc := 97) C dX8_beyond_97 kI_1 ?_
          exact ww_lv [1, 2, 3, 0] rfl (hJ98 n5 n7 v1 (n7 + v1) v2 (1 : Int32) hf)
        · have hf := ifF hc hf
          refine ww_iconst (pc := 93) C dX8_beyond_93 kI_2 ?_
          refine ww_goto (pc := 94) (tgt := 98) C dX8_beyond_94 (by decide) ?_
          exact ww_lv [1, 2, 3, 0] rfl (hJ98 n5 n7 v1 (n7 + v1) v2 (2 : Int32) hf)
  have hJ50 : ∀ (n2 : Int32) (n4 : Int32) (n5 : Int32) (n6 : Int32) (s0 : Int32) (s1 : Int32), fX8_beyond_b50 c_now n2 n4 n5 n6 s0 s1 = some (r_) → WW p l e (RM 2 41) s m args below meth c Q 9 D A 0 0 [oX8 q_this q_now q_text c_typed q_row c_rowMany c_thrown c_length c_at c_wrong q_read q_outerCell q_outerDoor c_outerMany q_walked c_walkedMany c_cameOut q_onWalks q_far q_aside q_wasFull q_undos q_was c_undoMany c_drawn q_kept q_isKept, aI k q_now 189 c_now] [(0, .ref q_this), (2, .int n2), (4, .int n4), (5, .int n5), (6, .int n6)] 50 [.int s1, .int s0] := by
    intro n2 n4 n5 n6 s0 s1
    intro hf
    unfold fX8_beyond_b50 at hf
    refine ww_iadd (pc := 50) C dX8_beyond_50  ?_
    obtain ⟨v1, h1, hf⟩ := bsome hf
    refine ww_nmi h1 ?_
    refine ww_istore (pc := 51) (lv' := [(7, .int v1), (0, .ref q_this), (2, .int n2), (4, .int n4), (5, .int n5), (6, .int n6)]) C dX8_beyond_51 (by decide) rfl ?_
    refine ww_iload (pc := 53) C dX8_beyond_53 3 rfl ?_
    refine ww_iload_n (pc := 55) C dX8_beyond_55 rfl 2 rfl ?_
    refine ww_iconst (pc := 56) C dX8_beyond_56 kI_2 ?_
    refine ww_icmp_ne (pc := 57) (tgt := 65) C dX8_beyond_57 (by decide) (fun hc => ?_) (fun hc => ?_)
    · have hf := ifF hc hf
      refine ww_iconst (pc := 65) C dX8_beyond_65 kI_0 ?_
      exact ww_lv [1, 4, 0] rfl (hJ66 n5 v1 n4 (0 : Int32) hf)
    · have hf := ifT hc hf
      refine ww_iload (pc := 60) C dX8_beyond_60 5 rfl ?_
      refine ww_goto (pc := 62) (tgt := 66) C dX8_beyond_62 (by decide) ?_
      exact ww_lv [1, 4, 0] rfl (hJ66 n5 v1 n4 n6 hf)
  have hJ36 : ∀ (n2 : Int32) (n3 : Int32) (n4 : Int32) (n5 : Int32) (s0 : Int32), fX8_beyond_b36 c_now n2 n3 n4 n5 s0 = some (r_) → WW p l e (RM 2 41) s m args below meth c Q 9 D A 0 0 [oX8 q_this q_now q_text c_typed q_row c_rowMany c_thrown c_length c_at c_wrong q_read q_outerCell q_outerDoor c_outerMany q_walked c_walkedMany c_cameOut q_onWalks q_far q_aside q_wasFull q_undos q_was c_undoMany c_drawn q_kept q_isKept, aI k q_now 189 c_now] [(0, .ref q_this), (2, .int n2), (3, .int n3), (4, .int n4), (5, .int n5)] 36 [.int s0] := by
    intro n2 n3 n4 n5 s0
    intro hf
    unfold fX8_beyond_b36 at hf
    refine ww_istore (pc := 36) (lv' := [(6, .int s0), (0, .ref q_this), (2, .int n2), (3, .int n3), (4, .int n4), (5, .int n5)]) C dX8_beyond_36 (by decide) rfl ?_
    refine ww_iload_n (pc := 38) C dX8_beyond_38 rfl 3 rfl ?_
    refine ww_iload_n (pc := 39) C dX8_beyond_39 rfl 2 rfl ?_
    refine ww_iconst (pc := 40) C dX8_beyond_40 kI_1 ?_
    refine ww_icmp_ne (pc := 41) (tgt := 49) C dX8_beyond_41 (by decide) (fun hc => ?_) (fun hc => ?_)
    · have hf := ifF hc hf
      refine ww_iconst (pc := 49) C dX8_beyond_49 kI_0 ?_
      exact ww_lv [1, 2, 4, 5, 0] rfl (hJ50 n2 n4 n5 s0 n3 (0 : Int32) hf)
    · have hf := ifT hc hf
      refine ww_iload (pc := 44) C dX8_beyond_44 0 rfl ?_
      refine ww_goto (pc := 46) (tgt := 50) C dX8_beyond_46 (by decide) ?_
      exact ww_lv [1, 2, 4, 5, 0] rfl (hJ50 n2 n4 n5 s0 n3 s0 hf)
  have hJ24 : ∀ (n2 : Int32) (n3 : Int32) (n4 : Int32) (s0 : Int32), fX8_beyond_b24 c_now n2 n3 n4 s0 = some (r_) → WW p l e (RM 2 41) s m args below meth c Q 9 D A 0 0 [oX8 q_this q_now q_text c_typed q_row c_rowMany c_thrown c_length c_at c_wrong q_read q_outerCell q_outerDoor c_outerMany q_walked c_walkedMany c_cameOut q_onWalks q_far q_aside q_wasFull q_undos q_was c_undoMany c_drawn q_kept q_isKept, aI k q_now 189 c_now] [(0, .ref q_this), (2, .int n2), (3, .int n3), (4, .int n4)] 24 [.int s0] := by
    intro n2 n3 n4 s0
    intro hf
    unfold fX8_beyond_b24 at hf
    refine ww_istore (pc := 24) (lv' := [(5, .int s0), (0, .ref q_this), (2, .int n2), (3, .int n3), (4, .int n4)]) C dX8_beyond_24 (by decide) rfl ?_
    refine ww_iload (pc := 26) C dX8_beyond_26 0 rfl ?_
    refine ww_if_eq (pc := 28) (tgt := 35) C dX8_beyond_28 (by decide) (fun hc => ?_) (fun hc => ?_)
    · have hf := ifT hc hf
      refine ww_iconst (pc := 35) C dX8_beyond_35 kI_1 ?_
      exact ww_lv [1, 2, 3, 4, 0] rfl (hJ36 n2 n3 n4 s0 (1 : Int32) hf)
    · have hf := ifF hc hf
      refine ww_iconst (pc := 31) C dX8_beyond_31 kI_m1 ?_
      refine ww_goto (pc := 32) (tgt := 36) C dX8_beyond_32 (by decide) ?_
      exact ww_lv [1, 2, 3, 4, 0] rfl (hJ36 n2 n3 n4 s0 (-1 : Int32) hf)
  unfold fX8_beyond at hf
  refine ww_aload_n (pc := 0) C dX8_beyond_0 rfl 0 rfl ?_
  refine ww_iload_n (pc := 1) C dX8_beyond_1 rfl 1 rfl ?_
  obtain ⟨v1, h1, hf⟩ := bsome hf
  refine ww_callVi0 (pc := 2) (As := [.int x1]) (rest := []) C (tX8_cellI l D k q_this q_now q_text q_row q_read q_outerCell q_outerDoor q_walked q_onWalks q_far q_aside q_wasFull q_undos q_was q_kept q_isKept c_typed c_rowMany c_thrown c_length c_at c_wrong c_outerMany c_walkedMany c_cameOut c_undoMany c_drawn c_now x1 v1 h1) cv_X8_191 ⟨⟨by decide, by decide⟩, rfl, rfl⟩ 0 rfl rfl [0, 1] rfl rfl rfl rfl (Nat.le_of_ble_eq_true rfl) ⟨Nat.zero_le _, Nat.zero_le _⟩ dX8_beyond_2 (fun hb1 => ?_)
  refine ww_istore_n (pc := 5) (lv' := [(3, .int v1), (0, .ref q_this), (1, .int x1), (2, .int x2)]) C dX8_beyond_5 rfl (by decide) rfl ?_
  refine ww_aload_n (pc := 6) C dX8_beyond_6 rfl 1 rfl ?_
  refine ww_iload_n (pc := 7) C dX8_beyond_7 rfl 2 rfl ?_
  obtain ⟨v2, h2, hf⟩ := bsome hf
  refine ww_callVi0 (pc := 8) (As := [.int x1]) (rest := []) C (tX8_cellJ l D k q_this q_now q_text q_row q_read q_outerCell q_outerDoor q_walked q_onWalks q_far q_aside q_wasFull q_undos q_was q_kept q_isKept c_typed c_rowMany c_thrown c_length c_at c_wrong c_outerMany c_walkedMany c_cameOut c_undoMany c_drawn c_now x1 v2 h2) cv_X8_194 ⟨⟨by decide, by decide⟩, rfl, rfl⟩ 0 rfl rfl [0, 1] rfl rfl rfl rfl (Nat.le_of_ble_eq_true rfl) ⟨Nat.zero_le _, Nat.zero_le _⟩ dX8_beyond_8 (fun hb2 => ?_)
  refine ww_istore (pc := 11) (lv' := [(4, .int v2), (3, .int v1), (0, .ref q_this), (1, .int x1), (2, .int x2)]) C dX8_beyond_11 (by decide) rfl ?_
  refine ww_iload_n (pc := 13) C dX8_beyond_13 rfl 3 rfl ?_
  refine ww_iconst (pc := 14) C dX8_beyond_14 kI_2 ?_
  refine ww_iremC (pc := 15) C dX8_beyond_15 (by decide) ?_
  refine ww_if_ne (pc := 16) (tgt := 23) C dX8_beyond_16 (by decide) (fun hc => ?_) (fun hc => ?_)
  · have hf := ifF hc hf
    refine ww_iconst (pc := 23) C dX8_beyond_23 kI_0 ?_
    exact ww_lv [2, 4, 1, 0] rfl (hJ24 x2 v1 v2 (0 : Int32) hf)
  · have hf := ifT hc hf
    refine ww_iconst (pc := 19) C dX8_beyond_19 kI_1 ?_
    refine ww_goto (pc := 20) (tgt := 24) C dX8_beyond_20 (by decide) ?_
    exact ww_lv [2, 4, 1, 0] rfl (hJ24 x2 v1 v2 (1 : Int32) hf)
def fX8_otherDoor_b3 (c_now : Nat → Int32) (rc3 : Int32 → Int32 → Int32 → Int32 → Option Int32) (n1 : Int32) (n2 : Int32) (n3 : Int32) (n4 : Int32) : Option Int32 := if (3 : Int32) ≤ n4 then some ((-1 : Int32)) else if n4 = n2 then (some (n4 + (1 : Int32))).bind fun v1 => rc3 n1 n2 n3 v1 else (fX8_isDoor c_now n1 n4 n3).bind fun v2 => if v2 = 0 then (some (n4 + (1 : Int32))).bind fun v3 => rc3 n1 n2 n3 v3 else some (n4)
def fX8_otherDoor (c_now : Nat → Int32) (x1 : Int32) (x2 : Int32) (x3 : Int32) : Option Int32 := lfix (fX8_otherDoor_b3 c_now) (fun _ _ _ _ => none) FU x1 x2 x3 (0 : Int32)
set_option maxHeartbeats 4000000 in
set_option maxRecDepth 100000 in
theorem tX8_otherDoor (l : Launch) (D : va_G) (k : Nat → ClassId) (q_this q_now q_text q_row q_read q_outerCell q_outerDoor q_walked q_onWalks q_far q_aside q_wasFull q_undos q_was q_kept q_isKept : Nat) (c_typed : Int32) (c_rowMany : Int32) (c_thrown : Int32) (c_length : Int32) (c_at : Int32) (c_wrong : Int32) (c_outerMany : Int32) (c_walkedMany : Int32) (c_cameOut : Int32) (c_undoMany : Int32) (c_drawn : Int32) (c_now : Nat → Int32) (x1 : Int32) (x2 : Int32) (x3 : Int32) (r_ : Int32) (hf : fX8_otherDoor c_now x1 x2 x3 = some (r_)) : MI l yX8_otherDoor cX8_otherDoor 5 .int (RM 5 113) D k [.ref q_this, .int x1, .int x2, .int x3] [oX8 q_this q_now q_text c_typed q_row c_rowMany c_thrown c_length c_at c_wrong q_read q_outerCell q_outerDoor c_outerMany q_walked c_walkedMany c_cameOut q_onWalks q_far q_aside q_wasFull q_undos q_was c_undoMany c_drawn q_kept q_isKept, aI k q_now 189 c_now] r_ [oX8 q_this q_now q_text c_typed q_row c_rowMany c_thrown c_length c_at c_wrong q_read q_outerCell q_outerDoor c_outerMany q_walked c_walkedMany c_cameOut q_onWalks q_far q_aside q_wasFull q_undos q_was c_undoMany c_drawn q_kept q_isKept, aI k q_now 189 c_now] := by
  refine mkMI' (own := "DoorWalkModel") (by decide) rfl (Nat.le_of_ble_eq_true rfl) ?_
  intro p e s m args below meth c Q A hret C
  refine ww_lv (lv' := [(0, .ref q_this), (1, .int x1), (2, .int x2), (3, .int x3)]) [0, 1, 2, 3] rfl ?_
  have hL3 : ∀ (n : Nat) (n1 : Int32) (n2 : Int32) (n3 : Int32) (n4 : Int32), lfix (fX8_otherDoor_b3 c_now) (fun _ _ _ _ => none) n n1 n2 n3 n4 = some (r_) → WW p l e (RM 5 113) s m args below meth c Q 5 D A 0 0 [oX8 q_this q_now q_text c_typed q_row c_rowMany c_thrown c_length c_at c_wrong q_read q_outerCell q_outerDoor c_outerMany q_walked c_walkedMany c_cameOut q_onWalks q_far q_aside q_wasFull q_undos q_was c_undoMany c_drawn q_kept q_isKept, aI k q_now 189 c_now] [(0, .ref q_this), (1, .int n1), (2, .int n2), (3, .int n3), (4, .int n4)] 3 [] := by
    intro n
    induction n with
    | zero => intro n1 n2 n3 n4 hf; cases hf
    | succ n ih3 =>
      obtain ⟨rc3, hrc3⟩ : ∃ f9, f9 = lfix (fX8_otherDoor_b3 c_now) (fun _ _ _ _ => none) n := ⟨_, rfl⟩
      rw [← hrc3] at ih3
      intro n1 n2 n3 n4 hf
      have hf : fX8_otherDoor_b3 c_now rc3 n1 n2 n3 n4 = some (r_) := by rw [hrc3]; exact hf
      unfold fX8_otherDoor_b3 at hf
      refine ww_iload (pc := 3) C dX8_otherDoor_3 4 rfl ?_
      refine ww_iconst (pc := 5) C dX8_otherDoor_5 kI_3 ?_
      refine ww_icmp_ge (pc := 6) (tgt := 35) C dX8_otherDoor_6 (by decide) (fun hc => ?_) (fun hc => ?_)
      · have hf := ifT hc hf
        refine ww_iconst (pc := 35) C dX8_otherDoor_35 kI_m1 ?_
        obtain e0 := ij1 hf
        exact hret _ _ 36 _ dX8_otherDoor_36 rfl e0 rfl
      · have hf := ifF hc hf
        refine ww_iload (pc := 9) C dX8_otherDoor_9 4 rfl ?_
        refine ww_iload_n (pc := 11) C dX8_otherDoor_11 rfl 2 rfl ?_
        refine ww_icmp_eq (pc := 12) (tgt := 29) C dX8_otherDoor_12 (by decide) (fun hc => ?_) (fun hc => ?_)
        · have hf := ifT hc hf
          obtain ⟨v1, h1, hf⟩ := bsome hf
          refine ww_iincN (pc := 29) (lv' := [(4, .int v1), (0, .ref q_this), (1, .int n1), (2, .int n2), (3, .int n3)]) (j := 4) C dX8_otherDoor_29 kI_1 rfl h1 (by decide) rfl ?_
          refine ww_goto (pc := 32) (tgt := 3) C dX8_otherDoor_32 (by decide) ?_
          exact ww_lv [1, 2, 3, 4, 0] rfl (ih3 n1 n2 n3 v1 hf)
        · have hf := ifF hc hf
          refine ww_aload_n (pc := 15) C dX8_otherDoor_15 rfl 0 rfl ?_
          refine ww_iload_n (pc := 16) C dX8_otherDoor_16 rfl 1 rfl ?_
          refine ww_iload (pc := 17) C dX8_otherDoor_17 4 rfl ?_
          refine ww_iload_n (pc := 19) C dX8_otherDoor_19 rfl 3 rfl ?_
          obtain ⟨v2, h2, hf⟩ := bsome hf
          refine ww_callVi0 (pc := 20) (As := [.int n1, .int n4, .int n3]) (rest := []) C (tX8_isDoor l D k q_this q_now q_text q_row q_read q_outerCell q_outerDoor q_walked q_onWalks q_far q_aside q_wasFull q_undos q_was q_kept q_isKept c_typed c_rowMany c_thrown c_length c_at c_wrong c_outerMany c_walkedMany c_cameOut c_undoMany c_drawn c_now n1 n4 n3 v2 h2) cv_X8_238 ⟨⟨by decide, by decide⟩, rfl, rfl⟩ 0 rfl rfl [0, 1] rfl rfl rfl rfl (Nat.le_of_ble_eq_true rfl) ⟨Nat.zero_le _, Nat.zero_le _⟩ dX8_otherDoor_20 (fun hb2 => ?_)
          refine ww_if_eq (pc := 23) (tgt := 29) C dX8_otherDoor_23 (by decide) (fun hc => ?_) (fun hc => ?_)
          · have hf := ifT hc hf
            obtain ⟨v3, h3, hf⟩ := bsome hf
            refine ww_iincN (pc := 29) (lv' := [(4, .int v3), (0, .ref q_this), (1, .int n1), (2, .int n2), (3, .int n3)]) (j := 4) C dX8_otherDoor_29 kI_1 rfl h3 (by decide) rfl ?_
            refine ww_goto (pc := 32) (tgt := 3) C dX8_otherDoor_32 (by decide) ?_
            exact ww_lv [1, 2, 3, 4, 0] rfl (ih3 n1 n2 n3 v3 hf)
          · have hf := ifF hc hf
            refine ww_iload (pc := 26) C dX8_otherDoor_26 4 rfl ?_
            obtain e0 := ij1 hf
            exact hret _ _ 28 _ dX8_otherDoor_28 rfl e0 rfl
  unfold fX8_otherDoor at hf
  refine ww_iconst (pc := 0) C dX8_otherDoor_0 kI_0 ?_
  refine ww_istore (pc := 1) (lv' := [(4, .int (0 : Int32)), (0, .ref q_this), (1, .int x1), (2, .int x2), (3, .int x3)]) C dX8_otherDoor_1 (by decide) rfl ?_
  exact ww_lv [1, 2, 3, 4, 0] rfl (hL3 FU x1 x2 x3 (0 : Int32) hf)
def fX8_layOuter_b77 (c_now : Nat → Int32) (rc7 : Int32 → (Nat → Int32) → (Nat → Int32) → Int32 → Int32 → Option (Int32 × (Nat → Int32) × (Nat → Int32))) (c_outerMany : Int32) (c_outerCell : Nat → Int32) (c_outerDoor : Nat → Int32) (n1 : Int32) (n2 : Int32) (n3 : Int32) (s0 : Int32) : Option (Int32 × (Nat → Int32) × (Nat → Int32)) := (fX8_isDoor c_now n3 s0 n1).bind fun v1 => if v1 = 0 then (some (n2 + (1 : Int32))).bind fun v6 => rc7 c_outerMany c_outerCell c_outerDoor n1 v6 else (ast 16 c_outerMany c_outerCell n3).bind fun v2 => (ast 16 c_outerMany c_outerDoor s0).bind fun v3 => (some (c_outerMany + (1 : Int32))).bind fun v4 => (some (n2 + (1 : Int32))).bind fun v5 => rc7 v4 v2 v3 n1 v5
def fX8_layOuter_b58 (c_now : Nat → Int32) (rc7 : Int32 → (Nat → Int32) → (Nat → Int32) → Int32 → Int32 → Option (Int32 × (Nat → Int32) × (Nat → Int32))) (c_outerMany : Int32) (c_outerCell : Nat → Int32) (c_outerDoor : Nat → Int32) (n1 : Int32) (n2 : Int32) (s0 : Int32) : Option (Int32 × (Nat → Int32) × (Nat → Int32)) := if n1 = 0 then fX8_layOuter_b77 c_now rc7 c_outerMany c_outerCell c_outerDoor n1 n2 s0 (1 : Int32) else if n1 = (1 : Int32) then fX8_layOuter_b77 c_now rc7 c_outerMany c_outerCell c_outerDoor n1 n2 s0 (2 : Int32) else fX8_layOuter_b77 c_now rc7 c_outerMany c_outerCell c_outerDoor n1 n2 s0 (0 : Int32)
def fX8_layOuter_b7 (c_now : Nat → Int32) (rc7 : Int32 → (Nat → Int32) → (Nat → Int32) → Int32 → Int32 → Option (Int32 × (Nat → Int32) × (Nat → Int32))) (c_outerMany : Int32) (c_outerCell : Nat → Int32) (c_outerDoor : Nat → Int32) (n1 : Int32) (n2 : Int32) : Option (Int32 × (Nat → Int32) × (Nat → Int32)) := (fX8_n c_now).bind fun v1 => if v1 ≤ n2 then some (c_outerMany, c_outerCell, c_outerDoor) else if n1 = 0 then fX8_layOuter_b58 c_now rc7 c_outerMany c_outerCell c_outerDoor n1 n2 ((2 : Int32) * n2) else if n1 = (1 : Int32) then (fX8_n c_now).bind fun v4 => fX8_layOuter_b58 c_now rc7 c_outerMany c_outerCell c_outerDoor n1 n2 (((2 : Int32) * v4) * n2) else (fX8_n c_now).bind fun v2 => (fX8_n c_now).bind fun v3 => fX8_layOuter_b58 c_now rc7 c_outerMany c_outerCell c_outerDoor n1 n2 ((2 : Int32) * ((v2 * ((v3 - (1 : Int32)) - n2)) + n2))
def fX8_layOuter (c_now : Nat → Int32) (c_outerMany : Int32) (c_outerCell : Nat → Int32) (c_outerDoor : Nat → Int32) (x1 : Int32) : Option (Int32 × (Nat → Int32) × (Nat → Int32)) := lfix (fX8_layOuter_b7 c_now) (fun _ _ _ _ _ => none) FU (0 : Int32) c_outerCell c_outerDoor x1 (0 : Int32)
set_option maxHeartbeats 4000000 in
set_option maxRecDepth 100000 in
theorem tX8_layOuter (l : Launch) (D : va_G) (k : Nat → ClassId) (q_this q_now q_text q_row q_read q_outerCell q_outerDoor q_walked q_onWalks q_far q_aside q_wasFull q_undos q_was q_kept q_isKept : Nat) (c_typed : Int32) (c_rowMany : Int32) (c_thrown : Int32) (c_length : Int32) (c_at : Int32) (c_wrong : Int32) (c_outerMany : Int32) (c_walkedMany : Int32) (c_cameOut : Int32) (c_undoMany : Int32) (c_drawn : Int32) (c_now : Nat → Int32) (c_outerCell : Nat → Int32) (c_outerDoor : Nat → Int32) (x1 : Int32) (w_outerMany : Int32) (w_outerCell : Nat → Int32) (w_outerDoor : Nat → Int32) (hf : fX8_layOuter c_now c_outerMany c_outerCell c_outerDoor x1 = some (w_outerMany, w_outerCell, w_outerDoor)) : MV l yX8_layOuter cX8_layOuter 5 (RM 5 113) D k [.ref q_this, .int x1] [oX8 q_this q_now q_text c_typed q_row c_rowMany c_thrown c_length c_at c_wrong q_read q_outerCell q_outerDoor c_outerMany q_walked c_walkedMany c_cameOut q_onWalks q_far q_aside q_wasFull q_undos q_was c_undoMany c_drawn q_kept q_isKept, aI k q_now 189 c_now, aI k q_outerCell 16 c_outerCell, aI k q_outerDoor 16 c_outerDoor] [oX8 q_this q_now q_text c_typed q_row c_rowMany c_thrown c_length c_at c_wrong q_read q_outerCell q_outerDoor w_outerMany q_walked c_walkedMany c_cameOut q_onWalks q_far q_aside q_wasFull q_undos q_was c_undoMany c_drawn q_kept q_isKept, aI k q_now 189 c_now, aI k q_outerCell 16 w_outerCell, aI k q_outerDoor 16 w_outerDoor] := by
  refine mkMV' (own := "DoorWalkModel") (by decide) rfl (Nat.le_of_ble_eq_true rfl) ?_
  intro p e s m args below meth c Q A hret C
  refine ww_lv (lv' := [(0, .ref q_this), (1, .int x1)]) [0, 1] rfl ?_
  have hL7 : ∀ (n : Nat) (c_outerMany : Int32) (c_outerCell : Nat → Int32) (c_outerDoor : Nat → Int32) (n1 : Int32) (n2 : Int32), lfix (fX8_layOuter_b7 c_now) (fun _ _ _ _ _ => none) n c_outerMany c_outerCell c_outerDoor n1 n2 = some (w_outerMany, w_outerCell, w_outerDoor) → WW p l e (RM 5 113) s m args below meth c Q 5 D A 0 0 [oX8 q_this q_now q_text c_typed q_row c_rowMany c_thrown c_length c_at c_wrong q_read q_outerCell q_outerDoor c_outerMany q_walked c_walkedMany c_cameOut q_onWalks q_far q_aside q_wasFull q_undos q_was c_undoMany c_drawn q_kept q_isKept, aI k q_now 189 c_now, aI k q_outerCell 16 c_outerCell, aI k q_outerDoor 16 c_outerDoor] [(0, .ref q_this), (1, .int n1), (2, .int n2)] 7 [] := by
    intro n
    induction n with
    | zero => intro c_outerMany c_outerCell c_outerDoor n1 n2 hf; cases hf
    | succ n ih7 =>
      obtain ⟨rc7, hrc7⟩ : ∃ f9, f9 = lfix (fX8_layOuter_b7 c_now) (fun _ _ _ _ _ => none) n := ⟨_, rfl⟩
      rw [← hrc7] at ih7
      have hJ77 : ∀ (c_outerMany : Int32) (c_outerCell : Nat → Int32) (c_outerDoor : Nat → Int32) (n1 : Int32) (n2 : Int32) (n3 : Int32) (s0 : Int32), fX8_layOuter_b77 c_now rc7 c_outerMany c_outerCell c_outerDoor n1 n2 n3 s0 = some (w_outerMany, w_outerCell, w_outerDoor) → WW p l e (RM 5 113) s m args below meth c Q 5 D A 0 0 [oX8 q_this q_now q_text c_typed q_row c_rowMany c_thrown c_length c_at c_wrong q_read q_outerCell q_outerDoor c_outerMany q_walked c_walkedMany c_cameOut q_onWalks q_far q_aside q_wasFull q_undos q_was c_undoMany c_drawn q_kept q_isKept, aI k q_now 189 c_now, aI k q_outerCell 16 c_outerCell, aI k q_outerDoor 16 c_outerDoor] [(0, .ref q_this), (1, .int n1), (2, .int n2), (3, .int n3)] 77 [.int s0] := by
        intro c_outerMany c_outerCell c_outerDoor n1 n2 n3 s0
        intro hf
        unfold fX8_layOuter_b77 at hf
        refine ww_istore (pc := 77) (lv' := [(4, .int s0), (0, .ref q_this), (1, .int n1), (2, .int n2), (3, .int n3)]) C dX8_layOuter_77 (by decide) rfl ?_
        refine ww_aload_n (pc := 79) C dX8_layOuter_79 rfl 1 rfl ?_
        refine ww_iload_n (pc := 80) C dX8_layOuter_80 rfl 4 rfl ?_
        refine ww_iload (pc := 81) C dX8_layOuter_81 0 rfl ?_
        refine ww_iload_n (pc := 83) C dX8_layOuter_83 rfl 2 rfl ?_
        obtain ⟨v1, h1, hf⟩ := bsome hf
        refine ww_callVi0 (pc := 84) (As := [.int n3, .int s0, .int n1]) (rest := []) C (tX8_isDoor l D k q_this q_now q_text q_row q_read q_outerCell q_outerDoor q_walked q_onWalks q_far q_aside q_wasFull q_undos q_was q_kept q_isKept c_typed c_rowMany c_thrown c_length c_at c_wrong c_outerMany c_walkedMany c_cameOut c_undoMany c_drawn c_now n3 s0 n1 v1 h1) cv_X8_238 ⟨⟨by decide, by decide⟩, rfl, rfl⟩ 0 rfl rfl [0, 1] rfl rfl rfl rfl (Nat.le_of_ble_eq_true rfl) ⟨Nat.zero_le _, Nat.zero_le _⟩ dX8_layOuter_84 (fun hb1 => ?_)
        refine ww_if_ne (pc := 87) (tgt := 93) C dX8_layOuter_87 (by decide) (fun hc => ?_) (fun hc => ?_)
        · have hf := ifF hc hf
          refine ww_aload_n (pc := 93) C dX8_layOuter_93 rfl 1 rfl ?_
          refine gf8_10 (pc := 94) C kf_X8_24 0 rfl rfl dX8_layOuter_94 ?_
          refine ww_aload_n (pc := 97) C dX8_layOuter_97 rfl 1 rfl ?_
          refine gf8_12 (pc := 98) C kf_X8_241 0 rfl rfl dX8_layOuter_98 ?_
          refine ww_iload_n (pc := 101) C dX8_layOuter_101 rfl 4 rfl ?_
          obtain ⟨v2, h2, hf⟩ := bsome hf
          refine ww_iast (pc := 102) (ws' := [oX8 q_this q_now q_text c_typed q_row c_rowMany c_thrown c_length c_at c_wrong q_read q_outerCell q_outerDoor c_outerMany q_walked c_walkedMany c_cameOut q_onWalks q_far q_aside q_wasFull q_undos q_was c_undoMany c_drawn q_kept q_isKept, aI k q_now 189 c_now, aI k q_outerCell 16 v2, aI k q_outerDoor 16 c_outerDoor]) C 2 rfl h2 rfl dX8_layOuter_102 ?_
          refine ww_aload_n (pc := 103) C dX8_layOuter_103 rfl 1 rfl ?_
          refine gf8_11 (pc := 104) C kf_X8_27 0 rfl rfl dX8_layOuter_104 ?_
          refine ww_aload_n (pc := 107) C dX8_layOuter_107 rfl 1 rfl ?_
          refine gf8_12 (pc := 108) C kf_X8_241 0 rfl rfl dX8_layOuter_108 ?_
          refine ww_iload (pc := 111) C dX8_layOuter_111 0 rfl ?_
          obtain ⟨v3, h3, hf⟩ := bsome hf
          refine ww_iast (pc := 113) (ws' := [oX8 q_this q_now q_text c_typed q_row c_rowMany c_thrown c_length c_at c_wrong q_read q_outerCell q_outerDoor c_outerMany q_walked c_walkedMany c_cameOut q_onWalks q_far q_aside q_wasFull q_undos q_was c_undoMany c_drawn q_kept q_isKept, aI k q_now 189 c_now, aI k q_outerCell 16 v2, aI k q_outerDoor 16 v3]) C 3 rfl h3 rfl dX8_layOuter_113 ?_
          refine ww_aload_n (pc := 114) C dX8_layOuter_114 rfl 1 rfl ?_
          refine ww_dup (pc := 115) C dX8_layOuter_115 rfl ?_
          refine gf8_12 (pc := 116) C kf_X8_241 0 rfl rfl dX8_layOuter_116 ?_
          refine ww_iconst (pc := 119) C dX8_layOuter_119 kI_1 ?_
          refine ww_iadd (pc := 120) C dX8_layOuter_120  ?_
          obtain ⟨v4, h4, hf⟩ := bsome hf
          refine ww_nmi h4 ?_
          refine pf8_12 (pc := 121) (ws' := [oX8 q_this q_now q_text c_typed q_row c_rowMany c_thrown c_length c_at c_wrong q_read q_outerCell q_outerDoor v4 q_walked c_walkedMany c_cameOut q_onWalks q_far q_aside q_wasFull q_undos q_was c_undoMany c_drawn q_kept q_isKept, aI k q_now 189 c_now, aI k q_outerCell 16 v2, aI k q_outerDoor 16 v3]) C kf_X8_241 0 rfl (Nat.le_of_ble_eq_true rfl) rfl dX8_layOuter_121 ?_
          obtain ⟨v5, h5, hf⟩ := bsome hf
          refine ww_iincN (pc := 124) (lv' := [(2, .int v5), (4, .int s0), (0, .ref q_this), (1, .int n1), (3, .int n3)]) (j := 3) C dX8_layOuter_124 kI_1 rfl h5 (by decide) rfl ?_
          refine ww_goto (pc := 127) (tgt := 7) C dX8_layOuter_127 (by decide) ?_
          exact ww_lv [2, 3, 0] rfl (ih7 v4 v2 v3 n1 v5 hf)
        · have hf := ifT hc hf
          refine ww_goto (pc := 90) (tgt := 124) C dX8_layOuter_90 (by decide) ?_
          obtain ⟨v6, h6, hf⟩ := bsome hf
          refine ww_iincN (pc := 124) (lv' := [(2, .int v6), (4, .int s0), (0, .ref q_this), (1, .int n1), (3, .int n3)]) (j := 3) C dX8_layOuter_124 kI_1 rfl h6 (by decide) rfl ?_
          refine ww_goto (pc := 127) (tgt := 7) C dX8_layOuter_127 (by decide) ?_
          exact ww_lv [2, 3, 0] rfl (ih7 c_outerMany c_outerCell c_outerDoor n1 v6 hf)
      have hJ58 : ∀ (c_outerMany : Int32) (c_outerCell : Nat → Int32) (c_outerDoor : Nat → Int32) (n1 : Int32) (n2 : Int32) (s0 : Int32), fX8_layOuter_b58 c_now rc7 c_outerMany c_outerCell c_outerDoor n1 n2 s0 = some (w_outerMany, w_outerCell, w_outerDoor) → WW p l e (RM 5 113) s m args below meth c Q 5 D A 0 0 [oX8 q_this q_now q_text c_typed q_row c_rowMany c_thrown c_length c_at c_wrong q_read q_outerCell q_outerDoor c_outerMany q_walked c_walkedMany c_cameOut q_onWalks q_far q_aside q_wasFull q_undos q_was c_undoMany c_drawn q_kept q_isKept, aI k q_now 189 c_now, aI k q_outerCell 16 c_outerCell, aI k q_outerDoor 16 c_outerDoor] [(0, .ref q_this), (1, .int n1), (2, .int n2)] 58 [.int s0] := by
        intro c_outerMany c_outerCell c_outerDoor n1 n2 s0
        intro hf
        unfold fX8_layOuter_b58 at hf
        refine ww_istore_n (pc := 58) (lv' := [(3, .int s0), (0, .ref q_this), (1, .int n1), (2, .int n2)]) C dX8_layOuter_58 rfl (by decide) rfl ?_
        refine ww_iload_n (pc := 59) C dX8_layOuter_59 rfl 2 rfl ?_
        refine ww_if_ne (pc := 60) (tgt := 67) C dX8_layOuter_60 (by decide) (fun hc => ?_) (fun hc => ?_)
        · have hf := ifF hc hf
          refine ww_iload_n (pc := 67) C dX8_layOuter_67 rfl 2 rfl ?_
          refine ww_iconst (pc := 68) C dX8_layOuter_68 kI_1 ?_
          refine ww_icmp_ne (pc := 69) (tgt := 76) C dX8_layOuter_69 (by decide) (fun hc => ?_) (fun hc => ?_)
          · have hf := ifF hc hf
            refine ww_iconst (pc := 76) C dX8_layOuter_76 kI_0 ?_
            exact ww_lv [1, 2, 3, 0] rfl (hJ77 c_outerMany c_outerCell c_outerDoor n1 n2 s0 (0 : Int32) hf)
          · have hf := ifT hc hf
            refine ww_iconst (pc := 72) C dX8_layOuter_72 kI_2 ?_
            refine ww_goto (pc := 73) (tgt := 77) C dX8_layOuter_73 (by decide) ?_
            exact ww_lv [1, 2, 3, 0] rfl (hJ77 c_outerMany c_outerCell c_outerDoor n1 n2 s0 (2 : Int32) hf)
        · have hf := ifT hc hf
          refine ww_iconst (pc := 63) C dX8_layOuter_63 kI_1 ?_
          refine ww_goto (pc := 64) (tgt := 77) C dX8_layOuter_64 (by decide) ?_
          exact ww_lv [1, 2, 3, 0] rfl (hJ77 c_outerMany c_outerCell c_outerDoor n1 n2 s0 (1 : Int32) hf)
      intro c_outerMany c_outerCell c_outerDoor n1 n2 hf
      have hf : fX8_layOuter_b7 c_now rc7 c_outerMany c_outerCell c_outerDoor n1 n2 = some (w_outerMany, w_outerCell, w_outerDoor) := by rw [hrc7]; exact hf
      unfold fX8_layOuter_b7 at hf
      refine ww_iload_n (pc := 7) C dX8_layOuter_7 rfl 2 rfl ?_
      refine ww_aload_n (pc := 8) C dX8_layOuter_8 rfl 0 rfl ?_
      obtain ⟨v1, h1, hf⟩ := bsome hf
      refine ww_callVi0 (pc := 9) (As := []) (rest := [.int n2]) C (tX8_n l D k q_this q_now q_text q_row q_read q_outerCell q_outerDoor q_walked q_onWalks q_far q_aside q_wasFull q_undos q_was q_kept q_isKept c_typed c_rowMany c_thrown c_length c_at c_wrong c_outerMany c_walkedMany c_cameOut c_undoMany c_drawn c_now v1 h1) cv_X8_68 ⟨⟨by decide, by decide⟩, rfl, rfl⟩ 0 rfl rfl [0, 1] rfl rfl rfl rfl (Nat.le_of_ble_eq_true rfl) ⟨Nat.zero_le _, Nat.zero_le _⟩ dX8_layOuter_9 (fun hb1 => ?_)
      refine ww_icmp_ge (pc := 12) (tgt := 130) C dX8_layOuter_12 (by decide) (fun hc => ?_) (fun hc => ?_)
      · have hf := ifT hc hf
        obtain ⟨e0, e1, e2⟩ := ij3 hf
        exact hret _ _ 130 dX8_layOuter_130 (by rw [← e0, ← e1, ← e2])
      · have hf := ifF hc hf
        refine ww_iload_n (pc := 15) C dX8_layOuter_15 rfl 1 rfl ?_
        refine ww_if_ne (pc := 16) (tgt := 25) C dX8_layOuter_16 (by decide) (fun hc => ?_) (fun hc => ?_)
        · have hf := ifF hc hf
          refine ww_iload_n (pc := 25) C dX8_layOuter_25 rfl 1 rfl ?_
          refine ww_iconst (pc := 26) C dX8_layOuter_26 kI_1 ?_
          refine ww_icmp_ne (pc := 27) (tgt := 41) C dX8_layOuter_27 (by decide) (fun hc => ?_) (fun hc => ?_)
          · have hf := ifF hc hf
            refine ww_iconst (pc := 41) C dX8_layOuter_41 kI_2 ?_
            refine ww_aload_n (pc := 42) C dX8_layOuter_42 rfl 0 rfl ?_
            obtain ⟨v2, h2, hf⟩ := bsome hf
            refine ww_callVi0 (pc := 43) (As := []) (rest := [.int (2 : Int32)]) C (tX8_n l D k q_this q_now q_text q_row q_read q_outerCell q_outerDoor q_walked q_onWalks q_far q_aside q_wasFull q_undos q_was q_kept q_isKept c_typed c_rowMany c_thrown c_length c_at c_wrong c_outerMany c_walkedMany c_cameOut c_undoMany c_drawn c_now v2 h2) cv_X8_68 ⟨⟨by decide, by decide⟩, rfl, rfl⟩ 0 rfl rfl [0, 1] rfl rfl rfl rfl (Nat.le_of_ble_eq_true rfl) ⟨Nat.zero_le _, Nat.zero_le _⟩ dX8_layOuter_43 (fun hb2 => ?_)
            refine ww_aload_n (pc := 46) C dX8_layOuter_46 rfl 0 rfl ?_
            obtain ⟨v3, h3, hf⟩ := bsome hf
            refine ww_callVi0 (pc := 47) (As := []) (rest := [.int v2, .int (2 : Int32)]) C (tX8_n l D k q_this q_now q_text q_row q_read q_outerCell q_outerDoor q_walked q_onWalks q_far q_aside q_wasFull q_undos q_was q_kept q_isKept c_typed c_rowMany c_thrown c_length c_at c_wrong c_outerMany c_walkedMany c_cameOut c_undoMany c_drawn c_now v3 h3) cv_X8_68 ⟨⟨by decide, by decide⟩, rfl, rfl⟩ 0 rfl rfl [0, 1] rfl rfl rfl rfl (Nat.le_of_ble_eq_true rfl) ⟨Nat.zero_le _, Nat.zero_le _⟩ dX8_layOuter_47 (fun hb3 => ?_)
            refine ww_iconst (pc := 50) C dX8_layOuter_50 kI_1 ?_
            refine ww_isub (pc := 51) C dX8_layOuter_51  ?_
            refine ww_iload_n (pc := 52) C dX8_layOuter_52 rfl 2 rfl ?_
            refine ww_isub (pc := 53) C dX8_layOuter_53  ?_
            refine ww_imul (pc := 54) C dX8_layOuter_54  ?_
            refine ww_iload_n (pc := 55) C dX8_layOuter_55 rfl 2 rfl ?_
            refine ww_iadd (pc := 56) C dX8_layOuter_56  ?_
            refine ww_imul (pc := 57) C dX8_layOuter_57  ?_
            exact hJ58 c_outerMany c_outerCell c_outerDoor n1 n2 ((2 : Int32) * ((v2 * ((v3 - (1 : Int32)) - n2)) + n2)) hf
          · have hf := ifT hc hf
            refine ww_iconst (pc := 30) C dX8_layOuter_30 kI_2 ?_
            refine ww_aload_n (pc := 31) C dX8_layOuter_31 rfl 0 rfl ?_
            obtain ⟨v4, h4, hf⟩ := bsome hf
            refine ww_callVi0 (pc := 32) (As := []) (rest := [.int (2 : Int32)]) C (tX8_n l D k q_this q_now q_text q_row q_read q_outerCell q_outerDoor q_walked q_onWalks q_far q_aside q_wasFull q_undos q_was q_kept q_isKept c_typed c_rowMany c_thrown c_length c_at c_wrong c_outerMany c_walkedMany c_cameOut c_undoMany c_drawn c_now v4 h4) cv_X8_68 ⟨⟨by decide, by decide⟩, rfl, rfl⟩ 0 rfl rfl [0, 1] rfl rfl rfl rfl (Nat.le_of_ble_eq_true rfl) ⟨Nat.zero_le _, Nat.zero_le _⟩ dX8_layOuter_32 (fun hb4 => ?_)
            refine ww_imul (pc := 35) C dX8_layOuter_35  ?_
            refine ww_iload_n (pc := 36) C dX8_layOuter_36 rfl 2 rfl ?_
            refine ww_imul (pc := 37) C dX8_layOuter_37  ?_
            refine ww_goto (pc := 38) (tgt := 58) C dX8_layOuter_38 (by decide) ?_
            exact hJ58 c_outerMany c_outerCell c_outerDoor n1 n2 (((2 : Int32) * v4) * n2) hf
        · have hf := ifT hc hf
          refine ww_iconst (pc := 19) C dX8_layOuter_19 kI_2 ?_
          refine ww_iload_n (pc := 20) C dX8_layOuter_20 rfl 2 rfl ?_
          refine ww_imul (pc := 21) C dX8_layOuter_21  ?_
          refine ww_goto (pc := 22) (tgt := 58) C dX8_layOuter_22 (by decide) ?_
          exact hJ58 c_outerMany c_outerCell c_outerDoor n1 n2 ((2 : Int32) * n2) hf
  unfold fX8_layOuter at hf
  refine ww_aload_n (pc := 0) C dX8_layOuter_0 rfl 0 rfl ?_
  refine ww_iconst (pc := 1) C dX8_layOuter_1 kI_0 ?_
  refine pf8_12 (pc := 2) (ws' := [oX8 q_this q_now q_text c_typed q_row c_rowMany c_thrown c_length c_at c_wrong q_read q_outerCell q_outerDoor (0 : Int32) q_walked c_walkedMany c_cameOut q_onWalks q_far q_aside q_wasFull q_undos q_was c_undoMany c_drawn q_kept q_isKept, aI k q_now 189 c_now, aI k q_outerCell 16 c_outerCell, aI k q_outerDoor 16 c_outerDoor]) C kf_X8_241 0 rfl (Nat.le_of_ble_eq_true rfl) rfl dX8_layOuter_2 ?_
  refine ww_iconst (pc := 5) C dX8_layOuter_5 kI_0 ?_
  refine ww_istore_n (pc := 6) (lv' := [(2, .int (0 : Int32)), (0, .ref q_this), (1, .int x1)]) C dX8_layOuter_6 rfl (by decide) rfl ?_
  exact ww_lv [1, 2, 0] rfl (hL7 FU (0 : Int32) c_outerCell c_outerDoor x1 (0 : Int32) hf)
def fX8_outerOf_b2 (c_outerMany : Int32) (c_outerCell : Nat → Int32) (c_outerDoor : Nat → Int32) (rc2 : Int32 → Int32 → Int32 → Option Int32) (n1 : Int32) (n2 : Int32) (n3 : Int32) : Option Int32 := if c_outerMany ≤ n3 then some ((-1 : Int32)) else (ald 16 n3 c_outerCell).bind fun v1 => if v1 = n1 then (ald 16 n3 c_outerDoor).bind fun v3 => if v3 = n2 then some (n3) else (some (n3 + (1 : Int32))).bind fun v4 => rc2 n1 n2 v4 else (some (n3 + (1 : Int32))).bind fun v2 => rc2 n1 n2 v2
def fX8_outerOf (c_outerMany : Int32) (c_outerCell : Nat → Int32) (c_outerDoor : Nat → Int32) (x1 : Int32) (x2 : Int32) : Option Int32 := lfix (fX8_outerOf_b2 c_outerMany c_outerCell c_outerDoor) (fun _ _ _ => none) FU x1 x2 (0 : Int32)
set_option maxHeartbeats 4000000 in
set_option maxRecDepth 100000 in
theorem tX8_outerOf (l : Launch) (D : va_G) (k : Nat → ClassId) (q_this q_now q_text q_row q_read q_outerCell q_outerDoor q_walked q_onWalks q_far q_aside q_wasFull q_undos q_was q_kept q_isKept : Nat) (c_typed : Int32) (c_rowMany : Int32) (c_thrown : Int32) (c_length : Int32) (c_at : Int32) (c_wrong : Int32) (c_outerMany : Int32) (c_walkedMany : Int32) (c_cameOut : Int32) (c_undoMany : Int32) (c_drawn : Int32) (c_outerCell : Nat → Int32) (c_outerDoor : Nat → Int32) (x1 : Int32) (x2 : Int32) (r_ : Int32) (hf : fX8_outerOf c_outerMany c_outerCell c_outerDoor x1 x2 = some (r_)) : MI l yX8_outerOf cX8_outerOf 4 .int (RM 0 0) D k [.ref q_this, .int x1, .int x2] [oX8 q_this q_now q_text c_typed q_row c_rowMany c_thrown c_length c_at c_wrong q_read q_outerCell q_outerDoor c_outerMany q_walked c_walkedMany c_cameOut q_onWalks q_far q_aside q_wasFull q_undos q_was c_undoMany c_drawn q_kept q_isKept, aI k q_outerCell 16 c_outerCell, aI k q_outerDoor 16 c_outerDoor] r_ [oX8 q_this q_now q_text c_typed q_row c_rowMany c_thrown c_length c_at c_wrong q_read q_outerCell q_outerDoor c_outerMany q_walked c_walkedMany c_cameOut q_onWalks q_far q_aside q_wasFull q_undos q_was c_undoMany c_drawn q_kept q_isKept, aI k q_outerCell 16 c_outerCell, aI k q_outerDoor 16 c_outerDoor] := by
  refine mkMI' (own := "DoorWalkModel") (by decide) rfl (Nat.le_of_ble_eq_true rfl) ?_
  intro p e s m args below meth c Q A hret C
  refine ww_lv (lv' := [(0, .ref q_this), (1, .int x1), (2, .int x2)]) [0, 1, 2] rfl ?_
  have hL2 : ∀ (n : Nat) (n1 : Int32) (n2 : Int32) (n3 : Int32), lfix (fX8_outerOf_b2 c_outerMany c_outerCell c_outerDoor) (fun _ _ _ => none) n n1 n2 n3 = some (r_) → WW p l e (RM 0 0) s m args below meth c Q 4 D A 0 0 [oX8 q_this q_now q_text c_typed q_row c_rowMany c_thrown c_length c_at c_wrong q_read q_outerCell q_outerDoor c_outerMany q_walked c_walkedMany c_cameOut q_onWalks q_far q_aside q_wasFull q_undos q_was c_undoMany c_drawn q_kept q_isKept, aI k q_outerCell 16 c_outerCell, aI k q_outerDoor 16 c_outerDoor] [(0, .ref q_this), (1, .int n1), (2, .int n2), (3, .int n3)] 2 [] := by
    intro n
    induction n with
    | zero => intro n1 n2 n3 hf; cases hf
    | succ n ih2 =>
      obtain ⟨rc2, hrc2⟩ : ∃ f9, f9 = lfix (fX8_outerOf_b2 c_outerMany c_outerCell c_outerDoor) (fun _ _ _ => none) n := ⟨_, rfl⟩
      rw [← hrc2] at ih2
      intro n1 n2 n3 hf
      have hf : fX8_outerOf_b2 c_outerMany c_outerCell c_outerDoor rc2 n1 n2 n3 = some (r_) := by rw [hrc2]; exact hf
      unfold fX8_outerOf_b2 at hf
      refine ww_iload_n (pc := 2) C dX8_outerOf_2 rfl 3 rfl ?_
      refine ww_aload_n (pc := 3) C dX8_outerOf_3 rfl 0 rfl ?_
      refine gf8_12 (pc := 4) C kf_X8_241 0 rfl rfl dX8_outerOf_4 ?_
      refine ww_icmp_ge (pc := 7) (tgt := 38) C dX8_outerOf_7 (by decide) (fun hc => ?_) (fun hc => ?_)
      · have hf := ifT hc hf
        refine ww_iconst (pc := 38) C dX8_outerOf_38 kI_m1 ?_
        obtain e0 := ij1 hf
        exact hret _ _ 39 _ dX8_outerOf_39 rfl e0 rfl
      · have hf := ifF hc hf
        refine ww_aload_n (pc := 10) C dX8_outerOf_10 rfl 0 rfl ?_
        refine gf8_10 (pc := 11) C kf_X8_24 0 rfl rfl dX8_outerOf_11 ?_
        refine ww_iload_n (pc := 14) C dX8_outerOf_14 rfl 3 rfl ?_
        obtain ⟨v1, h1, hf⟩ := bsome hf
        refine ww_iald (pc := 15) C 1 rfl h1 dX8_outerOf_15 ?_
        refine ww_iload_n (pc := 16) C dX8_outerOf_16 rfl 1 rfl ?_
        refine ww_icmp_ne (pc := 17) (tgt := 32) C dX8_outerOf_17 (by decide) (fun hc => ?_) (fun hc => ?_)
        · have hf := ifF hc hf
          obtain ⟨v2, h2, hf⟩ := bsome hf
          refine ww_iincN (pc := 32) (lv' := [(3, .int v2), (0, .ref q_this), (1, .int n1), (2, .int n2)]) (j := 3) C dX8_outerOf_32 kI_1 rfl h2 (by decide) rfl ?_
          refine ww_goto (pc := 35) (tgt := 2) C dX8_outerOf_35 (by decide) ?_
          exact ww_lv [1, 2, 3, 0] rfl (ih2 n1 n2 v2 hf)
        · have hf := ifT hc hf
          refine ww_aload_n (pc := 20) C dX8_outerOf_20 rfl 0 rfl ?_
          refine gf8_11 (pc := 21) C kf_X8_27 0 rfl rfl dX8_outerOf_21 ?_
          refine ww_iload_n (pc := 24) C dX8_outerOf_24 rfl 3 rfl ?_
          obtain ⟨v3, h3, hf⟩ := bsome hf
          refine ww_iald (pc := 25) C 2 rfl h3 dX8_outerOf_25 ?_
          refine ww_iload_n (pc := 26) C dX8_outerOf_26 rfl 2 rfl ?_
          refine ww_icmp_ne (pc := 27) (tgt := 32) C dX8_outerOf_27 (by decide) (fun hc => ?_) (fun hc => ?_)
          · have hf := ifF hc hf
            obtain ⟨v4, h4, hf⟩ := bsome hf
            refine ww_iincN (pc := 32) (lv' := [(3, .int v4), (0, .ref q_this), (1, .int n1), (2, .int n2)]) (j := 3) C dX8_outerOf_32 kI_1 rfl h4 (by decide) rfl ?_
            refine ww_goto (pc := 35) (tgt := 2) C dX8_outerOf_35 (by decide) ?_
            exact ww_lv [1, 2, 3, 0] rfl (ih2 n1 n2 v4 hf)
          · have hf := ifT hc hf
            refine ww_iload_n (pc := 30) C dX8_outerOf_30 rfl 3 rfl ?_
            obtain e0 := ij1 hf
            exact hret _ _ 31 _ dX8_outerOf_31 rfl e0 rfl
  unfold fX8_outerOf at hf
  refine ww_iconst (pc := 0) C dX8_outerOf_0 kI_0 ?_
  refine ww_istore_n (pc := 1) (lv' := [(3, .int (0 : Int32)), (0, .ref q_this), (1, .int x1), (2, .int x2)]) C dX8_outerOf_1 rfl (by decide) rfl ?_
  exact ww_lv [1, 2, 3, 0] rfl (hL2 FU x1 x2 (0 : Int32) hf)
def fX8_isKind (x1 : Int32) : Option Int32 := (fX8_in x1 (0 : Int32) (2 : Int32)).bind fun v1 => some (v1)
set_option maxHeartbeats 4000000 in
set_option maxRecDepth 100000 in
theorem tX8_isKind (l : Launch) (D : va_G) (k : Nat → ClassId)   (x1 : Int32) (r_ : Int32) (hf : fX8_isKind x1 = some (r_)) : MI l yX8_isKind cX8_isKind 1 .boolean (RM 1 22) D k [.int x1] [] r_ [] := by
  refine mkMI' (own := "DoorWalkModel") (by decide) rfl (Nat.le_of_ble_eq_true rfl) ?_
  intro p e s m args below meth c Q A hret C
  refine ww_lv (lv' := [(0, .int x1)]) [0] rfl ?_
  unfold fX8_isKind at hf
  refine ww_iload_n (pc := 0) C dX8_isKind_0 rfl 0 rfl ?_
  refine ww_iconst (pc := 1) C dX8_isKind_1 kI_0 ?_
  refine ww_iconst (pc := 2) C dX8_isKind_2 kI_2 ?_
  obtain ⟨v1, h1, hf⟩ := bsome hf
  refine ww_callSi0 (pc := 3) (As := [.int x1, .int (0 : Int32), .int (2 : Int32)]) (rest := []) C (tX8_in l D k x1 (0 : Int32) (2 : Int32) v1 h1) cs_X8_72 ⟨⟨by decide, by decide⟩, rfl, rfl⟩ [] rfl rfl rfl rfl (Nat.le_of_ble_eq_true rfl) ⟨Nat.zero_le _, Nat.zero_le _⟩ dX8_isKind_3 (fun hb1 => ?_)
  obtain e0 := ij1 hf
  exact hret _ _ 6 _ dX8_isKind_6 hb1 e0 rfl
def fX8_outer_b26 (c_now : Nat → Int32) (rc26 : Int32 → Int32 → Int32 → (Nat → Int32) → (Nat → Int32) → (Nat → Int64) → Int32 → Option (Int32 × Int32 × Int32 × Int32 × (Nat → Int32) × (Nat → Int32) × (Nat → Int64))) (c_outerMany : Int32) (c_rowMany : Int32) (c_thrown : Int32) (c_outerCell : Nat → Int32) (c_outerDoor : Nat → Int32) (c_row : Nat → Int64) (n2 : Int32) : Option (Int32 × Int32 × Int32 × Int32 × (Nat → Int32) × (Nat → Int32) × (Nat → Int64)) := if c_outerMany ≤ n2 then some (c_outerMany, c_outerMany, c_rowMany, c_thrown, c_outerCell, c_outerDoor, c_row) else (ald 16 n2 c_outerCell).bind fun v1 => bd2 (fX8_tell c_rowMany c_row ((v1).toInt64)) fun v2 v3 => (some (n2 + (1 : Int32))).bind fun v4 => rc26 c_outerMany v2 c_thrown c_outerCell c_outerDoor v3 v4
def fX8_outer (c_now : Nat → Int32) (c_outerMany : Int32) (c_rowMany : Int32) (c_thrown : Int32) (c_outerCell : Nat → Int32) (c_outerDoor : Nat → Int32) (c_row : Nat → Int64) (x1 : Int32) : Option (Int32 × Int32 × Int32 × Int32 × (Nat → Int32) × (Nat → Int32) × (Nat → Int64)) := (fX8_isKind x1).bind fun v1 => if v1 = 0 then some ((-1 : Int32), c_outerMany, c_rowMany, (0 : Int32), c_outerCell, c_outerDoor, c_row) else bd3 (fX8_layOuter c_now c_outerMany c_outerCell c_outerDoor x1) fun v2 v3 v4 => lfix (fX8_outer_b26 c_now) (fun _ _ _ _ _ _ _ => none) FU v2 (0 : Int32) (0 : Int32) v3 v4 c_row (0 : Int32)
set_option maxHeartbeats 4000000 in
set_option maxRecDepth 100000 in
theorem tX8_outer (l : Launch) (D : va_G) (k : Nat → ClassId) (q_this q_now q_text q_row q_read q_outerCell q_outerDoor q_walked q_onWalks q_far q_aside q_wasFull q_undos q_was q_kept q_isKept : Nat) (c_typed : Int32) (c_rowMany : Int32) (c_thrown : Int32) (c_length : Int32) (c_at : Int32) (c_wrong : Int32) (c_outerMany : Int32) (c_walkedMany : Int32) (c_cameOut : Int32) (c_undoMany : Int32) (c_drawn : Int32) (c_now : Nat → Int32) (c_outerCell : Nat → Int32) (c_outerDoor : Nat → Int32) (c_row : Nat → Int64) (x1 : Int32) (r_ : Int32) (w_outerMany : Int32) (w_rowMany : Int32) (w_thrown : Int32) (w_outerCell : Nat → Int32) (w_outerDoor : Nat → Int32) (w_row : Nat → Int64) (hf : fX8_outer c_now c_outerMany c_rowMany c_thrown c_outerCell c_outerDoor c_row x1 = some (r_, w_outerMany, w_rowMany, w_thrown, w_outerCell, w_outerDoor, w_row)) : MI l yX8_outer cX8_outer 3 .int (RM 6 137) D k [.ref q_this, .int x1] [oX8 q_this q_now q_text c_typed q_row c_rowMany c_thrown c_length c_at c_wrong q_read q_outerCell q_outerDoor c_outerMany q_walked c_walkedMany c_cameOut q_onWalks q_far q_aside q_wasFull q_undos q_was c_undoMany c_drawn q_kept q_isKept, aI k q_now 189 c_now, aI k q_outerCell 16 c_outerCell, aI k q_outerDoor 16 c_outerDoor, aJ k q_row 64 c_row] r_ [oX8 q_this q_now q_text c_typed q_row w_rowMany w_thrown c_length c_at c_wrong q_read q_outerCell q_outerDoor w_outerMany q_walked c_walkedMany c_cameOut q_onWalks q_far q_aside q_wasFull q_undos q_was c_undoMany c_drawn q_kept q_isKept, aI k q_now 189 c_now, aI k q_outerCell 16 w_outerCell, aI k q_outerDoor 16 w_outerDoor, aJ k q_row 64 w_row] := by
  refine mkMI' (own := "DoorWalkModel") (by decide) rfl (Nat.le_of_ble_eq_true rfl) ?_
  intro p e s m args below meth c Q A hret C
  refine ww_lv (lv' := [(0, .ref q_this), (1, .int x1)]) [0, 1] rfl ?_
  have hL26 : ∀ (n : Nat) (c_outerMany : Int32) (c_rowMany : Int32) (c_thrown : Int32) (c_outerCell : Nat → Int32) (c_outerDoor : Nat → Int32) (c_row : Nat → Int64) (n2 : Int32), lfix (fX8_outer_b26 c_now) (fun _ _ _ _ _ _ _ => none) n c_outerMany c_rowMany c_thrown c_outerCell c_outerDoor c_row n2 = some (r_, w_outerMany, w_rowMany, w_thrown, w_outerCell, w_outerDoor, w_row) → WW p l e (RM 6 137) s m args below meth c Q 3 D A 0 0 [oX8 q_this q_now q_text c_typed q_row c_rowMany c_thrown c_length c_at c_wrong q_read q_outerCell q_outerDoor c_outerMany q_walked c_walkedMany c_cameOut q_onWalks q_far q_aside q_wasFull q_undos q_was c_undoMany c_drawn q_kept q_isKept, aI k q_now 189 c_now, aI k q_outerCell 16 c_outerCell, aI k q_outerDoor 16 c_outerDoor, aJ k q_row 64 c_row] [(0, .ref q_this), (2, .int n2)] 26 [] := by
    intro n
    induction n with
    | zero => intro c_outerMany c_rowMany c_thrown c_outerCell c_outerDoor c_row n2 hf; cases hf
    | succ n ih26 =>
      obtain ⟨rc26, hrc26⟩ : ∃ f9, f9 = lfix (fX8_outer_b26 c_now) (fun _ _ _ _ _ _ _ => none) n := ⟨_, rfl⟩
      rw [← hrc26] at ih26
      intro c_outerMany c_rowMany c_thrown c_outerCell c_outerDoor c_row n2 hf
      have hf : fX8_outer_b26 c_now rc26 c_outerMany c_rowMany c_thrown c_outerCell c_outerDoor c_row n2 = some (r_, w_outerMany, w_rowMany, w_thrown, w_outerCell, w_outerDoor, w_row) := by rw [hrc26]; exact hf
      unfold fX8_outer_b26 at hf
      refine ww_iload_n (pc := 26) C dX8_outer_26 rfl 1 rfl ?_
      refine ww_aload_n (pc := 27) C dX8_outer_27 rfl 0 rfl ?_
      refine gf8_12 (pc := 28) C kf_X8_241 0 rfl rfl dX8_outer_28 ?_
      refine ww_icmp_ge (pc := 31) (tgt := 51) C dX8_outer_31 (by decide) (fun hc => ?_) (fun hc => ?_)
      · have hf := ifT hc hf
        refine ww_aload_n (pc := 51) C dX8_outer_51 rfl 0 rfl ?_
        refine gf8_12 (pc := 52) C kf_X8_241 0 rfl rfl dX8_outer_52 ?_
        obtain ⟨e0, e1, e2, e3, e4, e5, e6⟩ := ij7 hf
        exact hret _ _ 55 _ dX8_outer_55 rfl e0 (by rw [← e1, ← e2, ← e3, ← e4, ← e5, ← e6])
      · have hf := ifF hc hf
        refine ww_aload_n (pc := 34) C dX8_outer_34 rfl 0 rfl ?_
        refine ww_aload_n (pc := 35) C dX8_outer_35 rfl 0 rfl ?_
        refine gf8_10 (pc := 36) C kf_X8_24 0 rfl rfl dX8_outer_36 ?_
        refine ww_iload_n (pc := 39) C dX8_outer_39 rfl 1 rfl ?_
        obtain ⟨v1, h1, hf⟩ := bsome hf
        refine ww_iald (pc := 40) C 2 rfl h1 dX8_outer_40 ?_
        refine ww_i2l (pc := 41) C dX8_outer_41  ?_
        obtain ⟨v2, v3, h2, hf⟩ := bd2_some hf
        refine ww_callVv (pc := 42) (ws' := [oX8 q_this q_now q_text c_typed q_row v2 c_thrown c_length c_at c_wrong q_read q_outerCell q_outerDoor c_outerMany q_walked c_walkedMany c_cameOut q_onWalks q_far q_aside q_wasFull q_undos q_was c_undoMany c_drawn q_kept q_isKept, aI k q_now 189 c_now, aI k q_outerCell 16 c_outerCell, aI k q_outerDoor 16 c_outerDoor, aJ k q_row 64 v3]) (As := [.long ((v1).toInt64)]) (rest := []) C (tX8_tell l D k q_this q_now q_text q_row q_read q_outerCell q_outerDoor q_walked q_onWalks q_far q_aside q_wasFull q_undos q_was q_kept q_isKept c_typed c_rowMany c_thrown c_length c_at c_wrong c_outerMany c_walkedMany c_cameOut c_undoMany c_drawn c_row ((v1).toInt64) v2 v3 h2) cv_X8_182 ⟨⟨by decide, by decide⟩, rfl, rfl⟩ 0 rfl rfl [0, 4] rfl rfl rfl rfl rfl rfl (Nat.le_of_ble_eq_true rfl) ⟨Nat.zero_le _, Nat.zero_le _⟩ dX8_outer_42 ?_
        obtain ⟨v4, h4, hf⟩ := bsome hf
        refine ww_iincN (pc := 45) (lv' := [(2, .int v4), (0, .ref q_this)]) (j := 1) C dX8_outer_45 kI_1 rfl h4 (by decide) rfl ?_
        refine ww_goto (pc := 48) (tgt := 26) C dX8_outer_48 (by decide) ?_
        exact ww_lv [1, 0] rfl (ih26 c_outerMany v2 c_thrown c_outerCell c_outerDoor v3 v4 hf)
  unfold fX8_outer at hf
  refine ww_aload_n (pc := 0) C dX8_outer_0 rfl 0 rfl ?_
  refine ww_iconst (pc := 1) C dX8_outer_1 kI_0 ?_
  refine pf8_5 (pc := 2) (ws' := [oX8 q_this q_now q_text c_typed q_row c_rowMany (0 : Int32) c_length c_at c_wrong q_read q_outerCell q_outerDoor c_outerMany q_walked c_walkedMany c_cameOut q_onWalks q_far q_aside q_wasFull q_undos q_was c_undoMany c_drawn q_kept q_isKept, aI k q_now 189 c_now, aI k q_outerCell 16 c_outerCell, aI k q_outerDoor 16 c_outerDoor, aJ k q_row 64 c_row]) C kf_X8_61 0 rfl (Nat.le_of_ble_eq_true rfl) rfl dX8_outer_2 ?_
  refine ww_iload_n (pc := 5) C dX8_outer_5 rfl 1 rfl ?_
  obtain ⟨v1, h1, hf⟩ := bsome hf
  refine ww_callSi0 (pc := 6) (As := [.int x1]) (rest := []) C (tX8_isKind l D k x1 v1 h1) cs_X8_244 ⟨⟨by decide, by decide⟩, rfl, rfl⟩ [] rfl rfl rfl rfl (Nat.le_of_ble_eq_true rfl) ⟨Nat.zero_le _, Nat.zero_le _⟩ dX8_outer_6 (fun hb1 => ?_)
  refine ww_if_ne (pc := 9) (tgt := 14) C dX8_outer_9 (by decide) (fun hc => ?_) (fun hc => ?_)
  · have hf := ifF hc hf
    refine ww_aload_n (pc := 14) C dX8_outer_14 rfl 0 rfl ?_
    refine ww_iload_n (pc := 15) C dX8_outer_15 rfl 1 rfl ?_
    obtain ⟨v2, v3, v4, h2, hf⟩ := bd3_some hf
    refine ww_callVv (pc := 16) (ws' := [oX8 q_this q_now q_text c_typed q_row c_rowMany (0 : Int32) c_length c_at c_wrong q_read q_outerCell q_outerDoor v2 q_walked c_walkedMany c_cameOut q_onWalks q_far q_aside q_wasFull q_undos q_was c_undoMany c_drawn q_kept q_isKept, aI k q_now 189 c_now, aI k q_outerCell 16 v3, aI k q_outerDoor 16 v4, aJ k q_row 64 c_row]) (As := [.int x1]) (rest := []) C (tX8_layOuter l D k q_this q_now q_text q_row q_read q_outerCell q_outerDoor q_walked q_onWalks q_far q_aside q_wasFull q_undos q_was q_kept q_isKept c_typed c_rowMany (0 : Int32) c_length c_at c_wrong c_outerMany c_walkedMany c_cameOut c_undoMany c_drawn c_now c_outerCell c_outerDoor x1 v2 v3 v4 h2) cv_X8_247 ⟨⟨by decide, by decide⟩, rfl, rfl⟩ 0 rfl rfl [0, 1, 2, 3] rfl rfl rfl rfl rfl rfl (Nat.le_of_ble_eq_true rfl) ⟨Nat.zero_le _, Nat.zero_le _⟩ dX8_outer_16 ?_
    refine ww_aload_n (pc := 19) C dX8_outer_19 rfl 0 rfl ?_
    refine ww_iconst (pc := 20) C dX8_outer_20 kI_0 ?_
    refine pf8_4 (pc := 21) (ws' := [oX8 q_this q_now q_text c_typed q_row (0 : Int32) (0 : Int32) c_length c_at c_wrong q_read q_outerCell q_outerDoor v2 q_walked c_walkedMany c_cameOut q_onWalks q_far q_aside q_wasFull q_undos q_was c_undoMany c_drawn q_kept q_isKept, aI k q_now 189 c_now, aI k q_outerCell 16 v3, aI k q_outerDoor 16 v4, aJ k q_row 64 c_row]) C kf_X8_65 0 rfl (Nat.le_of_ble_eq_true rfl) rfl dX8_outer_21 ?_
    refine ww_iconst (pc := 24) C dX8_outer_24 kI_0 ?_
    refine ww_istore_n (pc := 25) (lv' := [(2, .int (0 : Int32)), (0, .ref q_this), (1, .int x1)]) C dX8_outer_25 rfl (by decide) rfl ?_
    exact ww_lv [1, 0] rfl (hL26 FU v2 (0 : Int32) (0 : Int32) v3 v4 c_row (0 : Int32) hf)
  · have hf := ifT hc hf
    refine ww_iconst (pc := 12) C dX8_outer_12 kI_m1 ?_
    obtain ⟨e0, e1, e2, e3, e4, e5, e6⟩ := ij7 hf
    exact hret _ _ 13 _ dX8_outer_13 rfl e0 (by rw [← e1, ← e2, ← e3, ← e4, ← e5, ← e6])
def fX8_doors_b83 (c_now : Nat → Int32) (rc26 : Int32 → Int32 → Int32 → (Nat → Int32) → (Nat → Int32) → (Nat → Int64) → Int32 → Int32 → Int32 → Int32 → Option (Int32 × Int32 × Int32 × Int32 × (Nat → Int32) × (Nat → Int32) × (Nat → Int64))) (c_outerMany : Int32) (c_rowMany : Int32) (c_thrown : Int32) (c_outerCell : Nat → Int32) (c_outerDoor : Nat → Int32) (c_row : Nat → Int64) (n1 : Int32) (n2 : Int32) (n4 : Int32) (s0 : Int32) (s1 : Int32) : Option (Int32 × Int32 × Int32 × Int32 × (Nat → Int32) × (Nat → Int32) × (Nat → Int64)) := (some (s0 + s1)).bind fun v1 => (some (n4 + (1 : Int32))).bind fun v2 => rc26 c_outerMany c_rowMany c_thrown c_outerCell c_outerDoor c_row n1 n2 v1 v2
def fX8_doors_b69 (c_now : Nat → Int32) (rc26 : Int32 → Int32 → Int32 → (Nat → Int32) → (Nat → Int32) → (Nat → Int64) → Int32 → Int32 → Int32 → Int32 → Option (Int32 × Int32 × Int32 × Int32 × (Nat → Int32) × (Nat → Int32) × (Nat → Int64))) (c_outerMany : Int32) (c_rowMany : Int32) (c_thrown : Int32) (c_outerCell : Nat → Int32) (c_outerDoor : Nat → Int32) (c_row : Nat → Int64) (n1 : Int32) (n3 : Int32) (n4 : Int32) (n5 : Int32) (s0 : Int32) (s1 : Int32) : Option (Int32 × Int32 × Int32 × Int32 × (Nat → Int32) × (Nat → Int32) × (Nat → Int64)) := (some (s0 + s1)).bind fun v1 => if n5 = (2 : Int32) then fX8_doors_b83 c_now rc26 c_outerMany c_rowMany c_thrown c_outerCell c_outerDoor c_row n1 v1 n4 n3 (1 : Int32) else fX8_doors_b83 c_now rc26 c_outerMany c_rowMany c_thrown c_outerCell c_outerDoor c_row n1 v1 n4 n3 (0 : Int32)
def fX8_doors_b55 (c_now : Nat → Int32) (rc26 : Int32 → Int32 → Int32 → (Nat → Int32) → (Nat → Int32) → (Nat → Int64) → Int32 → Int32 → Int32 → Int32 → Option (Int32 × Int32 × Int32 × Int32 × (Nat → Int32) × (Nat → Int32) × (Nat → Int64))) (c_outerMany : Int32) (c_rowMany : Int32) (c_thrown : Int32) (c_outerCell : Nat → Int32) (c_outerDoor : Nat → Int32) (c_row : Nat → Int64) (n1 : Int32) (n2 : Int32) (n3 : Int32) (n4 : Int32) (s0 : Int32) : Option (Int32 × Int32 × Int32 × Int32 × (Nat → Int32) × (Nat → Int32) × (Nat → Int64)) := if s0 = (1 : Int32) then fX8_doors_b69 c_now rc26 c_outerMany c_rowMany c_thrown c_outerCell c_outerDoor c_row n1 n3 n4 s0 n2 (1 : Int32) else fX8_doors_b69 c_now rc26 c_outerMany c_rowMany c_thrown c_outerCell c_outerDoor c_row n1 n3 n4 s0 n2 (0 : Int32)
def fX8_doors_b26 (c_now : Nat → Int32) (rc26 : Int32 → Int32 → Int32 → (Nat → Int32) → (Nat → Int32) → (Nat → Int64) → Int32 → Int32 → Int32 → Int32 → Option (Int32 × Int32 × Int32 × Int32 × (Nat → Int32) × (Nat → Int32) × (Nat → Int64))) (c_outerMany : Int32) (c_rowMany : Int32) (c_thrown : Int32) (c_outerCell : Nat → Int32) (c_outerDoor : Nat → Int32) (c_row : Nat → Int64) (n1 : Int32) (n2 : Int32) (n3 : Int32) (n4 : Int32) : Option (Int32 × Int32 × Int32 × Int32 × (Nat → Int32) × (Nat → Int32) × (Nat → Int64)) := (fX8_numbers c_now).bind fun v1 => if v1 ≤ n4 then bd2 (fX8_tell (0 : Int32) c_row ((n2).toInt64)) fun v2 v3 => bd2 (fX8_tell v2 v3 ((n3).toInt64)) fun v4 v5 => some ((((n2 + ((2 : Int32) * n3)) + c_outerMany) / (2 : Int32)), c_outerMany, v4, c_thrown, c_outerCell, c_outerDoor, v5) else (fX8_isCell c_now n4).bind fun v6 => if v6 = 0 then fX8_doors_b55 c_now rc26 c_outerMany c_rowMany c_thrown c_outerCell c_outerDoor c_row n1 n2 n3 n4 (0 : Int32) else (fX8_doorMany c_now n4 n1).bind fun v7 => fX8_doors_b55 c_now rc26 c_outerMany c_rowMany c_thrown c_outerCell c_outerDoor c_row n1 n2 n3 n4 v7
def fX8_doors (c_now : Nat → Int32) (c_outerMany : Int32) (c_rowMany : Int32) (c_thrown : Int32) (c_outerCell : Nat → Int32) (c_outerDoor : Nat → Int32) (c_row : Nat → Int64) (x1 : Int32) : Option (Int32 × Int32 × Int32 × Int32 × (Nat → Int32) × (Nat → Int32) × (Nat → Int64)) := (fX8_isKind x1).bind fun v1 => if v1 = 0 then some ((-1 : Int32), c_outerMany, c_rowMany, (0 : Int32), c_outerCell, c_outerDoor, c_row) else bd3 (fX8_layOuter c_now c_outerMany c_outerCell c_outerDoor x1) fun v2 v3 v4 => lfix (fX8_doors_b26 c_now) (fun _ _ _ _ _ _ _ _ _ _ => none) FU v2 c_rowMany (0 : Int32) v3 v4 c_row x1 (0 : Int32) (0 : Int32) (0 : Int32)
set_option maxHeartbeats 4000000 in
set_option maxRecDepth 100000 in
theorem tX8_doors (l : Launch) (D : va_G) (k : Nat → ClassId) (q_this q_now q_text q_row q_read q_outerCell q_outerDoor q_walked q_onWalks q_far q_aside q_wasFull q_undos q_was q_kept q_isKept : Nat) (c_typed : Int32) (c_rowMany : Int32) (c_thrown : Int32) (c_length : Int32) (c_at : Int32) (c_wrong : Int32) (c_outerMany : Int32) (c_walkedMany : Int32) (c_cameOut : Int32) (c_undoMany : Int32) (c_drawn : Int32) (c_now : Nat → Int32) (c_outerCell : Nat → Int32) (c_outerDoor : Nat → Int32) (c_row : Nat → Int64) (x1 : Int32) (r_ : Int32) (w_outerMany : Int32) (w_rowMany : Int32) (w_thrown : Int32) (w_outerCell : Nat → Int32) (w_outerDoor : Nat → Int32) (w_row : Nat → Int64) (hf : fX8_doors c_now c_outerMany c_rowMany c_thrown c_outerCell c_outerDoor c_row x1 = some (r_, w_outerMany, w_rowMany, w_thrown, w_outerCell, w_outerDoor, w_row)) : MI l yX8_doors cX8_doors 6 .int (RM 6 137) D k [.ref q_this, .int x1] [oX8 q_this q_now q_text c_typed q_row c_rowMany c_thrown c_length c_at c_wrong q_read q_outerCell q_outerDoor c_outerMany q_walked c_walkedMany c_cameOut q_onWalks q_far q_aside q_wasFull q_undos q_was c_undoMany c_drawn q_kept q_isKept, aI k q_now 189 c_now, aI k q_outerCell 16 c_outerCell, aI k q_outerDoor 16 c_outerDoor, aJ k q_row 64 c_row] r_ [oX8 q_this q_now q_text c_typed q_row w_rowMany w_thrown c_length c_at c_wrong q_read q_outerCell q_outerDoor w_outerMany q_walked c_walkedMany c_cameOut q_onWalks q_far q_aside q_wasFull q_undos q_was c_undoMany c_drawn q_kept q_isKept, aI k q_now 189 c_now, aI k q_outerCell 16 w_outerCell, aI k q_outerDoor 16 w_outerDoor, aJ k q_row 64 w_row] := by
  refine mkMI' (own := "DoorWalkModel") (by decide) rfl (Nat.le_of_ble_eq_true rfl) ?_
  intro p e s m args below meth c Q A hret C
  refine ww_lv (lv' := [(0, .ref q_this), (1, .int x1)]) [0, 1] rfl ?_
  have hL26 : ∀ (n : Nat) (c_outerMany : Int32) (c_rowMany : Int32) (c_thrown : Int32) (c_outerCell : Nat → Int32) (c_outerDoor : Nat → Int32) (c_row : Nat → Int64) (n1 : Int32) (n2 : Int32) (n3 : Int32) (n4 : Int32), lfix (fX8_doors_b26 c_now) (fun _ _ _ _ _ _ _ _ _ _ => none) n c_outerMany c_rowMany c_thrown c_outerCell c_outerDoor c_row n1 n2 n3 n4 = some (r_, w_outerMany, w_rowMany, w_thrown, w_outerCell, w_outerDoor, w_row) → WW p l e (RM 6 137) s m args below meth c Q 6 D A 0 0 [oX8 q_this q_now q_text c_typed q_row c_rowMany c_thrown c_length c_at c_wrong q_read q_outerCell q_outerDoor c_outerMany q_walked c_walkedMany c_cameOut q_onWalks q_far q_aside q_wasFull q_undos q_was c_undoMany c_drawn q_kept q_isKept, aI k q_now 189 c_now, aI k q_outerCell 16 c_outerCell, aI k q_outerDoor 16 c_outerDoor, aJ k q_row 64 c_row] [(0, .ref q_this), (1, .int n1), (2, .int n2), (3, .int n3), (4, .int n4)] 26 [] := by
    intro n
    induction n with
    | zero => intro c_outerMany c_rowMany c_thrown c_outerCell c_outerDoor c_row n1 n2 n3 n4 hf; cases hf
    | succ n ih26 =>
      obtain ⟨rc26, hrc26⟩ : ∃ f9, f9 = lfix (fX8_doors_b26 c_now) (fun _ _ _ _ _ _ _ _ _ _ => none) n := ⟨_, rfl⟩
      rw [← hrc26] at ih26
      have hJ83 : ∀ (c_outerMany : Int32) (c_rowMany : Int32) (c_thrown : Int32) (c_outerCell : Nat → Int32) (c_outerDoor : Nat → Int32) (c_row : Nat → Int64) (n1 : Int32) (n2 : Int32) (n4 : Int32) (s0 : Int32) (s1 : Int32), fX8_doors_b83 c_now rc26 c_outerMany c_rowMany c_thrown c_outerCell c_outerDoor c_row n1 n2 n4 s0 s1 = some (r_, w_outerMany, w_rowMany, w_thrown, w_outerCell, w_outerDoor, w_row) → WW p l e (RM 6 137) s m args below meth c Q 6 D A 0 0 [oX8 q_this q_now q_text c_typed q_row c_rowMany c_thrown c_length c_at c_wrong q_read q_outerCell q_outerDoor c_outerMany q_walked c_walkedMany c_cameOut q_onWalks q_far q_aside q_wasFull q_undos q_was c_undoMany c_drawn q_kept q_isKept, aI k q_now 189 c_now, aI k q_outerCell 16 c_outerCell, aI k q_outerDoor 16 c_outerDoor, aJ k q_row 64 c_row] [(0, .ref q_this), (1, .int n1), (2, .int n2), (4, .int n4)] 83 [.int s1, .int s0] := by
        intro c_outerMany c_rowMany c_thrown c_outerCell c_outerDoor c_row n1 n2 n4 s0 s1
        intro hf
        unfold fX8_doors_b83 at hf
        refine ww_iadd (pc := 83) C dX8_doors_83  ?_
        obtain ⟨v1, h1, hf⟩ := bsome hf
        refine ww_nmi h1 ?_
        refine ww_istore_n (pc := 84) (lv' := [(3, .int v1), (0, .ref q_this), (1, .int n1), (2, .int n2), (4, .int n4)]) C dX8_doors_84 rfl (by decide) rfl ?_
        obtain ⟨v2, h2, hf⟩ := bsome hf
        refine ww_iincN (pc := 85) (lv' := [(4, .int v2), (3, .int v1), (0, .ref q_this), (1, .int n1), (2, .int n2)]) (j := 4) C dX8_doors_85 kI_1 rfl h2 (by decide) rfl ?_
        refine ww_goto (pc := 88) (tgt := 26) C dX8_doors_88 (by decide) ?_
        exact ww_lv [2, 3, 4, 1, 0] rfl (ih26 c_outerMany c_rowMany c_thrown c_outerCell c_outerDoor c_row n1 n2 v1 v2 hf)
      have hJ69 : ∀ (c_outerMany : Int32) (c_rowMany : Int32) (c_thrown : Int32) (c_outerCell : Nat → Int32) (c_outerDoor : Nat → Int32) (c_row : Nat → Int64) (n1 : Int32) (n3 : Int32) (n4 : Int32) (n5 : Int32) (s0 : Int32) (s1 : Int32), fX8_doors_b69 c_now rc26 c_outerMany c_rowMany c_thrown c_outerCell c_outerDoor c_row n1 n3 n4 n5 s0 s1 = some (r_, w_outerMany, w_rowMany, w_thrown, w_outerCell, w_outerDoor, w_row) → WW p l e (RM 6 137) s m args below meth c Q 6 D A 0 0 [oX8 q_this q_now q_text c_typed q_row c_rowMany c_thrown c_length c_at c_wrong q_read q_outerCell q_outerDoor c_outerMany q_walked c_walkedMany c_cameOut q_onWalks q_far q_aside q_wasFull q_undos q_was c_undoMany c_drawn q_kept q_isKept, aI k q_now 189 c_now, aI k q_outerCell 16 c_outerCell, aI k q_outerDoor 16 c_outerDoor, aJ k q_row 64 c_row] [(0, .ref q_this), (1, .int n1), (3, .int n3), (4, .int n4), (5, .int n5)] 69 [.int s1, .int s0] := by
        intro c_outerMany c_rowMany c_thrown c_outerCell c_outerDoor c_row n1 n3 n4 n5 s0 s1
        intro hf
        unfold fX8_doors_b69 at hf
        refine ww_iadd (pc := 69) C dX8_doors_69  ?_
        obtain ⟨v1, h1, hf⟩ := bsome hf
        refine ww_nmi h1 ?_
        refine ww_istore_n (pc := 70) (lv' := [(2, .int v1), (0, .ref q_this), (1, .int n1), (3, .int n3), (4, .int n4), (5, .int n5)]) C dX8_doors_70 rfl (by decide) rfl ?_
        refine ww_iload_n (pc := 71) C dX8_doors_71 rfl 3 rfl ?_
        refine ww_iload (pc := 72) C dX8_doors_72 5 rfl ?_
        refine ww_iconst (pc := 74) C dX8_doors_74 kI_2 ?_
        refine ww_icmp_ne (pc := 75) (tgt := 82) C dX8_doors_75 (by decide) (fun hc => ?_) (fun hc => ?_)
        · have hf := ifF hc hf
          refine ww_iconst (pc := 82) C dX8_doors_82 kI_0 ?_
          exact ww_lv [1, 2, 0, 4] rfl (hJ83 c_outerMany c_rowMany c_thrown c_outerCell c_outerDoor c_row n1 v1 n4 n3 (0 : Int32) hf)
        · have hf := ifT hc hf
          refine ww_iconst (pc := 78) C dX8_doors_78 kI_1 ?_
          refine ww_goto (pc := 79) (tgt := 83) C dX8_doors_79 (by decide) ?_
          exact ww_lv [1, 2, 0, 4] rfl (hJ83 c_outerMany c_rowMany c_thrown c_outerCell c_outerDoor c_row n1 v1 n4 n3 (1 : Int32) hf)
      have hJ55 : ∀ (c_outerMany : Int32) (c_rowMany : Int32) (c_thrown : Int32) (c_outerCell : Nat → Int32) (c_outerDoor : Nat → Int32) (c_row : Nat → Int64) (n1 : Int32) (n2 : Int32) (n3 : Int32) (n4 : Int32) (s0 : Int32), fX8_doors_b55 c_now rc26 c_outerMany c_rowMany c_thrown c_outerCell c_outerDoor c_row n1 n2 n3 n4 s0 = some (r_, w_outerMany, w_rowMany, w_thrown, w_outerCell, w_outerDoor, w_row) → WW p l e (RM 6 137) s m args below meth c Q 6 D A 0 0 [oX8 q_this q_now q_text c_typed q_row c_rowMany c_thrown c_length c_at c_wrong q_read q_outerCell q_outerDoor c_outerMany q_walked c_walkedMany c_cameOut q_onWalks q_far q_aside q_wasFull q_undos q_was c_undoMany c_drawn q_kept q_isKept, aI k q_now 189 c_now, aI k q_outerCell 16 c_outerCell, aI k q_outerDoor 16 c_outerDoor, aJ k q_row 64 c_row] [(0, .ref q_this), (1, .int n1), (2, .int n2), (3, .int n3), (4, .int n4)] 55 [.int s0] := by
        intro c_outerMany c_rowMany c_thrown c_outerCell c_outerDoor c_row n1 n2 n3 n4 s0
        intro hf
        unfold fX8_doors_b55 at hf
        refine ww_istore (pc := 55) (lv' := [(5, .int s0), (0, .ref q_this), (1, .int n1), (2, .int n2), (3, .int n3), (4, .int n4)]) C dX8_doors_55 (by decide) rfl ?_
        refine ww_iload_n (pc := 57) C dX8_doors_57 rfl 3 rfl ?_
        refine ww_iload (pc := 58) C dX8_doors_58 0 rfl ?_
        refine ww_iconst (pc := 60) C dX8_doors_60 kI_1 ?_
        refine ww_icmp_ne (pc := 61) (tgt := 68) C dX8_doors_61 (by decide) (fun hc => ?_) (fun hc => ?_)
        · have hf := ifF hc hf
          refine ww_iconst (pc := 68) C dX8_doors_68 kI_0 ?_
          exact ww_lv [1, 2, 4, 5, 0] rfl (hJ69 c_outerMany c_rowMany c_thrown c_outerCell c_outerDoor c_row n1 n3 n4 s0 n2 (0 : Int32) hf)
        · have hf := ifT hc hf
          refine ww_iconst (pc := 64) C dX8_doors_64 kI_1 ?_
          refine ww_goto (pc := 65) (tgt := 69) C dX8_doors_65 (by decide) ?_
          exact ww_lv [1, 2, 4, 5, 0] rfl (hJ69 c_outerMany c_rowMany c_thrown c_outerCell c_outerDoor c_row n1 n3 n4 s0 n2 (1 : Int32) hf)
      intro c_outerMany c_rowMany c_thrown c_outerCell c_outerDoor c_row n1 n2 n3 n4 hf
      have hf : fX8_doors_b26 c_now rc26 c_outerMany c_rowMany c_thrown c_outerCell c_outerDoor c_row n1 n2 n3 n4 = some (r_, w_outerMany, w_rowMany, w_thrown, w_outerCell, w_outerDoor, w_row) := by rw [hrc26]; exact hf
      unfold fX8_doors_b26 at hf
      refine ww_iload (pc := 26) C dX8_doors_26 4 rfl ?_
      refine ww_aload_n (pc := 28) C dX8_doors_28 rfl 0 rfl ?_
      obtain ⟨v1, h1, hf⟩ := bsome hf
      refine ww_callVi0 (pc := 29) (As := []) (rest := [.int n4]) C (tX8_numbers l D k q_this q_now q_text q_row q_read q_outerCell q_outerDoor q_walked q_onWalks q_far q_aside q_wasFull q_undos q_was q_kept q_isKept c_typed c_rowMany c_thrown c_length c_at c_wrong c_outerMany c_walkedMany c_cameOut c_undoMany c_drawn c_now v1 h1) cv_X8_210 ⟨⟨by decide, by decide⟩, rfl, rfl⟩ 0 rfl rfl [0, 1] rfl rfl rfl rfl (Nat.le_of_ble_eq_true rfl) ⟨Nat.zero_le _, Nat.zero_le _⟩ dX8_doors_29 (fun hb1 => ?_)
      refine ww_icmp_ge (pc := 32) (tgt := 91) C dX8_doors_32 (by decide) (fun hc => ?_) (fun hc => ?_)
      · have hf := ifT hc hf
        refine ww_aload_n (pc := 91) C dX8_doors_91 rfl 0 rfl ?_
        refine ww_iconst (pc := 92) C dX8_doors_92 kI_0 ?_
        refine pf8_4 (pc := 93) (ws' := [oX8 q_this q_now q_text c_typed q_row (0 : Int32) c_thrown c_length c_at c_wrong q_read q_outerCell q_outerDoor c_outerMany q_walked c_walkedMany c_cameOut q_onWalks q_far q_aside q_wasFull q_undos q_was c_undoMany c_drawn q_kept q_isKept, aI k q_now 189 c_now, aI k q_outerCell 16 c_outerCell, aI k q_outerDoor 16 c_outerDoor, aJ k q_row 64 c_row]) C kf_X8_65 0 rfl (Nat.le_of_ble_eq_true rfl) rfl dX8_doors_93 ?_
        refine ww_aload_n (pc := 96) C dX8_doors_96 rfl 0 rfl ?_
        refine ww_iload_n (pc := 97) C dX8_doors_97 rfl 2 rfl ?_
        refine ww_i2l (pc := 98) C dX8_doors_98  ?_
        obtain ⟨v2, v3, h2, hf⟩ := bd2_some hf
        refine ww_callVv (pc := 99) (ws' := [oX8 q_this q_now q_text c_typed q_row v2 c_thrown c_length c_at c_wrong q_read q_outerCell q_outerDoor c_outerMany q_walked c_walkedMany c_cameOut q_onWalks q_far q_aside q_wasFull q_undos q_was c_undoMany c_drawn q_kept q_isKept, aI k q_now 189 c_now, aI k q_outerCell 16 c_outerCell, aI k q_outerDoor 16 c_outerDoor, aJ k q_row 64 v3]) (As := [.long ((n2).toInt64)]) (rest := []) C (tX8_tell l D k q_this q_now q_text q_row q_read q_outerCell q_outerDoor q_walked q_onWalks q_far q_aside q_wasFull q_undos q_was q_kept q_isKept c_typed (0 : Int32) c_thrown c_length c_at c_wrong c_outerMany c_walkedMany c_cameOut c_undoMany c_drawn c_row ((n2).toInt64) v2 v3 h2) cv_X8_182 ⟨⟨by decide, by decide⟩, rfl, rfl⟩ 0 rfl rfl [0, 4] rfl rfl rfl rfl rfl rfl (Nat.le_of_ble_eq_true rfl) ⟨Nat.zero_le _, Nat.zero_le _⟩ dX8_doors_99 ?_
        refine ww_aload_n (pc := 102) C dX8_doors_102 rfl 0 rfl ?_
        refine ww_iload_n (pc := 103) C dX8_doors_103 rfl 3 rfl ?_
        refine ww_i2l (pc := 104) C dX8_doors_104  ?_
        obtain ⟨v4, v5, h4, hf⟩ := bd2_some hf
        refine ww_callVv (pc := 105) (ws' := [oX8 q_this q_now q_text c_typed q_row v4 c_thrown c_length c_at c_wrong q_read q_outerCell q_outerDoor c_outerMany q_walked c_walkedMany c_cameOut q_onWalks q_far q_aside q_wasFull q_undos q_was c_undoMany c_drawn q_kept q_isKept, aI k q_now 189 c_now, aI k q_outerCell 16 c_outerCell, aI k q_outerDoor 16 c_outerDoor, aJ k q_row 64 v5]) (As := [.long ((n3).toInt64)]) (rest := []) C (tX8_tell l D k q_this q_now q_text q_row q_read q_outerCell q_outerDoor q_walked q_onWalks q_far q_aside q_wasFull q_undos q_was q_kept q_isKept c_typed v2 c_thrown c_length c_at c_wrong c_outerMany c_walkedMany c_cameOut c_undoMany c_drawn v3 ((n3).toInt64) v4 v5 h4) cv_X8_182 ⟨⟨by decide, by decide⟩, rfl, rfl⟩ 0 rfl rfl [0, 4] rfl rfl rfl rfl rfl rfl (Nat.le_of_ble_eq_true rfl) ⟨Nat.zero_le _, Nat.zero_le _⟩ dX8_doors_105 ?_
        refine ww_iload_n (pc := 108) C dX8_doors_108 rfl 2 rfl ?_
        refine ww_iconst (pc := 109) C dX8_doors_109 kI_2 ?_
        refine ww_iload_n (pc := 110) C dX8_doors_110 rfl 3 rfl ?_
        refine ww_imul (pc := 111) C dX8_doors_111  ?_
        refine ww_iadd (pc := 112) C dX8_doors_112  ?_
        refine ww_aload_n (pc := 113) C dX8_doors_113 rfl 0 rfl ?_
        refine gf8_12 (pc := 114) C kf_X8_241 0 rfl rfl dX8_doors_114 ?_
        refine ww_iadd (pc := 117) C dX8_doors_117  ?_
        refine ww_iconst (pc := 118) C dX8_doors_118 kI_2 ?_
        refine ww_idivC (pc := 119) C dX8_doors_119 (by decide) ?_
        obtain ⟨e0, e1, e2, e3, e4, e5, e6⟩ := ij7 hf
        exact hret _ _ 120 _ dX8_doors_120 rfl e0 (by rw [← e1, ← e2, ← e3, ← e4, ← e5, ← e6])
      · have hf := ifF hc hf
        refine ww_aload_n (pc := 35) C dX8_doors_35 rfl 0 rfl ?_
        refine ww_iload (pc := 36) C dX8_doors_36 4 rfl ?_
        obtain ⟨v6, h6, hf⟩ := bsome hf
        refine ww_callVi0 (pc := 38) (As := [.int n4]) (rest := []) C (tX8_isCell l D k q_this q_now q_text q_row q_read q_outerCell q_outerDoor q_walked q_onWalks q_far q_aside q_wasFull q_undos q_was q_kept q_isKept c_typed c_rowMany c_thrown c_length c_at c_wrong c_outerMany c_walkedMany c_cameOut c_undoMany c_drawn c_now n4 v6 h6) cv_X8_213 ⟨⟨by decide, by decide⟩, rfl, rfl⟩ 0 rfl rfl [0, 1] rfl rfl rfl rfl (Nat.le_of_ble_eq_true rfl) ⟨Nat.zero_le _, Nat.zero_le _⟩ dX8_doors_38 (fun hb6 => ?_)
        refine ww_if_eq (pc := 41) (tgt := 54) C dX8_doors_41 (by decide) (fun hc => ?_) (fun hc => ?_)
        · have hf := ifT hc hf
          refine ww_iconst (pc := 54) C dX8_doors_54 kI_0 ?_
          exact hJ55 c_outerMany c_rowMany c_thrown c_outerCell c_outerDoor c_row n1 n2 n3 n4 (0 : Int32) hf
        · have hf := ifF hc hf
          refine ww_aload_n (pc := 44) C dX8_doors_44 rfl 0 rfl ?_
          refine ww_iload (pc := 45) C dX8_doors_45 4 rfl ?_
          refine ww_iload_n (pc := 47) C dX8_doors_47 rfl 1 rfl ?_
          obtain ⟨v7, h7, hf⟩ := bsome hf
          refine ww_callVi0 (pc := 48) (As := [.int n4, .int n1]) (rest := []) C (tX8_doorMany l D k q_this q_now q_text q_row q_read q_outerCell q_outerDoor q_walked q_onWalks q_far q_aside q_wasFull q_undos q_was q_kept q_isKept c_typed c_rowMany c_thrown c_length c_at c_wrong c_outerMany c_walkedMany c_cameOut c_undoMany c_drawn c_now n4 n1 v7 h7) cv_X8_250 ⟨⟨by decide, by decide⟩, rfl, rfl⟩ 0 rfl rfl [0, 1] rfl rfl rfl rfl (Nat.le_of_ble_eq_true rfl) ⟨Nat.zero_le _, Nat.zero_le _⟩ dX8_doors_48 (fun hb7 => ?_)
          refine ww_goto (pc := 51) (tgt := 55) C dX8_doors_51 (by decide) ?_
          exact hJ55 c_outerMany c_rowMany c_thrown c_outerCell c_outerDoor c_row n1 n2 n3 n4 v7 hf
  unfold fX8_doors at hf
  refine ww_aload_n (pc := 0) C dX8_doors_0 rfl 0 rfl ?_
  refine ww_iconst (pc := 1) C dX8_doors_1 kI_0 ?_
  refine pf8_5 (pc := 2) (ws' := [oX8 q_this q_now q_text c_typed q_row c_rowMany (0 : Int32) c_length c_at c_wrong q_read q_outerCell q_outerDoor c_outerMany q_walked c_walkedMany c_cameOut q_onWalks q_far q_aside q_wasFull q_undos q_was c_undoMany c_drawn q_kept q_isKept, aI k q_now 189 c_now, aI k q_outerCell 16 c_outerCell, aI k q_outerDoor 16 c_outerDoor, aJ k q_row 64 c_row]) C kf_X8_61 0 rfl (Nat.le_of_ble_eq_true rfl) rfl dX8_doors_2 ?_
  refine ww_iload_n (pc := 5) C dX8_doors_5 rfl 1 rfl ?_
  obtain ⟨v1, h1, hf⟩ := bsome hf
  refine ww_callSi0 (pc := 6) (As := [.int x1]) (rest := []) C (tX8_isKind l D k x1 v1 h1) cs_X8_244 ⟨⟨by decide, by decide⟩, rfl, rfl⟩ [] rfl rfl rfl rfl (Nat.le_of_ble_eq_true rfl) ⟨Nat.zero_le _, Nat.zero_le _⟩ dX8_doors_6 (fun hb1 => ?_)
  refine ww_if_ne (pc := 9) (tgt := 14) C dX8_doors_9 (by decide) (fun hc => ?_) (fun hc => ?_)
  · have hf := ifF hc hf
    refine ww_aload_n (pc := 14) C dX8_doors_14 rfl 0 rfl ?_
    refine ww_iload_n (pc := 15) C dX8_doors_15 rfl 1 rfl ?_
    obtain ⟨v2, v3, v4, h2, hf⟩ := bd3_some hf
    refine ww_callVv (pc := 16) (ws' := [oX8 q_this q_now q_text c_typed q_row c_rowMany (0 : Int32) c_length c_at c_wrong q_read q_outerCell q_outerDoor v2 q_walked c_walkedMany c_cameOut q_onWalks q_far q_aside q_wasFull q_undos q_was c_undoMany c_drawn q_kept q_isKept, aI k q_now 189 c_now, aI k q_outerCell 16 v3, aI k q_outerDoor 16 v4, aJ k q_row 64 c_row]) (As := [.int x1]) (rest := []) C (tX8_layOuter l D k q_this q_now q_text q_row q_read q_outerCell q_outerDoor q_walked q_onWalks q_far q_aside q_wasFull q_undos q_was q_kept q_isKept c_typed c_rowMany (0 : Int32) c_length c_at c_wrong c_outerMany c_walkedMany c_cameOut c_undoMany c_drawn c_now c_outerCell c_outerDoor x1 v2 v3 v4 h2) cv_X8_247 ⟨⟨by decide, by decide⟩, rfl, rfl⟩ 0 rfl rfl [0, 1, 2, 3] rfl rfl rfl rfl rfl rfl (Nat.le_of_ble_eq_true rfl) ⟨Nat.zero_le _, Nat.zero_le _⟩ dX8_doors_16 ?_
    refine ww_iconst (pc := 19) C dX8_doors_19 kI_0 ?_
    refine ww_istore_n (pc := 20) (lv' := [(2, .int (0 : Int32)), (0, .ref q_this), (1, .int x1)]) C dX8_doors_20 rfl (by decide) rfl ?_
    refine ww_iconst (pc := 21) C dX8_doors_21 kI_0 ?_
    refine ww_istore_n (pc := 22) (lv' := [(3, .int (0 : Int32)), (2, .int (0 : Int32)), (0, .ref q_this), (1, .int x1)]) C dX8_doors_22 rfl (by decide) rfl ?_
    refine ww_iconst (pc := 23) C dX8_doors_23 kI_0 ?_
    refine ww_istore (pc := 24) (lv' := [(4, .int (0 : Int32)), (3, .int (0 : Int32)), (2, .int (0 : Int32)), (0, .ref q_this), (1, .int x1)]) C dX8_doors_24 (by decide) rfl ?_
    exact ww_lv [3, 4, 2, 1, 0] rfl (hL26 FU v2 c_rowMany (0 : Int32) v3 v4 c_row x1 (0 : Int32) (0 : Int32) (0 : Int32) hf)
  · have hf := ifT hc hf
    refine ww_iconst (pc := 12) C dX8_doors_12 kI_m1 ?_
    obtain ⟨e0, e1, e2, e3, e4, e5, e6⟩ := ij7 hf
    exact hret _ _ 13 _ dX8_doors_13 rfl e0 (by rw [← e1, ← e2, ← e3, ← e4, ← e5, ← e6])
