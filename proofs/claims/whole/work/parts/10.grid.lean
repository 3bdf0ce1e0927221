def fX1_cellI (c_size : Int32) (x1 : Int32) : Option Int32 := if (1 : Int32) ≤ c_size then (dvI (x1 >>> ((1 : Int32) &&& 31)) c_size).bind fun v1 => some (v1) else some ((0 : Int32))
set_option maxHeartbeats 4000000 in
set_option maxRecDepth 100000 in
theorem tX1_cellI (l : Launch) (D : va_G) (k : Nat → ClassId) (q_this q_marks : Nat) (c_size : Int32) (c_full : Int32) (c_turns : Int32) (c_firstFull : Int32) (c_lastFull : Int32) (x1 : Int32) (r_ : Int32) (hf : fX1_cellI c_size x1 = some (r_)) : MI l yX1_cellI cX1_cellI 2 .int (RM 0 0) D k [.ref q_this, .int x1] [oX1 q_this q_marks c_size c_full c_turns c_firstFull c_lastFull] r_ [oX1 q_this q_marks c_size c_full c_turns c_firstFull c_lastFull] := by
  refine mkMI' (own := "DoorWalk$Grid") (by decide) rfl (Nat.le_of_ble_eq_true rfl) ?_
  intro p e s m args below meth c Q A hret C
  refine ww_lv (lv' := [(0, .ref q_this), (1, .int x1)]) [0, 1] rfl ?_
  unfold fX1_cellI at hf
  refine ww_aload_n (pc := 0) C dX1_cellI_0 rfl 0 rfl ?_
  refine gf1_1 (pc := 1) C kf_X1_15 0 rfl rfl dX1_cellI_1 ?_
  refine ww_iconst (pc := 4) C dX1_cellI_4 kI_1 ?_
  refine ww_icmp_ge (pc := 5) (tgt := 12) C dX1_cellI_5 (by decide) (fun hc => ?_) (fun hc => ?_)
  · have hf := ifT hc hf
    refine ww_iload_n (pc := 12) C dX1_cellI_12 rfl 1 rfl ?_
    refine ww_iconst (pc := 13) C dX1_cellI_13 kI_1 ?_
    refine ww_ishr (pc := 14) C dX1_cellI_14  ?_
    refine ww_aload_n (pc := 15) C dX1_cellI_15 rfl 0 rfl ?_
    refine gf1_1 (pc := 16) C kf_X1_15 0 rfl rfl dX1_cellI_16 ?_
    obtain ⟨v1, h1, hf⟩ := bsome hf
    refine ww_idiv (pc := 19) C dX1_cellI_19 h1 ?_
    obtain e0 := ij1 hf
    exact hret _ _ 20 _ dX1_cellI_20 rfl e0 rfl
  · have hf := ifF hc hf
    refine ww_iconst (pc := 8) C dX1_cellI_8 kI_0 ?_
    refine ww_goto (pc := 9) (tgt := 20) C dX1_cellI_9 (by decide) ?_
    obtain e0 := ij1 hf
    exact hret _ _ 20 _ dX1_cellI_20 rfl e0 rfl
def fX1_cellJ (c_size : Int32) (x1 : Int32) : Option Int32 := if (1 : Int32) ≤ c_size then (rmI (x1 >>> ((1 : Int32) &&& 31)) c_size).bind fun v1 => some (v1) else some ((0 : Int32))
set_option maxHeartbeats 4000000 in
set_option maxRecDepth 100000 in
theorem tX1_cellJ (l : Launch) (D : va_G) (k : Nat → ClassId) (q_this q_marks : Nat) (c_size : Int32) (c_full : Int32) (c_turns : Int32) (c_firstFull : Int32) (c_lastFull : Int32) (x1 : Int32) (r_ : Int32) (hf : fX1_cellJ c_size x1 = some (r_)) : MI l yX1_cellJ cX1_cellJ 2 .int (RM 0 0) D k [.ref q_this, .int x1] [oX1 q_this q_marks c_size c_full c_turns c_firstFull c_lastFull] r_ [oX1 q_this q_marks c_size c_full c_turns c_firstFull c_lastFull] := by
  refine mkMI' (own := "DoorWalk$Grid") (by decide) rfl (Nat.le_of_ble_eq_true rfl) ?_
  intro p e s m args below meth c Q A hret C
  refine ww_lv (lv' := [(0, .ref q_this), (1, .int x1)]) [0, 1] rfl ?_
  unfold fX1_cellJ at hf
  refine ww_aload_n (pc := 0) C dX1_cellJ_0 rfl 0 rfl ?_
  refine gf1_1 (pc := 1) C kf_X1_15 0 rfl rfl dX1_cellJ_1 ?_
  refine ww_iconst (pc := 4) C dX1_cellJ_4 kI_1 ?_
  refine ww_icmp_ge (pc := 5) (tgt := 12) C dX1_cellJ_5 (by decide) (fun hc => ?_) (fun hc => ?_)
  · have hf := ifT hc hf
    refine ww_iload_n (pc := 12) C dX1_cellJ_12 rfl 1 rfl ?_
    refine ww_iconst (pc := 13) C dX1_cellJ_13 kI_1 ?_
    refine ww_ishr (pc := 14) C dX1_cellJ_14  ?_
    refine ww_aload_n (pc := 15) C dX1_cellJ_15 rfl 0 rfl ?_
    refine gf1_1 (pc := 16) C kf_X1_15 0 rfl rfl dX1_cellJ_16 ?_
    obtain ⟨v1, h1, hf⟩ := bsome hf
    refine ww_irem (pc := 19) C dX1_cellJ_19 h1 ?_
    obtain e0 := ij1 hf
    exact hret _ _ 20 _ dX1_cellJ_20 rfl e0 rfl
  · have hf := ifF hc hf
    refine ww_iconst (pc := 8) C dX1_cellJ_8 kI_0 ?_
    refine ww_goto (pc := 9) (tgt := 20) C dX1_cellJ_9 (by decide) ?_
    obtain e0 := ij1 hf
    exact hret _ _ 20 _ dX1_cellJ_20 rfl e0 rfl
def fX1_numberOf (c_size : Int32) (x1 : Int32) (x2 : Int32) : Option Int32 := some ((((x1 * (c_size + (1 : Int32))) - ((x1 * (x1 - (1 : Int32))) / (2 : Int32))) + x2))
set_option maxHeartbeats 4000000 in
set_option maxRecDepth 100000 in
theorem tX1_numberOf (l : Launch) (D : va_G) (k : Nat → ClassId) (q_this q_marks : Nat) (c_size : Int32) (c_full : Int32) (c_turns : Int32) (c_firstFull : Int32) (c_lastFull : Int32) (x1 : Int32) (x2 : Int32) (r_ : Int32) (hf : fX1_numberOf c_size x1 x2 = some (r_)) : MI l yX1_numberOf cX1_numberOf 3 .int (RM 0 0) D k [.ref q_this, .int x1, .int x2] [oX1 q_this q_marks c_size c_full c_turns c_firstFull c_lastFull] r_ [oX1 q_this q_marks c_size c_full c_turns c_firstFull c_lastFull] := by
  refine mkMI' (own := "DoorWalk$Grid") (by decide) rfl (Nat.le_of_ble_eq_true rfl) ?_
  intro p e s m args below meth c Q A hret C
  refine ww_lv (lv' := [(0, .ref q_this), (1, .int x1), (2, .int x2)]) [0, 1, 2] rfl ?_
  unfold fX1_numberOf at hf
  refine ww_iload_n (pc := 0) C dX1_numberOf_0 rfl 1 rfl ?_
  refine ww_aload_n (pc := 1) C dX1_numberOf_1 rfl 0 rfl ?_
  refine gf1_1 (pc := 2) C kf_X1_15 0 rfl rfl dX1_numberOf_2 ?_
  refine ww_iconst (pc := 5) C dX1_numberOf_5 kI_1 ?_
  refine ww_iadd (pc := 6) C dX1_numberOf_6  ?_
  refine ww_imul (pc := 7) C dX1_numberOf_7  ?_
  refine ww_iload_n (pc := 8) C dX1_numberOf_8 rfl 1 rfl ?_
  refine ww_iload_n (pc := 9) C dX1_numberOf_9 rfl 1 rfl ?_
  refine ww_iconst (pc := 10) C dX1_numberOf_10 kI_1 ?_
  refine ww_isub (pc := 11) C dX1_numberOf_11  ?_
  refine ww_imul (pc := 12) C dX1_numberOf_12  ?_
  refine ww_iconst (pc := 13) C dX1_numberOf_13 kI_2 ?_
  refine ww_idivC (pc := 14) C dX1_numberOf_14 (by decide) ?_
  refine ww_isub (pc := 15) C dX1_numberOf_15  ?_
  refine ww_iload_n (pc := 16) C dX1_numberOf_16 rfl 2 rfl ?_
  refine ww_iadd (pc := 17) C dX1_numberOf_17  ?_
  obtain e0 := ij1 hf
  exact hret _ _ 18 _ dX1_numberOf_18 rfl e0 rfl
def fX1_overOf (c_size : Int32) (x1 : Int32) (x2 : Int32) : Option Int32 := some ((((x2 + c_size) + (1 : Int32)) - x1))
set_option maxHeartbeats 4000000 in
set_option maxRecDepth 100000 in
theorem tX1_overOf (l : Launch) (D : va_G) (k : Nat → ClassId) (q_this q_marks : Nat) (c_size : Int32) (c_full : Int32) (c_turns : Int32) (c_firstFull : Int32) (c_lastFull : Int32) (x1 : Int32) (x2 : Int32) (r_ : Int32) (hf : fX1_overOf c_size x1 x2 = some (r_)) : MI l yX1_overOf cX1_overOf 3 .int (RM 0 0) D k [.ref q_this, .int x1, .int x2] [oX1 q_this q_marks c_size c_full c_turns c_firstFull c_lastFull] r_ [oX1 q_this q_marks c_size c_full c_turns c_firstFull c_lastFull] := by
  refine mkMI' (own := "DoorWalk$Grid") (by decide) rfl (Nat.le_of_ble_eq_true rfl) ?_
  intro p e s m args below meth c Q A hret C
  refine ww_lv (lv' := [(0, .ref q_this), (1, .int x1), (2, .int x2)]) [0, 1, 2] rfl ?_
  unfold fX1_overOf at hf
  refine ww_iload_n (pc := 0) C dX1_overOf_0 rfl 2 rfl ?_
  refine ww_aload_n (pc := 1) C dX1_overOf_1 rfl 0 rfl ?_
  refine gf1_1 (pc := 2) C kf_X1_15 0 rfl rfl dX1_overOf_2 ?_
  refine ww_iadd (pc := 5) C dX1_overOf_5  ?_
  refine ww_iconst (pc := 6) C dX1_overOf_6 kI_1 ?_
  refine ww_iadd (pc := 7) C dX1_overOf_7  ?_
  refine ww_iload_n (pc := 8) C dX1_overOf_8 rfl 1 rfl ?_
  refine ww_isub (pc := 9) C dX1_overOf_9  ?_
  obtain e0 := ij1 hf
  exact hret _ _ 10 _ dX1_overOf_10 rfl e0 rfl
def fX1_labelOfNumber (c_marks : Nat → Int32) (x1 : Int32) : Option Int32 := if x1 < 0 then some ((-1 : Int32)) else if (153 : Int32) ≤ x1 then some ((-1 : Int32)) else (ald 153 x1 c_marks).bind fun v1 => some (v1)
set_option maxHeartbeats 4000000 in
set_option maxRecDepth 100000 in
theorem tX1_labelOfNumber (l : Launch) (D : va_G) (k : Nat → ClassId) (q_this q_marks : Nat) (c_size : Int32) (c_full : Int32) (c_turns : Int32) (c_firstFull : Int32) (c_lastFull : Int32) (c_marks : Nat → Int32) (x1 : Int32) (r_ : Int32) (hf : fX1_labelOfNumber c_marks x1 = some (r_)) : MI l yX1_labelOfNumber cX1_labelOfNumber 2 .int (RM 0 0) D k [.ref q_this, .int x1] [oX1 q_this q_marks c_size c_full c_turns c_firstFull c_lastFull, aI k q_marks 153 c_marks] r_ [oX1 q_this q_marks c_size c_full c_turns c_firstFull c_lastFull, aI k q_marks 153 c_marks] := by
  refine mkMI' (own := "DoorWalk$Grid") (by decide) rfl (Nat.le_of_ble_eq_true rfl) ?_
  intro p e s m args below meth c Q A hret C
  refine ww_lv (lv' := [(0, .ref q_this), (1, .int x1)]) [0, 1] rfl ?_
  unfold fX1_labelOfNumber at hf
  refine ww_iload_n (pc := 0) C dX1_labelOfNumber_0 rfl 1 rfl ?_
  refine ww_if_lt (pc := 1) (tgt := 20) C dX1_labelOfNumber_1 (by decide) (fun hc => ?_) (fun hc => ?_)
  · have hf := ifT hc hf
    refine ww_iconst (pc := 20) C dX1_labelOfNumber_20 kI_m1 ?_
    obtain e0 := ij1 hf
    exact hret _ _ 21 _ dX1_labelOfNumber_21 rfl e0 rfl
  · have hf := ifF hc hf
    refine ww_iload_n (pc := 4) C dX1_labelOfNumber_4 rfl 1 rfl ?_
    refine ww_sipush (pc := 5) C dX1_labelOfNumber_5 kS_153 ?_
    refine ww_icmp_ge (pc := 8) (tgt := 20) C dX1_labelOfNumber_8 (by decide) (fun hc => ?_) (fun hc => ?_)
    · have hf := ifT hc hf
      refine ww_iconst (pc := 20) C dX1_labelOfNumber_20 kI_m1 ?_
      obtain e0 := ij1 hf
      exact hret _ _ 21 _ dX1_labelOfNumber_21 rfl e0 rfl
    · have hf := ifF hc hf
      refine ww_aload_n (pc := 11) C dX1_labelOfNumber_11 rfl 0 rfl ?_
      refine gf1_0 (pc := 12) C kf_X1_9 0 rfl rfl dX1_labelOfNumber_12 ?_
      refine ww_iload_n (pc := 15) C dX1_labelOfNumber_15 rfl 1 rfl ?_
      obtain ⟨v1, h1, hf⟩ := bsome hf
      refine ww_iald (pc := 16) C 1 rfl h1 dX1_labelOfNumber_16 ?_
      refine ww_goto (pc := 17) (tgt := 21) C dX1_labelOfNumber_17 (by decide) ?_
      obtain e0 := ij1 hf
      exact hret _ _ 21 _ dX1_labelOfNumber_21 rfl e0 rfl
def fX1_cornerLabel_b102 (c_size : Int32) (c_marks : Nat → Int32) (s1 : Int32) : Option Int32 := (fX1_labelOfNumber c_marks s1).bind fun v1 => some (v1)
def fX1_cornerLabel_b83 (c_size : Int32) (c_marks : Nat → Int32) (s1 : Int32) : Option Int32 := (fX1_labelOfNumber c_marks s1).bind fun v1 => some (v1)
def fX1_cornerLabel_b59 (c_size : Int32) (c_marks : Nat → Int32) (s1 : Int32) : Option Int32 := (fX1_labelOfNumber c_marks s1).bind fun v1 => some (v1)
def fX1_cornerLabel_b38 (c_size : Int32) (c_marks : Nat → Int32) (n2 : Int32) (n4 : Int32) (n5 : Int32) (s0 : Int32) : Option Int32 := if n2 = 0 then if s0 = 0 then fX1_cornerLabel_b59 c_size c_marks (n5 + (1 : Int32)) else fX1_cornerLabel_b59 c_size c_marks n4 else if n2 = (1 : Int32) then if s0 = 0 then fX1_cornerLabel_b83 c_size c_marks (n4 + (1 : Int32)) else fX1_cornerLabel_b83 c_size c_marks n5 else if s0 = 0 then fX1_cornerLabel_b102 c_size c_marks n5 else fX1_cornerLabel_b102 c_size c_marks (n4 + (1 : Int32))
def fX1_cornerLabel (c_size : Int32) (c_marks : Nat → Int32) (x1 : Int32) (x2 : Int32) : Option Int32 := (fX1_cellI c_size x1).bind fun v1 => (fX1_cellJ c_size x1).bind fun v2 => (fX1_numberOf c_size v1 v2).bind fun v3 => (fX1_overOf c_size v1 v3).bind fun v4 => if (x1 &&& (1 : Int32)) = 0 then fX1_cornerLabel_b38 c_size c_marks x2 v3 v4 (1 : Int32) else fX1_cornerLabel_b38 c_size c_marks x2 v3 v4 (0 : Int32)
set_option maxHeartbeats 4000000 in
set_option maxRecDepth 100000 in
theorem tX1_cornerLabel (l : Launch) (D : va_G) (k : Nat → ClassId) (q_this q_marks : Nat) (c_size : Int32) (c_full : Int32) (c_turns : Int32) (c_firstFull : Int32) (c_lastFull : Int32) (c_marks : Nat → Int32) (x1 : Int32) (x2 : Int32) (r_ : Int32) (hf : fX1_cornerLabel c_size c_marks x1 x2 = some (r_)) : MI l yX1_cornerLabel cX1_cornerLabel 7 .int (RM 1 22) D k [.ref q_this, .int x1, .int x2] [oX1 q_this q_marks c_size c_full c_turns c_firstFull c_lastFull, aI k q_marks 153 c_marks] r_ [oX1 q_this q_marks c_size c_full c_turns c_firstFull c_lastFull, aI k q_marks 153 c_marks] := by
  refine mkMI' (own := "DoorWalk$Grid") (by decide) rfl (Nat.le_of_ble_eq_true rfl) ?_
  intro p e s m args below meth c Q A hret C
  refine ww_lv (lv' := [(0, .ref q_this), (1, .int x1), (2, .int x2)]) [0, 1, 2] rfl ?_
  have hJ102 : ∀ (s1 : Int32), fX1_cornerLabel_b102 c_size c_marks s1 = some (r_) → WW p l e (RM 1 22) s m args below meth c Q 7 D A 0 0 [oX1 q_this q_marks c_size c_full c_turns c_firstFull c_lastFull, aI k q_marks 153 c_marks] [] 102 [.int s1, .ref q_this] := by
    intro s1
    intro hf
    unfold fX1_cornerLabel_b102 at hf
    obtain ⟨v1, h1, hf⟩ := bsome hf
    refine ww_callVi0 (pc := 102) (As := [.int s1]) (rest := []) C (tX1_labelOfNumber l D k q_this q_marks c_size c_full c_turns c_firstFull c_lastFull c_marks s1 v1 h1) cv_X1_57 ⟨⟨by decide, by decide⟩, rfl, rfl⟩ 0 rfl rfl [0, 1] rfl rfl rfl rfl (Nat.le_of_ble_eq_true rfl) ⟨Nat.zero_le _, Nat.zero_le _⟩ dX1_cornerLabel_102 (fun hb1 => ?_)
    obtain e0 := ij1 hf
    exact hret _ _ 105 _ dX1_cornerLabel_105 rfl e0 rfl
  have hJ83 : ∀ (s1 : Int32), fX1_cornerLabel_b83 c_size c_marks s1 = some (r_) → WW p l e (RM 1 22) s m args below meth c Q 7 D A 0 0 [oX1 q_this q_marks c_size c_full c_turns c_firstFull c_lastFull, aI k q_marks 153 c_marks] [] 83 [.int s1, .ref q_this] := by
    intro s1
    intro hf
    unfold fX1_cornerLabel_b83 at hf
    obtain ⟨v1, h1, hf⟩ := bsome hf
    refine ww_callVi0 (pc := 83) (As := [.int s1]) (rest := []) C (tX1_labelOfNumber l D k q_this q_marks c_size c_full c_turns c_firstFull c_lastFull c_marks s1 v1 h1) cv_X1_57 ⟨⟨by decide, by decide⟩, rfl, rfl⟩ 0 rfl rfl [0, 1] rfl rfl rfl rfl (Nat.le_of_ble_eq_true rfl) ⟨Nat.zero_le _, Nat.zero_le _⟩ dX1_cornerLabel_83 (fun hb1 => ?_)
    obtain e0 := ij1 hf
    exact hret _ _ 86 _ dX1_cornerLabel_86 rfl e0 rfl
  have hJ59 : ∀ (s1 : Int32), fX1_cornerLabel_b59 c_size c_marks s1 = some (r_) → WW p l e (RM 1 22) s m args below meth c Q 7 D A 0 0 [oX1 q_this q_marks c_size c_full c_turns c_firstFull c_lastFull, aI k q_marks 153 c_marks] [] 59 [.int s1, .ref q_this] := by
    intro s1
    intro hf
    unfold fX1_cornerLabel_b59 at hf
    obtain ⟨v1, h1, hf⟩ := bsome hf
    refine ww_callVi0 (pc := 59) (As := [.int s1]) (rest := []) C (tX1_labelOfNumber l D k q_this q_marks c_size c_full c_turns c_firstFull c_lastFull c_marks s1 v1 h1) cv_X1_57 ⟨⟨by decide, by decide⟩, rfl, rfl⟩ 0 rfl rfl [0, 1] rfl rfl rfl rfl (Nat.le_of_ble_eq_true rfl) ⟨Nat.zero_le _, Nat.zero_le _⟩ dX1_cornerLabel_59 (fun hb1 => ?_)
    obtain e0 := ij1 hf
    exact hret _ _ 62 _ dX1_cornerLabel_62 rfl e0 rfl
  have hJ38 : ∀ (n2 : Int32) (n4 : Int32) (n5 : Int32) (s0 : Int32), fX1_cornerLabel_b38 c_size c_marks n2 n4 n5 s0 = some (r_) → WW p l e (RM 1 22) s m args below meth c Q 7 D A 0 0 [oX1 q_this q_marks c_size c_full c_turns c_firstFull c_lastFull, aI k q_marks 153 c_marks] [(0, .ref q_this), (2, .int n2), (4, .int n4), (5, .int n5)] 38 [.int s0] := by
    intro n2 n4 n5 s0
    intro hf
    unfold fX1_cornerLabel_b38 at hf
    refine ww_istore (pc := 38) (lv' := [(6, .int s0), (0, .ref q_this), (2, .int n2), (4, .int n4), (5, .int n5)]) C dX1_cornerLabel_38 (by decide) rfl ?_
    refine ww_iload_n (pc := 40) C dX1_cornerLabel_40 rfl 2 rfl ?_
    refine ww_if_ne (pc := 41) (tgt := 63) C dX1_cornerLabel_41 (by decide) (fun hc => ?_) (fun hc => ?_)
    · have hf := ifF hc hf
      refine ww_iload_n (pc := 63) C dX1_cornerLabel_63 rfl 2 rfl ?_
      refine ww_iconst (pc := 64) C dX1_cornerLabel_64 kI_1 ?_
      refine ww_icmp_ne (pc := 65) (tgt := 87) C dX1_cornerLabel_65 (by decide) (fun hc => ?_) (fun hc => ?_)
      · have hf := ifF hc hf
        refine ww_aload_n (pc := 87) C dX1_cornerLabel_87 rfl 1 rfl ?_
        refine ww_iload (pc := 88) C dX1_cornerLabel_88 0 rfl ?_
        refine ww_if_eq (pc := 90) (tgt := 100) C dX1_cornerLabel_90 (by decide) (fun hc => ?_) (fun hc => ?_)
        · have hf := ifT hc hf
          refine ww_iload (pc := 100) C dX1_cornerLabel_100 4 rfl ?_
          exact ww_lv [] rfl (hJ102 n5 hf)
        · have hf := ifF hc hf
          refine ww_iload (pc := 93) C dX1_cornerLabel_93 3 rfl ?_
          refine ww_iconst (pc := 95) C dX1_cornerLabel_95 kI_1 ?_
          refine ww_iadd (pc := 96) C dX1_cornerLabel_96  ?_
          refine ww_goto (pc := 97) (tgt := 102) C dX1_cornerLabel_97 (by decide) ?_
          exact ww_lv [] rfl (hJ102 (n4 + (1 : Int32)) hf)
      · have hf := ifT hc hf
        refine ww_aload_n (pc := 68) C dX1_cornerLabel_68 rfl 1 rfl ?_
        refine ww_iload (pc := 69) C dX1_cornerLabel_69 0 rfl ?_
        refine ww_if_eq (pc := 71) (tgt := 79) C dX1_cornerLabel_71 (by decide) (fun hc => ?_) (fun hc => ?_)
        · have hf := ifT hc hf
          refine ww_iload (pc := 79) C dX1_cornerLabel_79 3 rfl ?_
          refine ww_iconst (pc := 81) C dX1_cornerLabel_81 kI_1 ?_
          refine ww_iadd (pc := 82) C dX1_cornerLabel_82  ?_
          exact ww_lv [] rfl (hJ83 (n4 + (1 : Int32)) hf)
        · have hf := ifF hc hf
          refine ww_iload (pc := 74) C dX1_cornerLabel_74 4 rfl ?_
          refine ww_goto (pc := 76) (tgt := 83) C dX1_cornerLabel_76 (by decide) ?_
          exact ww_lv [] rfl (hJ83 n5 hf)
    · have hf := ifT hc hf
      refine ww_aload_n (pc := 44) C dX1_cornerLabel_44 rfl 1 rfl ?_
      refine ww_iload (pc := 45) C dX1_cornerLabel_45 0 rfl ?_
      refine ww_if_eq (pc := 47) (tgt := 55) C dX1_cornerLabel_47 (by decide) (fun hc => ?_) (fun hc => ?_)
      · have hf := ifT hc hf
        refine ww_iload (pc := 55) C dX1_cornerLabel_55 4 rfl ?_
        refine ww_iconst (pc := 57) C dX1_cornerLabel_57 kI_1 ?_
        refine ww_iadd (pc := 58) C dX1_cornerLabel_58  ?_
        exact ww_lv [] rfl (hJ59 (n5 + (1 : Int32)) hf)
      · have hf := ifF hc hf
        refine ww_iload (pc := 50) C dX1_cornerLabel_50 3 rfl ?_
        refine ww_goto (pc := 52) (tgt := 59) C dX1_cornerLabel_52 (by decide) ?_
        exact ww_lv [] rfl (hJ59 n4 hf)
  unfold fX1_cornerLabel at hf
  refine ww_aload_n (pc := 0) C dX1_cornerLabel_0 rfl 0 rfl ?_
  refine ww_iload_n (pc := 1) C dX1_cornerLabel_1 rfl 1 rfl ?_
  obtain ⟨v1, h1, hf⟩ := bsome hf
  refine ww_callVi0 (pc := 2) (As := [.int x1]) (rest := []) C (tX1_cellI l D k q_this q_marks c_size c_full c_turns c_firstFull c_lastFull x1 v1 h1) cv_X1_75 ⟨⟨by decide, by decide⟩, rfl, rfl⟩ 0 rfl rfl [0] rfl rfl rfl rfl (Nat.le_of_ble_eq_true rfl) ⟨Nat.zero_le _, Nat.zero_le _⟩ dX1_cornerLabel_2 (fun hb1 => ?_)
  refine ww_istore_n (pc := 5) (lv' := [(3, .int v1), (0, .ref q_this), (1, .int x1), (2, .int x2)]) C dX1_cornerLabel_5 rfl (by decide) rfl ?_
  refine ww_aload_n (pc := 6) C dX1_cornerLabel_6 rfl 1 rfl ?_
  refine ww_iload_n (pc := 7) C dX1_cornerLabel_7 rfl 0 rfl ?_
  refine ww_aload_n (pc := 8) C dX1_cornerLabel_8 rfl 1 rfl ?_
  refine ww_iload_n (pc := 9) C dX1_cornerLabel_9 rfl 2 rfl ?_
  obtain ⟨v2, h2, hf⟩ := bsome hf
  refine ww_callVi0 (pc := 10) (As := [.int x1]) (rest := [.int v1, .ref q_this]) C (tX1_cellJ l D k q_this q_marks c_size c_full c_turns c_firstFull c_lastFull x1 v2 h2) cv_X1_78 ⟨⟨by decide, by decide⟩, rfl, rfl⟩ 0 rfl rfl [0] rfl rfl rfl rfl (Nat.le_of_ble_eq_true rfl) ⟨Nat.zero_le _, Nat.zero_le _⟩ dX1_cornerLabel_10 (fun hb2 => ?_)
  obtain ⟨v3, h3, hf⟩ := bsome hf
  refine ww_callVi0 (pc := 13) (As := [.int v1, .int v2]) (rest := []) C (tX1_numberOf l D k q_this q_marks c_size c_full c_turns c_firstFull c_lastFull v1 v2 v3 h3) cv_X1_45 ⟨⟨by decide, by decide⟩, rfl, rfl⟩ 0 rfl rfl [0] rfl rfl rfl rfl (Nat.le_of_ble_eq_true rfl) ⟨Nat.zero_le _, Nat.zero_le _⟩ dX1_cornerLabel_13 (fun hb3 => ?_)
  refine ww_istore (pc := 16) (lv' := [(4, .int v3), (3, .int v1), (0, .ref q_this), (1, .int x1), (2, .int x2)]) C dX1_cornerLabel_16 (by decide) rfl ?_
  refine ww_aload_n (pc := 18) C dX1_cornerLabel_18 rfl 2 rfl ?_
  refine ww_iload_n (pc := 19) C dX1_cornerLabel_19 rfl 1 rfl ?_
  refine ww_iload (pc := 20) C dX1_cornerLabel_20 0 rfl ?_
  obtain ⟨v4, h4, hf⟩ := bsome hf
  refine ww_callVi0 (pc := 22) (As := [.int v1, .int v3]) (rest := []) C (tX1_overOf l D k q_this q_marks c_size c_full c_turns c_firstFull c_lastFull v1 v3 v4 h4) cv_X1_87 ⟨⟨by decide, by decide⟩, rfl, rfl⟩ 0 rfl rfl [0] rfl rfl rfl rfl (Nat.le_of_ble_eq_true rfl) ⟨Nat.zero_le _, Nat.zero_le _⟩ dX1_cornerLabel_22 (fun hb4 => ?_)
  refine ww_istore (pc := 25) (lv' := [(5, .int v4), (4, .int v3), (3, .int v1), (0, .ref q_this), (1, .int x1), (2, .int x2)]) C dX1_cornerLabel_25 (by decide) rfl ?_
  refine ww_iload_n (pc := 27) C dX1_cornerLabel_27 rfl 4 rfl ?_
  refine ww_iconst (pc := 28) C dX1_cornerLabel_28 kI_1 ?_
  refine ww_iand (pc := 29) C dX1_cornerLabel_29  ?_
  refine ww_if_ne (pc := 30) (tgt := 37) C dX1_cornerLabel_30 (by decide) (fun hc => ?_) (fun hc => ?_)
  · have hf := ifF hc hf
    refine ww_iconst (pc := 37) C dX1_cornerLabel_37 kI_0 ?_
    exact ww_lv [3, 5, 1, 0] rfl (hJ38 x2 v3 v4 (0 : Int32) hf)
  · have hf := ifT hc hf
    refine ww_iconst (pc := 33) C dX1_cornerLabel_33 kI_1 ?_
    refine ww_goto (pc := 34) (tgt := 38) C dX1_cornerLabel_34 (by decide) ?_
    exact ww_lv [3, 5, 1, 0] rfl (hJ38 x2 v3 v4 (1 : Int32) hf)
def fX1_cellAt_b20 (c_size : Int32) : Option Int32 := some ((-1 : Int32))
def fX1_cellAt (c_size : Int32) (x1 : Int32) (x2 : Int32) (x3 : Int32) : Option Int32 := if x1 < 0 then fX1_cellAt_b20 c_size else if x2 < 0 then fX1_cellAt_b20 c_size else if ((x1 + x2) + x3) < c_size then some ((((2 : Int32) * ((c_size * x1) + x2)) + x3)) else fX1_cellAt_b20 c_size
set_option maxHeartbeats 4000000 in
set_option maxRecDepth 100000 in
theorem tX1_cellAt (l : Launch) (D : va_G) (k : Nat → ClassId) (q_this q_marks : Nat) (c_size : Int32) (c_full : Int32) (c_turns : Int32) (c_firstFull : Int32) (c_lastFull : Int32) (x1 : Int32) (x2 : Int32) (x3 : Int32) (r_ : Int32) (hf : fX1_cellAt c_size x1 x2 x3 = some (r_)) : MI l yX1_cellAt cX1_cellAt 4 .int (RM 0 0) D k [.ref q_this, .int x1, .int x2, .int x3] [oX1 q_this q_marks c_size c_full c_turns c_firstFull c_lastFull] r_ [oX1 q_this q_marks c_size c_full c_turns c_firstFull c_lastFull] := by
  refine mkMI' (own := "DoorWalk$Grid") (by decide) rfl (Nat.le_of_ble_eq_true rfl) ?_
  intro p e s m args below meth c Q A hret C
  refine ww_lv (lv' := [(0, .ref q_this), (1, .int x1), (2, .int x2), (3, .int x3)]) [0, 1, 2, 3] rfl ?_
  have hJ20 : fX1_cellAt_b20 c_size = some (r_) → WW p l e (RM 0 0) s m args below meth c Q 4 D A 0 0 [oX1 q_this q_marks c_size c_full c_turns c_firstFull c_lastFull] [] 20 [] := by
    intro hf
    unfold fX1_cellAt_b20 at hf
    refine ww_iconst (pc := 20) C dX1_cellAt_20 kI_m1 ?_
    refine ww_goto (pc := 21) (tgt := 36) C dX1_cellAt_21 (by decide) ?_
    obtain e0 := ij1 hf
    exact hret _ _ 36 _ dX1_cellAt_36 rfl e0 rfl
  unfold fX1_cellAt at hf
  refine ww_iload_n (pc := 0) C dX1_cellAt_0 rfl 1 rfl ?_
  refine ww_if_lt (pc := 1) (tgt := 20) C dX1_cellAt_1 (by decide) (fun hc => ?_) (fun hc => ?_)
  · have hf := ifT hc hf
    exact ww_lv [] rfl (hJ20  hf)
  · have hf := ifF hc hf
    refine ww_iload_n (pc := 4) C dX1_cellAt_4 rfl 2 rfl ?_
    refine ww_if_lt (pc := 5) (tgt := 20) C dX1_cellAt_5 (by decide) (fun hc => ?_) (fun hc => ?_)
    · have hf := ifT hc hf
      exact ww_lv [] rfl (hJ20  hf)
    · have hf := ifF hc hf
      refine ww_iload_n (pc := 8) C dX1_cellAt_8 rfl 1 rfl ?_
      refine ww_iload_n (pc := 9) C dX1_cellAt_9 rfl 2 rfl ?_
      refine ww_iadd (pc := 10) C dX1_cellAt_10  ?_
      refine ww_iload_n (pc := 11) C dX1_cellAt_11 rfl 3 rfl ?_
      refine ww_iadd (pc := 12) C dX1_cellAt_12  ?_
      refine ww_aload_n (pc := 13) C dX1_cellAt_13 rfl 0 rfl ?_
      refine gf1_1 (pc := 14) C kf_X1_15 0 rfl rfl dX1_cellAt_14 ?_
      refine ww_icmp_lt (pc := 17) (tgt := 24) C dX1_cellAt_17 (by decide) (fun hc => ?_) (fun hc => ?_)
      · have hf := ifT hc hf
        refine ww_iconst (pc := 24) C dX1_cellAt_24 kI_2 ?_
        refine ww_aload_n (pc := 25) C dX1_cellAt_25 rfl 0 rfl ?_
        refine gf1_1 (pc := 26) C kf_X1_15 0 rfl rfl dX1_cellAt_26 ?_
        refine ww_iload_n (pc := 29) C dX1_cellAt_29 rfl 1 rfl ?_
        refine ww_imul (pc := 30) C dX1_cellAt_30  ?_
        refine ww_iload_n (pc := 31) C dX1_cellAt_31 rfl 2 rfl ?_
        refine ww_iadd (pc := 32) C dX1_cellAt_32  ?_
        refine ww_imul (pc := 33) C dX1_cellAt_33  ?_
        refine ww_iload_n (pc := 34) C dX1_cellAt_34 rfl 3 rfl ?_
        refine ww_iadd (pc := 35) C dX1_cellAt_35  ?_
        obtain e0 := ij1 hf
        exact hret _ _ 36 _ dX1_cellAt_36 rfl e0 rfl
      · have hf := ifF hc hf
        exact ww_lv [] rfl (hJ20  hf)
def fX1_sideCell (c_size : Int32) (x1 : Int32) (x2 : Int32) : Option Int32 := if x1 = 0 then (fX1_cellAt c_size (0 : Int32) x2 (0 : Int32)).bind fun v3 => some (v3) else if x1 = (1 : Int32) then (fX1_cellAt c_size x2 (0 : Int32) (0 : Int32)).bind fun v2 => some (v2) else (fX1_cellAt c_size ((c_size - (1 : Int32)) - x2) x2 (0 : Int32)).bind fun v1 => some (v1)
set_option maxHeartbeats 4000000 in
set_option maxRecDepth 100000 in
theorem tX1_sideCell (l : Launch) (D : va_G) (k : Nat → ClassId) (q_this q_marks : Nat) (c_size : Int32) (c_full : Int32) (c_turns : Int32) (c_firstFull : Int32) (c_lastFull : Int32) (x1 : Int32) (x2 : Int32) (r_ : Int32) (hf : fX1_sideCell c_size x1 x2 = some (r_)) : MI l yX1_sideCell cX1_sideCell 3 .int (RM 1 23) D k [.ref q_this, .int x1, .int x2] [oX1 q_this q_marks c_size c_full c_turns c_firstFull c_lastFull] r_ [oX1 q_this q_marks c_size c_full c_turns c_firstFull c_lastFull] := by
  refine mkMI' (own := "DoorWalk$Grid") (by decide) rfl (Nat.le_of_ble_eq_true rfl) ?_
  intro p e s m args below meth c Q A hret C
  refine ww_lv (lv' := [(0, .ref q_this), (1, .int x1), (2, .int x2)]) [0, 1, 2] rfl ?_
  unfold fX1_sideCell at hf
  refine ww_iload_n (pc := 0) C dX1_sideCell_0 rfl 1 rfl ?_
  refine ww_if_ne (pc := 1) (tgt := 12) C dX1_sideCell_1 (by decide) (fun hc => ?_) (fun hc => ?_)
  · have hf := ifF hc hf
    refine ww_iload_n (pc := 12) C dX1_sideCell_12 rfl 1 rfl ?_
    refine ww_iconst (pc := 13) C dX1_sideCell_13 kI_1 ?_
    refine ww_icmp_ne (pc := 14) (tgt := 27) C dX1_sideCell_14 (by decide) (fun hc => ?_) (fun hc => ?_)
    · have hf := ifF hc hf
      refine ww_aload_n (pc := 27) C dX1_sideCell_27 rfl 0 rfl ?_
      refine ww_aload_n (pc := 28) C dX1_sideCell_28 rfl 0 rfl ?_
      refine gf1_1 (pc := 29) C kf_X1_15 0 rfl rfl dX1_sideCell_29 ?_
      refine ww_iconst (pc := 32) C dX1_sideCell_32 kI_1 ?_
      refine ww_isub (pc := 33) C dX1_sideCell_33  ?_
      refine ww_iload_n (pc := 34) C dX1_sideCell_34 rfl 2 rfl ?_
      refine ww_isub (pc := 35) C dX1_sideCell_35  ?_
      refine ww_iload_n (pc := 36) C dX1_sideCell_36 rfl 2 rfl ?_
      refine ww_iconst (pc := 37) C dX1_sideCell_37 kI_0 ?_
      obtain ⟨v1, h1, hf⟩ := bsome hf
      refine ww_callVi0 (pc := 38) (As := [.int ((c_size - (1 : Int32)) - x2), .int x2, .int (0 : Int32)]) (rest := []) C (tX1_cellAt l D k q_this q_marks c_size c_full c_turns c_firstFull c_lastFull ((c_size - (1 : Int32)) - x2) x2 (0 : Int32) v1 h1) cv_X1_139 ⟨⟨by decide, by decide⟩, rfl, rfl⟩ 0 rfl rfl [0] rfl rfl rfl rfl (Nat.le_of_ble_eq_true rfl) ⟨Nat.zero_le _, Nat.zero_le _⟩ dX1_sideCell_38 (fun hb1 => ?_)
      obtain e0 := ij1 hf
      exact hret _ _ 41 _ dX1_sideCell_41 rfl e0 rfl
    · have hf := ifT hc hf
      refine ww_aload_n (pc := 17) C dX1_sideCell_17 rfl 0 rfl ?_
      refine ww_iload_n (pc := 18) C dX1_sideCell_18 rfl 2 rfl ?_
      refine ww_iconst (pc := 19) C dX1_sideCell_19 kI_0 ?_
      refine ww_iconst (pc := 20) C dX1_sideCell_20 kI_0 ?_
      obtain ⟨v2, h2, hf⟩ := bsome hf
      refine ww_callVi0 (pc := 21) (As := [.int x2, .int (0 : Int32), .int (0 : Int32)]) (rest := []) C (tX1_cellAt l D k q_this q_marks c_size c_full c_turns c_firstFull c_lastFull x2 (0 : Int32) (0 : Int32) v2 h2) cv_X1_139 ⟨⟨by decide, by decide⟩, rfl, rfl⟩ 0 rfl rfl [0] rfl rfl rfl rfl (Nat.le_of_ble_eq_true rfl) ⟨Nat.zero_le _, Nat.zero_le _⟩ dX1_sideCell_21 (fun hb2 => ?_)
      refine ww_goto (pc := 24) (tgt := 41) C dX1_sideCell_24 (by decide) ?_
      obtain e0 := ij1 hf
      exact hret _ _ 41 _ dX1_sideCell_41 rfl e0 rfl
  · have hf := ifT hc hf
    refine ww_aload_n (pc := 4) C dX1_sideCell_4 rfl 0 rfl ?_
    refine ww_iconst (pc := 5) C dX1_sideCell_5 kI_0 ?_
    refine ww_iload_n (pc := 6) C dX1_sideCell_6 rfl 2 rfl ?_
    refine ww_iconst (pc := 7) C dX1_sideCell_7 kI_0 ?_
    obtain ⟨v3, h3, hf⟩ := bsome hf
    refine ww_callVi0 (pc := 8) (As := [.int (0 : Int32), .int x2, .int (0 : Int32)]) (rest := []) C (tX1_cellAt l D k q_this q_marks c_size c_full c_turns c_firstFull c_lastFull (0 : Int32) x2 (0 : Int32) v3 h3) cv_X1_139 ⟨⟨by decide, by decide⟩, rfl, rfl⟩ 0 rfl rfl [0] rfl rfl rfl rfl (Nat.le_of_ble_eq_true rfl) ⟨Nat.zero_le _, Nat.zero_le _⟩ dX1_sideCell_8 (fun hb3 => ?_)
    obtain e0 := ij1 hf
    exact hret _ _ 11 _ dX1_sideCell_11 rfl e0 rfl
def fX1_beyond_b68 (c_size : Int32) (n6 : Int32) (s1 : Int32) (s2 : Int32) : Option Int32 := (fX1_cellAt c_size s1 s2 n6).bind fun v1 => some (v1)
def fX1_beyond_b24 (c_size : Int32) (n1 : Int32) (n2 : Int32) (n3 : Int32) (n4 : Int32) (s0 : Int32) : Option Int32 := (some ((1 : Int32) - (n1 &&& (1 : Int32)))).bind fun v1 => if n2 = (1 : Int32) then (fX1_cellAt c_size (n3 + s0) n4 v1).bind fun v2 => some (v2) else if n2 = (2 : Int32) then fX1_beyond_b68 c_size v1 n3 (n4 + s0) else fX1_beyond_b68 c_size v1 n3 n4
def fX1_beyond (c_size : Int32) (x1 : Int32) (x2 : Int32) : Option Int32 := (fX1_cellI c_size x1).bind fun v1 => (fX1_cellJ c_size x1).bind fun v2 => if (x1 &&& (1 : Int32)) = 0 then fX1_beyond_b24 c_size x1 x2 v1 v2 (-1 : Int32) else fX1_beyond_b24 c_size x1 x2 v1 v2 (1 : Int32)
set_option maxHeartbeats 4000000 in
set_option maxRecDepth 100000 in
theorem tX1_beyond (l : Launch) (D : va_G) (k : Nat → ClassId) (q_this q_marks : Nat) (c_size : Int32) (c_full : Int32) (c_turns : Int32) (c_firstFull : Int32) (c_lastFull : Int32) (x1 : Int32) (x2 : Int32) (r_ : Int32) (hf : fX1_beyond c_size x1 x2 = some (r_)) : MI l yX1_beyond cX1_beyond 7 .int (RM 1 23) D k [.ref q_this, .int x1, .int x2] [oX1 q_this q_marks c_size c_full c_turns c_firstFull c_lastFull] r_ [oX1 q_this q_marks c_size c_full c_turns c_firstFull c_lastFull] := by
  refine mkMI' (own := "DoorWalk$Grid") (by decide) rfl (Nat.le_of_ble_eq_true rfl) ?_
  intro p e s m args below meth c Q A hret C
  refine ww_lv (lv' := [(0, .ref q_this), (1, .int x1), (2, .int x2)]) [0, 1, 2] rfl ?_
  have hJ68 : ∀ (n6 : Int32) (s1 : Int32) (s2 : Int32), fX1_beyond_b68 c_size n6 s1 s2 = some (r_) → WW p l e (RM 1 23) s m args below meth c Q 7 D A 0 0 [oX1 q_this q_marks c_size c_full c_turns c_firstFull c_lastFull] [(6, .int n6)] 68 [.int s2, .int s1, .ref q_this] := by
    intro n6 s1 s2
    intro hf
    unfold fX1_beyond_b68 at hf
    refine ww_iload (pc := 68) C dX1_beyond_68 0 rfl ?_
    obtain ⟨v1, h1, hf⟩ := bsome hf
    refine ww_callVi0 (pc := 70) (As := [.int s1, .int s2, .int n6]) (rest := []) C (tX1_cellAt l D k q_this q_marks c_size c_full c_turns c_firstFull c_lastFull s1 s2 n6 v1 h1) cv_X1_139 ⟨⟨by decide, by decide⟩, rfl, rfl⟩ 0 rfl rfl [0] rfl rfl rfl rfl (Nat.le_of_ble_eq_true rfl) ⟨Nat.zero_le _, Nat.zero_le _⟩ dX1_beyond_70 (fun hb1 => ?_)
    obtain e0 := ij1 hf
    exact hret _ _ 73 _ dX1_beyond_73 rfl e0 rfl
  have hJ24 : ∀ (n1 : Int32) (n2 : Int32) (n3 : Int32) (n4 : Int32) (s0 : Int32), fX1_beyond_b24 c_size n1 n2 n3 n4 s0 = some (r_) → WW p l e (RM 1 23) s m args below meth c Q 7 D A 0 0 [oX1 q_this q_marks c_size c_full c_turns c_firstFull c_lastFull] [(0, .ref q_this), (1, .int n1), (2, .int n2), (3, .int n3), (4, .int n4)] 24 [.int s0] := by
    intro n1 n2 n3 n4 s0
    intro hf
    unfold fX1_beyond_b24 at hf
    refine ww_istore (pc := 24) (lv' := [(5, .int s0), (0, .ref q_this), (1, .int n1), (2, .int n2), (3, .int n3), (4, .int n4)]) C dX1_beyond_24 (by decide) rfl ?_
    refine ww_iconst (pc := 26) C dX1_beyond_26 kI_1 ?_
    refine ww_iload_n (pc := 27) C dX1_beyond_27 rfl 2 rfl ?_
    refine ww_iconst (pc := 28) C dX1_beyond_28 kI_1 ?_
    refine ww_iand (pc := 29) C dX1_beyond_29  ?_
    refine ww_isub (pc := 30) C dX1_beyond_30  ?_
    obtain ⟨v1, h1, hf⟩ := bsome hf
    refine ww_nmi h1 ?_
    refine ww_istore (pc := 31) (lv' := [(6, .int v1), (5, .int s0), (0, .ref q_this), (1, .int n1), (2, .int n2), (3, .int n3), (4, .int n4)]) C dX1_beyond_31 (by decide) rfl ?_
    refine ww_iload_n (pc := 33) C dX1_beyond_33 rfl 4 rfl ?_
    refine ww_iconst (pc := 34) C dX1_beyond_34 kI_1 ?_
    refine ww_icmp_ne (pc := 35) (tgt := 51) C dX1_beyond_35 (by decide) (fun hc => ?_) (fun hc => ?_)
    · have hf := ifF hc hf
      refine ww_aload_n (pc := 51) C dX1_beyond_51 rfl 2 rfl ?_
      refine ww_iload_n (pc := 52) C dX1_beyond_52 rfl 5 rfl ?_
      refine ww_iload_n (pc := 53) C dX1_beyond_53 rfl 4 rfl ?_
      refine ww_iconst (pc := 54) C dX1_beyond_54 kI_2 ?_
      refine ww_icmp_ne (pc := 55) (tgt := 66) C dX1_beyond_55 (by decide) (fun hc => ?_) (fun hc => ?_)
      · have hf := ifF hc hf
        refine ww_iload (pc := 66) C dX1_beyond_66 6 rfl ?_
        exact ww_lv [0] rfl (hJ68 v1 n3 n4 hf)
      · have hf := ifT hc hf
        refine ww_iload (pc := 58) C dX1_beyond_58 6 rfl ?_
        refine ww_iload (pc := 60) C dX1_beyond_60 1 rfl ?_
        refine ww_iadd (pc := 62) C dX1_beyond_62  ?_
        refine ww_goto (pc := 63) (tgt := 68) C dX1_beyond_63 (by decide) ?_
        exact ww_lv [0] rfl (hJ68 v1 n3 (n4 + s0) hf)
    · have hf := ifT hc hf
      refine ww_aload_n (pc := 38) C dX1_beyond_38 rfl 2 rfl ?_
      refine ww_iload_n (pc := 39) C dX1_beyond_39 rfl 5 rfl ?_
      refine ww_iload (pc := 40) C dX1_beyond_40 1 rfl ?_
      refine ww_iadd (pc := 42) C dX1_beyond_42  ?_
      refine ww_iload (pc := 43) C dX1_beyond_43 6 rfl ?_
      refine ww_iload (pc := 45) C dX1_beyond_45 0 rfl ?_
      obtain ⟨v2, h2, hf⟩ := bsome hf
      refine ww_callVi0 (pc := 47) (As := [.int (n3 + s0), .int n4, .int v1]) (rest := []) C (tX1_cellAt l D k q_this q_marks c_size c_full c_turns c_firstFull c_lastFull (n3 + s0) n4 v1 v2 h2) cv_X1_139 ⟨⟨by decide, by decide⟩, rfl, rfl⟩ 0 rfl rfl [0] rfl rfl rfl rfl (Nat.le_of_ble_eq_true rfl) ⟨Nat.zero_le _, Nat.zero_le _⟩ dX1_beyond_47 (fun hb2 => ?_)
      obtain e0 := ij1 hf
      exact hret _ _ 50 _ dX1_beyond_50 rfl e0 rfl
  unfold fX1_beyond at hf
  refine ww_aload_n (pc := 0) C dX1_beyond_0 rfl 0 rfl ?_
  refine ww_iload_n (pc := 1) C dX1_beyond_1 rfl 1 rfl ?_
  obtain ⟨v1, h1, hf⟩ := bsome hf
  refine ww_callVi0 (pc := 2) (As := [.int x1]) (rest := []) C (tX1_cellI l D k q_this q_marks c_size c_full c_turns c_firstFull c_lastFull x1 v1 h1) cv_X1_75 ⟨⟨by decide, by decide⟩, rfl, rfl⟩ 0 rfl rfl [0] rfl rfl rfl rfl (Nat.le_of_ble_eq_true rfl) ⟨Nat.zero_le _, Nat.zero_le _⟩ dX1_beyond_2 (fun hb1 => ?_)
  refine ww_istore_n (pc := 5) (lv' := [(3, .int v1), (0, .ref q_this), (1, .int x1), (2, .int x2)]) C dX1_beyond_5 rfl (by decide) rfl ?_
  refine ww_aload_n (pc := 6) C dX1_beyond_6 rfl 1 rfl ?_
  refine ww_iload_n (pc := 7) C dX1_beyond_7 rfl 2 rfl ?_
  obtain ⟨v2, h2, hf⟩ := bsome hf
  refine ww_callVi0 (pc := 8) (As := [.int x1]) (rest := []) C (tX1_cellJ l D k q_this q_marks c_size c_full c_turns c_firstFull c_lastFull x1 v2 h2) cv_X1_78 ⟨⟨by decide, by decide⟩, rfl, rfl⟩ 0 rfl rfl [0] rfl rfl rfl rfl (Nat.le_of_ble_eq_true rfl) ⟨Nat.zero_le _, Nat.zero_le _⟩ dX1_beyond_8 (fun hb2 => ?_)
  refine ww_istore (pc := 11) (lv' := [(4, .int v2), (3, .int v1), (0, .ref q_this), (1, .int x1), (2, .int x2)]) C dX1_beyond_11 (by decide) rfl ?_
  refine ww_iload_n (pc := 13) C dX1_beyond_13 rfl 3 rfl ?_
  refine ww_iconst (pc := 14) C dX1_beyond_14 kI_1 ?_
  refine ww_iand (pc := 15) C dX1_beyond_15  ?_
  refine ww_if_ne (pc := 16) (tgt := 23) C dX1_beyond_16 (by decide) (fun hc => ?_) (fun hc => ?_)
  · have hf := ifF hc hf
    refine ww_iconst (pc := 23) C dX1_beyond_23 kI_1 ?_
    exact ww_lv [2, 3, 4, 1, 0] rfl (hJ24 x1 x2 v1 v2 (1 : Int32) hf)
  · have hf := ifT hc hf
    refine ww_iconst (pc := 19) C dX1_beyond_19 kI_m1 ?_
    refine ww_goto (pc := 20) (tgt := 24) C dX1_beyond_20 (by decide) ?_
    exact ww_lv [2, 3, 4, 1, 0] rfl (hJ24 x1 x2 v1 v2 (-1 : Int32) hf)
def fX1_sidePlace (c_size : Int32) (x1 : Int32) (x2 : Int32) : Option Int32 := if x1 = (1 : Int32) then (fX1_cellI c_size x2).bind fun v2 => some (v2) else (fX1_cellJ c_size x2).bind fun v1 => some (v1)
set_option maxHeartbeats 4000000 in
set_option maxRecDepth 100000 in
theorem tX1_sidePlace (l : Launch) (D : va_G) (k : Nat → ClassId) (q_this q_marks : Nat) (c_size : Int32) (c_full : Int32) (c_turns : Int32) (c_firstFull : Int32) (c_lastFull : Int32) (x1 : Int32) (x2 : Int32) (r_ : Int32) (hf : fX1_sidePlace c_size x1 x2 = some (r_)) : MI l yX1_sidePlace cX1_sidePlace 3 .int (RM 1 21) D k [.ref q_this, .int x1, .int x2] [oX1 q_this q_marks c_size c_full c_turns c_firstFull c_lastFull] r_ [oX1 q_this q_marks c_size c_full c_turns c_firstFull c_lastFull] := by
  refine mkMI' (own := "DoorWalk$Grid") (by decide) rfl (Nat.le_of_ble_eq_true rfl) ?_
  intro p e s m args below meth c Q A hret C
  refine ww_lv (lv' := [(0, .ref q_this), (1, .int x1), (2, .int x2)]) [0, 1, 2] rfl ?_
  unfold fX1_sidePlace at hf
  refine ww_iload_n (pc := 0) C dX1_sidePlace_0 rfl 1 rfl ?_
  refine ww_iconst (pc := 1) C dX1_sidePlace_1 kI_1 ?_
  refine ww_icmp_ne (pc := 2) (tgt := 13) C dX1_sidePlace_2 (by decide) (fun hc => ?_) (fun hc => ?_)
  · have hf := ifF hc hf
    refine ww_aload_n (pc := 13) C dX1_sidePlace_13 rfl 0 rfl ?_
    refine ww_iload_n (pc := 14) C dX1_sidePlace_14 rfl 2 rfl ?_
    obtain ⟨v1, h1, hf⟩ := bsome hf
    refine ww_callVi0 (pc := 15) (As := [.int x2]) (rest := []) C (tX1_cellJ l D k q_this q_marks c_size c_full c_turns c_firstFull c_lastFull x2 v1 h1) cv_X1_78 ⟨⟨by decide, by decide⟩, rfl, rfl⟩ 0 rfl rfl [0] rfl rfl rfl rfl (Nat.le_of_ble_eq_true rfl) ⟨Nat.zero_le _, Nat.zero_le _⟩ dX1_sidePlace_15 (fun hb1 => ?_)
    obtain e0 := ij1 hf
    exact hret _ _ 18 _ dX1_sidePlace_18 rfl e0 rfl
  · have hf := ifT hc hf
    refine ww_aload_n (pc := 5) C dX1_sidePlace_5 rfl 0 rfl ?_
    refine ww_iload_n (pc := 6) C dX1_sidePlace_6 rfl 2 rfl ?_
    obtain ⟨v2, h2, hf⟩ := bsome hf
    refine ww_callVi0 (pc := 7) (As := [.int x2]) (rest := []) C (tX1_cellI l D k q_this q_marks c_size c_full c_turns c_firstFull c_lastFull x2 v2 h2) cv_X1_75 ⟨⟨by decide, by decide⟩, rfl, rfl⟩ 0 rfl rfl [0] rfl rfl rfl rfl (Nat.le_of_ble_eq_true rfl) ⟨Nat.zero_le _, Nat.zero_le _⟩ dX1_sidePlace_7 (fun hb2 => ?_)
    refine ww_goto (pc := 10) (tgt := 18) C dX1_sidePlace_10 (by decide) ?_
    obtain e0 := ij1 hf
    exact hret _ _ 18 _ dX1_sidePlace_18 rfl e0 rfl
def fX1_putNumber (c_marks : Nat → Int32) (x1 : Int32) (x2 : Int32) : Option ((Nat → Int32)) := if x1 < 0 then some (c_marks) else if (153 : Int32) ≤ x1 then some (c_marks) else (ast 153 x1 c_marks x2).bind fun v1 => some (v1)
set_option maxHeartbeats 4000000 in
set_option maxRecDepth 100000 in
theorem tX1_putNumber (l : Launch) (D : va_G) (k : Nat → ClassId) (q_this q_marks : Nat) (c_size : Int32) (c_full : Int32) (c_turns : Int32) (c_firstFull : Int32) (c_lastFull : Int32) (c_marks : Nat → Int32) (x1 : Int32) (x2 : Int32) (w_marks : Nat → Int32) (hf : fX1_putNumber c_marks x1 x2 = some (w_marks)) : MV l yX1_putNumber cX1_putNumber 3 (RM 0 0) D k [.ref q_this, .int x1, .int x2] [oX1 q_this q_marks c_size c_full c_turns c_firstFull c_lastFull, aI k q_marks 153 c_marks] [oX1 q_this q_marks c_size c_full c_turns c_firstFull c_lastFull, aI k q_marks 153 w_marks] := by
  refine mkMV' (own := "DoorWalk$Grid") (by decide) rfl (Nat.le_of_ble_eq_true rfl) ?_
  intro p e s m args below meth c Q A hret C
  refine ww_lv (lv' := [(0, .ref q_this), (1, .int x1), (2, .int x2)]) [0, 1, 2] rfl ?_
  unfold fX1_putNumber at hf
  refine ww_iload_n (pc := 0) C dX1_putNumber_0 rfl 1 rfl ?_
  refine ww_if_lt (pc := 1) (tgt := 18) C dX1_putNumber_1 (by decide) (fun hc => ?_) (fun hc => ?_)
  · have hf := ifT hc hf
    obtain e0 := ij1 hf
    exact hret _ _ 18 dX1_putNumber_18 (by rw [← e0])
  · have hf := ifF hc hf
    refine ww_iload_n (pc := 4) C dX1_putNumber_4 rfl 1 rfl ?_
    refine ww_sipush (pc := 5) C dX1_putNumber_5 kS_153 ?_
    refine ww_icmp_ge (pc := 8) (tgt := 18) C dX1_putNumber_8 (by decide) (fun hc => ?_) (fun hc => ?_)
    · have hf := ifT hc hf
      obtain e0 := ij1 hf
      exact hret _ _ 18 dX1_putNumber_18 (by rw [← e0])
    · have hf := ifF hc hf
      refine ww_aload_n (pc := 11) C dX1_putNumber_11 rfl 0 rfl ?_
      refine gf1_0 (pc := 12) C kf_X1_9 0 rfl rfl dX1_putNumber_12 ?_
      refine ww_iload_n (pc := 15) C dX1_putNumber_15 rfl 1 rfl ?_
      refine ww_iload_n (pc := 16) C dX1_putNumber_16 rfl 2 rfl ?_
      obtain ⟨v1, h1, hf⟩ := bsome hf
      refine ww_iast (pc := 17) (ws' := [oX1 q_this q_marks c_size c_full c_turns c_firstFull c_lastFull, aI k q_marks 153 v1]) C 1 rfl h1 rfl dX1_putNumber_17 ?_
      obtain e0 := ij1 hf
      exact hret _ _ 18 dX1_putNumber_18 (by rw [← e0])
def fX1_put (c_size : Int32) (c_marks : Nat → Int32) (x1 : Int32) (x2 : Int32) (x3 : Int32) : Option ((Nat → Int32)) := (fX1_numberOf c_size x1 x2).bind fun v1 => (fX1_putNumber c_marks v1 x3).bind fun v2 => some (v2)
set_option maxHeartbeats 4000000 in
set_option maxRecDepth 100000 in
theorem tX1_put (l : Launch) (D : va_G) (k : Nat → ClassId) (q_this q_marks : Nat) (c_size : Int32) (c_full : Int32) (c_turns : Int32) (c_firstFull : Int32) (c_lastFull : Int32) (c_marks : Nat → Int32) (x1 : Int32) (x2 : Int32) (x3 : Int32) (w_marks : Nat → Int32) (hf : fX1_put c_size c_marks x1 x2 x3 = some (w_marks)) : MV l yX1_put cX1_put 4 (RM 1 22) D k [.ref q_this, .int x1, .int x2, .int x3] [oX1 q_this q_marks c_size c_full c_turns c_firstFull c_lastFull, aI k q_marks 153 c_marks] [oX1 q_this q_marks c_size c_full c_turns c_firstFull c_lastFull, aI k q_marks 153 w_marks] := by
  refine mkMV' (own := "DoorWalk$Grid") (by decide) rfl (Nat.le_of_ble_eq_true rfl) ?_
  intro p e s m args below meth c Q A hret C
  refine ww_lv (lv' := [(0, .ref q_this), (1, .int x1), (2, .int x2), (3, .int x3)]) [0, 1, 2, 3] rfl ?_
  unfold fX1_put at hf
  refine ww_aload_n (pc := 0) C dX1_put_0 rfl 0 rfl ?_
  refine ww_aload_n (pc := 1) C dX1_put_1 rfl 0 rfl ?_
  refine ww_iload_n (pc := 2) C dX1_put_2 rfl 1 rfl ?_
  refine ww_iload_n (pc := 3) C dX1_put_3 rfl 2 rfl ?_
  obtain ⟨v1, h1, hf⟩ := bsome hf
  refine ww_callVi0 (pc := 4) (As := [.int x1, .int x2]) (rest := [.ref q_this]) C (tX1_numberOf l D k q_this q_marks c_size c_full c_turns c_firstFull c_lastFull x1 x2 v1 h1) cv_X1_45 ⟨⟨by decide, by decide⟩, rfl, rfl⟩ 0 rfl rfl [0] rfl rfl rfl rfl (Nat.le_of_ble_eq_true rfl) ⟨Nat.zero_le _, Nat.zero_le _⟩ dX1_put_4 (fun hb1 => ?_)
  refine ww_iload_n (pc := 7) C dX1_put_7 rfl 3 rfl ?_
  obtain ⟨v2, h2, hf⟩ := bsome hf
  refine ww_callVv (pc := 8) (ws' := [oX1 q_this q_marks c_size c_full c_turns c_firstFull c_lastFull, aI k q_marks 153 v2]) (As := [.int v1, .int x3]) (rest := []) C (tX1_putNumber l D k q_this q_marks c_size c_full c_turns c_firstFull c_lastFull c_marks v1 x3 v2 h2) cv_X1_60 ⟨⟨by decide, by decide⟩, rfl, rfl⟩ 0 rfl rfl [0, 1] rfl rfl rfl rfl rfl rfl (Nat.le_of_ble_eq_true rfl) ⟨Nat.zero_le _, Nat.zero_le _⟩ dX1_put_8 ?_
  obtain e0 := ij1 hf
  exact hret _ _ 11 dX1_put_11 (by rw [← e0])
def fX1_copy (c_p1_size : Int32) (c_p1_marks : Nat → Int32) (c_size : Int32) (c_marks : Nat → Int32) : Option (Int32 × (Nat → Int32)) := (some (va_cpy c_p1_marks c_marks 0 0 153)).bind fun v1 => some (c_p1_size, v1)
set_option maxHeartbeats 4000000 in
set_option maxRecDepth 100000 in
theorem tX1_copy (l : Launch) (D : va_G) (k : Nat → ClassId) (q_this q_marks q_p1 q_p1_marks : Nat) (c_size : Int32) (c_full : Int32) (c_turns : Int32) (c_firstFull : Int32) (c_lastFull : Int32) (c_marks : Nat → Int32) (c_p1_size : Int32) (c_p1_full : Int32) (c_p1_turns : Int32) (c_p1_firstFull : Int32) (c_p1_lastFull : Int32) (c_p1_marks : Nat → Int32)  (w_size : Int32) (w_marks : Nat → Int32) (hf : fX1_copy c_p1_size c_p1_marks c_size c_marks = some (w_size, w_marks)) : MV l yX1_copy cX1_copy 2 (RM 1 60) D k [.ref q_this, .ref q_p1] [oX1 q_this q_marks c_size c_full c_turns c_firstFull c_lastFull, aI k q_marks 153 c_marks, oX1 q_p1 q_p1_marks c_p1_size c_p1_full c_p1_turns c_p1_firstFull c_p1_lastFull, aI k q_p1_marks 153 c_p1_marks] [oX1 q_this q_marks w_size c_full c_turns c_firstFull c_lastFull, aI k q_marks 153 w_marks, oX1 q_p1 q_p1_marks c_p1_size c_p1_full c_p1_turns c_p1_firstFull c_p1_lastFull, aI k q_p1_marks 153 c_p1_marks] := by
  refine mkMV' (own := "DoorWalk$Grid") (by decide) rfl (Nat.le_of_ble_eq_true rfl) ?_
  intro p e s m args below meth c Q A hret C
  refine ww_lv (lv' := [(0, .ref q_this), (1, .ref q_p1)]) [0, 1] rfl ?_
  unfold fX1_copy at hf
  refine ww_aload_n (pc := 0) C dX1_copy_0 rfl 0 rfl ?_
  refine ww_aload_n (pc := 1) C dX1_copy_1 rfl 1 rfl ?_
  refine gf1_1 (pc := 2) C kf_X1_15 2 rfl rfl dX1_copy_2 ?_
  refine pf1_1 (pc := 5) (ws' := [oX1 q_this q_marks c_p1_size c_full c_turns c_firstFull c_lastFull, aI k q_marks 153 c_marks, oX1 q_p1 q_p1_marks c_p1_size c_p1_full c_p1_turns c_p1_firstFull c_p1_lastFull, aI k q_p1_marks 153 c_p1_marks]) C kf_X1_15 0 rfl (Nat.le_of_ble_eq_true rfl) rfl dX1_copy_5 ?_
  refine ww_aload_n (pc := 8) C dX1_copy_8 rfl 1 rfl ?_
  refine gf1_0 (pc := 9) C kf_X1_9 2 rfl rfl dX1_copy_9 ?_
  refine ww_iconst (pc := 12) C dX1_copy_12 kI_0 ?_
  refine ww_aload_n (pc := 13) C dX1_copy_13 rfl 0 rfl ?_
  refine gf1_0 (pc := 14) C kf_X1_9 0 rfl rfl dX1_copy_14 ?_
  refine ww_iconst (pc := 17) C dX1_copy_17 kI_0 ?_
  refine ww_sipush (pc := 18) C dX1_copy_18 kS_153 ?_
  obtain ⟨v1, h1, hf⟩ := bsome hf
  refine ww_copyi (pc := 21) (ws' := [oX1 q_this q_marks c_p1_size c_full c_turns c_firstFull c_lastFull, aI k q_marks 153 v1, oX1 q_p1 q_p1_marks c_p1_size c_p1_full c_p1_turns c_p1_firstFull c_p1_lastFull, aI k q_p1_marks 153 c_p1_marks]) C kac_X1 3 1 rfl rfl (by decide) (by decide) (by decide) ⟨Nat.le_of_ble_eq_true rfl, Nat.le_of_ble_eq_true rfl⟩ h1 rfl trivial dX1_copy_21 ?_
  obtain ⟨e0, e1⟩ := ij2 hf
  exact hret _ _ 24 dX1_copy_24 (by rw [← e0, ← e1])
def fX1_has (c_size : Int32) (x1 : Int32) (x2 : Int32) : Option Int32 := if x1 < 0 then some ((0 : Int32)) else if x2 < 0 then some ((0 : Int32)) else if c_size < x1 then some ((0 : Int32)) else if (c_size - x1) < x2 then some ((0 : Int32)) else some ((1 : Int32))
set_option maxHeartbeats 4000000 in
set_option maxRecDepth 100000 in
theorem tX1_has (l : Launch) (D : va_G) (k : Nat → ClassId) (q_this q_marks : Nat) (c_size : Int32) (c_full : Int32) (c_turns : Int32) (c_firstFull : Int32) (c_lastFull : Int32) (x1 : Int32) (x2 : Int32) (r_ : Int32) (hf : fX1_has c_size x1 x2 = some (r_)) : MI l yX1_has cX1_has 3 .boolean (RM 0 0) D k [.ref q_this, .int x1, .int x2] [oX1 q_this q_marks c_size c_full c_turns c_firstFull c_lastFull] r_ [oX1 q_this q_marks c_size c_full c_turns c_firstFull c_lastFull] := by
  refine mkMI' (own := "DoorWalk$Grid") (by decide) rfl (Nat.le_of_ble_eq_true rfl) ?_
  intro p e s m args below meth c Q A hret C
  refine ww_lv (lv' := [(0, .ref q_this), (1, .int x1), (2, .int x2)]) [0, 1, 2] rfl ?_
  unfold fX1_has at hf
  refine ww_iload_n (pc := 0) C dX1_has_0 rfl 1 rfl ?_
  refine ww_if_lt (pc := 1) (tgt := 30) C dX1_has_1 (by decide) (fun hc => ?_) (fun hc => ?_)
  · have hf := ifT hc hf
    refine ww_iconst (pc := 30) C dX1_has_30 kI_0 ?_
    obtain e0 := ij1 hf
    exact hret _ _ 31 _ dX1_has_31 (by decide) e0 rfl
  · have hf := ifF hc hf
    refine ww_iload_n (pc := 4) C dX1_has_4 rfl 2 rfl ?_
    refine ww_if_lt (pc := 5) (tgt := 30) C dX1_has_5 (by decide) (fun hc => ?_) (fun hc => ?_)
    · have hf := ifT hc hf
      refine ww_iconst (pc := 30) C dX1_has_30 kI_0 ?_
      obtain e0 := ij1 hf
      exact hret _ _ 31 _ dX1_has_31 (by decide) e0 rfl
    · have hf := ifF hc hf
      refine ww_iload_n (pc := 8) C dX1_has_8 rfl 1 rfl ?_
      refine ww_aload_n (pc := 9) C dX1_has_9 rfl 0 rfl ?_
      refine gf1_1 (pc := 10) C kf_X1_15 0 rfl rfl dX1_has_10 ?_
      refine ww_icmp_gt (pc := 13) (tgt := 30) C dX1_has_13 (by decide) (fun hc => ?_) (fun hc => ?_)
      · have hf := ifT hc hf
        refine ww_iconst (pc := 30) C dX1_has_30 kI_0 ?_
        obtain e0 := ij1 hf
        exact hret _ _ 31 _ dX1_has_31 (by decide) e0 rfl
      · have hf := ifF hc hf
        refine ww_iload_n (pc := 16) C dX1_has_16 rfl 2 rfl ?_
        refine ww_aload_n (pc := 17) C dX1_has_17 rfl 0 rfl ?_
        refine gf1_1 (pc := 18) C kf_X1_15 0 rfl rfl dX1_has_18 ?_
        refine ww_iload_n (pc := 21) C dX1_has_21 rfl 1 rfl ?_
        refine ww_isub (pc := 22) C dX1_has_22  ?_
        refine ww_icmp_gt (pc := 23) (tgt := 30) C dX1_has_23 (by decide) (fun hc => ?_) (fun hc => ?_)
        · have hf := ifT hc hf
          refine ww_iconst (pc := 30) C dX1_has_30 kI_0 ?_
          obtain e0 := ij1 hf
          exact hret _ _ 31 _ dX1_has_31 (by decide) e0 rfl
        · have hf := ifF hc hf
          refine ww_iconst (pc := 26) C dX1_has_26 kI_1 ?_
          refine ww_goto (pc := 27) (tgt := 31) C dX1_has_27 (by decide) ?_
          obtain e0 := ij1 hf
          exact hret _ _ 31 _ dX1_has_31 (by decide) e0 rfl
def fX1_points (c_size : Int32) : Option Int32 := some ((((c_size + (1 : Int32)) * (c_size + (2 : Int32))) / (2 : Int32)))
set_option maxHeartbeats 4000000 in
set_option maxRecDepth 100000 in
theorem tX1_points (l : Launch) (D : va_G) (k : Nat → ClassId) (q_this q_marks : Nat) (c_size : Int32) (c_full : Int32) (c_turns : Int32) (c_firstFull : Int32) (c_lastFull : Int32)  (r_ : Int32) (hf : fX1_points c_size = some (r_)) : MI l yX1_points cX1_points 1 .int (RM 0 0) D k [.ref q_this] [oX1 q_this q_marks c_size c_full c_turns c_firstFull c_lastFull] r_ [oX1 q_this q_marks c_size c_full c_turns c_firstFull c_lastFull] := by
  refine mkMI' (own := "DoorWalk$Grid") (by decide) rfl (Nat.le_of_ble_eq_true rfl) ?_
  intro p e s m args below meth c Q A hret C
  refine ww_lv (lv' := [(0, .ref q_this)]) [0] rfl ?_
  unfold fX1_points at hf
  refine ww_aload_n (pc := 0) C dX1_points_0 rfl 0 rfl ?_
  refine gf1_1 (pc := 1) C kf_X1_15 0 rfl rfl dX1_points_1 ?_
  refine ww_iconst (pc := 4) C dX1_points_4 kI_1 ?_
  refine ww_iadd (pc := 5) C dX1_points_5  ?_
  refine ww_aload_n (pc := 6) C dX1_points_6 rfl 0 rfl ?_
  refine gf1_1 (pc := 7) C kf_X1_15 0 rfl rfl dX1_points_7 ?_
  refine ww_iconst (pc := 10) C dX1_points_10 kI_2 ?_
  refine ww_iadd (pc := 11) C dX1_points_11  ?_
  refine ww_imul (pc := 12) C dX1_points_12  ?_
  refine ww_iconst (pc := 13) C dX1_points_13 kI_2 ?_
  refine ww_idivC (pc := 14) C dX1_points_14 (by decide) ?_
  obtain e0 := ij1 hf
  exact hret _ _ 15 _ dX1_points_15 rfl e0 rfl
def fX1_pointI_b4 (c_size : Int32) (rc4 : Int32 → Int32 → Option Int32) (n2 : Int32) (n3 : Int32) : Option Int32 := if c_size < n3 then some (c_size) else if (c_size - n3) < n2 then (some (n2 - ((c_size - n3) + (1 : Int32)))).bind fun v1 => (some (n3 + (1 : Int32))).bind fun v2 => rc4 v1 v2 else some (n3)
def fX1_pointI (c_size : Int32) (x1 : Int32) : Option Int32 := lfix (fX1_pointI_b4 c_size) (fun _ _ => none) FU x1 (0 : Int32)
set_option maxHeartbeats 4000000 in
set_option maxRecDepth 100000 in
theorem tX1_pointI (l : Launch) (D : va_G) (k : Nat → ClassId) (q_this q_marks : Nat) (c_size : Int32) (c_full : Int32) (c_turns : Int32) (c_firstFull : Int32) (c_lastFull : Int32) (x1 : Int32) (r_ : Int32) (hf : fX1_pointI c_size x1 = some (r_)) : MI l yX1_pointI cX1_pointI 4 .int (RM 0 0) D k [.ref q_this, .int x1] [oX1 q_this q_marks c_size c_full c_turns c_firstFull c_lastFull] r_ [oX1 q_this q_marks c_size c_full c_turns c_firstFull c_lastFull] := by
  refine mkMI' (own := "DoorWalk$Grid") (by decide) rfl (Nat.le_of_ble_eq_true rfl) ?_
  intro p e s m args below meth c Q A hret C
  refine ww_lv (lv' := [(0, .ref q_this), (1, .int x1)]) [0, 1] rfl ?_
  have hL4 : ∀ (n : Nat) (n2 : Int32) (n3 : Int32), lfix (fX1_pointI_b4 c_size) (fun _ _ => none) n n2 n3 = some (r_) → WW p l e (RM 0 0) s m args below meth c Q 4 D A 0 0 [oX1 q_this q_marks c_size c_full c_turns c_firstFull c_lastFull] [(0, .ref q_this), (2, .int n2), (3, .int n3)] 4 [] := by
    intro n
    induction n with
    | zero => intro n2 n3 hf; cases hf
    | succ n ih4 =>
      obtain ⟨rc4, hrc4⟩ : ∃ f9, f9 = lfix (fX1_pointI_b4 c_size) (fun _ _ => none) n := ⟨_, rfl⟩
      rw [← hrc4] at ih4
      intro n2 n3 hf
      have hf : fX1_pointI_b4 c_size rc4 n2 n3 = some (r_) := by rw [hrc4]; exact hf
      unfold fX1_pointI_b4 at hf
      refine ww_iload_n (pc := 4) C dX1_pointI_4 rfl 2 rfl ?_
      refine ww_aload_n (pc := 5) C dX1_pointI_5 rfl 0 rfl ?_
      refine gf1_1 (pc := 6) C kf_X1_15 0 rfl rfl dX1_pointI_6 ?_
      refine ww_icmp_gt (pc := 9) (tgt := 41) C dX1_pointI_9 (by decide) (fun hc => ?_) (fun hc => ?_)
      · have hf := ifT hc hf
        refine ww_aload_n (pc := 41) C dX1_pointI_41 rfl 0 rfl ?_
        refine gf1_1 (pc := 42) C kf_X1_15 0 rfl rfl dX1_pointI_42 ?_
        obtain e0 := ij1 hf
        exact hret _ _ 45 _ dX1_pointI_45 rfl e0 rfl
      · have hf := ifF hc hf
        refine ww_iload_n (pc := 12) C dX1_pointI_12 rfl 1 rfl ?_
        refine ww_aload_n (pc := 13) C dX1_pointI_13 rfl 0 rfl ?_
        refine gf1_1 (pc := 14) C kf_X1_15 0 rfl rfl dX1_pointI_14 ?_
        refine ww_iload_n (pc := 17) C dX1_pointI_17 rfl 2 rfl ?_
        refine ww_isub (pc := 18) C dX1_pointI_18  ?_
        refine ww_icmp_gt (pc := 19) (tgt := 24) C dX1_pointI_19 (by decide) (fun hc => ?_) (fun hc => ?_)
        · have hf := ifT hc hf
          refine ww_iload_n (pc := 24) C dX1_pointI_24 rfl 1 rfl ?_
          refine ww_aload_n (pc := 25) C dX1_pointI_25 rfl 0 rfl ?_
          refine gf1_1 (pc := 26) C kf_X1_15 0 rfl rfl dX1_pointI_26 ?_
          refine ww_iload_n (pc := 29) C dX1_pointI_29 rfl 2 rfl ?_
          refine ww_isub (pc := 30) C dX1_pointI_30  ?_
          refine ww_iconst (pc := 31) C dX1_pointI_31 kI_1 ?_
          refine ww_iadd (pc := 32) C dX1_pointI_32  ?_
          refine ww_isub (pc := 33) C dX1_pointI_33  ?_
          obtain ⟨v1, h1, hf⟩ := bsome hf
          refine ww_nmi h1 ?_
          refine ww_istore_n (pc := 34) (lv' := [(2, .int v1), (0, .ref q_this), (3, .int n3)]) C dX1_pointI_34 rfl (by decide) rfl ?_
          obtain ⟨v2, h2, hf⟩ := bsome hf
          refine ww_iincN (pc := 35) (lv' := [(3, .int v2), (2, .int v1), (0, .ref q_this)]) (j := 2) C dX1_pointI_35 kI_1 rfl h2 (by decide) rfl ?_
          refine ww_goto (pc := 38) (tgt := 4) C dX1_pointI_38 (by decide) ?_
          exact ww_lv [2, 1, 0] rfl (ih4 v1 v2 hf)
        · have hf := ifF hc hf
          refine ww_iload_n (pc := 22) C dX1_pointI_22 rfl 2 rfl ?_
          obtain e0 := ij1 hf
          exact hret _ _ 23 _ dX1_pointI_23 rfl e0 rfl
  unfold fX1_pointI at hf
  refine ww_iload_n (pc := 0) C dX1_pointI_0 rfl 1 rfl ?_
  refine ww_istore_n (pc := 1) (lv' := [(2, .int x1), (0, .ref q_this), (1, .int x1)]) C dX1_pointI_1 rfl (by decide) rfl ?_
  refine ww_iconst (pc := 2) C dX1_pointI_2 kI_0 ?_
  refine ww_istore_n (pc := 3) (lv' := [(3, .int (0 : Int32)), (2, .int x1), (0, .ref q_this), (1, .int x1)]) C dX1_pointI_3 rfl (by decide) rfl ?_
  exact ww_lv [2, 1, 0] rfl (hL4 FU x1 (0 : Int32) hf)
def fX1_pointJ (c_size : Int32) (x1 : Int32) : Option Int32 := (fX1_pointI c_size x1).bind fun v1 => (fX1_numberOf c_size v1 (0 : Int32)).bind fun v2 => some ((x1 - v2))
set_option maxHeartbeats 4000000 in
set_option maxRecDepth 100000 in
theorem tX1_pointJ (l : Launch) (D : va_G) (k : Nat → ClassId) (q_this q_marks : Nat) (c_size : Int32) (c_full : Int32) (c_turns : Int32) (c_firstFull : Int32) (c_lastFull : Int32) (x1 : Int32) (r_ : Int32) (hf : fX1_pointJ c_size x1 = some (r_)) : MI l yX1_pointJ cX1_pointJ 2 .int (RM 1 23) D k [.ref q_this, .int x1] [oX1 q_this q_marks c_size c_full c_turns c_firstFull c_lastFull] r_ [oX1 q_this q_marks c_size c_full c_turns c_firstFull c_lastFull] := by
  refine mkMI' (own := "DoorWalk$Grid") (by decide) rfl (Nat.le_of_ble_eq_true rfl) ?_
  intro p e s m args below meth c Q A hret C
  refine ww_lv (lv' := [(0, .ref q_this), (1, .int x1)]) [0, 1] rfl ?_
  unfold fX1_pointJ at hf
  refine ww_iload_n (pc := 0) C dX1_pointJ_0 rfl 1 rfl ?_
  refine ww_aload_n (pc := 1) C dX1_pointJ_1 rfl 0 rfl ?_
  refine ww_aload_n (pc := 2) C dX1_pointJ_2 rfl 0 rfl ?_
  refine ww_iload_n (pc := 3) C dX1_pointJ_3 rfl 1 rfl ?_
  obtain ⟨v1, h1, hf⟩ := bsome hf
  refine ww_callVi0 (pc := 4) (As := [.int x1]) (rest := [.ref q_this, .int x1]) C (tX1_pointI l D k q_this q_marks c_size c_full c_turns c_firstFull c_lastFull x1 v1 h1) cv_X1_41 ⟨⟨by decide, by decide⟩, rfl, rfl⟩ 0 rfl rfl [0] rfl rfl rfl rfl (Nat.le_of_ble_eq_true rfl) ⟨Nat.zero_le _, Nat.zero_le _⟩ dX1_pointJ_4 (fun hb1 => ?_)
  refine ww_iconst (pc := 7) C dX1_pointJ_7 kI_0 ?_
  obtain ⟨v2, h2, hf⟩ := bsome hf
  refine ww_callVi0 (pc := 8) (As := [.int v1, .int (0 : Int32)]) (rest := [.int x1]) C (tX1_numberOf l D k q_this q_marks c_size c_full c_turns c_firstFull c_lastFull v1 (0 : Int32) v2 h2) cv_X1_45 ⟨⟨by decide, by decide⟩, rfl, rfl⟩ 0 rfl rfl [0] rfl rfl rfl rfl (Nat.le_of_ble_eq_true rfl) ⟨Nat.zero_le _, Nat.zero_le _⟩ dX1_pointJ_8 (fun hb2 => ?_)
  refine ww_isub (pc := 11) C dX1_pointJ_11  ?_
  obtain e0 := ij1 hf
  exact hret _ _ 12 _ dX1_pointJ_12 rfl e0 rfl
def fX1_price (c_size : Int32) (x1 : Int32) (x2 : Int32) (x3 : Int32) : Option Int32 := if x3 = 0 then some (x1) else if x3 = (1 : Int32) then some (x2) else some (((c_size - x1) - x2))
set_option maxHeartbeats 4000000 in
set_option maxRecDepth 100000 in
theorem tX1_price (l : Launch) (D : va_G) (k : Nat → ClassId) (q_this q_marks : Nat) (c_size : Int32) (c_full : Int32) (c_turns : Int32) (c_firstFull : Int32) (c_lastFull : Int32) (x1 : Int32) (x2 : Int32) (x3 : Int32) (r_ : Int32) (hf : fX1_price c_size x1 x2 x3 = some (r_)) : MI l yX1_price cX1_price 4 .int (RM 0 0) D k [.ref q_this, .int x1, .int x2, .int x3] [oX1 q_this q_marks c_size c_full c_turns c_firstFull c_lastFull] r_ [oX1 q_this q_marks c_size c_full c_turns c_firstFull c_lastFull] := by
  refine mkMI' (own := "DoorWalk$Grid") (by decide) rfl (Nat.le_of_ble_eq_true rfl) ?_
  intro p e s m args below meth c Q A hret C
  refine ww_lv (lv' := [(0, .ref q_this), (1, .int x1), (2, .int x2), (3, .int x3)]) [0, 1, 2, 3] rfl ?_
  unfold fX1_price at hf
  refine ww_iload_n (pc := 0) C dX1_price_0 rfl 3 rfl ?_
  refine ww_if_ne (pc := 1) (tgt := 6) C dX1_price_1 (by decide) (fun hc => ?_) (fun hc => ?_)
  · have hf := ifF hc hf
    refine ww_iload_n (pc := 6) C dX1_price_6 rfl 3 rfl ?_
    refine ww_iconst (pc := 7) C dX1_price_7 kI_1 ?_
    refine ww_icmp_ne (pc := 8) (tgt := 15) C dX1_price_8 (by decide) (fun hc => ?_) (fun hc => ?_)
    · have hf := ifF hc hf
      refine ww_aload_n (pc := 15) C dX1_price_15 rfl 0 rfl ?_
      refine gf1_1 (pc := 16) C kf_X1_15 0 rfl rfl dX1_price_16 ?_
      refine ww_iload_n (pc := 19) C dX1_price_19 rfl 1 rfl ?_
      refine ww_isub (pc := 20) C dX1_price_20  ?_
      refine ww_iload_n (pc := 21) C dX1_price_21 rfl 2 rfl ?_
      refine ww_isub (pc := 22) C dX1_price_22  ?_
      obtain e0 := ij1 hf
      exact hret _ _ 23 _ dX1_price_23 rfl e0 rfl
    · have hf := ifT hc hf
      refine ww_iload_n (pc := 11) C dX1_price_11 rfl 2 rfl ?_
      refine ww_goto (pc := 12) (tgt := 23) C dX1_price_12 (by decide) ?_
      obtain e0 := ij1 hf
      exact hret _ _ 23 _ dX1_price_23 rfl e0 rfl
  · have hf := ifT hc hf
    refine ww_iload_n (pc := 4) C dX1_price_4 rfl 1 rfl ?_
    obtain e0 := ij1 hf
    exact hret _ _ 5 _ dX1_price_5 rfl e0 rfl
def fX1_onRim_b18 (c_size : Int32) : Option Int32 := some ((1 : Int32))
def fX1_onRim (c_size : Int32) (x1 : Int32) (x2 : Int32) : Option Int32 := if x1 = 0 then fX1_onRim_b18 c_size else if x2 = 0 then fX1_onRim_b18 c_size else if (x1 + x2) = c_size then fX1_onRim_b18 c_size else some ((0 : Int32))
set_option maxHeartbeats 4000000 in
set_option maxRecDepth 100000 in
theorem tX1_onRim (l : Launch) (D : va_G) (k : Nat → ClassId) (q_this q_marks : Nat) (c_size : Int32) (c_full : Int32) (c_turns : Int32) (c_firstFull : Int32) (c_lastFull : Int32) (x1 : Int32) (x2 : Int32) (r_ : Int32) (hf : fX1_onRim c_size x1 x2 = some (r_)) : MI l yX1_onRim cX1_onRim 3 .boolean (RM 0 0) D k [.ref q_this, .int x1, .int x2] [oX1 q_this q_marks c_size c_full c_turns c_firstFull c_lastFull] r_ [oX1 q_this q_marks c_size c_full c_turns c_firstFull c_lastFull] := by
  refine mkMI' (own := "DoorWalk$Grid") (by decide) rfl (Nat.le_of_ble_eq_true rfl) ?_
  intro p e s m args below meth c Q A hret C
  refine ww_lv (lv' := [(0, .ref q_this), (1, .int x1), (2, .int x2)]) [0, 1, 2] rfl ?_
  have hJ18 : fX1_onRim_b18 c_size = some (r_) → WW p l e (RM 0 0) s m args below meth c Q 3 D A 0 0 [oX1 q_this q_marks c_size c_full c_turns c_firstFull c_lastFull] [] 18 [] := by
    intro hf
    unfold fX1_onRim_b18 at hf
    refine ww_iconst (pc := 18) C dX1_onRim_18 kI_1 ?_
    refine ww_goto (pc := 19) (tgt := 23) C dX1_onRim_19 (by decide) ?_
    obtain e0 := ij1 hf
    exact hret _ _ 23 _ dX1_onRim_23 (by decide) e0 rfl
  unfold fX1_onRim at hf
  refine ww_iload_n (pc := 0) C dX1_onRim_0 rfl 1 rfl ?_
  refine ww_if_eq (pc := 1) (tgt := 18) C dX1_onRim_1 (by decide) (fun hc => ?_) (fun hc => ?_)
  · have hf := ifT hc hf
    exact ww_lv [] rfl (hJ18  hf)
  · have hf := ifF hc hf
    refine ww_iload_n (pc := 4) C dX1_onRim_4 rfl 2 rfl ?_
    refine ww_if_eq (pc := 5) (tgt := 18) C dX1_onRim_5 (by decide) (fun hc => ?_) (fun hc => ?_)
    · have hf := ifT hc hf
      exact ww_lv [] rfl (hJ18  hf)
    · have hf := ifF hc hf
      refine ww_iload_n (pc := 8) C dX1_onRim_8 rfl 1 rfl ?_
      refine ww_iload_n (pc := 9) C dX1_onRim_9 rfl 2 rfl ?_
      refine ww_iadd (pc := 10) C dX1_onRim_10  ?_
      refine ww_aload_n (pc := 11) C dX1_onRim_11 rfl 0 rfl ?_
      refine gf1_1 (pc := 12) C kf_X1_15 0 rfl rfl dX1_onRim_12 ?_
      refine ww_icmp_ne (pc := 15) (tgt := 22) C dX1_onRim_15 (by decide) (fun hc => ?_) (fun hc => ?_)
      · have hf := ifF hc hf
        refine ww_iconst (pc := 22) C dX1_onRim_22 kI_0 ?_
        obtain e0 := ij1 hf
        exact hret _ _ 23 _ dX1_onRim_23 (by decide) e0 rfl
      · have hf := ifT hc hf
        exact ww_lv [] rfl (hJ18  hf)
def fX7_isGood (x1 : Int32) : Option Int32 := if x1 < 0 then some ((0 : Int32)) else if (3 : Int32) ≤ x1 then some ((0 : Int32)) else some ((1 : Int32))
set_option maxHeartbeats 4000000 in
set_option maxRecDepth 100000 in
theorem tX7_isGood (l : Launch) (D : va_G) (k : Nat → ClassId)   (x1 : Int32) (r_ : Int32) (hf : fX7_isGood x1 = some (r_)) : MI l yX7_isGood cX7_isGood 1 .boolean (RM 0 0) D k [.int x1] [] r_ [] := by
  refine mkMI' (own := "DoorWalk") (by decide) rfl (Nat.le_of_ble_eq_true rfl) ?_
  intro p e s m args below meth c Q A hret C
  refine ww_lv (lv' := [(0, .int x1)]) [0] rfl ?_
  unfold fX7_isGood at hf
  refine ww_iload_n (pc := 0) C dX7_isGood_0 rfl 0 rfl ?_
  refine ww_if_lt (pc := 1) (tgt := 13) C dX7_isGood_1 (by decide) (fun hc => ?_) (fun hc => ?_)
  · have hf := ifT hc hf
    refine ww_iconst (pc := 13) C dX7_isGood_13 kI_0 ?_
    obtain e0 := ij1 hf
    exact hret _ _ 14 _ dX7_isGood_14 (by decide) e0 rfl
  · have hf := ifF hc hf
    refine ww_iload_n (pc := 4) C dX7_isGood_4 rfl 0 rfl ?_
    refine ww_iconst (pc := 5) C dX7_isGood_5 kI_3 ?_
    refine ww_icmp_ge (pc := 6) (tgt := 13) C dX7_isGood_6 (by decide) (fun hc => ?_) (fun hc => ?_)
    · have hf := ifT hc hf
      refine ww_iconst (pc := 13) C dX7_isGood_13 kI_0 ?_
      obtain e0 := ij1 hf
      exact hret _ _ 14 _ dX7_isGood_14 (by decide) e0 rfl
    · have hf := ifF hc hf
      refine ww_iconst (pc := 9) C dX7_isGood_9 kI_1 ?_
      refine ww_goto (pc := 10) (tgt := 14) C dX7_isGood_10 (by decide) ?_
      obtain e0 := ij1 hf
      exact hret _ _ 14 _ dX7_isGood_14 (by decide) e0 rfl
def fX1_canHave (c_size : Int32) (x1 : Int32) (x2 : Int32) (x3 : Int32) : Option Int32 := (fX7_isGood x3).bind fun v1 => if v1 = 0 then some ((0 : Int32)) else (fX1_price c_size x1 x2 x3).bind fun v2 => if v2 = 0 then some ((0 : Int32)) else some ((1 : Int32))
set_option maxHeartbeats 4000000 in
set_option maxRecDepth 100000 in
theorem tX1_canHave (l : Launch) (D : va_G) (k : Nat → ClassId) (q_this q_marks : Nat) (c_size : Int32) (c_full : Int32) (c_turns : Int32) (c_firstFull : Int32) (c_lastFull : Int32) (x1 : Int32) (x2 : Int32) (x3 : Int32) (r_ : Int32) (hf : fX1_canHave c_size x1 x2 x3 = some (r_)) : MI l yX1_canHave cX1_canHave 4 .boolean (RM 1 23) D k [.ref q_this, .int x1, .int x2, .int x3] [oX1 q_this q_marks c_size c_full c_turns c_firstFull c_lastFull] r_ [oX1 q_this q_marks c_size c_full c_turns c_firstFull c_lastFull] := by
  refine mkMI' (own := "DoorWalk$Grid") (by decide) rfl (Nat.le_of_ble_eq_true rfl) ?_
  intro p e s m args below meth c Q A hret C
  refine ww_lv (lv' := [(0, .ref q_this), (1, .int x1), (2, .int x2), (3, .int x3)]) [0, 1, 2, 3] rfl ?_
  unfold fX1_canHave at hf
  refine ww_iload_n (pc := 0) C dX1_canHave_0 rfl 3 rfl ?_
  obtain ⟨v1, h1, hf⟩ := bsome hf
  refine ww_callNi0 (pc := 1) (As := [.int x3]) (rest := []) C (tX7_isGood l D k x3 v1 h1) cn_X1_49 ⟨⟨by decide, by decide⟩, rfl, rfl⟩ [] rfl rfl rfl rfl (Nat.le_of_ble_eq_true rfl) ⟨Nat.zero_le _, Nat.zero_le _⟩ dX1_canHave_1 (fun hb1 => ?_)
  refine ww_if_eq (pc := 4) (tgt := 21) C dX1_canHave_4 (by decide) (fun hc => ?_) (fun hc => ?_)
  · have hf := ifT hc hf
    refine ww_iconst (pc := 21) C dX1_canHave_21 kI_0 ?_
    obtain e0 := ij1 hf
    exact hret _ _ 22 _ dX1_canHave_22 (by decide) e0 rfl
  · have hf := ifF hc hf
    refine ww_aload_n (pc := 7) C dX1_canHave_7 rfl 0 rfl ?_
    refine ww_iload_n (pc := 8) C dX1_canHave_8 rfl 1 rfl ?_
    refine ww_iload_n (pc := 9) C dX1_canHave_9 rfl 2 rfl ?_
    refine ww_iload_n (pc := 10) C dX1_canHave_10 rfl 3 rfl ?_
    obtain ⟨v2, h2, hf⟩ := bsome hf
    refine ww_callVi0 (pc := 11) (As := [.int x1, .int x2, .int x3]) (rest := []) C (tX1_price l D k q_this q_marks c_size c_full c_turns c_firstFull c_lastFull x1 x2 x3 v2 h2) cv_X1_53 ⟨⟨by decide, by decide⟩, rfl, rfl⟩ 0 rfl rfl [0] rfl rfl rfl rfl (Nat.le_of_ble_eq_true rfl) ⟨Nat.zero_le _, Nat.zero_le _⟩ dX1_canHave_11 (fun hb2 => ?_)
    refine ww_if_eq (pc := 14) (tgt := 21) C dX1_canHave_14 (by decide) (fun hc => ?_) (fun hc => ?_)
    · have hf := ifT hc hf
      refine ww_iconst (pc := 21) C dX1_canHave_21 kI_0 ?_
      obtain e0 := ij1 hf
      exact hret _ _ 22 _ dX1_canHave_22 (by decide) e0 rfl
    · have hf := ifF hc hf
      refine ww_iconst (pc := 17) C dX1_canHave_17 kI_1 ?_
      refine ww_goto (pc := 18) (tgt := 22) C dX1_canHave_18 (by decide) ?_
      obtain e0 := ij1 hf
      exact hret _ _ 22 _ dX1_canHave_22 (by decide) e0 rfl
def fX1_labelAt (c_size : Int32) (c_marks : Nat → Int32) (x1 : Int32) (x2 : Int32) : Option Int32 := (fX1_numberOf c_size x1 x2).bind fun v1 => (fX1_labelOfNumber c_marks v1).bind fun v2 => some (v2)
set_option maxHeartbeats 4000000 in
set_option maxRecDepth 100000 in
theorem tX1_labelAt (l : Launch) (D : va_G) (k : Nat → ClassId) (q_this q_marks : Nat) (c_size : Int32) (c_full : Int32) (c_turns : Int32) (c_firstFull : Int32) (c_lastFull : Int32) (c_marks : Nat → Int32) (x1 : Int32) (x2 : Int32) (r_ : Int32) (hf : fX1_labelAt c_size c_marks x1 x2 = some (r_)) : MI l yX1_labelAt cX1_labelAt 3 .int (RM 1 22) D k [.ref q_this, .int x1, .int x2] [oX1 q_this q_marks c_size c_full c_turns c_firstFull c_lastFull, aI k q_marks 153 c_marks] r_ [oX1 q_this q_marks c_size c_full c_turns c_firstFull c_lastFull, aI k q_marks 153 c_marks] := by
  refine mkMI' (own := "DoorWalk$Grid") (by decide) rfl (Nat.le_of_ble_eq_true rfl) ?_
  intro p e s m args below meth c Q A hret C
  refine ww_lv (lv' := [(0, .ref q_this), (1, .int x1), (2, .int x2)]) [0, 1, 2] rfl ?_
  unfold fX1_labelAt at hf
  refine ww_aload_n (pc := 0) C dX1_labelAt_0 rfl 0 rfl ?_
  refine ww_aload_n (pc := 1) C dX1_labelAt_1 rfl 0 rfl ?_
  refine ww_iload_n (pc := 2) C dX1_labelAt_2 rfl 1 rfl ?_
  refine ww_iload_n (pc := 3) C dX1_labelAt_3 rfl 2 rfl ?_
  obtain ⟨v1, h1, hf⟩ := bsome hf
  refine ww_callVi0 (pc := 4) (As := [.int x1, .int x2]) (rest := [.ref q_this]) C (tX1_numberOf l D k q_this q_marks c_size c_full c_turns c_firstFull c_lastFull x1 x2 v1 h1) cv_X1_45 ⟨⟨by decide, by decide⟩, rfl, rfl⟩ 0 rfl rfl [0] rfl rfl rfl rfl (Nat.le_of_ble_eq_true rfl) ⟨Nat.zero_le _, Nat.zero_le _⟩ dX1_labelAt_4 (fun hb1 => ?_)
  obtain ⟨v2, h2, hf⟩ := bsome hf
  refine ww_callVi0 (pc := 7) (As := [.int v1]) (rest := []) C (tX1_labelOfNumber l D k q_this q_marks c_size c_full c_turns c_firstFull c_lastFull c_marks v1 v2 h2) cv_X1_57 ⟨⟨by decide, by decide⟩, rfl, rfl⟩ 0 rfl rfl [0, 1] rfl rfl rfl rfl (Nat.le_of_ble_eq_true rfl) ⟨Nat.zero_le _, Nat.zero_le _⟩ dX1_labelAt_7 (fun hb2 => ?_)
  obtain e0 := ij1 hf
  exact hret _ _ 10 _ dX1_labelAt_10 rfl e0 rfl
def fX1_lay (c_size : Int32) (c_marks : Nat → Int32) (x1 : Int32) (x2 : Int32) (x3 : Int32) : Option (Int32 × (Nat → Int32)) := (fX1_has c_size x1 x2).bind fun v1 => if v1 = 0 then some ((-1 : Int32), c_marks) else (fX7_isGood x3).bind fun v2 => if v2 = 0 then some ((-1 : Int32), c_marks) else (fX1_labelAt c_size c_marks x1 x2).bind fun v3 => if v3 = x3 then some ((-2 : Int32), c_marks) else (fX1_canHave c_size x1 x2 x3).bind fun v4 => if v4 = 0 then some ((-4 : Int32), c_marks) else (fX1_put c_size c_marks x1 x2 x3).bind fun v5 => some (v3, v5)
set_option maxHeartbeats 4000000 in
set_option maxRecDepth 100000 in
theorem tX1_lay (l : Launch) (D : va_G) (k : Nat → ClassId) (q_this q_marks : Nat) (c_size : Int32) (c_full : Int32) (c_turns : Int32) (c_firstFull : Int32) (c_lastFull : Int32) (c_marks : Nat → Int32) (x1 : Int32) (x2 : Int32) (x3 : Int32) (r_ : Int32) (w_marks : Nat → Int32) (hf : fX1_lay c_size c_marks x1 x2 x3 = some (r_, w_marks)) : MI l yX1_lay cX1_lay 5 .int (RM 2 46) D k [.ref q_this, .int x1, .int x2, .int x3] [oX1 q_this q_marks c_size c_full c_turns c_firstFull c_lastFull, aI k q_marks 153 c_marks] r_ [oX1 q_this q_marks c_size c_full c_turns c_firstFull c_lastFull, aI k q_marks 153 w_marks] := by
  refine mkMI' (own := "DoorWalk$Grid") (by decide) rfl (Nat.le_of_ble_eq_true rfl) ?_
  intro p e s m args below meth c Q A hret C
  refine ww_lv (lv' := [(0, .ref q_this), (1, .int x1), (2, .int x2), (3, .int x3)]) [0, 1, 2, 3] rfl ?_
  unfold fX1_lay at hf
  refine ww_aload_n (pc := 0) C dX1_lay_0 rfl 0 rfl ?_
  refine ww_iload_n (pc := 1) C dX1_lay_1 rfl 1 rfl ?_
  refine ww_iload_n (pc := 2) C dX1_lay_2 rfl 2 rfl ?_
  obtain ⟨v1, h1, hf⟩ := bsome hf
  refine ww_callVi0 (pc := 3) (As := [.int x1, .int x2]) (rest := []) C (tX1_has l D k q_this q_marks c_size c_full c_turns c_firstFull c_lastFull x1 x2 v1 h1) cv_X1_64 ⟨⟨by decide, by decide⟩, rfl, rfl⟩ 0 rfl rfl [0] rfl rfl rfl rfl (Nat.le_of_ble_eq_true rfl) ⟨Nat.zero_le _, Nat.zero_le _⟩ dX1_lay_3 (fun hb1 => ?_)
  refine ww_if_eq (pc := 6) (tgt := 16) C dX1_lay_6 (by decide) (fun hc => ?_) (fun hc => ?_)
  · have hf := ifT hc hf
    refine ww_iconst (pc := 16) C dX1_lay_16 kI_m1 ?_
    obtain ⟨e0, e1⟩ := ij2 hf
    exact hret _ _ 17 _ dX1_lay_17 rfl e0 (by rw [← e1])
  · have hf := ifF hc hf
    refine ww_iload_n (pc := 9) C dX1_lay_9 rfl 3 rfl ?_
    obtain ⟨v2, h2, hf⟩ := bsome hf
    refine ww_callNi0 (pc := 10) (As := [.int x3]) (rest := []) C (tX7_isGood l D k x3 v2 h2) cn_X1_49 ⟨⟨by decide, by decide⟩, rfl, rfl⟩ [] rfl rfl rfl rfl (Nat.le_of_ble_eq_true rfl) ⟨Nat.zero_le _, Nat.zero_le _⟩ dX1_lay_10 (fun hb2 => ?_)
    refine ww_if_ne (pc := 13) (tgt := 18) C dX1_lay_13 (by decide) (fun hc => ?_) (fun hc => ?_)
    · have hf := ifF hc hf
      refine ww_aload_n (pc := 18) C dX1_lay_18 rfl 0 rfl ?_
      refine ww_iload_n (pc := 19) C dX1_lay_19 rfl 1 rfl ?_
      refine ww_iload_n (pc := 20) C dX1_lay_20 rfl 2 rfl ?_
      obtain ⟨v3, h3, hf⟩ := bsome hf
      refine ww_callVi0 (pc := 21) (As := [.int x1, .int x2]) (rest := []) C (tX1_labelAt l D k q_this q_marks c_size c_full c_turns c_firstFull c_lastFull c_marks x1 x2 v3 h3) cv_X1_68 ⟨⟨by decide, by decide⟩, rfl, rfl⟩ 0 rfl rfl [0, 1] rfl rfl rfl rfl (Nat.le_of_ble_eq_true rfl) ⟨Nat.zero_le _, Nat.zero_le _⟩ dX1_lay_21 (fun hb3 => ?_)
      refine ww_istore (pc := 24) (lv' := [(4, .int v3), (0, .ref q_this), (1, .int x1), (2, .int x2), (3, .int x3)]) C dX1_lay_24 (by decide) rfl ?_
      refine ww_iload (pc := 26) C dX1_lay_26 0 rfl ?_
      refine ww_iload_n (pc := 28) C dX1_lay_28 rfl 4 rfl ?_
      refine ww_icmp_ne (pc := 29) (tgt := 35) C dX1_lay_29 (by decide) (fun hc => ?_) (fun hc => ?_)
      · have hf := ifF hc hf
        refine ww_aload_n (pc := 35) C dX1_lay_35 rfl 1 rfl ?_
        refine ww_iload_n (pc := 36) C dX1_lay_36 rfl 2 rfl ?_
        refine ww_iload_n (pc := 37) C dX1_lay_37 rfl 3 rfl ?_
        refine ww_iload_n (pc := 38) C dX1_lay_38 rfl 4 rfl ?_
        obtain ⟨v4, h4, hf⟩ := bsome hf
        refine ww_callVi0 (pc := 39) (As := [.int x1, .int x2, .int x3]) (rest := []) C (tX1_canHave l D k q_this q_marks c_size c_full c_turns c_firstFull c_lastFull x1 x2 x3 v4 h4) cv_X1_71 ⟨⟨by decide, by decide⟩, rfl, rfl⟩ 0 rfl rfl [0] rfl rfl rfl rfl (Nat.le_of_ble_eq_true rfl) ⟨Nat.zero_le _, Nat.zero_le _⟩ dX1_lay_39 (fun hb4 => ?_)
        refine ww_if_ne (pc := 42) (tgt := 48) C dX1_lay_42 (by decide) (fun hc => ?_) (fun hc => ?_)
        · have hf := ifF hc hf
          refine ww_aload_n (pc := 48) C dX1_lay_48 rfl 1 rfl ?_
          refine ww_iload_n (pc := 49) C dX1_lay_49 rfl 2 rfl ?_
          refine ww_iload_n (pc := 50) C dX1_lay_50 rfl 3 rfl ?_
          refine ww_iload_n (pc := 51) C dX1_lay_51 rfl 4 rfl ?_
          obtain ⟨v5, h5, hf⟩ := bsome hf
          refine ww_callVv (pc := 52) (ws' := [oX1 q_this q_marks c_size c_full c_turns c_firstFull c_lastFull, aI k q_marks 153 v5]) (As := [.int x1, .int x2, .int x3]) (rest := []) C (tX1_put l D k q_this q_marks c_size c_full c_turns c_firstFull c_lastFull c_marks x1 x2 x3 v5 h5) cv_X1_31 ⟨⟨by decide, by decide⟩, rfl, rfl⟩ 0 rfl rfl [0, 1] rfl rfl rfl rfl rfl rfl (Nat.le_of_ble_eq_true rfl) ⟨Nat.zero_le _, Nat.zero_le _⟩ dX1_lay_52 ?_
          refine ww_iload (pc := 55) C dX1_lay_55 0 rfl ?_
          obtain ⟨e0, e1⟩ := ij2 hf
          exact hret _ _ 57 _ dX1_lay_57 rfl e0 (by rw [← e1])
        · have hf := ifT hc hf
          refine ww_bipush (pc := 45) C dX1_lay_45 kB_m4 ?_
          obtain ⟨e0, e1⟩ := ij2 hf
          exact hret _ _ 47 _ dX1_lay_47 rfl e0 (by rw [← e1])
      · have hf := ifT hc hf
        refine ww_bipush (pc := 32) C dX1_lay_32 kB_m2 ?_
        obtain ⟨e0, e1⟩ := ij2 hf
        exact hret _ _ 34 _ dX1_lay_34 rfl e0 (by rw [← e1])
    · have hf := ifT hc hf
      refine ww_iconst (pc := 16) C dX1_lay_16 kI_m1 ?_
      obtain ⟨e0, e1⟩ := ij2 hf
      exact hret _ _ 17 _ dX1_lay_17 rfl e0 (by rw [← e1])
def fX1_numbers (c_size : Int32) : Option Int32 := some ((((2 : Int32) * c_size) * c_size))
set_option maxHeartbeats 4000000 in
set_option maxRecDepth 100000 in
theorem tX1_numbers (l : Launch) (D : va_G) (k : Nat → ClassId) (q_this q_marks : Nat) (c_size : Int32) (c_full : Int32) (c_turns : Int32) (c_firstFull : Int32) (c_lastFull : Int32)  (r_ : Int32) (hf : fX1_numbers c_size = some (r_)) : MI l yX1_numbers cX1_numbers 1 .int (RM 0 0) D k [.ref q_this] [oX1 q_this q_marks c_size c_full c_turns c_firstFull c_lastFull] r_ [oX1 q_this q_marks c_size c_full c_turns c_firstFull c_lastFull] := by
  refine mkMI' (own := "DoorWalk$Grid") (by decide) rfl (Nat.le_of_ble_eq_true rfl) ?_
  intro p e s m args below meth c Q A hret C
  refine ww_lv (lv' := [(0, .ref q_this)]) [0] rfl ?_
  unfold fX1_numbers at hf
  refine ww_iconst (pc := 0) C dX1_numbers_0 kI_2 ?_
  refine ww_aload_n (pc := 1) C dX1_numbers_1 rfl 0 rfl ?_
  refine gf1_1 (pc := 2) C kf_X1_15 0 rfl rfl dX1_numbers_2 ?_
  refine ww_imul (pc := 5) C dX1_numbers_5  ?_
  refine ww_aload_n (pc := 6) C dX1_numbers_6 rfl 0 rfl ?_
  refine gf1_1 (pc := 7) C kf_X1_15 0 rfl rfl dX1_numbers_7 ?_
  refine ww_imul (pc := 10) C dX1_numbers_10  ?_
  obtain e0 := ij1 hf
  exact hret _ _ 11 _ dX1_numbers_11 rfl e0 rfl
def fX1_isCell (c_size : Int32) (x1 : Int32) : Option Int32 := if x1 < 0 then some ((0 : Int32)) else if (((2 : Int32) * c_size) * c_size) ≤ x1 then some ((0 : Int32)) else (fX1_cellI c_size x1).bind fun v1 => (fX1_cellJ c_size x1).bind fun v2 => if c_size ≤ ((v1 + v2) + (x1 &&& (1 : Int32))) then some ((0 : Int32)) else some ((1 : Int32))
set_option maxHeartbeats 4000000 in
set_option maxRecDepth 100000 in
theorem tX1_isCell (l : Launch) (D : va_G) (k : Nat → ClassId) (q_this q_marks : Nat) (c_size : Int32) (c_full : Int32) (c_turns : Int32) (c_firstFull : Int32) (c_lastFull : Int32) (x1 : Int32) (r_ : Int32) (hf : fX1_isCell c_size x1 = some (r_)) : MI l yX1_isCell cX1_isCell 2 .boolean (RM 1 21) D k [.ref q_this, .int x1] [oX1 q_this q_marks c_size c_full c_turns c_firstFull c_lastFull] r_ [oX1 q_this q_marks c_size c_full c_turns c_firstFull c_lastFull] := by
  refine mkMI' (own := "DoorWalk$Grid") (by decide) rfl (Nat.le_of_ble_eq_true rfl) ?_
  intro p e s m args below meth c Q A hret C
  refine ww_lv (lv' := [(0, .ref q_this), (1, .int x1)]) [0, 1] rfl ?_
  unfold fX1_isCell at hf
  refine ww_iload_n (pc := 0) C dX1_isCell_0 rfl 1 rfl ?_
  refine ww_if_lt (pc := 1) (tgt := 45) C dX1_isCell_1 (by decide) (fun hc => ?_) (fun hc => ?_)
  · have hf := ifT hc hf
    refine ww_iconst (pc := 45) C dX1_isCell_45 kI_0 ?_
    obtain e0 := ij1 hf
    exact hret _ _ 46 _ dX1_isCell_46 (by decide) e0 rfl
  · have hf := ifF hc hf
    refine ww_iload_n (pc := 4) C dX1_isCell_4 rfl 1 rfl ?_
    refine ww_iconst (pc := 5) C dX1_isCell_5 kI_2 ?_
    refine ww_aload_n (pc := 6) C dX1_isCell_6 rfl 0 rfl ?_
    refine gf1_1 (pc := 7) C kf_X1_15 0 rfl rfl dX1_isCell_7 ?_
    refine ww_imul (pc := 10) C dX1_isCell_10  ?_
    refine ww_aload_n (pc := 11) C dX1_isCell_11 rfl 0 rfl ?_
    refine gf1_1 (pc := 12) C kf_X1_15 0 rfl rfl dX1_isCell_12 ?_
    refine ww_imul (pc := 15) C dX1_isCell_15  ?_
    refine ww_icmp_ge (pc := 16) (tgt := 45) C dX1_isCell_16 (by decide) (fun hc => ?_) (fun hc => ?_)
    · have hf := ifT hc hf
      refine ww_iconst (pc := 45) C dX1_isCell_45 kI_0 ?_
      obtain e0 := ij1 hf
      exact hret _ _ 46 _ dX1_isCell_46 (by decide) e0 rfl
    · have hf := ifF hc hf
      refine ww_aload_n (pc := 19) C dX1_isCell_19 rfl 0 rfl ?_
      refine ww_iload_n (pc := 20) C dX1_isCell_20 rfl 1 rfl ?_
      obtain ⟨v1, h1, hf⟩ := bsome hf
      refine ww_callVi0 (pc := 21) (As := [.int x1]) (rest := []) C (tX1_cellI l D k q_this q_marks c_size c_full c_turns c_firstFull c_lastFull x1 v1 h1) cv_X1_75 ⟨⟨by decide, by decide⟩, rfl, rfl⟩ 0 rfl rfl [0] rfl rfl rfl rfl (Nat.le_of_ble_eq_true rfl) ⟨Nat.zero_le _, Nat.zero_le _⟩ dX1_isCell_21 (fun hb1 => ?_)
      refine ww_aload_n (pc := 24) C dX1_isCell_24 rfl 0 rfl ?_
      refine ww_iload_n (pc := 25) C dX1_isCell_25 rfl 1 rfl ?_
      obtain ⟨v2, h2, hf⟩ := bsome hf
      refine ww_callVi0 (pc := 26) (As := [.int x1]) (rest := [.int v1]) C (tX1_cellJ l D k q_this q_marks c_size c_full c_turns c_firstFull c_lastFull x1 v2 h2) cv_X1_78 ⟨⟨by decide, by decide⟩, rfl, rfl⟩ 0 rfl rfl [0] rfl rfl rfl rfl (Nat.le_of_ble_eq_true rfl) ⟨Nat.zero_le _, Nat.zero_le _⟩ dX1_isCell_26 (fun hb2 => ?_)
      refine ww_iadd (pc := 29) C dX1_isCell_29  ?_
      refine ww_iload_n (pc := 30) C dX1_isCell_30 rfl 1 rfl ?_
      refine ww_iconst (pc := 31) C dX1_isCell_31 kI_1 ?_
      refine ww_iand (pc := 32) C dX1_isCell_32  ?_
      refine ww_iadd (pc := 33) C dX1_isCell_33  ?_
      refine ww_aload_n (pc := 34) C dX1_isCell_34 rfl 0 rfl ?_
      refine gf1_1 (pc := 35) C kf_X1_15 0 rfl rfl dX1_isCell_35 ?_
      refine ww_icmp_ge (pc := 38) (tgt := 45) C dX1_isCell_38 (by decide) (fun hc => ?_) (fun hc => ?_)
      · have hf := ifT hc hf
        refine ww_iconst (pc := 45) C dX1_isCell_45 kI_0 ?_
        obtain e0 := ij1 hf
        exact hret _ _ 46 _ dX1_isCell_46 (by decide) e0 rfl
      · have hf := ifF hc hf
        refine ww_iconst (pc := 41) C dX1_isCell_41 kI_1 ?_
        refine ww_goto (pc := 42) (tgt := 46) C dX1_isCell_42 (by decide) ?_
        obtain e0 := ij1 hf
        exact hret _ _ 46 _ dX1_isCell_46 (by decide) e0 rfl
def fX1_cornerI_b32 (c_size : Int32) (n1 : Int32) (s0 : Int32) : Option Int32 := (fX1_cellI c_size n1).bind fun v1 => some ((v1 + s0))
def fX1_cornerI (c_size : Int32) (x1 : Int32) (x2 : Int32) : Option Int32 := if x2 < 0 then some ((0 : Int32)) else if x2 < (3 : Int32) then if (x1 &&& (1 : Int32)) = 0 then (ald 3 x2 tCI).bind fun v4 => fX1_cornerI_b32 c_size x1 v4 else (ald 3 x2 tCI).bind fun v2 => fX1_cornerI_b32 c_size x1 ((1 : Int32) - v2) else some ((0 : Int32))
set_option maxHeartbeats 4000000 in
set_option maxRecDepth 100000 in
theorem tX1_cornerI (l : Launch) (D : va_G) (k : Nat → ClassId) (q_this q_marks : Nat) (c_size : Int32) (c_full : Int32) (c_turns : Int32) (c_firstFull : Int32) (c_lastFull : Int32) (x1 : Int32) (x2 : Int32) (r_ : Int32) (hf : fX1_cornerI c_size x1 x2 = some (r_)) : MI l yX1_cornerI cX1_cornerI 4 .int (RM 1 21) D k [.ref q_this, .int x1, .int x2] [oX1 q_this q_marks c_size c_full c_turns c_firstFull c_lastFull] r_ [oX1 q_this q_marks c_size c_full c_turns c_firstFull c_lastFull] := by
  refine mkMI' (own := "DoorWalk$Grid") (by decide) rfl (Nat.le_of_ble_eq_true rfl) ?_
  intro p e s m args below meth c Q A hret C
  refine ww_lv (lv' := [(0, .ref q_this), (1, .int x1), (2, .int x2)]) [0, 1, 2] rfl ?_
  have hJ32 : ∀ (n1 : Int32) (s0 : Int32), fX1_cornerI_b32 c_size n1 s0 = some (r_) → WW p l e (RM 1 21) s m args below meth c Q 4 D A 0 0 [oX1 q_this q_marks c_size c_full c_turns c_firstFull c_lastFull] [(0, .ref q_this), (1, .int n1)] 32 [.int s0] := by
    intro n1 s0
    intro hf
    unfold fX1_cornerI_b32 at hf
    refine ww_istore_n (pc := 32) (lv' := [(3, .int s0), (0, .ref q_this), (1, .int n1)]) C dX1_cornerI_32 rfl (by decide) rfl ?_
    refine ww_aload_n (pc := 33) C dX1_cornerI_33 rfl 1 rfl ?_
    refine ww_iload_n (pc := 34) C dX1_cornerI_34 rfl 2 rfl ?_
    obtain ⟨v1, h1, hf⟩ := bsome hf
    refine ww_callVi0 (pc := 35) (As := [.int n1]) (rest := []) C (tX1_cellI l D k q_this q_marks c_size c_full c_turns c_firstFull c_lastFull n1 v1 h1) cv_X1_75 ⟨⟨by decide, by decide⟩, rfl, rfl⟩ 0 rfl rfl [0] rfl rfl rfl rfl (Nat.le_of_ble_eq_true rfl) ⟨Nat.zero_le _, Nat.zero_le _⟩ dX1_cornerI_35 (fun hb1 => ?_)
    refine ww_iload_n (pc := 38) C dX1_cornerI_38 rfl 0 rfl ?_
    refine ww_iadd (pc := 39) C dX1_cornerI_39  ?_
    obtain e0 := ij1 hf
    exact hret _ _ 40 _ dX1_cornerI_40 rfl e0 rfl
  unfold fX1_cornerI at hf
  refine ww_iload_n (pc := 0) C dX1_cornerI_0 rfl 2 rfl ?_
  refine ww_if_lt (pc := 1) (tgt := 9) C dX1_cornerI_1 (by decide) (fun hc => ?_) (fun hc => ?_)
  · have hf := ifT hc hf
    refine ww_iconst (pc := 9) C dX1_cornerI_9 kI_0 ?_
    obtain e0 := ij1 hf
    exact hret _ _ 10 _ dX1_cornerI_10 rfl e0 rfl
  · have hf := ifF hc hf
    refine ww_iload_n (pc := 4) C dX1_cornerI_4 rfl 2 rfl ?_
    refine ww_iconst (pc := 5) C dX1_cornerI_5 kI_3 ?_
    refine ww_icmp_lt (pc := 6) (tgt := 11) C dX1_cornerI_6 (by decide) (fun hc => ?_) (fun hc => ?_)
    · have hf := ifT hc hf
      refine ww_iload_n (pc := 11) C dX1_cornerI_11 rfl 1 rfl ?_
      refine ww_iconst (pc := 12) C dX1_cornerI_12 kI_1 ?_
      refine ww_iand (pc := 13) C dX1_cornerI_13  ?_
      refine ww_if_ne (pc := 14) (tgt := 25) C dX1_cornerI_14 (by decide) (fun hc => ?_) (fun hc => ?_)
      · have hf := ifF hc hf
        refine ww_iconst (pc := 25) C dX1_cornerI_25 kI_1 ?_
        refine ww_gets (pc := 26) (index := 81) (nm := "CORNER_I") (N := 3) (f := tCI) C (by simp [nbF]) C.2.2.2.2.2.2.2.1.1 dX1_cornerI_26 (fun tv1 hTv1 => ?_)
        refine ww_iload_n (pc := 29) C dX1_cornerI_29 rfl 2 rfl ?_
        obtain ⟨v2, h2, hf⟩ := bsome hf
        refine ww_tald (pc := 30) C hTv1 h2 dX1_cornerI_30 ?_
        refine ww_isub (pc := 31) C dX1_cornerI_31  ?_
        exact ww_lv [0, 1] rfl (hJ32 x1 ((1 : Int32) - v2) hf)
      · have hf := ifT hc hf
        refine ww_gets (pc := 17) (index := 81) (nm := "CORNER_I") (N := 3) (f := tCI) C (by simp [nbF]) C.2.2.2.2.2.2.2.1.1 dX1_cornerI_17 (fun tv3 hTv3 => ?_)
        refine ww_iload_n (pc := 20) C dX1_cornerI_20 rfl 2 rfl ?_
        obtain ⟨v4, h4, hf⟩ := bsome hf
        refine ww_tald (pc := 21) C hTv3 h4 dX1_cornerI_21 ?_
        refine ww_goto (pc := 22) (tgt := 32) C dX1_cornerI_22 (by decide) ?_
        exact ww_lv [0, 1] rfl (hJ32 x1 v4 hf)
    · have hf := ifF hc hf
      refine ww_iconst (pc := 9) C dX1_cornerI_9 kI_0 ?_
      obtain e0 := ij1 hf
      exact hret _ _ 10 _ dX1_cornerI_10 rfl e0 rfl
def fX1_cornerJ_b32 (c_size : Int32) (n1 : Int32) (s0 : Int32) : Option Int32 := (fX1_cellJ c_size n1).bind fun v1 => some ((v1 + s0))
def fX1_cornerJ (c_size : Int32) (x1 : Int32) (x2 : Int32) : Option Int32 := if x2 < 0 then some ((0 : Int32)) else if x2 < (3 : Int32) then if (x1 &&& (1 : Int32)) = 0 then (ald 3 x2 tCJ).bind fun v4 => fX1_cornerJ_b32 c_size x1 v4 else (ald 3 x2 tCJ).bind fun v2 => fX1_cornerJ_b32 c_size x1 ((1 : Int32) - v2) else some ((0 : Int32))
set_option maxHeartbeats 4000000 in
set_option maxRecDepth 100000 in
theorem tX1_cornerJ (l : Launch) (D : va_G) (k : Nat → ClassId) (q_this q_marks : Nat) (c_size : Int32) (c_full : Int32) (c_turns : Int32) (c_firstFull : Int32) (c_lastFull : Int32) (x1 : Int32) (x2 : Int32) (r_ : Int32) (hf : fX1_cornerJ c_size x1 x2 = some (r_)) : MI l yX1_cornerJ cX1_cornerJ 4 .int (RM 1 21) D k [.ref q_this, .int x1, .int x2] [oX1 q_this q_marks c_size c_full c_turns c_firstFull c_lastFull] r_ [oX1 q_this q_marks c_size c_full c_turns c_firstFull c_lastFull] := by
  refine mkMI' (own := "DoorWalk$Grid") (by decide) rfl (Nat.le_of_ble_eq_true rfl) ?_
  intro p e s m args below meth c Q A hret C
  refine ww_lv (lv' := [(0, .ref q_this), (1, .int x1), (2, .int x2)]) [0, 1, 2] rfl ?_
  have hJ32 : ∀ (n1 : Int32) (s0 : Int32), fX1_cornerJ_b32 c_size n1 s0 = some (r_) → WW p l e (RM 1 21) s m args below meth c Q 4 D A 0 0 [oX1 q_this q_marks c_size c_full c_turns c_firstFull c_lastFull] [(0, .ref q_this), (1, .int n1)] 32 [.int s0] := by
    intro n1 s0
    intro hf
    unfold fX1_cornerJ_b32 at hf
    refine ww_istore_n (pc := 32) (lv' := [(3, .int s0), (0, .ref q_this), (1, .int n1)]) C dX1_cornerJ_32 rfl (by decide) rfl ?_
    refine ww_aload_n (pc := 33) C dX1_cornerJ_33 rfl 1 rfl ?_
    refine ww_iload_n (pc := 34) C dX1_cornerJ_34 rfl 2 rfl ?_
    obtain ⟨v1, h1, hf⟩ := bsome hf
    refine ww_callVi0 (pc := 35) (As := [.int n1]) (rest := []) C (tX1_cellJ l D k q_this q_marks c_size c_full c_turns c_firstFull c_lastFull n1 v1 h1) cv_X1_78 ⟨⟨by decide, by decide⟩, rfl, rfl⟩ 0 rfl rfl [0] rfl rfl rfl rfl (Nat.le_of_ble_eq_true rfl) ⟨Nat.zero_le _, Nat.zero_le _⟩ dX1_cornerJ_35 (fun hb1 => ?_)
    refine ww_iload_n (pc := 38) C dX1_cornerJ_38 rfl 0 rfl ?_
    refine ww_iadd (pc := 39) C dX1_cornerJ_39  ?_
    obtain e0 := ij1 hf
    exact hret _ _ 40 _ dX1_cornerJ_40 rfl e0 rfl
  unfold fX1_cornerJ at hf
  refine ww_iload_n (pc := 0) C dX1_cornerJ_0 rfl 2 rfl ?_
  refine ww_if_lt (pc := 1) (tgt := 9) C dX1_cornerJ_1 (by decide) (fun hc => ?_) (fun hc => ?_)
  · have hf := ifT hc hf
    refine ww_iconst (pc := 9) C dX1_cornerJ_9 kI_0 ?_
    obtain e0 := ij1 hf
    exact hret _ _ 10 _ dX1_cornerJ_10 rfl e0 rfl
  · have hf := ifF hc hf
    refine ww_iload_n (pc := 4) C dX1_cornerJ_4 rfl 2 rfl ?_
    refine ww_iconst (pc := 5) C dX1_cornerJ_5 kI_3 ?_
    refine ww_icmp_lt (pc := 6) (tgt := 11) C dX1_cornerJ_6 (by decide) (fun hc => ?_) (fun hc => ?_)
    · have hf := ifT hc hf
      refine ww_iload_n (pc := 11) C dX1_cornerJ_11 rfl 1 rfl ?_
      refine ww_iconst (pc := 12) C dX1_cornerJ_12 kI_1 ?_
      refine ww_iand (pc := 13) C dX1_cornerJ_13  ?_
      refine ww_if_ne (pc := 14) (tgt := 25) C dX1_cornerJ_14 (by decide) (fun hc => ?_) (fun hc => ?_)
      · have hf := ifF hc hf
        refine ww_iconst (pc := 25) C dX1_cornerJ_25 kI_1 ?_
        refine ww_gets (pc := 26) (index := 84) (nm := "CORNER_J") (N := 3) (f := tCJ) C (by simp [nbF]) C.2.2.2.2.2.2.2.1.2.1 dX1_cornerJ_26 (fun tv1 hTv1 => ?_)
        refine ww_iload_n (pc := 29) C dX1_cornerJ_29 rfl 2 rfl ?_
        obtain ⟨v2, h2, hf⟩ := bsome hf
        refine ww_tald (pc := 30) C hTv1 h2 dX1_cornerJ_30 ?_
        refine ww_isub (pc := 31) C dX1_cornerJ_31  ?_
        exact ww_lv [0, 1] rfl (hJ32 x1 ((1 : Int32) - v2) hf)
      · have hf := ifT hc hf
        refine ww_gets (pc := 17) (index := 84) (nm := "CORNER_J") (N := 3) (f := tCJ) C (by simp [nbF]) C.2.2.2.2.2.2.2.1.2.1 dX1_cornerJ_17 (fun tv3 hTv3 => ?_)
        refine ww_iload_n (pc := 20) C dX1_cornerJ_20 rfl 2 rfl ?_
        obtain ⟨v4, h4, hf⟩ := bsome hf
        refine ww_tald (pc := 21) C hTv3 h4 dX1_cornerJ_21 ?_
        refine ww_goto (pc := 22) (tgt := 32) C dX1_cornerJ_22 (by decide) ?_
        exact ww_lv [0, 1] rfl (hJ32 x1 v4 hf)
    · have hf := ifF hc hf
      refine ww_iconst (pc := 9) C dX1_cornerJ_9 kI_0 ?_
      obtain e0 := ij1 hf
      exact hret _ _ 10 _ dX1_cornerJ_10 rfl e0 rfl
def fX1_labelSet (c_size : Int32) (c_marks : Nat → Int32) (x1 : Int32) : Option Int32 := (fX1_cornerLabel c_size c_marks x1 (0 : Int32)).bind fun v1 => (fX1_cornerLabel c_size c_marks x1 (1 : Int32)).bind fun v2 => (fX1_cornerLabel c_size c_marks x1 (2 : Int32)).bind fun v3 => some (((((1 : Int32) <<< (v1 &&& 31)) ||| ((1 : Int32) <<< (v2 &&& 31))) ||| ((1 : Int32) <<< (v3 &&& 31))))
set_option maxHeartbeats 4000000 in
set_option maxRecDepth 100000 in
theorem tX1_labelSet (l : Launch) (D : va_G) (k : Nat → ClassId) (q_this q_marks : Nat) (c_size : Int32) (c_full : Int32) (c_turns : Int32) (c_firstFull : Int32) (c_lastFull : Int32) (c_marks : Nat → Int32) (x1 : Int32) (r_ : Int32) (hf : fX1_labelSet c_size c_marks x1 = some (r_)) : MI l yX1_labelSet cX1_labelSet 2 .int (RM 2 48) D k [.ref q_this, .int x1] [oX1 q_this q_marks c_size c_full c_turns c_firstFull c_lastFull, aI k q_marks 153 c_marks] r_ [oX1 q_this q_marks c_size c_full c_turns c_firstFull c_lastFull, aI k q_marks 153 c_marks] := by
  refine mkMI' (own := "DoorWalk$Grid") (by decide) rfl (Nat.le_of_ble_eq_true rfl) ?_
  intro p e s m args below meth c Q A hret C
  refine ww_lv (lv' := [(0, .ref q_this), (1, .int x1)]) [0, 1] rfl ?_
  unfold fX1_labelSet at hf
  refine ww_iconst (pc := 0) C dX1_labelSet_0 kI_1 ?_
  refine ww_aload_n (pc := 1) C dX1_labelSet_1 rfl 0 rfl ?_
  refine ww_iload_n (pc := 2) C dX1_labelSet_2 rfl 1 rfl ?_
  refine ww_iconst (pc := 3) C dX1_labelSet_3 kI_0 ?_
  obtain ⟨v1, h1, hf⟩ := bsome hf
  refine ww_callVi0 (pc := 4) (As := [.int x1, .int (0 : Int32)]) (rest := [.int (1 : Int32)]) C (tX1_cornerLabel l D k q_this q_marks c_size c_full c_turns c_firstFull c_lastFull c_marks x1 (0 : Int32) v1 h1) cv_X1_90 ⟨⟨by decide, by decide⟩, rfl, rfl⟩ 0 rfl rfl [0, 1] rfl rfl rfl rfl (Nat.le_of_ble_eq_true rfl) ⟨Nat.zero_le _, Nat.zero_le _⟩ dX1_labelSet_4 (fun hb1 => ?_)
  refine ww_ishl (pc := 7) C dX1_labelSet_7  ?_
  refine ww_iconst (pc := 8) C dX1_labelSet_8 kI_1 ?_
  refine ww_aload_n (pc := 9) C dX1_labelSet_9 rfl 0 rfl ?_
  refine ww_iload_n (pc := 10) C dX1_labelSet_10 rfl 1 rfl ?_
  refine ww_iconst (pc := 11) C dX1_labelSet_11 kI_1 ?_
  obtain ⟨v2, h2, hf⟩ := bsome hf
  refine ww_callVi0 (pc := 12) (As := [.int x1, .int (1 : Int32)]) (rest := [.int (1 : Int32), .int ((1 : Int32) <<< (v1 &&& 31))]) C (tX1_cornerLabel l D k q_this q_marks c_size c_full c_turns c_firstFull c_lastFull c_marks x1 (1 : Int32) v2 h2) cv_X1_90 ⟨⟨by decide, by decide⟩, rfl, rfl⟩ 0 rfl rfl [0, 1] rfl rfl rfl rfl (Nat.le_of_ble_eq_true rfl) ⟨Nat.zero_le _, Nat.zero_le _⟩ dX1_labelSet_12 (fun hb2 => ?_)
  refine ww_ishl (pc := 15) C dX1_labelSet_15  ?_
  refine ww_ior (pc := 16) C dX1_labelSet_16  ?_
  refine ww_iconst (pc := 17) C dX1_labelSet_17 kI_1 ?_
  refine ww_aload_n (pc := 18) C dX1_labelSet_18 rfl 0 rfl ?_
  refine ww_iload_n (pc := 19) C dX1_labelSet_19 rfl 1 rfl ?_
  refine ww_iconst (pc := 20) C dX1_labelSet_20 kI_2 ?_
  obtain ⟨v3, h3, hf⟩ := bsome hf
  refine ww_callVi0 (pc := 21) (As := [.int x1, .int (2 : Int32)]) (rest := [.int (1 : Int32), .int (((1 : Int32) <<< (v1 &&& 31)) ||| ((1 : Int32) <<< (v2 &&& 31)))]) C (tX1_cornerLabel l D k q_this q_marks c_size c_full c_turns c_firstFull c_lastFull c_marks x1 (2 : Int32) v3 h3) cv_X1_90 ⟨⟨by decide, by decide⟩, rfl, rfl⟩ 0 rfl rfl [0, 1] rfl rfl rfl rfl (Nat.le_of_ble_eq_true rfl) ⟨Nat.zero_le _, Nat.zero_le _⟩ dX1_labelSet_21 (fun hb3 => ?_)
  refine ww_ishl (pc := 24) C dX1_labelSet_24  ?_
  refine ww_ior (pc := 25) C dX1_labelSet_25  ?_
  obtain e0 := ij1 hf
  exact hret _ _ 26 _ dX1_labelSet_26 rfl e0 rfl
def fX1_turnOf (x1 : Int32) (x2 : Int32) (x3 : Int32) : Option Int32 := if x1 = x2 then some ((0 : Int32)) else if x2 = x3 then some ((0 : Int32)) else if x1 = x3 then some ((0 : Int32)) else if x2 = ((x1 + (1 : Int32)) - (x1 + (1 : Int32)) / (3 : Int32) * (3 : Int32)) then some ((1 : Int32)) else some ((-1 : Int32))
set_option maxHeartbeats 4000000 in
set_option maxRecDepth 100000 in
theorem tX1_turnOf (l : Launch) (D : va_G) (k : Nat → ClassId)   (x1 : Int32) (x2 : Int32) (x3 : Int32) (r_ : Int32) (hf : fX1_turnOf x1 x2 x3 = some (r_)) : MI l yX1_turnOf cX1_turnOf 3 .int (RM 0 0) D k [.int x1, .int x2, .int x3] [] r_ [] := by
  refine mkMI' (own := "DoorWalk$Grid") (by decide) rfl (Nat.le_of_ble_eq_true rfl) ?_
  intro p e s m args below meth c Q A hret C
  refine ww_lv (lv' := [(0, .int x1), (1, .int x2), (2, .int x3)]) [0, 1, 2] rfl ?_
  unfold fX1_turnOf at hf
  refine ww_iload_n (pc := 0) C dX1_turnOf_0 rfl 0 rfl ?_
  refine ww_iload_n (pc := 1) C dX1_turnOf_1 rfl 1 rfl ?_
  refine ww_icmp_eq (pc := 2) (tgt := 15) C dX1_turnOf_2 (by decide) (fun hc => ?_) (fun hc => ?_)
  · have hf := ifT hc hf
    refine ww_iconst (pc := 15) C dX1_turnOf_15 kI_0 ?_
    obtain e0 := ij1 hf
    exact hret _ _ 16 _ dX1_turnOf_16 rfl e0 rfl
  · have hf := ifF hc hf
    refine ww_iload_n (pc := 5) C dX1_turnOf_5 rfl 1 rfl ?_
    refine ww_iload_n (pc := 6) C dX1_turnOf_6 rfl 2 rfl ?_
    refine ww_icmp_eq (pc := 7) (tgt := 15) C dX1_turnOf_7 (by decide) (fun hc => ?_) (fun hc => ?_)
    · have hf := ifT hc hf
      refine ww_iconst (pc := 15) C dX1_turnOf_15 kI_0 ?_
      obtain e0 := ij1 hf
      exact hret _ _ 16 _ dX1_turnOf_16 rfl e0 rfl
    · have hf := ifF hc hf
      refine ww_iload_n (pc := 10) C dX1_turnOf_10 rfl 0 rfl ?_
      refine ww_iload_n (pc := 11) C dX1_turnOf_11 rfl 2 rfl ?_
      refine ww_icmp_ne (pc := 12) (tgt := 17) C dX1_turnOf_12 (by decide) (fun hc => ?_) (fun hc => ?_)
      · have hf := ifF hc hf
        refine ww_iload_n (pc := 17) C dX1_turnOf_17 rfl 1 rfl ?_
        refine ww_iload_n (pc := 18) C dX1_turnOf_18 rfl 0 rfl ?_
        refine ww_iconst (pc := 19) C dX1_turnOf_19 kI_1 ?_
        refine ww_iadd (pc := 20) C dX1_turnOf_20  ?_
        refine ww_iconst (pc := 21) C dX1_turnOf_21 kI_3 ?_
        refine ww_iremC (pc := 22) C dX1_turnOf_22 (by decide) ?_
        refine ww_icmp_ne (pc := 23) (tgt := 30) C dX1_turnOf_23 (by decide) (fun hc => ?_) (fun hc => ?_)
        · have hf := ifF hc hf
          refine ww_iconst (pc := 30) C dX1_turnOf_30 kI_m1 ?_
          obtain e0 := ij1 hf
          exact hret _ _ 31 _ dX1_turnOf_31 rfl e0 rfl
        · have hf := ifT hc hf
          refine ww_iconst (pc := 26) C dX1_turnOf_26 kI_1 ?_
          refine ww_goto (pc := 27) (tgt := 31) C dX1_turnOf_27 (by decide) ?_
          obtain e0 := ij1 hf
          exact hret _ _ 31 _ dX1_turnOf_31 rfl e0 rfl
      · have hf := ifT hc hf
        refine ww_iconst (pc := 15) C dX1_turnOf_15 kI_0 ?_
        obtain e0 := ij1 hf
        exact hret _ _ 16 _ dX1_turnOf_16 rfl e0 rfl
def fX1_turnAt (c_size : Int32) (c_marks : Nat → Int32) (x1 : Int32) (x2 : Int32) (x3 : Int32) : Option Int32 := if x1 < 0 then some ((0 : Int32)) else if x2 < 0 then some ((0 : Int32)) else if ((x1 + x2) + x3) < c_size then (fX1_numberOf c_size x1 x2).bind fun v1 => (fX1_overOf c_size x1 v1).bind fun v2 => if x3 = 0 then (fX1_labelOfNumber c_marks v1).bind fun v7 => (fX1_labelOfNumber c_marks v2).bind fun v8 => (fX1_labelOfNumber c_marks (v1 + (1 : Int32))).bind fun v9 => (fX1_turnOf v7 v8 v9).bind fun v10 => some (v10) else (fX1_labelOfNumber c_marks (v2 + (1 : Int32))).bind fun v3 => (fX1_labelOfNumber c_marks (v1 + (1 : Int32))).bind fun v4 => (fX1_labelOfNumber c_marks v2).bind fun v5 => (fX1_turnOf v3 v4 v5).bind fun v6 => some (v6) else some ((0 : Int32))
set_option maxHeartbeats 4000000 in
set_option maxRecDepth 100000 in
theorem tX1_turnAt (l : Launch) (D : va_G) (k : Nat → ClassId) (q_this q_marks : Nat) (c_size : Int32) (c_full : Int32) (c_turns : Int32) (c_firstFull : Int32) (c_lastFull : Int32) (c_marks : Nat → Int32) (x1 : Int32) (x2 : Int32) (x3 : Int32) (r_ : Int32) (hf : fX1_turnAt c_size c_marks x1 x2 x3 = some (r_)) : MI l yX1_turnAt cX1_turnAt 6 .int (RM 1 22) D k [.ref q_this, .int x1, .int x2, .int x3] [oX1 q_this q_marks c_size c_full c_turns c_firstFull c_lastFull, aI k q_marks 153 c_marks] r_ [oX1 q_this q_marks c_size c_full c_turns c_firstFull c_lastFull, aI k q_marks 153 c_marks] := by
  refine mkMI' (own := "DoorWalk$Grid") (by decide) rfl (Nat.le_of_ble_eq_true rfl) ?_
  intro p e s m args below meth c Q A hret C
  refine ww_lv (lv' := [(0, .ref q_this), (1, .int x1), (2, .int x2), (3, .int x3)]) [0, 1, 2, 3] rfl ?_
  unfold fX1_turnAt at hf
  refine ww_iload_n (pc := 0) C dX1_turnAt_0 rfl 1 rfl ?_
  refine ww_if_lt (pc := 1) (tgt := 20) C dX1_turnAt_1 (by decide) (fun hc => ?_) (fun hc => ?_)
  · have hf := ifT hc hf
    refine ww_iconst (pc := 20) C dX1_turnAt_20 kI_0 ?_
    obtain e0 := ij1 hf
    exact hret _ _ 21 _ dX1_turnAt_21 rfl e0 rfl
  · have hf := ifF hc hf
    refine ww_iload_n (pc := 4) C dX1_turnAt_4 rfl 2 rfl ?_
    refine ww_if_lt (pc := 5) (tgt := 20) C dX1_turnAt_5 (by decide) (fun hc => ?_) (fun hc => ?_)
    · have hf := ifT hc hf
      refine ww_iconst (pc := 20) C dX1_turnAt_20 kI_0 ?_
      obtain e0 := ij1 hf
      exact hret _ _ 21 _ dX1_turnAt_21 rfl e0 rfl
    · have hf := ifF hc hf
      refine ww_iload_n (pc := 8) C dX1_turnAt_8 rfl 1 rfl ?_
      refine ww_iload_n (pc := 9) C dX1_turnAt_9 rfl 2 rfl ?_
      refine ww_iadd (pc := 10) C dX1_turnAt_10  ?_
      refine ww_iload_n (pc := 11) C dX1_turnAt_11 rfl 3 rfl ?_
      refine ww_iadd (pc := 12) C dX1_turnAt_12  ?_
      refine ww_aload_n (pc := 13) C dX1_turnAt_13 rfl 0 rfl ?_
      refine gf1_1 (pc := 14) C kf_X1_15 0 rfl rfl dX1_turnAt_14 ?_
      refine ww_icmp_lt (pc := 17) (tgt := 22) C dX1_turnAt_17 (by decide) (fun hc => ?_) (fun hc => ?_)
      · have hf := ifT hc hf
        refine ww_aload_n (pc := 22) C dX1_turnAt_22 rfl 0 rfl ?_
        refine ww_iload_n (pc := 23) C dX1_turnAt_23 rfl 1 rfl ?_
        refine ww_iload_n (pc := 24) C dX1_turnAt_24 rfl 2 rfl ?_
        obtain ⟨v1, h1, hf⟩ := bsome hf
        refine ww_callVi0 (pc := 25) (As := [.int x1, .int x2]) (rest := []) C (tX1_numberOf l D k q_this q_marks c_size c_full c_turns c_firstFull c_lastFull x1 x2 v1 h1) cv_X1_45 ⟨⟨by decide, by decide⟩, rfl, rfl⟩ 0 rfl rfl [0] rfl rfl rfl rfl (Nat.le_of_ble_eq_true rfl) ⟨Nat.zero_le _, Nat.zero_le _⟩ dX1_turnAt_25 (fun hb1 => ?_)
        refine ww_istore (pc := 28) (lv' := [(4, .int v1), (0, .ref q_this), (1, .int x1), (2, .int x2), (3, .int x3)]) C dX1_turnAt_28 (by decide) rfl ?_
        refine ww_aload_n (pc := 30) C dX1_turnAt_30 rfl 1 rfl ?_
        refine ww_iload_n (pc := 31) C dX1_turnAt_31 rfl 2 rfl ?_
        refine ww_iload (pc := 32) C dX1_turnAt_32 0 rfl ?_
        obtain ⟨v2, h2, hf⟩ := bsome hf
        refine ww_callVi0 (pc := 34) (As := [.int x1, .int v1]) (rest := []) C (tX1_overOf l D k q_this q_marks c_size c_full c_turns c_firstFull c_lastFull x1 v1 v2 h2) cv_X1_87 ⟨⟨by decide, by decide⟩, rfl, rfl⟩ 0 rfl rfl [0] rfl rfl rfl rfl (Nat.le_of_ble_eq_true rfl) ⟨Nat.zero_le _, Nat.zero_le _⟩ dX1_turnAt_34 (fun hb2 => ?_)
        refine ww_istore (pc := 37) (lv' := [(5, .int v2), (4, .int v1), (0, .ref q_this), (1, .int x1), (2, .int x2), (3, .int x3)]) C dX1_turnAt_37 (by decide) rfl ?_
        refine ww_iload_n (pc := 39) C dX1_turnAt_39 rfl 5 rfl ?_
        refine ww_if_ne (pc := 40) (tgt := 67) C dX1_turnAt_40 (by decide) (fun hc => ?_) (fun hc => ?_)
        · have hf := ifF hc hf
          refine ww_aload_n (pc := 67) C dX1_turnAt_67 rfl 2 rfl ?_
          refine ww_iload (pc := 68) C dX1_turnAt_68 0 rfl ?_
          refine ww_iconst (pc := 70) C dX1_turnAt_70 kI_1 ?_
          refine ww_iadd (pc := 71) C dX1_turnAt_71  ?_
          obtain ⟨v3, h3, hf⟩ := bsome hf
          refine ww_callVi0 (pc := 72) (As := [.int (v2 + (1 : Int32))]) (rest := []) C (tX1_labelOfNumber l D k q_this q_marks c_size c_full c_turns c_firstFull c_lastFull c_marks (v2 + (1 : Int32)) v3 h3) cv_X1_57 ⟨⟨by decide, by decide⟩, rfl, rfl⟩ 0 rfl rfl [0, 1] rfl rfl rfl rfl (Nat.le_of_ble_eq_true rfl) ⟨Nat.zero_le _, Nat.zero_le _⟩ dX1_turnAt_72 (fun hb3 => ?_)
          refine ww_aload_n (pc := 75) C dX1_turnAt_75 rfl 2 rfl ?_
          refine ww_iload (pc := 76) C dX1_turnAt_76 1 rfl ?_
          refine ww_iconst (pc := 78) C dX1_turnAt_78 kI_1 ?_
          refine ww_iadd (pc := 79) C dX1_turnAt_79  ?_
          obtain ⟨v4, h4, hf⟩ := bsome hf
          refine ww_callVi0 (pc := 80) (As := [.int (v1 + (1 : Int32))]) (rest := [.int v3]) C (tX1_labelOfNumber l D k q_this q_marks c_size c_full c_turns c_firstFull c_lastFull c_marks (v1 + (1 : Int32)) v4 h4) cv_X1_57 ⟨⟨by decide, by decide⟩, rfl, rfl⟩ 0 rfl rfl [0, 1] rfl rfl rfl rfl (Nat.le_of_ble_eq_true rfl) ⟨Nat.zero_le _, Nat.zero_le _⟩ dX1_turnAt_80 (fun hb4 => ?_)
          refine ww_aload_n (pc := 83) C dX1_turnAt_83 rfl 2 rfl ?_
          refine ww_iload (pc := 84) C dX1_turnAt_84 0 rfl ?_
          obtain ⟨v5, h5, hf⟩ := bsome hf
          refine ww_callVi0 (pc := 86) (As := [.int v2]) (rest := [.int v4, .int v3]) C (tX1_labelOfNumber l D k q_this q_marks c_size c_full c_turns c_firstFull c_lastFull c_marks v2 v5 h5) cv_X1_57 ⟨⟨by decide, by decide⟩, rfl, rfl⟩ 0 rfl rfl [0, 1] rfl rfl rfl rfl (Nat.le_of_ble_eq_true rfl) ⟨Nat.zero_le _, Nat.zero_le _⟩ dX1_turnAt_86 (fun hb5 => ?_)
          obtain ⟨v6, h6, hf⟩ := bsome hf
          refine ww_callSi0 (pc := 89) (As := [.int v3, .int v4, .int v5]) (rest := []) C (tX1_turnOf l D k v3 v4 v5 v6 h6) cs_X1_99 ⟨⟨by decide, by decide⟩, rfl, rfl⟩ [] rfl rfl rfl rfl (Nat.le_of_ble_eq_true rfl) ⟨Nat.zero_le _, Nat.zero_le _⟩ dX1_turnAt_89 (fun hb6 => ?_)
          obtain e0 := ij1 hf
          exact hret _ _ 92 _ dX1_turnAt_92 rfl e0 rfl
        · have hf := ifT hc hf
          refine ww_aload_n (pc := 43) C dX1_turnAt_43 rfl 2 rfl ?_
          refine ww_iload (pc := 44) C dX1_turnAt_44 1 rfl ?_
          obtain ⟨v7, h7, hf⟩ := bsome hf
          refine ww_callVi0 (pc := 46) (As := [.int v1]) (rest := []) C (tX1_labelOfNumber l D k q_this q_marks c_size c_full c_turns c_firstFull c_lastFull c_marks v1 v7 h7) cv_X1_57 ⟨⟨by decide, by decide⟩, rfl, rfl⟩ 0 rfl rfl [0, 1] rfl rfl rfl rfl (Nat.le_of_ble_eq_true rfl) ⟨Nat.zero_le _, Nat.zero_le _⟩ dX1_turnAt_46 (fun hb7 => ?_)
          refine ww_aload_n (pc := 49) C dX1_turnAt_49 rfl 2 rfl ?_
          refine ww_iload (pc := 50) C dX1_turnAt_50 0 rfl ?_
          obtain ⟨v8, h8, hf⟩ := bsome hf
          refine ww_callVi0 (pc := 52) (As := [.int v2]) (rest := [.int v7]) C (tX1_labelOfNumber l D k q_this q_marks c_size c_full c_turns c_firstFull c_lastFull c_marks v2 v8 h8) cv_X1_57 ⟨⟨by decide, by decide⟩, rfl, rfl⟩ 0 rfl rfl [0, 1] rfl rfl rfl rfl (Nat.le_of_ble_eq_true rfl) ⟨Nat.zero_le _, Nat.zero_le _⟩ dX1_turnAt_52 (fun hb8 => ?_)
          refine ww_aload_n (pc := 55) C dX1_turnAt_55 rfl 2 rfl ?_
          refine ww_iload (pc := 56) C dX1_turnAt_56 1 rfl ?_
          refine ww_iconst (pc := 58) C dX1_turnAt_58 kI_1 ?_
          refine ww_iadd (pc := 59) C dX1_turnAt_59  ?_
          obtain ⟨v9, h9, hf⟩ := bsome hf
          refine ww_callVi0 (pc := 60) (As := [.int (v1 + (1 : Int32))]) (rest := [.int v8, .int v7]) C (tX1_labelOfNumber l D k q_this q_marks c_size c_full c_turns c_firstFull c_lastFull c_marks (v1 + (1 : Int32)) v9 h9) cv_X1_57 ⟨⟨by decide, by decide⟩, rfl, rfl⟩ 0 rfl rfl [0, 1] rfl rfl rfl rfl (Nat.le_of_ble_eq_true rfl) ⟨Nat.zero_le _, Nat.zero_le _⟩ dX1_turnAt_60 (fun hb9 => ?_)
          obtain ⟨v10, h10, hf⟩ := bsome hf
          refine ww_callSi0 (pc := 63) (As := [.int v7, .int v8, .int v9]) (rest := []) C (tX1_turnOf l D k v7 v8 v9 v10 h10) cs_X1_99 ⟨⟨by decide, by decide⟩, rfl, rfl⟩ [] rfl rfl rfl rfl (Nat.le_of_ble_eq_true rfl) ⟨Nat.zero_le _, Nat.zero_le _⟩ dX1_turnAt_63 (fun hb10 => ?_)
          obtain e0 := ij1 hf
          exact hret _ _ 66 _ dX1_turnAt_66 rfl e0 rfl
      · have hf := ifF hc hf
        refine ww_iconst (pc := 20) C dX1_turnAt_20 kI_0 ?_
        obtain e0 := ij1 hf
        exact hret _ _ 21 _ dX1_turnAt_21 rfl e0 rfl
def fX1_turn (c_size : Int32) (c_marks : Nat → Int32) (x1 : Int32) : Option Int32 := (fX1_isCell c_size x1).bind fun v1 => if v1 = 0 then some ((0 : Int32)) else (fX1_cellI c_size x1).bind fun v2 => (fX1_cellJ c_size x1).bind fun v3 => (fX1_turnAt c_size c_marks v2 v3 (x1 &&& (1 : Int32))).bind fun v4 => some (v4)
set_option maxHeartbeats 4000000 in
set_option maxRecDepth 100000 in
theorem tX1_turn (l : Launch) (D : va_G) (k : Nat → ClassId) (q_this q_marks : Nat) (c_size : Int32) (c_full : Int32) (c_turns : Int32) (c_firstFull : Int32) (c_lastFull : Int32) (c_marks : Nat → Int32) (x1 : Int32) (r_ : Int32) (hf : fX1_turn c_size c_marks x1 = some (r_)) : MI l yX1_turn cX1_turn 2 .int (RM 2 47) D k [.ref q_this, .int x1] [oX1 q_this q_marks c_size c_full c_turns c_firstFull c_lastFull, aI k q_marks 153 c_marks] r_ [oX1 q_this q_marks c_size c_full c_turns c_firstFull c_lastFull, aI k q_marks 153 c_marks] := by
  refine mkMI' (own := "DoorWalk$Grid") (by decide) rfl (Nat.le_of_ble_eq_true rfl) ?_
  intro p e s m args below meth c Q A hret C
  refine ww_lv (lv' := [(0, .ref q_this), (1, .int x1)]) [0, 1] rfl ?_
  unfold fX1_turn at hf
  refine ww_aload_n (pc := 0) C dX1_turn_0 rfl 0 rfl ?_
  refine ww_iload_n (pc := 1) C dX1_turn_1 rfl 1 rfl ?_
  obtain ⟨v1, h1, hf⟩ := bsome hf
  refine ww_callVi0 (pc := 2) (As := [.int x1]) (rest := []) C (tX1_isCell l D k q_this q_marks c_size c_full c_turns c_firstFull c_lastFull x1 v1 h1) cv_X1_93 ⟨⟨by decide, by decide⟩, rfl, rfl⟩ 0 rfl rfl [0] rfl rfl rfl rfl (Nat.le_of_ble_eq_true rfl) ⟨Nat.zero_le _, Nat.zero_le _⟩ dX1_turn_2 (fun hb1 => ?_)
  refine ww_if_eq (pc := 5) (tgt := 28) C dX1_turn_5 (by decide) (fun hc => ?_) (fun hc => ?_)
  · have hf := ifT hc hf
    refine ww_iconst (pc := 28) C dX1_turn_28 kI_0 ?_
    obtain e0 := ij1 hf
    exact hret _ _ 29 _ dX1_turn_29 rfl e0 rfl
  · have hf := ifF hc hf
    refine ww_aload_n (pc := 8) C dX1_turn_8 rfl 0 rfl ?_
    refine ww_aload_n (pc := 9) C dX1_turn_9 rfl 0 rfl ?_
    refine ww_iload_n (pc := 10) C dX1_turn_10 rfl 1 rfl ?_
    obtain ⟨v2, h2, hf⟩ := bsome hf
    refine ww_callVi0 (pc := 11) (As := [.int x1]) (rest := [.ref q_this]) C (tX1_cellI l D k q_this q_marks c_size c_full c_turns c_firstFull c_lastFull x1 v2 h2) cv_X1_75 ⟨⟨by decide, by decide⟩, rfl, rfl⟩ 0 rfl rfl [0] rfl rfl rfl rfl (Nat.le_of_ble_eq_true rfl) ⟨Nat.zero_le _, Nat.zero_le _⟩ dX1_turn_11 (fun hb2 => ?_)
    refine ww_aload_n (pc := 14) C dX1_turn_14 rfl 0 rfl ?_
    refine ww_iload_n (pc := 15) C dX1_turn_15 rfl 1 rfl ?_
    obtain ⟨v3, h3, hf⟩ := bsome hf
    refine ww_callVi0 (pc := 16) (As := [.int x1]) (rest := [.int v2, .ref q_this]) C (tX1_cellJ l D k q_this q_marks c_size c_full c_turns c_firstFull c_lastFull x1 v3 h3) cv_X1_78 ⟨⟨by decide, by decide⟩, rfl, rfl⟩ 0 rfl rfl [0] rfl rfl rfl rfl (Nat.le_of_ble_eq_true rfl) ⟨Nat.zero_le _, Nat.zero_le _⟩ dX1_turn_16 (fun hb3 => ?_)
    refine ww_iload_n (pc := 19) C dX1_turn_19 rfl 1 rfl ?_
    refine ww_iconst (pc := 20) C dX1_turn_20 kI_1 ?_
    refine ww_iand (pc := 21) C dX1_turn_21  ?_
    obtain ⟨v4, h4, hf⟩ := bsome hf
    refine ww_callVi0 (pc := 22) (As := [.int v2, .int v3, .int (x1 &&& (1 : Int32))]) (rest := []) C (tX1_turnAt l D k q_this q_marks c_size c_full c_turns c_firstFull c_lastFull c_marks v2 v3 (x1 &&& (1 : Int32)) v4 h4) cv_X1_96 ⟨⟨by decide, by decide⟩, rfl, rfl⟩ 0 rfl rfl [0, 1] rfl rfl rfl rfl (Nat.le_of_ble_eq_true rfl) ⟨Nat.zero_le _, Nat.zero_le _⟩ dX1_turn_22 (fun hb4 => ?_)
    refine ww_goto (pc := 25) (tgt := 29) C dX1_turn_25 (by decide) ?_
    obtain e0 := ij1 hf
    exact hret _ _ 29 _ dX1_turn_29 rfl e0 rfl
def fX1_take_b41 (c_firstFull : Int32) (c_full : Int32) (c_lastFull : Int32) (c_turns : Int32) (n1 : Int32) (s1 : Int32) : Option (Int32 × Int32 × Int32 × Int32) := some (s1, c_full, n1, c_turns)
def fX1_take (c_firstFull : Int32) (c_full : Int32) (c_lastFull : Int32) (c_turns : Int32) (x1 : Int32) (x2 : Int32) : Option (Int32 × Int32 × Int32 × Int32) := if x2 = 0 then some (c_firstFull, c_full, c_lastFull, c_turns) else (some (c_full + (1 : Int32))).bind fun v1 => (some (c_turns + x2)).bind fun v2 => if c_firstFull = (-1 : Int32) then fX1_take_b41 c_firstFull v1 c_lastFull v2 x1 x1 else fX1_take_b41 c_firstFull v1 c_lastFull v2 x1 c_firstFull
set_option maxHeartbeats 4000000 in
set_option maxRecDepth 100000 in
theorem tX1_take (l : Launch) (D : va_G) (k : Nat → ClassId) (q_this q_marks : Nat) (c_size : Int32) (c_full : Int32) (c_turns : Int32) (c_firstFull : Int32) (c_lastFull : Int32) (x1 : Int32) (x2 : Int32) (w_firstFull : Int32) (w_full : Int32) (w_lastFull : Int32) (w_turns : Int32) (hf : fX1_take c_firstFull c_full c_lastFull c_turns x1 x2 = some (w_firstFull, w_full, w_lastFull, w_turns)) : MV l yX1_take cX1_take 3 (RM 0 0) D k [.ref q_this, .int x1, .int x2] [oX1 q_this q_marks c_size c_full c_turns c_firstFull c_lastFull] [oX1 q_this q_marks c_size w_full w_turns w_firstFull w_lastFull] := by
  refine mkMV' (own := "DoorWalk$Grid") (by decide) rfl (Nat.le_of_ble_eq_true rfl) ?_
  intro p e s m args below meth c Q A hret C
  refine ww_lv (lv' := [(0, .ref q_this), (1, .int x1), (2, .int x2)]) [0, 1, 2] rfl ?_
  have hJ41 : ∀ (c_firstFull : Int32) (c_full : Int32) (c_lastFull : Int32) (c_turns : Int32) (n1 : Int32) (s1 : Int32), fX1_take_b41 c_firstFull c_full c_lastFull c_turns n1 s1 = some (w_firstFull, w_full, w_lastFull, w_turns) → WW p l e (RM 0 0) s m args below meth c Q 3 D A 0 0 [oX1 q_this q_marks c_size c_full c_turns c_firstFull c_lastFull] [(0, .ref q_this), (1, .int n1)] 41 [.int s1, .ref q_this] := by
    intro c_firstFull c_full c_lastFull c_turns n1 s1
    intro hf
    unfold fX1_take_b41 at hf
    refine pf1_4 (pc := 41) (ws' := [oX1 q_this q_marks c_size c_full c_turns s1 c_lastFull]) C kf_X1_25 0 rfl (Nat.le_of_ble_eq_true rfl) rfl dX1_take_41 ?_
    refine ww_aload_n (pc := 44) C dX1_take_44 rfl 0 rfl ?_
    refine ww_iload_n (pc := 45) C dX1_take_45 rfl 1 rfl ?_
    refine pf1_5 (pc := 46) (ws' := [oX1 q_this q_marks c_size c_full c_turns s1 n1]) C kf_X1_28 0 rfl (Nat.le_of_ble_eq_true rfl) rfl dX1_take_46 ?_
    obtain ⟨e0, e1, e2, e3⟩ := ij4 hf
    exact hret _ _ 49 dX1_take_49 (by rw [← e0, ← e1, ← e2, ← e3])
  unfold fX1_take at hf
  refine ww_iload_n (pc := 0) C dX1_take_0 rfl 2 rfl ?_
  refine ww_if_eq (pc := 1) (tgt := 49) C dX1_take_1 (by decide) (fun hc => ?_) (fun hc => ?_)
  · have hf := ifT hc hf
    obtain ⟨e0, e1, e2, e3⟩ := ij4 hf
    exact hret _ _ 49 dX1_take_49 (by rw [← e0, ← e1, ← e2, ← e3])
  · have hf := ifF hc hf
    refine ww_aload_n (pc := 4) C dX1_take_4 rfl 0 rfl ?_
    refine ww_dup (pc := 5) C dX1_take_5 rfl ?_
    refine gf1_2 (pc := 6) C kf_X1_19 0 rfl rfl dX1_take_6 ?_
    refine ww_iconst (pc := 9) C dX1_take_9 kI_1 ?_
    refine ww_iadd (pc := 10) C dX1_take_10  ?_
    obtain ⟨v1, h1, hf⟩ := bsome hf
    refine ww_nmi h1 ?_
    refine pf1_2 (pc := 11) (ws' := [oX1 q_this q_marks c_size v1 c_turns c_firstFull c_lastFull]) C kf_X1_19 0 rfl (Nat.le_of_ble_eq_true rfl) rfl dX1_take_11 ?_
    refine ww_aload_n (pc := 14) C dX1_take_14 rfl 0 rfl ?_
    refine ww_dup (pc := 15) C dX1_take_15 rfl ?_
    refine gf1_3 (pc := 16) C kf_X1_22 0 rfl rfl dX1_take_16 ?_
    refine ww_iload_n (pc := 19) C dX1_take_19 rfl 2 rfl ?_
    refine ww_iadd (pc := 20) C dX1_take_20  ?_
    obtain ⟨v2, h2, hf⟩ := bsome hf
    refine ww_nmi h2 ?_
    refine pf1_3 (pc := 21) (ws' := [oX1 q_this q_marks c_size v1 v2 c_firstFull c_lastFull]) C kf_X1_22 0 rfl (Nat.le_of_ble_eq_true rfl) rfl dX1_take_21 ?_
    refine ww_aload_n (pc := 24) C dX1_take_24 rfl 0 rfl ?_
    refine ww_aload_n (pc := 25) C dX1_take_25 rfl 0 rfl ?_
    refine gf1_4 (pc := 26) C kf_X1_25 0 rfl rfl dX1_take_26 ?_
    refine ww_iconst (pc := 29) C dX1_take_29 kI_m1 ?_
    refine ww_icmp_ne (pc := 30) (tgt := 37) C dX1_take_30 (by decide) (fun hc => ?_) (fun hc => ?_)
    · have hf := ifF hc hf
      refine ww_aload_n (pc := 37) C dX1_take_37 rfl 0 rfl ?_
      refine gf1_4 (pc := 38) C kf_X1_25 0 rfl rfl dX1_take_38 ?_
      exact ww_lv [0, 1] rfl (hJ41 c_firstFull v1 c_lastFull v2 x1 c_firstFull hf)
    · have hf := ifT hc hf
      refine ww_iload_n (pc := 33) C dX1_take_33 rfl 1 rfl ?_
      refine ww_goto (pc := 34) (tgt := 41) C dX1_take_34 (by decide) ?_
      exact ww_lv [0, 1] rfl (hJ41 c_firstFull v1 c_lastFull v2 x1 x1 hf)
def fX1_survey_b32 (c_size : Int32) (c_marks : Nat → Int32) (rc22 : Int32 → Int32 → Int32 → Int32 → Int32 → Option (Int32 × Int32 × Int32 × Int32)) (rc32 : Int32 → Int32 → Int32 → Int32 → Int32 → Int32 → Option (Int32 × Int32 × Int32 × Int32)) (c_firstFull : Int32) (c_full : Int32) (c_lastFull : Int32) (c_turns : Int32) (n1 : Int32) (n2 : Int32) : Option (Int32 × Int32 × Int32 × Int32) := if (c_size - n1) ≤ n2 then (some (n1 + (1 : Int32))).bind fun v1 => rc22 c_firstFull c_full c_lastFull c_turns v1 else (fX1_turnAt c_size c_marks n1 n2 (0 : Int32)).bind fun v2 => bd4 (fX1_take c_firstFull c_full c_lastFull c_turns ((2 : Int32) * ((c_size * n1) + n2)) v2) fun v3 v4 v5 v6 => (fX1_turnAt c_size c_marks n1 n2 (1 : Int32)).bind fun v7 => bd4 (fX1_take v3 v4 v5 v6 (((2 : Int32) * ((c_size * n1) + n2)) + (1 : Int32)) v7) fun v8 v9 v10 v11 => (some (n2 + (1 : Int32))).bind fun v12 => rc32 v8 v9 v10 v11 n1 v12
def fX1_survey_b22 (c_size : Int32) (c_marks : Nat → Int32) (rc22 : Int32 → Int32 → Int32 → Int32 → Int32 → Option (Int32 × Int32 × Int32 × Int32)) (c_firstFull : Int32) (c_full : Int32) (c_lastFull : Int32) (c_turns : Int32) (n1 : Int32) : Option (Int32 × Int32 × Int32 × Int32) := if c_size ≤ n1 then some (c_firstFull, c_full, c_lastFull, c_turns) else lfix (fX1_survey_b32 c_size c_marks rc22) (fun _ _ _ _ _ _ => none) FU c_firstFull c_full c_lastFull c_turns n1 (0 : Int32)
def fX1_survey (c_size : Int32) (c_marks : Nat → Int32) (c_firstFull : Int32) (c_full : Int32) (c_lastFull : Int32) (c_turns : Int32) : Option (Int32 × Int32 × Int32 × Int32) := lfix (fX1_survey_b22 c_size c_marks) (fun _ _ _ _ _ => none) FU (-1 : Int32) (0 : Int32) (-1 : Int32) (0 : Int32) (0 : Int32)
set_option maxHeartbeats 4000000 in
set_option maxRecDepth 100000 in
theorem tX1_survey (l : Launch) (D : va_G) (k : Nat → ClassId) (q_this q_marks : Nat) (c_size : Int32) (c_full : Int32) (c_turns : Int32) (c_firstFull : Int32) (c_lastFull : Int32) (c_marks : Nat → Int32)  (w_firstFull : Int32) (w_full : Int32) (w_lastFull : Int32) (w_turns : Int32) (hf : fX1_survey c_size c_marks c_firstFull c_full c_lastFull c_turns = some (w_firstFull, w_full, w_lastFull, w_turns)) : MV l yX1_survey cX1_survey 3 (RM 2 47) D k [.ref q_this] [oX1 q_this q_marks c_size c_full c_turns c_firstFull c_lastFull, aI k q_marks 153 c_marks] [oX1 q_this q_marks c_size w_full w_turns w_firstFull w_lastFull, aI k q_marks 153 c_marks] := by
  refine mkMV' (own := "DoorWalk$Grid") (by decide) rfl (Nat.le_of_ble_eq_true rfl) ?_
  intro p e s m args below meth c Q A hret C
  refine ww_lv (lv' := [(0, .ref q_this)]) [0] rfl ?_
  have hL22 : ∀ (n : Nat) (c_firstFull : Int32) (c_full : Int32) (c_lastFull : Int32) (c_turns : Int32) (n1 : Int32), lfix (fX1_survey_b22 c_size c_marks) (fun _ _ _ _ _ => none) n c_firstFull c_full c_lastFull c_turns n1 = some (w_firstFull, w_full, w_lastFull, w_turns) → WW p l e (RM 2 47) s m args below meth c Q 3 D A 0 0 [oX1 q_this q_marks c_size c_full c_turns c_firstFull c_lastFull, aI k q_marks 153 c_marks] [(0, .ref q_this), (1, .int n1)] 22 [] := by
    intro n
    induction n with
    | zero => intro c_firstFull c_full c_lastFull c_turns n1 hf; cases hf
    | succ n ih22 =>
      obtain ⟨rc22, hrc22⟩ : ∃ f9, f9 = lfix (fX1_survey_b22 c_size c_marks) (fun _ _ _ _ _ => none) n := ⟨_, rfl⟩
      rw [← hrc22] at ih22
      have hL32 : ∀ (n : Nat) (c_firstFull : Int32) (c_full : Int32) (c_lastFull : Int32) (c_turns : Int32) (n1 : Int32) (n2 : Int32), lfix (fX1_survey_b32 c_size c_marks rc22) (fun _ _ _ _ _ _ => none) n c_firstFull c_full c_lastFull c_turns n1 n2 = some (w_firstFull, w_full, w_lastFull, w_turns) → WW p l e (RM 2 47) s m args below meth c Q 3 D A 0 0 [oX1 q_this q_marks c_size c_full c_turns c_firstFull c_lastFull, aI k q_marks 153 c_marks] [(0, .ref q_this), (1, .int n1), (2, .int n2)] 32 [] := by
        intro n
        induction n with
        | zero => intro c_firstFull c_full c_lastFull c_turns n1 n2 hf; cases hf
        | succ n ih32 =>
          obtain ⟨rc32, hrc32⟩ : ∃ f9, f9 = lfix (fX1_survey_b32 c_size c_marks rc22) (fun _ _ _ _ _ _ => none) n := ⟨_, rfl⟩
          rw [← hrc32] at ih32
          intro c_firstFull c_full c_lastFull c_turns n1 n2 hf
          have hf : fX1_survey_b32 c_size c_marks rc22 rc32 c_firstFull c_full c_lastFull c_turns n1 n2 = some (w_firstFull, w_full, w_lastFull, w_turns) := by rw [hrc32]; exact hf
          unfold fX1_survey_b32 at hf
          refine ww_iload_n (pc := 32) C dX1_survey_32 rfl 2 rfl ?_
          refine ww_aload_n (pc := 33) C dX1_survey_33 rfl 0 rfl ?_
          refine gf1_1 (pc := 34) C kf_X1_15 0 rfl rfl dX1_survey_34 ?_
          refine ww_iload_n (pc := 37) C dX1_survey_37 rfl 1 rfl ?_
          refine ww_isub (pc := 38) C dX1_survey_38  ?_
          refine ww_icmp_ge (pc := 39) (tgt := 92) C dX1_survey_39 (by decide) (fun hc => ?_) (fun hc => ?_)
          · have hf := ifT hc hf
            obtain ⟨v1, h1, hf⟩ := bsome hf
            refine ww_iincN (pc := 92) (lv' := [(1, .int v1), (0, .ref q_this), (2, .int n2)]) (j := 1) C dX1_survey_92 kI_1 rfl h1 (by decide) rfl ?_
            refine ww_goto (pc := 95) (tgt := 22) C dX1_survey_95 (by decide) ?_
            exact ww_lv [1, 0] rfl (ih22 c_firstFull c_full c_lastFull c_turns v1 hf)
          · have hf := ifF hc hf
            refine ww_aload_n (pc := 42) C dX1_survey_42 rfl 0 rfl ?_
            refine ww_iconst (pc := 43) C dX1_survey_43 kI_2 ?_
            refine ww_aload_n (pc := 44) C dX1_survey_44 rfl 0 rfl ?_
            refine gf1_1 (pc := 45) C kf_X1_15 0 rfl rfl dX1_survey_45 ?_
            refine ww_iload_n (pc := 48) C dX1_survey_48 rfl 1 rfl ?_
            refine ww_imul (pc := 49) C dX1_survey_49  ?_
            refine ww_iload_n (pc := 50) C dX1_survey_50 rfl 2 rfl ?_
            refine ww_iadd (pc := 51) C dX1_survey_51  ?_
            refine ww_imul (pc := 52) C dX1_survey_52  ?_
            refine ww_aload_n (pc := 53) C dX1_survey_53 rfl 0 rfl ?_
            refine ww_iload_n (pc := 54) C dX1_survey_54 rfl 1 rfl ?_
            refine ww_iload_n (pc := 55) C dX1_survey_55 rfl 2 rfl ?_
            refine ww_iconst (pc := 56) C dX1_survey_56 kI_0 ?_
            obtain ⟨v2, h2, hf⟩ := bsome hf
            refine ww_callVi0 (pc := 57) (As := [.int n1, .int n2, .int (0 : Int32)]) (rest := [.int ((2 : Int32) * ((c_size * n1) + n2)), .ref q_this]) C (tX1_turnAt l D k q_this q_marks c_size c_full c_turns c_firstFull c_lastFull c_marks n1 n2 (0 : Int32) v2 h2) cv_X1_96 ⟨⟨by decide, by decide⟩, rfl, rfl⟩ 0 rfl rfl [0, 1] rfl rfl rfl rfl (Nat.le_of_ble_eq_true rfl) ⟨Nat.zero_le _, Nat.zero_le _⟩ dX1_survey_57 (fun hb2 => ?_)
            obtain ⟨v3, v4, v5, v6, h3, hf⟩ := bd4_some hf
            refine ww_callVv (pc := 60) (ws' := [oX1 q_this q_marks c_size v4 v6 v3 v5, aI k q_marks 153 c_marks]) (As := [.int ((2 : Int32) * ((c_size * n1) + n2)), .int v2]) (rest := []) C (tX1_take l D k q_this q_marks c_size c_full c_turns c_firstFull c_lastFull ((2 : Int32) * ((c_size * n1) + n2)) v2 v3 v4 v5 v6 h3) cv_X1_102 ⟨⟨by decide, by decide⟩, rfl, rfl⟩ 0 rfl rfl [0] rfl rfl rfl rfl rfl rfl (Nat.le_of_ble_eq_true rfl) ⟨Nat.zero_le _, Nat.zero_le _⟩ dX1_survey_60 ?_
            refine ww_aload_n (pc := 63) C dX1_survey_63 rfl 0 rfl ?_
            refine ww_iconst (pc := 64) C dX1_survey_64 kI_2 ?_
            refine ww_aload_n (pc := 65) C dX1_survey_65 rfl 0 rfl ?_
            refine gf1_1 (pc := 66) C kf_X1_15 0 rfl rfl dX1_survey_66 ?_
            refine ww_iload_n (pc := 69) C dX1_survey_69 rfl 1 rfl ?_
            refine ww_imul (pc := 70) C dX1_survey_70  ?_
            refine ww_iload_n (pc := 71) C dX1_survey_71 rfl 2 rfl ?_
            refine ww_iadd (pc := 72) C dX1_survey_72  ?_
            refine ww_imul (pc := 73) C dX1_survey_73  ?_
            refine ww_iconst (pc := 74) C dX1_survey_74 kI_1 ?_
            refine ww_iadd (pc := 75) C dX1_survey_75  ?_
            refine ww_aload_n (pc := 76) C dX1_survey_76 rfl 0 rfl ?_
            refine ww_iload_n (pc := 77) C dX1_survey_77 rfl 1 rfl ?_
            refine ww_iload_n (pc := 78) C dX1_survey_78 rfl 2 rfl ?_
            refine ww_iconst (pc := 79) C dX1_survey_79 kI_1 ?_
            obtain ⟨v7, h7, hf⟩ := bsome hf
            refine ww_callVi0 (pc := 80) (As := [.int n1, .int n2, .int (1 : Int32)]) (rest := [.int (((2 : Int32) * ((c_size * n1) + n2)) + (1 : Int32)), .ref q_this]) C (tX1_turnAt l D k q_this q_marks c_size v4 v6 v3 v5 c_marks n1 n2 (1 : Int32) v7 h7) cv_X1_96 ⟨⟨by decide, by decide⟩, rfl, rfl⟩ 0 rfl rfl [0, 1] rfl rfl rfl rfl (Nat.le_of_ble_eq_true rfl) ⟨Nat.zero_le _, Nat.zero_le _⟩ dX1_survey_80 (fun hb7 => ?_)
            obtain ⟨v8, v9, v10, v11, h8, hf⟩ := bd4_some hf
            refine ww_callVv (pc := 83) (ws' := [oX1 q_this q_marks c_size v9 v11 v8 v10, aI k q_marks 153 c_marks]) (As := [.int (((2 : Int32) * ((c_size * n1) + n2)) + (1 : Int32)), .int v7]) (rest := []) C (tX1_take l D k q_this q_marks c_size v4 v6 v3 v5 (((2 : Int32) * ((c_size * n1) + n2)) + (1 : Int32)) v7 v8 v9 v10 v11 h8) cv_X1_102 ⟨⟨by decide, by decide⟩, rfl, rfl⟩ 0 rfl rfl [0] rfl rfl rfl rfl rfl rfl (Nat.le_of_ble_eq_true rfl) ⟨Nat.zero_le _, Nat.zero_le _⟩ dX1_survey_83 ?_
            obtain ⟨v12, h12, hf⟩ := bsome hf
            refine ww_iincN (pc := 86) (lv' := [(2, .int v12), (0, .ref q_this), (1, .int n1)]) (j := 2) C dX1_survey_86 kI_1 rfl h12 (by decide) rfl ?_
            refine ww_goto (pc := 89) (tgt := 32) C dX1_survey_89 (by decide) ?_
            exact ww_lv [1, 2, 0] rfl (ih32 v8 v9 v10 v11 n1 v12 hf)
      intro c_firstFull c_full c_lastFull c_turns n1 hf
      have hf : fX1_survey_b22 c_size c_marks rc22 c_firstFull c_full c_lastFull c_turns n1 = some (w_firstFull, w_full, w_lastFull, w_turns) := by rw [hrc22]; exact hf
      unfold fX1_survey_b22 at hf
      refine ww_iload_n (pc := 22) C dX1_survey_22 rfl 1 rfl ?_
      refine ww_aload_n (pc := 23) C dX1_survey_23 rfl 0 rfl ?_
      refine gf1_1 (pc := 24) C kf_X1_15 0 rfl rfl dX1_survey_24 ?_
      refine ww_icmp_ge (pc := 27) (tgt := 98) C dX1_survey_27 (by decide) (fun hc => ?_) (fun hc => ?_)
      · have hf := ifT hc hf
        obtain ⟨e0, e1, e2, e3⟩ := ij4 hf
        exact hret _ _ 98 dX1_survey_98 (by rw [← e0, ← e1, ← e2, ← e3])
      · have hf := ifF hc hf
        refine ww_iconst (pc := 30) C dX1_survey_30 kI_0 ?_
        refine ww_istore_n (pc := 31) (lv' := [(2, .int (0 : Int32)), (0, .ref q_this), (1, .int n1)]) C dX1_survey_31 rfl (by decide) rfl ?_
        exact ww_lv [1, 2, 0] rfl (hL32 FU c_firstFull c_full c_lastFull c_turns n1 (0 : Int32) hf)
  unfold fX1_survey at hf
  refine ww_aload_n (pc := 0) C dX1_survey_0 rfl 0 rfl ?_
  refine ww_iconst (pc := 1) C dX1_survey_1 kI_0 ?_
  refine pf1_2 (pc := 2) (ws' := [oX1 q_this q_marks c_size (0 : Int32) c_turns c_firstFull c_lastFull, aI k q_marks 153 c_marks]) C kf_X1_19 0 rfl (Nat.le_of_ble_eq_true rfl) rfl dX1_survey_2 ?_
  refine ww_aload_n (pc := 5) C dX1_survey_5 rfl 0 rfl ?_
  refine ww_iconst (pc := 6) C dX1_survey_6 kI_0 ?_
  refine pf1_3 (pc := 7) (ws' := [oX1 q_this q_marks c_size (0 : Int32) (0 : Int32) c_firstFull c_lastFull, aI k q_marks 153 c_marks]) C kf_X1_22 0 rfl (Nat.le_of_ble_eq_true rfl) rfl dX1_survey_7 ?_
  refine ww_aload_n (pc := 10) C dX1_survey_10 rfl 0 rfl ?_
  refine ww_iconst (pc := 11) C dX1_survey_11 kI_m1 ?_
  refine pf1_4 (pc := 12) (ws' := [oX1 q_this q_marks c_size (0 : Int32) (0 : Int32) (-1 : Int32) c_lastFull, aI k q_marks 153 c_marks]) C kf_X1_25 0 rfl (Nat.le_of_ble_eq_true rfl) rfl dX1_survey_12 ?_
  refine ww_aload_n (pc := 15) C dX1_survey_15 rfl 0 rfl ?_
  refine ww_iconst (pc := 16) C dX1_survey_16 kI_m1 ?_
  refine pf1_5 (pc := 17) (ws' := [oX1 q_this q_marks c_size (0 : Int32) (0 : Int32) (-1 : Int32) (-1 : Int32), aI k q_marks 153 c_marks]) C kf_X1_28 0 rfl (Nat.le_of_ble_eq_true rfl) rfl dX1_survey_17 ?_
  refine ww_iconst (pc := 20) C dX1_survey_20 kI_0 ?_
  refine ww_istore_n (pc := 21) (lv' := [(1, .int (0 : Int32)), (0, .ref q_this)]) C dX1_survey_21 rfl (by decide) rfl ?_
  exact ww_lv [1, 0] rfl (hL22 FU (-1 : Int32) (0 : Int32) (-1 : Int32) (0 : Int32) (0 : Int32) hf)
def fX1_fullCells (c_size : Int32) (c_marks : Nat → Int32) (c_firstFull : Int32) (c_full : Int32) (c_lastFull : Int32) (c_turns : Int32) : Option (Int32 × Int32 × Int32 × Int32 × Int32) := bd4 (fX1_survey c_size c_marks c_firstFull c_full c_lastFull c_turns) fun v1 v2 v3 v4 => some (v2, v1, v2, v3, v4)
set_option maxHeartbeats 4000000 in
set_option maxRecDepth 100000 in
theorem tX1_fullCells (l : Launch) (D : va_G) (k : Nat → ClassId) (q_this q_marks : Nat) (c_size : Int32) (c_full : Int32) (c_turns : Int32) (c_firstFull : Int32) (c_lastFull : Int32) (c_marks : Nat → Int32)  (r_ : Int32) (w_firstFull : Int32) (w_full : Int32) (w_lastFull : Int32) (w_turns : Int32) (hf : fX1_fullCells c_size c_marks c_firstFull c_full c_lastFull c_turns = some (r_, w_firstFull, w_full, w_lastFull, w_turns)) : MI l yX1_fullCells cX1_fullCells 1 .int (RM 3 69) D k [.ref q_this] [oX1 q_this q_marks c_size c_full c_turns c_firstFull c_lastFull, aI k q_marks 153 c_marks] r_ [oX1 q_this q_marks c_size w_full w_turns w_firstFull w_lastFull, aI k q_marks 153 c_marks] := by
  refine mkMI' (own := "DoorWalk$Grid") (by decide) rfl (Nat.le_of_ble_eq_true rfl) ?_
  intro p e s m args below meth c Q A hret C
  refine ww_lv (lv' := [(0, .ref q_this)]) [0] rfl ?_
  unfold fX1_fullCells at hf
  refine ww_aload_n (pc := 0) C dX1_fullCells_0 rfl 0 rfl ?_
  obtain ⟨v1, v2, v3, v4, h1, hf⟩ := bd4_some hf
  refine ww_callVv (pc := 1) (ws' := [oX1 q_this q_marks c_size v2 v4 v1 v3, aI k q_marks 153 c_marks]) (As := []) (rest := []) C (tX1_survey l D k q_this q_marks c_size c_full c_turns c_firstFull c_lastFull c_marks v1 v2 v3 v4 h1) cv_X1_105 ⟨⟨by decide, by decide⟩, rfl, rfl⟩ 0 rfl rfl [0, 1] rfl rfl rfl rfl rfl rfl (Nat.le_of_ble_eq_true rfl) ⟨Nat.zero_le _, Nat.zero_le _⟩ dX1_fullCells_1 ?_
  refine ww_aload_n (pc := 4) C dX1_fullCells_4 rfl 0 rfl ?_
  refine gf1_2 (pc := 5) C kf_X1_19 0 rfl rfl dX1_fullCells_5 ?_
  obtain ⟨e0, e1, e2, e3, e4⟩ := ij5 hf
  exact hret _ _ 8 _ dX1_fullCells_8 rfl e0 (by rw [← e1, ← e2, ← e3, ← e4])
def fX1_nthFull_b4 (c_size : Int32) (c_marks : Nat → Int32) (rc4 : Int32 → Int32 → Int32 → Option Int32) (n1 : Int32) (n2 : Int32) (n3 : Int32) : Option Int32 := (fX1_numbers c_size).bind fun v1 => if v1 ≤ n3 then some ((-1 : Int32)) else (fX1_turn c_size c_marks n3).bind fun v2 => if v2 = 0 then (some (n3 + (1 : Int32))).bind fun v3 => rc4 n1 n2 v3 else if n2 = n1 then some (n3) else (some (n2 + (1 : Int32))).bind fun v4 => (some (n3 + (1 : Int32))).bind fun v5 => rc4 n1 v4 v5
def fX1_nthFull (c_size : Int32) (c_marks : Nat → Int32) (x1 : Int32) : Option Int32 := lfix (fX1_nthFull_b4 c_size c_marks) (fun _ _ _ => none) FU x1 (0 : Int32) (0 : Int32)
set_option maxHeartbeats 4000000 in
set_option maxRecDepth 100000 in
theorem tX1_nthFull (l : Launch) (D : va_G) (k : Nat → ClassId) (q_this q_marks : Nat) (c_size : Int32) (c_full : Int32) (c_turns : Int32) (c_firstFull : Int32) (c_lastFull : Int32) (c_marks : Nat → Int32) (x1 : Int32) (r_ : Int32) (hf : fX1_nthFull c_size c_marks x1 = some (r_)) : MI l yX1_nthFull cX1_nthFull 4 .int (RM 3 68) D k [.ref q_this, .int x1] [oX1 q_this q_marks c_size c_full c_turns c_firstFull c_lastFull, aI k q_marks 153 c_marks] r_ [oX1 q_this q_marks c_size c_full c_turns c_firstFull c_lastFull, aI k q_marks 153 c_marks] := by
  refine mkMI' (own := "DoorWalk$Grid") (by decide) rfl (Nat.le_of_ble_eq_true rfl) ?_
  intro p e s m args below meth c Q A hret C
  refine ww_lv (lv' := [(0, .ref q_this), (1, .int x1)]) [0, 1] rfl ?_
  have hL4 : ∀ (n : Nat) (n1 : Int32) (n2 : Int32) (n3 : Int32), lfix (fX1_nthFull_b4 c_size c_marks) (fun _ _ _ => none) n n1 n2 n3 = some (r_) → WW p l e (RM 3 68) s m args below meth c Q 4 D A 0 0 [oX1 q_this q_marks c_size c_full c_turns c_firstFull c_lastFull, aI k q_marks 153 c_marks] [(0, .ref q_this), (1, .int n1), (2, .int n2), (3, .int n3)] 4 [] := by
    intro n
    induction n with
    | zero => intro n1 n2 n3 hf; cases hf
    | succ n ih4 =>
      obtain ⟨rc4, hrc4⟩ : ∃ f9, f9 = lfix (fX1_nthFull_b4 c_size c_marks) (fun _ _ _ => none) n := ⟨_, rfl⟩
      rw [← hrc4] at ih4
      intro n1 n2 n3 hf
      have hf : fX1_nthFull_b4 c_size c_marks rc4 n1 n2 n3 = some (r_) := by rw [hrc4]; exact hf
      unfold fX1_nthFull_b4 at hf
      refine ww_iload_n (pc := 4) C dX1_nthFull_4 rfl 3 rfl ?_
      refine ww_aload_n (pc := 5) C dX1_nthFull_5 rfl 0 rfl ?_
      obtain ⟨v1, h1, hf⟩ := bsome hf
      refine ww_callVi0 (pc := 6) (As := []) (rest := [.int n3]) C (tX1_numbers l D k q_this q_marks c_size c_full c_turns c_firstFull c_lastFull v1 h1) cv_X1_108 ⟨⟨by decide, by decide⟩, rfl, rfl⟩ 0 rfl rfl [0] rfl rfl rfl rfl (Nat.le_of_ble_eq_true rfl) ⟨Nat.zero_le _, Nat.zero_le _⟩ dX1_nthFull_6 (fun hb1 => ?_)
      refine ww_icmp_ge (pc := 9) (tgt := 36) C dX1_nthFull_9 (by decide) (fun hc => ?_) (fun hc => ?_)
      · have hf := ifT hc hf
        refine ww_iconst (pc := 36) C dX1_nthFull_36 kI_m1 ?_
        obtain e0 := ij1 hf
        exact hret _ _ 37 _ dX1_nthFull_37 rfl e0 rfl
      · have hf := ifF hc hf
        refine ww_aload_n (pc := 12) C dX1_nthFull_12 rfl 0 rfl ?_
        refine ww_iload_n (pc := 13) C dX1_nthFull_13 rfl 3 rfl ?_
        obtain ⟨v2, h2, hf⟩ := bsome hf
        refine ww_callVi0 (pc := 14) (As := [.int n3]) (rest := []) C (tX1_turn l D k q_this q_marks c_size c_full c_turns c_firstFull c_lastFull c_marks n3 v2 h2) cv_X1_112 ⟨⟨by decide, by decide⟩, rfl, rfl⟩ 0 rfl rfl [0, 1] rfl rfl rfl rfl (Nat.le_of_ble_eq_true rfl) ⟨Nat.zero_le _, Nat.zero_le _⟩ dX1_nthFull_14 (fun hb2 => ?_)
        refine ww_if_eq (pc := 17) (tgt := 30) C dX1_nthFull_17 (by decide) (fun hc => ?_) (fun hc => ?_)
        · have hf := ifT hc hf
          obtain ⟨v3, h3, hf⟩ := bsome hf
          refine ww_iincN (pc := 30) (lv' := [(3, .int v3), (0, .ref q_this), (1, .int n1), (2, .int n2)]) (j := 3) C dX1_nthFull_30 kI_1 rfl h3 (by decide) rfl ?_
          refine ww_goto (pc := 33) (tgt := 4) C dX1_nthFull_33 (by decide) ?_
          exact ww_lv [1, 2, 3, 0] rfl (ih4 n1 n2 v3 hf)
        · have hf := ifF hc hf
          refine ww_iload_n (pc := 20) C dX1_nthFull_20 rfl 2 rfl ?_
          refine ww_iload_n (pc := 21) C dX1_nthFull_21 rfl 1 rfl ?_
          refine ww_icmp_ne (pc := 22) (tgt := 27) C dX1_nthFull_22 (by decide) (fun hc => ?_) (fun hc => ?_)
          · have hf := ifF hc hf
            obtain ⟨v4, h4, hf⟩ := bsome hf
            refine ww_iincN (pc := 27) (lv' := [(2, .int v4), (0, .ref q_this), (1, .int n1), (3, .int n3)]) (j := 2) C dX1_nthFull_27 kI_1 rfl h4 (by decide) rfl ?_
            obtain ⟨v5, h5, hf⟩ := bsome hf
            refine ww_iincN (pc := 30) (lv' := [(3, .int v5), (2, .int v4), (0, .ref q_this), (1, .int n1)]) (j := 3) C dX1_nthFull_30 kI_1 rfl h5 (by decide) rfl ?_
            refine ww_goto (pc := 33) (tgt := 4) C dX1_nthFull_33 (by decide) ?_
            exact ww_lv [2, 3, 1, 0] rfl (ih4 n1 v4 v5 hf)
          · have hf := ifT hc hf
            refine ww_iload_n (pc := 25) C dX1_nthFull_25 rfl 3 rfl ?_
            obtain e0 := ij1 hf
            exact hret _ _ 26 _ dX1_nthFull_26 rfl e0 rfl
  unfold fX1_nthFull at hf
  refine ww_iconst (pc := 0) C dX1_nthFull_0 kI_0 ?_
  refine ww_istore_n (pc := 1) (lv' := [(2, .int (0 : Int32)), (0, .ref q_this), (1, .int x1)]) C dX1_nthFull_1 rfl (by decide) rfl ?_
  refine ww_iconst (pc := 2) C dX1_nthFull_2 kI_0 ?_
  refine ww_istore_n (pc := 3) (lv' := [(3, .int (0 : Int32)), (2, .int (0 : Int32)), (0, .ref q_this), (1, .int x1)]) C dX1_nthFull_3 rfl (by decide) rfl ?_
  exact ww_lv [2, 3, 1, 0] rfl (hL4 FU x1 (0 : Int32) (0 : Int32) hf)
def fX1_isApart_b2 (c_size : Int32) (rc2 : Int32 → Int32 → Option Int32) (n1 : Int32) (n2 : Int32) : Option Int32 := if (3 : Int32) ≤ n2 then some ((1 : Int32)) else (fX1_cornerI c_size n1 n2).bind fun v1 => (fX1_cornerJ c_size n1 n2).bind fun v2 => (fX1_onRim c_size v1 v2).bind fun v3 => if v3 = 0 then (some (n2 + (1 : Int32))).bind fun v4 => rc2 n1 v4 else some ((0 : Int32))
def fX1_isApart (c_size : Int32) (x1 : Int32) : Option Int32 := lfix (fX1_isApart_b2 c_size) (fun _ _ => none) FU x1 (0 : Int32)
set_option maxHeartbeats 4000000 in
set_option maxRecDepth 100000 in
theorem tX1_isApart (l : Launch) (D : va_G) (k : Nat → ClassId) (q_this q_marks : Nat) (c_size : Int32) (c_full : Int32) (c_turns : Int32) (c_firstFull : Int32) (c_lastFull : Int32) (x1 : Int32) (r_ : Int32) (hf : fX1_isApart c_size x1 = some (r_)) : MI l yX1_isApart cX1_isApart 3 .boolean (RM 2 44) D k [.ref q_this, .int x1] [oX1 q_this q_marks c_size c_full c_turns c_firstFull c_lastFull] r_ [oX1 q_this q_marks c_size c_full c_turns c_firstFull c_lastFull] := by
  refine mkMI' (own := "DoorWalk$Grid") (by decide) rfl (Nat.le_of_ble_eq_true rfl) ?_
  intro p e s m args below meth c Q A hret C
  refine ww_lv (lv' := [(0, .ref q_this), (1, .int x1)]) [0, 1] rfl ?_
  have hL2 : ∀ (n : Nat) (n1 : Int32) (n2 : Int32), lfix (fX1_isApart_b2 c_size) (fun _ _ => none) n n1 n2 = some (r_) → WW p l e (RM 2 44) s m args below meth c Q 3 D A 0 0 [oX1 q_this q_marks c_size c_full c_turns c_firstFull c_lastFull] [(0, .ref q_this), (1, .int n1), (2, .int n2)] 2 [] := by
    intro n
    induction n with
    | zero => intro n1 n2 hf; cases hf
    | succ n ih2 =>
      obtain ⟨rc2, hrc2⟩ : ∃ f9, f9 = lfix (fX1_isApart_b2 c_size) (fun _ _ => none) n := ⟨_, rfl⟩
      rw [← hrc2] at ih2
      intro n1 n2 hf
      have hf : fX1_isApart_b2 c_size rc2 n1 n2 = some (r_) := by rw [hrc2]; exact hf
      unfold fX1_isApart_b2 at hf
      refine ww_iload_n (pc := 2) C dX1_isApart_2 rfl 2 rfl ?_
      refine ww_iconst (pc := 3) C dX1_isApart_3 kI_3 ?_
      refine ww_icmp_ge (pc := 4) (tgt := 34) C dX1_isApart_4 (by decide) (fun hc => ?_) (fun hc => ?_)
      · have hf := ifT hc hf
        refine ww_iconst (pc := 34) C dX1_isApart_34 kI_1 ?_
        obtain e0 := ij1 hf
        exact hret _ _ 35 _ dX1_isApart_35 (by decide) e0 rfl
      · have hf := ifF hc hf
        refine ww_aload_n (pc := 7) C dX1_isApart_7 rfl 0 rfl ?_
        refine ww_aload_n (pc := 8) C dX1_isApart_8 rfl 0 rfl ?_
        refine ww_iload_n (pc := 9) C dX1_isApart_9 rfl 1 rfl ?_
        refine ww_iload_n (pc := 10) C dX1_isApart_10 rfl 2 rfl ?_
        obtain ⟨v1, h1, hf⟩ := bsome hf
        refine ww_callVi0 (pc := 11) (As := [.int n1, .int n2]) (rest := [.ref q_this]) C (tX1_cornerI l D k q_this q_marks c_size c_full c_turns c_firstFull c_lastFull n1 n2 v1 h1) cv_X1_115 ⟨⟨by decide, by decide⟩, rfl, rfl⟩ 0 rfl rfl [0] rfl rfl rfl rfl (Nat.le_of_ble_eq_true rfl) ⟨Nat.zero_le _, Nat.zero_le _⟩ dX1_isApart_11 (fun hb1 => ?_)
        refine ww_aload_n (pc := 14) C dX1_isApart_14 rfl 0 rfl ?_
        refine ww_iload_n (pc := 15) C dX1_isApart_15 rfl 1 rfl ?_
        refine ww_iload_n (pc := 16) C dX1_isApart_16 rfl 2 rfl ?_
        obtain ⟨v2, h2, hf⟩ := bsome hf
        refine ww_callVi0 (pc := 17) (As := [.int n1, .int n2]) (rest := [.int v1, .ref q_this]) C (tX1_cornerJ l D k q_this q_marks c_size c_full c_turns c_firstFull c_lastFull n1 n2 v2 h2) cv_X1_118 ⟨⟨by decide, by decide⟩, rfl, rfl⟩ 0 rfl rfl [0] rfl rfl rfl rfl (Nat.le_of_ble_eq_true rfl) ⟨Nat.zero_le _, Nat.zero_le _⟩ dX1_isApart_17 (fun hb2 => ?_)
        obtain ⟨v3, h3, hf⟩ := bsome hf
        refine ww_callVi0 (pc := 20) (As := [.int v1, .int v2]) (rest := []) C (tX1_onRim l D k q_this q_marks c_size c_full c_turns c_firstFull c_lastFull v1 v2 v3 h3) cv_X1_121 ⟨⟨by decide, by decide⟩, rfl, rfl⟩ 0 rfl rfl [0] rfl rfl rfl rfl (Nat.le_of_ble_eq_true rfl) ⟨Nat.zero_le _, Nat.zero_le _⟩ dX1_isApart_20 (fun hb3 => ?_)
        refine ww_if_eq (pc := 23) (tgt := 28) C dX1_isApart_23 (by decide) (fun hc => ?_) (fun hc => ?_)
        · have hf := ifT hc hf
          obtain ⟨v4, h4, hf⟩ := bsome hf
          refine ww_iincN (pc := 28) (lv' := [(2, .int v4), (0, .ref q_this), (1, .int n1)]) (j := 2) C dX1_isApart_28 kI_1 rfl h4 (by decide) rfl ?_
          refine ww_goto (pc := 31) (tgt := 2) C dX1_isApart_31 (by decide) ?_
          exact ww_lv [1, 2, 0] rfl (ih2 n1 v4 hf)
        · have hf := ifF hc hf
          refine ww_iconst (pc := 26) C dX1_isApart_26 kI_0 ?_
          obtain e0 := ij1 hf
          exact hret _ _ 27 _ dX1_isApart_27 (by decide) e0 rfl
  unfold fX1_isApart at hf
  refine ww_iconst (pc := 0) C dX1_isApart_0 kI_0 ?_
  refine ww_istore_n (pc := 1) (lv' := [(2, .int (0 : Int32)), (0, .ref q_this), (1, .int x1)]) C dX1_isApart_1 rfl (by decide) rfl ?_
  exact ww_lv [1, 2, 0] rfl (hL2 FU x1 (0 : Int32) hf)
def fX1_turnRound_b10 (c_size : Int32) (c_marks : Nat → Int32) : Option Int32 := some ((0 : Int32))
def fX1_turnRound (c_size : Int32) (c_marks : Nat → Int32) (x1 : Int32) (x2 : Int32) (x3 : Int32) : Option Int32 := if x3 < 0 then fX1_turnRound_b10 c_size c_marks else if x3 < (6 : Int32) then (ald 6 x3 tRI).bind fun v2 => (ald 6 x3 tRJ).bind fun v4 => (ald 6 x3 tRD).bind fun v6 => (fX1_turnAt c_size c_marks (x1 + v2) (x2 + v4) v6).bind fun v7 => some (v7) else fX1_turnRound_b10 c_size c_marks
set_option maxHeartbeats 4000000 in
set_option maxRecDepth 100000 in
theorem tX1_turnRound (l : Launch) (D : va_G) (k : Nat → ClassId) (q_this q_marks : Nat) (c_size : Int32) (c_full : Int32) (c_turns : Int32) (c_firstFull : Int32) (c_lastFull : Int32) (c_marks : Nat → Int32) (x1 : Int32) (x2 : Int32) (x3 : Int32) (r_ : Int32) (hf : fX1_turnRound c_size c_marks x1 x2 x3 = some (r_)) : MI l yX1_turnRound cX1_turnRound 4 .int (RM 2 47) D k [.ref q_this, .int x1, .int x2, .int x3] [oX1 q_this q_marks c_size c_full c_turns c_firstFull c_lastFull, aI k q_marks 153 c_marks] r_ [oX1 q_this q_marks c_size c_full c_turns c_firstFull c_lastFull, aI k q_marks 153 c_marks] := by
  refine mkMI' (own := "DoorWalk$Grid") (by decide) rfl (Nat.le_of_ble_eq_true rfl) ?_
  intro p e s m args below meth c Q A hret C
  refine ww_lv (lv' := [(0, .ref q_this), (1, .int x1), (2, .int x2), (3, .int x3)]) [0, 1, 2, 3] rfl ?_
  have hJ10 : fX1_turnRound_b10 c_size c_marks = some (r_) → WW p l e (RM 2 47) s m args below meth c Q 4 D A 0 0 [oX1 q_this q_marks c_size c_full c_turns c_firstFull c_lastFull, aI k q_marks 153 c_marks] [] 10 [] := by
    intro hf
    unfold fX1_turnRound_b10 at hf
    refine ww_iconst (pc := 10) C dX1_turnRound_10 kI_0 ?_
    refine ww_goto (pc := 11) (tgt := 37) C dX1_turnRound_11 (by decide) ?_
    obtain e0 := ij1 hf
    exact hret _ _ 37 _ dX1_turnRound_37 rfl e0 rfl
  unfold fX1_turnRound at hf
  refine ww_iload_n (pc := 0) C dX1_turnRound_0 rfl 3 rfl ?_
  refine ww_if_lt (pc := 1) (tgt := 10) C dX1_turnRound_1 (by decide) (fun hc => ?_) (fun hc => ?_)
  · have hf := ifT hc hf
    exact ww_lv [] rfl (hJ10  hf)
  · have hf := ifF hc hf
    refine ww_iload_n (pc := 4) C dX1_turnRound_4 rfl 3 rfl ?_
    refine ww_bipush (pc := 5) C dX1_turnRound_5 kB_6 ?_
    refine ww_icmp_lt (pc := 7) (tgt := 14) C dX1_turnRound_7 (by decide) (fun hc => ?_) (fun hc => ?_)
    · have hf := ifT hc hf
      refine ww_aload_n (pc := 14) C dX1_turnRound_14 rfl 0 rfl ?_
      refine ww_iload_n (pc := 15) C dX1_turnRound_15 rfl 1 rfl ?_
      refine ww_gets (pc := 16) (index := 130) (nm := "ROUND_I") (N := 6) (f := tRI) C (by simp [nbF]) C.2.2.2.2.2.2.2.1.2.2.1 dX1_turnRound_16 (fun tv1 hTv1 => ?_)
      refine ww_iload_n (pc := 19) C dX1_turnRound_19 rfl 3 rfl ?_
      obtain ⟨v2, h2, hf⟩ := bsome hf
      refine ww_tald (pc := 20) C hTv1 h2 dX1_turnRound_20 ?_
      refine ww_iadd (pc := 21) C dX1_turnRound_21  ?_
      refine ww_iload_n (pc := 22) C dX1_turnRound_22 rfl 2 rfl ?_
      refine ww_gets (pc := 23) (index := 133) (nm := "ROUND_J") (N := 6) (f := tRJ) C (by simp [nbF]) C.2.2.2.2.2.2.2.1.2.2.2.1 dX1_turnRound_23 (fun tv3 hTv3 => ?_)
      refine ww_iload_n (pc := 26) C dX1_turnRound_26 rfl 3 rfl ?_
      obtain ⟨v4, h4, hf⟩ := bsome hf
      refine ww_tald (pc := 27) C hTv3 h4 dX1_turnRound_27 ?_
      refine ww_iadd (pc := 28) C dX1_turnRound_28  ?_
      refine ww_gets (pc := 29) (index := 136) (nm := "ROUND_DOWN") (N := 6) (f := tRD) C (by simp [nbF]) C.2.2.2.2.2.2.2.1.2.2.2.2 dX1_turnRound_29 (fun tv5 hTv5 => ?_)
      refine ww_iload_n (pc := 32) C dX1_turnRound_32 rfl 3 rfl ?_
      obtain ⟨v6, h6, hf⟩ := bsome hf
      refine ww_tald (pc := 33) C hTv5 h6 dX1_turnRound_33 ?_
      obtain ⟨v7, h7, hf⟩ := bsome hf
      refine ww_callVi0 (pc := 34) (As := [.int (x1 + v2), .int (x2 + v4), .int v6]) (rest := []) C (tX1_turnAt l D k q_this q_marks c_size c_full c_turns c_firstFull c_lastFull c_marks (x1 + v2) (x2 + v4) v6 v7 h7) cv_X1_96 ⟨⟨by decide, by decide⟩, rfl, rfl⟩ 0 rfl rfl [0, 1] rfl rfl rfl rfl (Nat.le_of_ble_eq_true rfl) ⟨Nat.zero_le _, Nat.zero_le _⟩ dX1_turnRound_34 (fun hb7 => ?_)
      obtain e0 := ij1 hf
      exact hret _ _ 37 _ dX1_turnRound_37 rfl e0 rfl
    · have hf := ifF hc hf
      exact ww_lv [] rfl (hJ10  hf)
def fX1_fullRound_b29 (c_size : Int32) (c_marks : Nat → Int32) (rc5 : Int32 → Int32 → Int32 → Int32 → Option Int32) (n1 : Int32) (n2 : Int32) (n4 : Int32) (s0 : Int32) (s1 : Int32) : Option Int32 := (some (s0 + s1)).bind fun v1 => (some (n4 + (1 : Int32))).bind fun v2 => rc5 n1 n2 v1 v2
def fX1_fullRound_b5 (c_size : Int32) (c_marks : Nat → Int32) (rc5 : Int32 → Int32 → Int32 → Int32 → Option Int32) (n1 : Int32) (n2 : Int32) (n3 : Int32) (n4 : Int32) : Option Int32 := if (6 : Int32) ≤ n4 then some (n3) else (fX1_turnRound c_size c_marks n1 n2 n4).bind fun v1 => if v1 = 0 then fX1_fullRound_b29 c_size c_marks rc5 n1 n2 n4 n3 (0 : Int32) else fX1_fullRound_b29 c_size c_marks rc5 n1 n2 n4 n3 (1 : Int32)
def fX1_fullRound (c_size : Int32) (c_marks : Nat → Int32) (x1 : Int32) (x2 : Int32) : Option Int32 := lfix (fX1_fullRound_b5 c_size c_marks) (fun _ _ _ _ => none) FU x1 x2 (0 : Int32) (0 : Int32)
set_option maxHeartbeats 4000000 in
set_option maxRecDepth 100000 in
theorem tX1_fullRound (l : Launch) (D : va_G) (k : Nat → ClassId) (q_this q_marks : Nat) (c_size : Int32) (c_full : Int32) (c_turns : Int32) (c_firstFull : Int32) (c_lastFull : Int32) (c_marks : Nat → Int32) (x1 : Int32) (x2 : Int32) (r_ : Int32) (hf : fX1_fullRound c_size c_marks x1 x2 = some (r_)) : MI l yX1_fullRound cX1_fullRound 5 .int (RM 3 70) D k [.ref q_this, .int x1, .int x2] [oX1 q_this q_marks c_size c_full c_turns c_firstFull c_lastFull, aI k q_marks 153 c_marks] r_ [oX1 q_this q_marks c_size c_full c_turns c_firstFull c_lastFull, aI k q_marks 153 c_marks] := by
  refine mkMI' (own := "DoorWalk$Grid") (by decide) rfl (Nat.le_of_ble_eq_true rfl) ?_
  intro p e s m args below meth c Q A hret C
  refine ww_lv (lv' := [(0, .ref q_this), (1, .int x1), (2, .int x2)]) [0, 1, 2] rfl ?_
  have hL5 : ∀ (n : Nat) (n1 : Int32) (n2 : Int32) (n3 : Int32) (n4 : Int32), lfix (fX1_fullRound_b5 c_size c_marks) (fun _ _ _ _ => none) n n1 n2 n3 n4 = some (r_) → WW p l e (RM 3 70) s m args below meth c Q 5 D A 0 0 [oX1 q_this q_marks c_size c_full c_turns c_firstFull c_lastFull, aI k q_marks 153 c_marks] [(0, .ref q_this), (1, .int n1), (2, .int n2), (3, .int n3), (4, .int n4)] 5 [] := by
    intro n
    induction n with
    | zero => intro n1 n2 n3 n4 hf; cases hf
    | succ n ih5 =>
      obtain ⟨rc5, hrc5⟩ : ∃ f9, f9 = lfix (fX1_fullRound_b5 c_size c_marks) (fun _ _ _ _ => none) n := ⟨_, rfl⟩
      rw [← hrc5] at ih5
      have hJ29 : ∀ (n1 : Int32) (n2 : Int32) (n4 : Int32) (s0 : Int32) (s1 : Int32), fX1_fullRound_b29 c_size c_marks rc5 n1 n2 n4 s0 s1 = some (r_) → WW p l e (RM 3 70) s m args below meth c Q 5 D A 0 0 [oX1 q_this q_marks c_size c_full c_turns c_firstFull c_lastFull, aI k q_marks 153 c_marks] [(0, .ref q_this), (1, .int n1), (2, .int n2), (4, .int n4)] 29 [.int s1, .int s0] := by
        intro n1 n2 n4 s0 s1
        intro hf
        unfold fX1_fullRound_b29 at hf
        refine ww_iadd (pc := 29) C dX1_fullRound_29  ?_
        obtain ⟨v1, h1, hf⟩ := bsome hf
        refine ww_nmi h1 ?_
        refine ww_istore_n (pc := 30) (lv' := [(3, .int v1), (0, .ref q_this), (1, .int n1), (2, .int n2), (4, .int n4)]) C dX1_fullRound_30 rfl (by decide) rfl ?_
        obtain ⟨v2, h2, hf⟩ := bsome hf
        refine ww_iincN (pc := 31) (lv' := [(4, .int v2), (3, .int v1), (0, .ref q_this), (1, .int n1), (2, .int n2)]) (j := 4) C dX1_fullRound_31 kI_1 rfl h2 (by decide) rfl ?_
        refine ww_goto (pc := 34) (tgt := 5) C dX1_fullRound_34 (by decide) ?_
        exact ww_lv [2, 3, 4, 1, 0] rfl (ih5 n1 n2 v1 v2 hf)
      intro n1 n2 n3 n4 hf
      have hf : fX1_fullRound_b5 c_size c_marks rc5 n1 n2 n3 n4 = some (r_) := by rw [hrc5]; exact hf
      unfold fX1_fullRound_b5 at hf
      refine ww_iload (pc := 5) C dX1_fullRound_5 4 rfl ?_
      refine ww_bipush (pc := 7) C dX1_fullRound_7 kB_6 ?_
      refine ww_icmp_ge (pc := 9) (tgt := 37) C dX1_fullRound_9 (by decide) (fun hc => ?_) (fun hc => ?_)
      · have hf := ifT hc hf
        refine ww_iload_n (pc := 37) C dX1_fullRound_37 rfl 3 rfl ?_
        obtain e0 := ij1 hf
        exact hret _ _ 38 _ dX1_fullRound_38 rfl e0 rfl
      · have hf := ifF hc hf
        refine ww_iload_n (pc := 12) C dX1_fullRound_12 rfl 3 rfl ?_
        refine ww_aload_n (pc := 13) C dX1_fullRound_13 rfl 0 rfl ?_
        refine ww_iload_n (pc := 14) C dX1_fullRound_14 rfl 1 rfl ?_
        refine ww_iload_n (pc := 15) C dX1_fullRound_15 rfl 2 rfl ?_
        refine ww_iload (pc := 16) C dX1_fullRound_16 4 rfl ?_
        obtain ⟨v1, h1, hf⟩ := bsome hf
        refine ww_callVi0 (pc := 18) (As := [.int n1, .int n2, .int n4]) (rest := [.int n3]) C (tX1_turnRound l D k q_this q_marks c_size c_full c_turns c_firstFull c_lastFull c_marks n1 n2 n4 v1 h1) cv_X1_127 ⟨⟨by decide, by decide⟩, rfl, rfl⟩ 0 rfl rfl [0, 1] rfl rfl rfl rfl (Nat.le_of_ble_eq_true rfl) ⟨Nat.zero_le _, Nat.zero_le _⟩ dX1_fullRound_18 (fun hb1 => ?_)
        refine ww_if_ne (pc := 21) (tgt := 28) C dX1_fullRound_21 (by decide) (fun hc => ?_) (fun hc => ?_)
        · have hf := ifF hc hf
          refine ww_iconst (pc := 28) C dX1_fullRound_28 kI_1 ?_
          exact ww_lv [0, 1, 2, 4] rfl (hJ29 n1 n2 n4 n3 (1 : Int32) hf)
        · have hf := ifT hc hf
          refine ww_iconst (pc := 24) C dX1_fullRound_24 kI_0 ?_
          refine ww_goto (pc := 25) (tgt := 29) C dX1_fullRound_25 (by decide) ?_
          exact ww_lv [0, 1, 2, 4] rfl (hJ29 n1 n2 n4 n3 (0 : Int32) hf)
  unfold fX1_fullRound at hf
  refine ww_iconst (pc := 0) C dX1_fullRound_0 kI_0 ?_
  refine ww_istore_n (pc := 1) (lv' := [(3, .int (0 : Int32)), (0, .ref q_this), (1, .int x1), (2, .int x2)]) C dX1_fullRound_1 rfl (by decide) rfl ?_
  refine ww_iconst (pc := 2) C dX1_fullRound_2 kI_0 ?_
  refine ww_istore (pc := 3) (lv' := [(4, .int (0 : Int32)), (3, .int (0 : Int32)), (0, .ref q_this), (1, .int x1), (2, .int x2)]) C dX1_fullRound_3 (by decide) rfl ?_
  exact ww_lv [2, 3, 4, 1, 0] rfl (hL5 FU x1 x2 (0 : Int32) (0 : Int32) hf)
def fX1_gain (c_size : Int32) (c_marks : Nat → Int32) (x1 : Int32) (x2 : Int32) (x3 : Int32) : Option (Int32 × (Nat → Int32)) := (fX1_labelAt c_size c_marks x1 x2).bind fun v1 => (fX1_fullRound c_size c_marks x1 x2).bind fun v2 => (fX1_put c_size c_marks x1 x2 x3).bind fun v3 => (fX1_fullRound c_size v3 x1 x2).bind fun v4 => (fX1_put c_size v3 x1 x2 v1).bind fun v5 => some ((v4 - v2), v5)
set_option maxHeartbeats 4000000 in
set_option maxRecDepth 100000 in
theorem tX1_gain (l : Launch) (D : va_G) (k : Nat → ClassId) (q_this q_marks : Nat) (c_size : Int32) (c_full : Int32) (c_turns : Int32) (c_firstFull : Int32) (c_lastFull : Int32) (c_marks : Nat → Int32) (x1 : Int32) (x2 : Int32) (x3 : Int32) (r_ : Int32) (w_marks : Nat → Int32) (hf : fX1_gain c_size c_marks x1 x2 x3 = some (r_, w_marks)) : MI l yX1_gain cX1_gain 7 .int (RM 4 94) D k [.ref q_this, .int x1, .int x2, .int x3] [oX1 q_this q_marks c_size c_full c_turns c_firstFull c_lastFull, aI k q_marks 153 c_marks] r_ [oX1 q_this q_marks c_size c_full c_turns c_firstFull c_lastFull, aI k q_marks 153 w_marks] := by
  refine mkMI' (own := "DoorWalk$Grid") (by decide) rfl (Nat.le_of_ble_eq_true rfl) ?_
  intro p e s m args below meth c Q A hret C
  refine ww_lv (lv' := [(0, .ref q_this), (1, .int x1), (2, .int x2), (3, .int x3)]) [0, 1, 2, 3] rfl ?_
  unfold fX1_gain at hf
  refine ww_aload_n (pc := 0) C dX1_gain_0 rfl 0 rfl ?_
  refine ww_iload_n (pc := 1) C dX1_gain_1 rfl 1 rfl ?_
  refine ww_iload_n (pc := 2) C dX1_gain_2 rfl 2 rfl ?_
  obtain ⟨v1, h1, hf⟩ := bsome hf
  refine ww_callVi0 (pc := 3) (As := [.int x1, .int x2]) (rest := []) C (tX1_labelAt l D k q_this q_marks c_size c_full c_turns c_firstFull c_lastFull c_marks x1 x2 v1 h1) cv_X1_68 ⟨⟨by decide, by decide⟩, rfl, rfl⟩ 0 rfl rfl [0, 1] rfl rfl rfl rfl (Nat.le_of_ble_eq_true rfl) ⟨Nat.zero_le _, Nat.zero_le _⟩ dX1_gain_3 (fun hb1 => ?_)
  refine ww_istore (pc := 6) (lv' := [(4, .int v1), (0, .ref q_this), (1, .int x1), (2, .int x2), (3, .int x3)]) C dX1_gain_6 (by decide) rfl ?_
  refine ww_aload_n (pc := 8) C dX1_gain_8 rfl 1 rfl ?_
  refine ww_iload_n (pc := 9) C dX1_gain_9 rfl 2 rfl ?_
  refine ww_iload_n (pc := 10) C dX1_gain_10 rfl 3 rfl ?_
  obtain ⟨v2, h2, hf⟩ := bsome hf
  refine ww_callVi0 (pc := 11) (As := [.int x1, .int x2]) (rest := []) C (tX1_fullRound l D k q_this q_marks c_size c_full c_turns c_firstFull c_lastFull c_marks x1 x2 v2 h2) cv_X1_124 ⟨⟨by decide, by decide⟩, rfl, rfl⟩ 0 rfl rfl [0, 1] rfl rfl rfl rfl (Nat.le_of_ble_eq_true rfl) ⟨Nat.zero_le _, Nat.zero_le _⟩ dX1_gain_11 (fun hb2 => ?_)
  refine ww_istore (pc := 14) (lv' := [(5, .int v2), (4, .int v1), (0, .ref q_this), (1, .int x1), (2, .int x2), (3, .int x3)]) C dX1_gain_14 (by decide) rfl ?_
  refine ww_aload_n (pc := 16) C dX1_gain_16 rfl 2 rfl ?_
  refine ww_iload_n (pc := 17) C dX1_gain_17 rfl 3 rfl ?_
  refine ww_iload_n (pc := 18) C dX1_gain_18 rfl 4 rfl ?_
  refine ww_iload_n (pc := 19) C dX1_gain_19 rfl 5 rfl ?_
  obtain ⟨v3, h3, hf⟩ := bsome hf
  refine ww_callVv (pc := 20) (ws' := [oX1 q_this q_marks c_size c_full c_turns c_firstFull c_lastFull, aI k q_marks 153 v3]) (As := [.int x1, .int x2, .int x3]) (rest := []) C (tX1_put l D k q_this q_marks c_size c_full c_turns c_firstFull c_lastFull c_marks x1 x2 x3 v3 h3) cv_X1_31 ⟨⟨by decide, by decide⟩, rfl, rfl⟩ 0 rfl rfl [0, 1] rfl rfl rfl rfl rfl rfl (Nat.le_of_ble_eq_true rfl) ⟨Nat.zero_le _, Nat.zero_le _⟩ dX1_gain_20 ?_
  refine ww_aload_n (pc := 23) C dX1_gain_23 rfl 2 rfl ?_
  refine ww_iload_n (pc := 24) C dX1_gain_24 rfl 3 rfl ?_
  refine ww_iload_n (pc := 25) C dX1_gain_25 rfl 4 rfl ?_
  obtain ⟨v4, h4, hf⟩ := bsome hf
  refine ww_callVi0 (pc := 26) (As := [.int x1, .int x2]) (rest := []) C (tX1_fullRound l D k q_this q_marks c_size c_full c_turns c_firstFull c_lastFull v3 x1 x2 v4 h4) cv_X1_124 ⟨⟨by decide, by decide⟩, rfl, rfl⟩ 0 rfl rfl [0, 1] rfl rfl rfl rfl (Nat.le_of_ble_eq_true rfl) ⟨Nat.zero_le _, Nat.zero_le _⟩ dX1_gain_26 (fun hb4 => ?_)
  refine ww_istore (pc := 29) (lv' := [(6, .int v4), (5, .int v2), (4, .int v1), (0, .ref q_this), (1, .int x1), (2, .int x2), (3, .int x3)]) C dX1_gain_29 (by decide) rfl ?_
  refine ww_aload_n (pc := 31) C dX1_gain_31 rfl 3 rfl ?_
  refine ww_iload_n (pc := 32) C dX1_gain_32 rfl 4 rfl ?_
  refine ww_iload_n (pc := 33) C dX1_gain_33 rfl 5 rfl ?_
  refine ww_iload (pc := 34) C dX1_gain_34 2 rfl ?_
  obtain ⟨v5, h5, hf⟩ := bsome hf
  refine ww_callVv (pc := 36) (ws' := [oX1 q_this q_marks c_size c_full c_turns c_firstFull c_lastFull, aI k q_marks 153 v5]) (As := [.int x1, .int x2, .int v1]) (rest := []) C (tX1_put l D k q_this q_marks c_size c_full c_turns c_firstFull c_lastFull v3 x1 x2 v1 v5 h5) cv_X1_31 ⟨⟨by decide, by decide⟩, rfl, rfl⟩ 0 rfl rfl [0, 1] rfl rfl rfl rfl rfl rfl (Nat.le_of_ble_eq_true rfl) ⟨Nat.zero_le _, Nat.zero_le _⟩ dX1_gain_36 ?_
  refine ww_iload (pc := 39) C dX1_gain_39 0 rfl ?_
  refine ww_iload (pc := 41) C dX1_gain_41 1 rfl ?_
  refine ww_isub (pc := 43) C dX1_gain_43  ?_
  obtain ⟨e0, e1⟩ := ij2 hf
  exact hret _ _ 44 _ dX1_gain_44 rfl e0 (by rw [← e1])
