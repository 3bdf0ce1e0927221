def fX0_isDoor (c_p1_size : Int32) (c_p1_marks : Nat → Int32) (x2 : Int32) (x3 : Int32) (x4 : Int32) : Option Int32 := (fX1_cornerLabel c_p1_size c_p1_marks x2 ((x3 + (1 : Int32)) - (x3 + (1 : Int32)) / (3 : Int32) * (3 : Int32))).bind fun v1 => (fX1_cornerLabel c_p1_size c_p1_marks x2 ((x3 + (2 : Int32)) - (x3 + (2 : Int32)) / (3 : Int32) * (3 : Int32))).bind fun v2 => if v1 = v2 then some ((0 : Int32)) else if v1 = x4 then some ((0 : Int32)) else if v2 = x4 then some ((0 : Int32)) else some ((1 : Int32))
set_option maxHeartbeats 4000000 in
set_option maxRecDepth 100000 in
theorem tX0_isDoor (l : Launch) (D : va_G) (k : Nat → ClassId) (q_this q_way q_seen q_p1 q_p1_marks : Nat) (c_length : Int32) (c_cameOut : Int32) (c_longest : Int32) (c_p1_size : Int32) (c_p1_full : Int32) (c_p1_turns : Int32) (c_p1_firstFull : Int32) (c_p1_lastFull : Int32) (c_p1_marks : Nat → Int32) (x2 : Int32) (x3 : Int32) (x4 : Int32) (r_ : Int32) (hf : fX0_isDoor c_p1_size c_p1_marks x2 x3 x4 = some (r_)) : MI l yX0_isDoor cX0_isDoor 7 .boolean (RM 2 48) D k [.ref q_this, .ref q_p1, .int x2, .int x3, .int x4] [oX0 q_this q_way q_seen c_length c_cameOut c_longest, oX1 q_p1 q_p1_marks c_p1_size c_p1_full c_p1_turns c_p1_firstFull c_p1_lastFull, aI k q_p1_marks 153 c_p1_marks] r_ [oX0 q_this q_way q_seen c_length c_cameOut c_longest, oX1 q_p1 q_p1_marks c_p1_size c_p1_full c_p1_turns c_p1_firstFull c_p1_lastFull, aI k q_p1_marks 153 c_p1_marks] := by
  refine mkMI' (own := "DoorWalk$Doors") (by decide) rfl (Nat.le_of_ble_eq_true rfl) ?_
  intro p e s m args below meth c Q A hret C
  refine ww_lv (lv' := [(0, .ref q_this), (1, .ref q_p1), (2, .int x2), (3, .int x3), (4, .int x4)]) [0, 1, 2, 3, 4] rfl ?_
  unfold fX0_isDoor at hf
  refine ww_aload_n (pc := 0) C dX0_isDoor_0 rfl 1 rfl ?_
  refine ww_iload_n (pc := 1) C dX0_isDoor_1 rfl 2 rfl ?_
  refine ww_iload_n (pc := 2) C dX0_isDoor_2 rfl 3 rfl ?_
  refine ww_iconst (pc := 3) C dX0_isDoor_3 kI_1 ?_
  refine ww_iadd (pc := 4) C dX0_isDoor_4  ?_
  refine ww_iconst (pc := 5) C dX0_isDoor_5 kI_3 ?_
  refine ww_iremC (pc := 6) C dX0_isDoor_6 (by decide) ?_
  obtain ⟨v1, h1, hf⟩ := bsome hf
  refine ww_callVi0 (pc := 7) (As := [.int x2, .int ((x3 + (1 : Int32)) - (x3 + (1 : Int32)) / (3 : Int32) * (3 : Int32))]) (rest := []) C (tX1_cornerLabel l D k q_p1 q_p1_marks c_p1_size c_p1_full c_p1_turns c_p1_firstFull c_p1_lastFull c_p1_marks x2 ((x3 + (1 : Int32)) - (x3 + (1 : Int32)) / (3 : Int32) * (3 : Int32)) v1 h1) cv_X0_29 ⟨⟨by decide, by decide⟩, rfl, rfl⟩ 1 rfl rfl [1, 2] rfl rfl rfl rfl (Nat.le_of_ble_eq_true rfl) ⟨Nat.zero_le _, Nat.zero_le _⟩ dX0_isDoor_7 (fun hb1 => ?_)
  refine ww_istore (pc := 10) (lv' := [(5, .int v1), (0, .ref q_this), (1, .ref q_p1), (2, .int x2), (3, .int x3), (4, .int x4)]) C dX0_isDoor_10 (by decide) rfl ?_
  refine ww_aload_n (pc := 12) C dX0_isDoor_12 rfl 2 rfl ?_
  refine ww_iload_n (pc := 13) C dX0_isDoor_13 rfl 3 rfl ?_
  refine ww_iload_n (pc := 14) C dX0_isDoor_14 rfl 4 rfl ?_
  refine ww_iconst (pc := 15) C dX0_isDoor_15 kI_2 ?_
  refine ww_iadd (pc := 16) C dX0_isDoor_16  ?_
  refine ww_iconst (pc := 17) C dX0_isDoor_17 kI_3 ?_
  refine ww_iremC (pc := 18) C dX0_isDoor_18 (by decide) ?_
  obtain ⟨v2, h2, hf⟩ := bsome hf
  refine ww_callVi0 (pc := 19) (As := [.int x2, .int ((x3 + (2 : Int32)) - (x3 + (2 : Int32)) / (3 : Int32) * (3 : Int32))]) (rest := []) C (tX1_cornerLabel l D k q_p1 q_p1_marks c_p1_size c_p1_full c_p1_turns c_p1_firstFull c_p1_lastFull c_p1_marks x2 ((x3 + (2 : Int32)) - (x3 + (2 : Int32)) / (3 : Int32) * (3 : Int32)) v2 h2) cv_X0_29 ⟨⟨by decide, by decide⟩, rfl, rfl⟩ 1 rfl rfl [1, 2] rfl rfl rfl rfl (Nat.le_of_ble_eq_true rfl) ⟨Nat.zero_le _, Nat.zero_le _⟩ dX0_isDoor_19 (fun hb2 => ?_)
  refine ww_istore (pc := 22) (lv' := [(6, .int v2), (5, .int v1), (0, .ref q_this), (1, .ref q_p1), (2, .int x2), (3, .int x3), (4, .int x4)]) C dX0_isDoor_22 (by decide) rfl ?_
  refine ww_iload (pc := 24) C dX0_isDoor_24 1 rfl ?_
  refine ww_iload (pc := 26) C dX0_isDoor_26 0 rfl ?_
  refine ww_icmp_eq (pc := 28) (tgt := 49) C dX0_isDoor_28 (by decide) (fun hc => ?_) (fun hc => ?_)
  · have hf := ifT hc hf
    refine ww_iconst (pc := 49) C dX0_isDoor_49 kI_0 ?_
    obtain e0 := ij1 hf
    exact hret _ _ 50 _ dX0_isDoor_50 (by decide) e0 rfl
  · have hf := ifF hc hf
    refine ww_iload (pc := 31) C dX0_isDoor_31 1 rfl ?_
    refine ww_iload (pc := 33) C dX0_isDoor_33 6 rfl ?_
    refine ww_icmp_eq (pc := 35) (tgt := 49) C dX0_isDoor_35 (by decide) (fun hc => ?_) (fun hc => ?_)
    · have hf := ifT hc hf
      refine ww_iconst (pc := 49) C dX0_isDoor_49 kI_0 ?_
      obtain e0 := ij1 hf
      exact hret _ _ 50 _ dX0_isDoor_50 (by decide) e0 rfl
    · have hf := ifF hc hf
      refine ww_iload (pc := 38) C dX0_isDoor_38 0 rfl ?_
      refine ww_iload (pc := 40) C dX0_isDoor_40 6 rfl ?_
      refine ww_icmp_eq (pc := 42) (tgt := 49) C dX0_isDoor_42 (by decide) (fun hc => ?_) (fun hc => ?_)
      · have hf := ifT hc hf
        refine ww_iconst (pc := 49) C dX0_isDoor_49 kI_0 ?_
        obtain e0 := ij1 hf
        exact hret _ _ 50 _ dX0_isDoor_50 (by decide) e0 rfl
      · have hf := ifF hc hf
        refine ww_iconst (pc := 45) C dX0_isDoor_45 kI_1 ?_
        refine ww_goto (pc := 46) (tgt := 50) C dX0_isDoor_46 (by decide) ?_
        obtain e0 := ij1 hf
        exact hret _ _ 50 _ dX0_isDoor_50 (by decide) e0 rfl
def fX0_nextDoor_b3 (c_p1_size : Int32) (c_p1_marks : Nat → Int32) (rc3 : Int32 → Int32 → Int32 → Int32 → Option Int32) (n2 : Int32) (n3 : Int32) (n4 : Int32) (n5 : Int32) : Option Int32 := if (3 : Int32) ≤ n5 then some ((-1 : Int32)) else if n5 = n4 then (some (n5 + (1 : Int32))).bind fun v1 => rc3 n2 n3 n4 v1 else (fX0_isDoor c_p1_size c_p1_marks n2 n5 n3).bind fun v2 => if v2 = 0 then (some (n5 + (1 : Int32))).bind fun v3 => rc3 n2 n3 n4 v3 else some (n5)
def fX0_nextDoor (c_p1_size : Int32) (c_p1_marks : Nat → Int32) (x2 : Int32) (x3 : Int32) (x4 : Int32) : Option Int32 := lfix (fX0_nextDoor_b3 c_p1_size c_p1_marks) (fun _ _ _ _ => none) FU x2 x3 x4 (0 : Int32)
set_option maxHeartbeats 4000000 in
set_option maxRecDepth 100000 in
theorem tX0_nextDoor (l : Launch) (D : va_G) (k : Nat → ClassId) (q_this q_way q_seen q_p1 q_p1_marks : Nat) (c_length : Int32) (c_cameOut : Int32) (c_longest : Int32) (c_p1_size : Int32) (c_p1_full : Int32) (c_p1_turns : Int32) (c_p1_firstFull : Int32) (c_p1_lastFull : Int32) (c_p1_marks : Nat → Int32) (x2 : Int32) (x3 : Int32) (x4 : Int32) (r_ : Int32) (hf : fX0_nextDoor c_p1_size c_p1_marks x2 x3 x4 = some (r_)) : MI l yX0_nextDoor cX0_nextDoor 6 .int (RM 3 74) D k [.ref q_this, .ref q_p1, .int x2, .int x3, .int x4] [oX0 q_this q_way q_seen c_length c_cameOut c_longest, oX1 q_p1 q_p1_marks c_p1_size c_p1_full c_p1_turns c_p1_firstFull c_p1_lastFull, aI k q_p1_marks 153 c_p1_marks] r_ [oX0 q_this q_way q_seen c_length c_cameOut c_longest, oX1 q_p1 q_p1_marks c_p1_size c_p1_full c_p1_turns c_p1_firstFull c_p1_lastFull, aI k q_p1_marks 153 c_p1_marks] := by
  refine mkMI' (own := "DoorWalk$Doors") (by decide) rfl (Nat.le_of_ble_eq_true rfl) ?_
  intro p e s m args below meth c Q A hret C
  refine ww_lv (lv' := [(0, .ref q_this), (1, .ref q_p1), (2, .int x2), (3, .int x3), (4, .int x4)]) [0, 1, 2, 3, 4] rfl ?_
  have hL3 : ∀ (n : Nat) (n2 : Int32) (n3 : Int32) (n4 : Int32) (n5 : Int32), lfix (fX0_nextDoor_b3 c_p1_size c_p1_marks) (fun _ _ _ _ => none) n n2 n3 n4 n5 = some (r_) → WW p l e (RM 3 74) s m args below meth c Q 6 D A 0 0 [oX0 q_this q_way q_seen c_length c_cameOut c_longest, oX1 q_p1 q_p1_marks c_p1_size c_p1_full c_p1_turns c_p1_firstFull c_p1_lastFull, aI k q_p1_marks 153 c_p1_marks] [(0, .ref q_this), (1, .ref q_p1), (2, .int n2), (3, .int n3), (4, .int n4), (5, .int n5)] 3 [] := by
    intro n
    induction n with
    | zero => intro n2 n3 n4 n5 hf; cases hf
    | succ n ih3 =>
      obtain ⟨rc3, hrc3⟩ : ∃ f9, f9 = lfix (fX0_nextDoor_b3 c_p1_size c_p1_marks) (fun _ _ _ _ => none) n := ⟨_, rfl⟩
      rw [← hrc3] at ih3
      intro n2 n3 n4 n5 hf
      have hf : fX0_nextDoor_b3 c_p1_size c_p1_marks rc3 n2 n3 n4 n5 = some (r_) := by rw [hrc3]; exact hf
      unfold fX0_nextDoor_b3 at hf
      refine ww_iload (pc := 3) C dX0_nextDoor_3 5 rfl ?_
      refine ww_iconst (pc := 5) C dX0_nextDoor_5 kI_3 ?_
      refine ww_icmp_ge (pc := 6) (tgt := 37) C dX0_nextDoor_6 (by decide) (fun hc => ?_) (fun hc => ?_)
      · have hf := ifT hc hf
        refine ww_iconst (pc := 37) C dX0_nextDoor_37 kI_m1 ?_
        obtain e0 := ij1 hf
        exact hret _ _ 38 _ dX0_nextDoor_38 rfl e0 rfl
      · have hf := ifF hc hf
        refine ww_iload (pc := 9) C dX0_nextDoor_9 5 rfl ?_
        refine ww_iload (pc := 11) C dX0_nextDoor_11 4 rfl ?_
        refine ww_icmp_eq (pc := 13) (tgt := 31) C dX0_nextDoor_13 (by decide) (fun hc => ?_) (fun hc => ?_)
        · have hf := ifT hc hf
          obtain ⟨v1, h1, hf⟩ := bsome hf
          refine ww_iincN (pc := 31) (lv' := [(5, .int v1), (0, .ref q_this), (1, .ref q_p1), (2, .int n2), (3, .int n3), (4, .int n4)]) (j := 5) C dX0_nextDoor_31 kI_1 rfl h1 (by decide) rfl ?_
          refine ww_goto (pc := 34) (tgt := 3) C dX0_nextDoor_34 (by decide) ?_
          exact ww_lv [1, 2, 3, 4, 5, 0] rfl (ih3 n2 n3 n4 v1 hf)
        · have hf := ifF hc hf
          refine ww_aload_n (pc := 16) C dX0_nextDoor_16 rfl 0 rfl ?_
          refine ww_aload_n (pc := 17) C dX0_nextDoor_17 rfl 1 rfl ?_
          refine ww_iload_n (pc := 18) C dX0_nextDoor_18 rfl 2 rfl ?_
          refine ww_iload (pc := 19) C dX0_nextDoor_19 5 rfl ?_
          refine ww_iload_n (pc := 21) C dX0_nextDoor_21 rfl 3 rfl ?_
          obtain ⟨v2, h2, hf⟩ := bsome hf
          refine ww_callVi0 (pc := 22) (As := [.ref q_p1, .int n2, .int n5, .int n3]) (rest := []) C (tX0_isDoor l D k q_this q_way q_seen q_p1 q_p1_marks c_length c_cameOut c_longest c_p1_size c_p1_full c_p1_turns c_p1_firstFull c_p1_lastFull c_p1_marks n2 n5 n3 v2 h2) cv_X0_35 ⟨⟨by decide, by decide⟩, rfl, rfl⟩ 0 rfl rfl [0, 1, 2] rfl rfl rfl rfl (Nat.le_of_ble_eq_true rfl) ⟨Nat.zero_le _, Nat.zero_le _⟩ dX0_nextDoor_22 (fun hb2 => ?_)
          refine ww_if_eq (pc := 25) (tgt := 31) C dX0_nextDoor_25 (by decide) (fun hc => ?_) (fun hc => ?_)
          · have hf := ifT hc hf
            obtain ⟨v3, h3, hf⟩ := bsome hf
            refine ww_iincN (pc := 31) (lv' := [(5, .int v3), (0, .ref q_this), (1, .ref q_p1), (2, .int n2), (3, .int n3), (4, .int n4)]) (j := 5) C dX0_nextDoor_31 kI_1 rfl h3 (by decide) rfl ?_
            refine ww_goto (pc := 34) (tgt := 3) C dX0_nextDoor_34 (by decide) ?_
            exact ww_lv [1, 2, 3, 4, 5, 0] rfl (ih3 n2 n3 n4 v3 hf)
          · have hf := ifF hc hf
            refine ww_iload (pc := 28) C dX0_nextDoor_28 5 rfl ?_
            obtain e0 := ij1 hf
            exact hret _ _ 30 _ dX0_nextDoor_30 rfl e0 rfl
  unfold fX0_nextDoor at hf
  refine ww_iconst (pc := 0) C dX0_nextDoor_0 kI_0 ?_
  refine ww_istore (pc := 1) (lv' := [(5, .int (0 : Int32)), (0, .ref q_this), (1, .ref q_p1), (2, .int x2), (3, .int x3), (4, .int x4)]) C dX0_nextDoor_1 (by decide) rfl ?_
  exact ww_lv [1, 2, 3, 4, 5, 0] rfl (hL3 FU x2 x3 x4 (0 : Int32) hf)
def fX0_sideEdge (x1 : Int32) : Option Int32 := some (((x1 + (1 : Int32)) - (x1 + (1 : Int32)) / (3 : Int32) * (3 : Int32)))
set_option maxHeartbeats 4000000 in
set_option maxRecDepth 100000 in
theorem tX0_sideEdge (l : Launch) (D : va_G) (k : Nat → ClassId) (q_this q_way q_seen : Nat) (c_length : Int32) (c_cameOut : Int32) (c_longest : Int32) (x1 : Int32) (r_ : Int32) (hf : fX0_sideEdge x1 = some (r_)) : MI l yX0_sideEdge cX0_sideEdge 2 .int (RM 0 0) D k [.ref q_this, .int x1] [oX0 q_this q_way q_seen c_length c_cameOut c_longest] r_ [oX0 q_this q_way q_seen c_length c_cameOut c_longest] := by
  refine mkMI' (own := "DoorWalk$Doors") (by decide) rfl (Nat.le_of_ble_eq_true rfl) ?_
  intro p e s m args below meth c Q A hret C
  refine ww_lv (lv' := [(0, .ref q_this), (1, .int x1)]) [0, 1] rfl ?_
  unfold fX0_sideEdge at hf
  refine ww_iload_n (pc := 0) C dX0_sideEdge_0 rfl 1 rfl ?_
  refine ww_iconst (pc := 1) C dX0_sideEdge_1 kI_1 ?_
  refine ww_iadd (pc := 2) C dX0_sideEdge_2  ?_
  refine ww_iconst (pc := 3) C dX0_sideEdge_3 kI_3 ?_
  refine ww_iremC (pc := 4) C dX0_sideEdge_4 (by decide) ?_
  obtain e0 := ij1 hf
  exact hret _ _ 5 _ dX0_sideEdge_5 rfl e0 rfl
def fX0_isOuter (c_p1_size : Int32) (c_p1_marks : Nat → Int32) (x2 : Int32) (x3 : Int32) : Option Int32 := (fX1_sideCell c_p1_size x2 x3).bind fun v1 => (fX0_sideEdge x2).bind fun v2 => (fX0_isDoor c_p1_size c_p1_marks v1 v2 x2).bind fun v3 => some (v3)
set_option maxHeartbeats 4000000 in
set_option maxRecDepth 100000 in
theorem tX0_isOuter (l : Launch) (D : va_G) (k : Nat → ClassId) (q_this q_way q_seen q_p1 q_p1_marks : Nat) (c_length : Int32) (c_cameOut : Int32) (c_longest : Int32) (c_p1_size : Int32) (c_p1_full : Int32) (c_p1_turns : Int32) (c_p1_firstFull : Int32) (c_p1_lastFull : Int32) (c_p1_marks : Nat → Int32) (x2 : Int32) (x3 : Int32) (r_ : Int32) (hf : fX0_isOuter c_p1_size c_p1_marks x2 x3 = some (r_)) : MI l yX0_isOuter cX0_isOuter 4 .boolean (RM 3 74) D k [.ref q_this, .ref q_p1, .int x2, .int x3] [oX0 q_this q_way q_seen c_length c_cameOut c_longest, oX1 q_p1 q_p1_marks c_p1_size c_p1_full c_p1_turns c_p1_firstFull c_p1_lastFull, aI k q_p1_marks 153 c_p1_marks] r_ [oX0 q_this q_way q_seen c_length c_cameOut c_longest, oX1 q_p1 q_p1_marks c_p1_size c_p1_full c_p1_turns c_p1_firstFull c_p1_lastFull, aI k q_p1_marks 153 c_p1_marks] := by
  refine mkMI' (own := "DoorWalk$Doors") (by decide) rfl (Nat.le_of_ble_eq_true rfl) ?_
  intro p e s m args below meth c Q A hret C
  refine ww_lv (lv' := [(0, .ref q_this), (1, .ref q_p1), (2, .int x2), (3, .int x3)]) [0, 1, 2, 3] rfl ?_
  unfold fX0_isOuter at hf
  refine ww_aload_n (pc := 0) C dX0_isOuter_0 rfl 0 rfl ?_
  refine ww_aload_n (pc := 1) C dX0_isOuter_1 rfl 1 rfl ?_
  refine ww_aload_n (pc := 2) C dX0_isOuter_2 rfl 1 rfl ?_
  refine ww_iload_n (pc := 3) C dX0_isOuter_3 rfl 2 rfl ?_
  refine ww_iload_n (pc := 4) C dX0_isOuter_4 rfl 3 rfl ?_
  obtain ⟨v1, h1, hf⟩ := bsome hf
  refine ww_callVi0 (pc := 5) (As := [.int x2, .int x3]) (rest := [.ref q_p1, .ref q_this]) C (tX1_sideCell l D k q_p1 q_p1_marks c_p1_size c_p1_full c_p1_turns c_p1_firstFull c_p1_lastFull x2 x3 v1 h1) cv_X0_39 ⟨⟨by decide, by decide⟩, rfl, rfl⟩ 1 rfl rfl [1] rfl rfl rfl rfl (Nat.le_of_ble_eq_true rfl) ⟨Nat.zero_le _, Nat.zero_le _⟩ dX0_isOuter_5 (fun hb1 => ?_)
  refine ww_aload_n (pc := 8) C dX0_isOuter_8 rfl 0 rfl ?_
  refine ww_iload_n (pc := 9) C dX0_isOuter_9 rfl 2 rfl ?_
  obtain ⟨v2, h2, hf⟩ := bsome hf
  refine ww_callVi0 (pc := 10) (As := [.int x2]) (rest := [.int v1, .ref q_p1, .ref q_this]) C (tX0_sideEdge l D k q_this q_way q_seen c_length c_cameOut c_longest x2 v2 h2) cv_X0_42 ⟨⟨by decide, by decide⟩, rfl, rfl⟩ 0 rfl rfl [0] rfl rfl rfl rfl (Nat.le_of_ble_eq_true rfl) ⟨Nat.zero_le _, Nat.zero_le _⟩ dX0_isOuter_10 (fun hb2 => ?_)
  refine ww_iload_n (pc := 13) C dX0_isOuter_13 rfl 2 rfl ?_
  obtain ⟨v3, h3, hf⟩ := bsome hf
  refine ww_callVi0 (pc := 14) (As := [.ref q_p1, .int v1, .int v2, .int x2]) (rest := []) C (tX0_isDoor l D k q_this q_way q_seen q_p1 q_p1_marks c_length c_cameOut c_longest c_p1_size c_p1_full c_p1_turns c_p1_firstFull c_p1_lastFull c_p1_marks v1 v2 x2 v3 h3) cv_X0_35 ⟨⟨by decide, by decide⟩, rfl, rfl⟩ 0 rfl rfl [0, 1, 2] rfl rfl rfl rfl (Nat.le_of_ble_eq_true rfl) ⟨Nat.zero_le _, Nat.zero_le _⟩ dX0_isOuter_14 (fun hb3 => ?_)
  obtain e0 := ij1 hf
  exact hret _ _ 17 _ dX0_isOuter_17 hb3 e0 rfl
def fX0_outersBefore_b30 (c_p1_size : Int32) (c_p1_marks : Nat → Int32) (rc6 : Int32 → Int32 → Int32 → Int32 → Option Int32) (n2 : Int32) (n3 : Int32) (n5 : Int32) (s0 : Int32) (s1 : Int32) : Option Int32 := (some (s0 + s1)).bind fun v1 => (some (n5 + (1 : Int32))).bind fun v2 => rc6 n2 n3 v1 v2
def fX0_outersBefore_b6 (c_p1_size : Int32) (c_p1_marks : Nat → Int32) (rc6 : Int32 → Int32 → Int32 → Int32 → Option Int32) (n2 : Int32) (n3 : Int32) (n4 : Int32) (n5 : Int32) : Option Int32 := if n3 ≤ n5 then some (n4) else (fX0_isOuter c_p1_size c_p1_marks n2 n5).bind fun v1 => if v1 = 0 then fX0_outersBefore_b30 c_p1_size c_p1_marks rc6 n2 n3 n5 n4 (0 : Int32) else fX0_outersBefore_b30 c_p1_size c_p1_marks rc6 n2 n3 n5 n4 (1 : Int32)
def fX0_outersBefore (c_p1_size : Int32) (c_p1_marks : Nat → Int32) (x2 : Int32) (x3 : Int32) : Option Int32 := lfix (fX0_outersBefore_b6 c_p1_size c_p1_marks) (fun _ _ _ _ => none) FU x2 x3 (0 : Int32) (0 : Int32)
set_option maxHeartbeats 4000000 in
set_option maxRecDepth 100000 in
theorem tX0_outersBefore (l : Launch) (D : va_G) (k : Nat → ClassId) (q_this q_way q_seen q_p1 q_p1_marks : Nat) (c_length : Int32) (c_cameOut : Int32) (c_longest : Int32) (c_p1_size : Int32) (c_p1_full : Int32) (c_p1_turns : Int32) (c_p1_firstFull : Int32) (c_p1_lastFull : Int32) (c_p1_marks : Nat → Int32) (x2 : Int32) (x3 : Int32) (r_ : Int32) (hf : fX0_outersBefore c_p1_size c_p1_marks x2 x3 = some (r_)) : MI l yX0_outersBefore cX0_outersBefore 6 .int (RM 4 97) D k [.ref q_this, .ref q_p1, .int x2, .int x3] [oX0 q_this q_way q_seen c_length c_cameOut c_longest, oX1 q_p1 q_p1_marks c_p1_size c_p1_full c_p1_turns c_p1_firstFull c_p1_lastFull, aI k q_p1_marks 153 c_p1_marks] r_ [oX0 q_this q_way q_seen c_length c_cameOut c_longest, oX1 q_p1 q_p1_marks c_p1_size c_p1_full c_p1_turns c_p1_firstFull c_p1_lastFull, aI k q_p1_marks 153 c_p1_marks] := by
  refine mkMI' (own := "DoorWalk$Doors") (by decide) rfl (Nat.le_of_ble_eq_true rfl) ?_
  intro p e s m args below meth c Q A hret C
  refine ww_lv (lv' := [(0, .ref q_this), (1, .ref q_p1), (2, .int x2), (3, .int x3)]) [0, 1, 2, 3] rfl ?_
  have hL6 : ∀ (n : Nat) (n2 : Int32) (n3 : Int32) (n4 : Int32) (n5 : Int32), lfix (fX0_outersBefore_b6 c_p1_size c_p1_marks) (fun _ _ _ _ => none) n n2 n3 n4 n5 = some (r_) → WW p l e (RM 4 97) s m args below meth c Q 6 D A 0 0 [oX0 q_this q_way q_seen c_length c_cameOut c_longest, oX1 q_p1 q_p1_marks c_p1_size c_p1_full c_p1_turns c_p1_firstFull c_p1_lastFull, aI k q_p1_marks 153 c_p1_marks] [(0, .ref q_this), (1, .ref q_p1), (2, .int n2), (3, .int n3), (4, .int n4), (5, .int n5)] 6 [] := by
    intro n
    induction n with
    | zero => intro n2 n3 n4 n5 hf; cases hf
    | succ n ih6 =>
      obtain ⟨rc6, hrc6⟩ : ∃ f9, f9 = lfix (fX0_outersBefore_b6 c_p1_size c_p1_marks) (fun _ _ _ _ => none) n := ⟨_, rfl⟩
      rw [← hrc6] at ih6
      have hJ30 : ∀ (n2 : Int32) (n3 : Int32) (n5 : Int32) (s0 : Int32) (s1 : Int32), fX0_outersBefore_b30 c_p1_size c_p1_marks rc6 n2 n3 n5 s0 s1 = some (r_) → WW p l e (RM 4 97) s m args below meth c Q 6 D A 0 0 [oX0 q_this q_way q_seen c_length c_cameOut c_longest, oX1 q_p1 q_p1_marks c_p1_size c_p1_full c_p1_turns c_p1_firstFull c_p1_lastFull, aI k q_p1_marks 153 c_p1_marks] [(0, .ref q_this), (1, .ref q_p1), (2, .int n2), (3, .int n3), (5, .int n5)] 30 [.int s1, .int s0] := by
        intro n2 n3 n5 s0 s1
        intro hf
        unfold fX0_outersBefore_b30 at hf
        refine ww_iadd (pc := 30) C dX0_outersBefore_30  ?_
        obtain ⟨v1, h1, hf⟩ := bsome hf
        refine ww_nmi h1 ?_
        refine ww_istore (pc := 31) (lv' := [(4, .int v1), (0, .ref q_this), (1, .ref q_p1), (2, .int n2), (3, .int n3), (5, .int n5)]) C dX0_outersBefore_31 (by decide) rfl ?_
        obtain ⟨v2, h2, hf⟩ := bsome hf
        refine ww_iincN (pc := 33) (lv' := [(5, .int v2), (4, .int v1), (0, .ref q_this), (1, .ref q_p1), (2, .int n2), (3, .int n3)]) (j := 5) C dX0_outersBefore_33 kI_1 rfl h2 (by decide) rfl ?_
        refine ww_goto (pc := 36) (tgt := 6) C dX0_outersBefore_36 (by decide) ?_
        exact ww_lv [2, 3, 4, 5, 1, 0] rfl (ih6 n2 n3 v1 v2 hf)
      intro n2 n3 n4 n5 hf
      have hf : fX0_outersBefore_b6 c_p1_size c_p1_marks rc6 n2 n3 n4 n5 = some (r_) := by rw [hrc6]; exact hf
      unfold fX0_outersBefore_b6 at hf
      refine ww_iload (pc := 6) C dX0_outersBefore_6 5 rfl ?_
      refine ww_iload_n (pc := 8) C dX0_outersBefore_8 rfl 3 rfl ?_
      refine ww_icmp_ge (pc := 9) (tgt := 39) C dX0_outersBefore_9 (by decide) (fun hc => ?_) (fun hc => ?_)
      · have hf := ifT hc hf
        refine ww_iload (pc := 39) C dX0_outersBefore_39 4 rfl ?_
        obtain e0 := ij1 hf
        exact hret _ _ 41 _ dX0_outersBefore_41 rfl e0 rfl
      · have hf := ifF hc hf
        refine ww_iload (pc := 12) C dX0_outersBefore_12 4 rfl ?_
        refine ww_aload_n (pc := 14) C dX0_outersBefore_14 rfl 0 rfl ?_
        refine ww_aload_n (pc := 15) C dX0_outersBefore_15 rfl 1 rfl ?_
        refine ww_iload_n (pc := 16) C dX0_outersBefore_16 rfl 2 rfl ?_
        refine ww_iload (pc := 17) C dX0_outersBefore_17 5 rfl ?_
        obtain ⟨v1, h1, hf⟩ := bsome hf
        refine ww_callVi0 (pc := 19) (As := [.ref q_p1, .int n2, .int n5]) (rest := [.int n4]) C (tX0_isOuter l D k q_this q_way q_seen q_p1 q_p1_marks c_length c_cameOut c_longest c_p1_size c_p1_full c_p1_turns c_p1_firstFull c_p1_lastFull c_p1_marks n2 n5 v1 h1) cv_X0_46 ⟨⟨by decide, by decide⟩, rfl, rfl⟩ 0 rfl rfl [0, 1, 2] rfl rfl rfl rfl (Nat.le_of_ble_eq_true rfl) ⟨Nat.zero_le _, Nat.zero_le _⟩ dX0_outersBefore_19 (fun hb1 => ?_)
        refine ww_if_eq (pc := 22) (tgt := 29) C dX0_outersBefore_22 (by decide) (fun hc => ?_) (fun hc => ?_)
        · have hf := ifT hc hf
          refine ww_iconst (pc := 29) C dX0_outersBefore_29 kI_0 ?_
          exact ww_lv [0, 1, 2, 3, 5] rfl (hJ30 n2 n3 n5 n4 (0 : Int32) hf)
        · have hf := ifF hc hf
          refine ww_iconst (pc := 25) C dX0_outersBefore_25 kI_1 ?_
          refine ww_goto (pc := 26) (tgt := 30) C dX0_outersBefore_26 (by decide) ?_
          exact ww_lv [0, 1, 2, 3, 5] rfl (hJ30 n2 n3 n5 n4 (1 : Int32) hf)
  unfold fX0_outersBefore at hf
  refine ww_iconst (pc := 0) C dX0_outersBefore_0 kI_0 ?_
  refine ww_istore (pc := 1) (lv' := [(4, .int (0 : Int32)), (0, .ref q_this), (1, .ref q_p1), (2, .int x2), (3, .int x3)]) C dX0_outersBefore_1 (by decide) rfl ?_
  refine ww_iconst (pc := 3) C dX0_outersBefore_3 kI_0 ?_
  refine ww_istore (pc := 4) (lv' := [(5, .int (0 : Int32)), (4, .int (0 : Int32)), (0, .ref q_this), (1, .ref q_p1), (2, .int x2), (3, .int x3)]) C dX0_outersBefore_4 (by decide) rfl ?_
  exact ww_lv [2, 3, 4, 5, 1, 0] rfl (hL6 FU x2 x3 (0 : Int32) (0 : Int32) hf)
def fX0_outers (c_p1_size : Int32) (c_p1_marks : Nat → Int32) (x2 : Int32) : Option Int32 := (fX0_outersBefore c_p1_size c_p1_marks x2 c_p1_size).bind fun v1 => some (v1)
set_option maxHeartbeats 4000000 in
set_option maxRecDepth 100000 in
theorem tX0_outers (l : Launch) (D : va_G) (k : Nat → ClassId) (q_this q_way q_seen q_p1 q_p1_marks : Nat) (c_length : Int32) (c_cameOut : Int32) (c_longest : Int32) (c_p1_size : Int32) (c_p1_full : Int32) (c_p1_turns : Int32) (c_p1_firstFull : Int32) (c_p1_lastFull : Int32) (c_p1_marks : Nat → Int32) (x2 : Int32) (r_ : Int32) (hf : fX0_outers c_p1_size c_p1_marks x2 = some (r_)) : MI l yX0_outers cX0_outers 3 .int (RM 5 122) D k [.ref q_this, .ref q_p1, .int x2] [oX0 q_this q_way q_seen c_length c_cameOut c_longest, oX1 q_p1 q_p1_marks c_p1_size c_p1_full c_p1_turns c_p1_firstFull c_p1_lastFull, aI k q_p1_marks 153 c_p1_marks] r_ [oX0 q_this q_way q_seen c_length c_cameOut c_longest, oX1 q_p1 q_p1_marks c_p1_size c_p1_full c_p1_turns c_p1_firstFull c_p1_lastFull, aI k q_p1_marks 153 c_p1_marks] := by
  refine mkMI' (own := "DoorWalk$Doors") (by decide) rfl (Nat.le_of_ble_eq_true rfl) ?_
  intro p e s m args below meth c Q A hret C
  refine ww_lv (lv' := [(0, .ref q_this), (1, .ref q_p1), (2, .int x2)]) [0, 1, 2] rfl ?_
  unfold fX0_outers at hf
  refine ww_aload_n (pc := 0) C dX0_outers_0 rfl 0 rfl ?_
  refine ww_aload_n (pc := 1) C dX0_outers_1 rfl 1 rfl ?_
  refine ww_iload_n (pc := 2) C dX0_outers_2 rfl 2 rfl ?_
  refine ww_aload_n (pc := 3) C dX0_outers_3 rfl 1 rfl ?_
  refine gf1_1 (pc := 4) C kf_X0_50 1 rfl rfl dX0_outers_4 ?_
  obtain ⟨v1, h1, hf⟩ := bsome hf
  refine ww_callVi0 (pc := 7) (As := [.ref q_p1, .int x2, .int c_p1_size]) (rest := []) C (tX0_outersBefore l D k q_this q_way q_seen q_p1 q_p1_marks c_length c_cameOut c_longest c_p1_size c_p1_full c_p1_turns c_p1_firstFull c_p1_lastFull c_p1_marks x2 c_p1_size v1 h1) cv_X0_53 ⟨⟨by decide, by decide⟩, rfl, rfl⟩ 0 rfl rfl [0, 1, 2] rfl rfl rfl rfl (Nat.le_of_ble_eq_true rfl) ⟨Nat.zero_le _, Nat.zero_le _⟩ dX0_outers_7 (fun hb1 => ?_)
  obtain e0 := ij1 hf
  exact hret _ _ 10 _ dX0_outers_10 rfl e0 rfl
def fX0_placeOf_b6 (c_p1_size : Int32) (c_p1_marks : Nat → Int32) (rc6 : Int32 → Int32 → Int32 → Int32 → Option Int32) (n2 : Int32) (n3 : Int32) (n4 : Int32) (n5 : Int32) : Option Int32 := if c_p1_size ≤ n5 then some ((-1 : Int32)) else (fX0_isOuter c_p1_size c_p1_marks n2 n5).bind fun v1 => if v1 = 0 then (some (n5 + (1 : Int32))).bind fun v2 => rc6 n2 n3 n4 v2 else if n4 = n3 then some (n5) else (some (n4 + (1 : Int32))).bind fun v3 => (some (n5 + (1 : Int32))).bind fun v4 => rc6 n2 n3 v3 v4
def fX0_placeOf (c_p1_size : Int32) (c_p1_marks : Nat → Int32) (x2 : Int32) (x3 : Int32) : Option Int32 := lfix (fX0_placeOf_b6 c_p1_size c_p1_marks) (fun _ _ _ _ => none) FU x2 x3 (0 : Int32) (0 : Int32)
set_option maxHeartbeats 4000000 in
set_option maxRecDepth 100000 in
theorem tX0_placeOf (l : Launch) (D : va_G) (k : Nat → ClassId) (q_this q_way q_seen q_p1 q_p1_marks : Nat) (c_length : Int32) (c_cameOut : Int32) (c_longest : Int32) (c_p1_size : Int32) (c_p1_full : Int32) (c_p1_turns : Int32) (c_p1_firstFull : Int32) (c_p1_lastFull : Int32) (c_p1_marks : Nat → Int32) (x2 : Int32) (x3 : Int32) (r_ : Int32) (hf : fX0_placeOf c_p1_size c_p1_marks x2 x3 = some (r_)) : MI l yX0_placeOf cX0_placeOf 6 .int (RM 4 97) D k [.ref q_this, .ref q_p1, .int x2, .int x3] [oX0 q_this q_way q_seen c_length c_cameOut c_longest, oX1 q_p1 q_p1_marks c_p1_size c_p1_full c_p1_turns c_p1_firstFull c_p1_lastFull, aI k q_p1_marks 153 c_p1_marks] r_ [oX0 q_this q_way q_seen c_length c_cameOut c_longest, oX1 q_p1 q_p1_marks c_p1_size c_p1_full c_p1_turns c_p1_firstFull c_p1_lastFull, aI k q_p1_marks 153 c_p1_marks] := by
  refine mkMI' (own := "DoorWalk$Doors") (by decide) rfl (Nat.le_of_ble_eq_true rfl) ?_
  intro p e s m args below meth c Q A hret C
  refine ww_lv (lv' := [(0, .ref q_this), (1, .ref q_p1), (2, .int x2), (3, .int x3)]) [0, 1, 2, 3] rfl ?_
  have hL6 : ∀ (n : Nat) (n2 : Int32) (n3 : Int32) (n4 : Int32) (n5 : Int32), lfix (fX0_placeOf_b6 c_p1_size c_p1_marks) (fun _ _ _ _ => none) n n2 n3 n4 n5 = some (r_) → WW p l e (RM 4 97) s m args below meth c Q 6 D A 0 0 [oX0 q_this q_way q_seen c_length c_cameOut c_longest, oX1 q_p1 q_p1_marks c_p1_size c_p1_full c_p1_turns c_p1_firstFull c_p1_lastFull, aI k q_p1_marks 153 c_p1_marks] [(0, .ref q_this), (1, .ref q_p1), (2, .int n2), (3, .int n3), (4, .int n4), (5, .int n5)] 6 [] := by
    intro n
    induction n with
    | zero => intro n2 n3 n4 n5 hf; cases hf
    | succ n ih6 =>
      obtain ⟨rc6, hrc6⟩ : ∃ f9, f9 = lfix (fX0_placeOf_b6 c_p1_size c_p1_marks) (fun _ _ _ _ => none) n := ⟨_, rfl⟩
      rw [← hrc6] at ih6
      intro n2 n3 n4 n5 hf
      have hf : fX0_placeOf_b6 c_p1_size c_p1_marks rc6 n2 n3 n4 n5 = some (r_) := by rw [hrc6]; exact hf
      unfold fX0_placeOf_b6 at hf
      refine ww_iload (pc := 6) C dX0_placeOf_6 5 rfl ?_
      refine ww_aload_n (pc := 8) C dX0_placeOf_8 rfl 1 rfl ?_
      refine gf1_1 (pc := 9) C kf_X0_50 1 rfl rfl dX0_placeOf_9 ?_
      refine ww_icmp_ge (pc := 12) (tgt := 44) C dX0_placeOf_12 (by decide) (fun hc => ?_) (fun hc => ?_)
      · have hf := ifT hc hf
        refine ww_iconst (pc := 44) C dX0_placeOf_44 kI_m1 ?_
        obtain e0 := ij1 hf
        exact hret _ _ 45 _ dX0_placeOf_45 rfl e0 rfl
      · have hf := ifF hc hf
        refine ww_aload_n (pc := 15) C dX0_placeOf_15 rfl 0 rfl ?_
        refine ww_aload_n (pc := 16) C dX0_placeOf_16 rfl 1 rfl ?_
        refine ww_iload_n (pc := 17) C dX0_placeOf_17 rfl 2 rfl ?_
        refine ww_iload (pc := 18) C dX0_placeOf_18 5 rfl ?_
        obtain ⟨v1, h1, hf⟩ := bsome hf
        refine ww_callVi0 (pc := 20) (As := [.ref q_p1, .int n2, .int n5]) (rest := []) C (tX0_isOuter l D k q_this q_way q_seen q_p1 q_p1_marks c_length c_cameOut c_longest c_p1_size c_p1_full c_p1_turns c_p1_firstFull c_p1_lastFull c_p1_marks n2 n5 v1 h1) cv_X0_46 ⟨⟨by decide, by decide⟩, rfl, rfl⟩ 0 rfl rfl [0, 1, 2] rfl rfl rfl rfl (Nat.le_of_ble_eq_true rfl) ⟨Nat.zero_le _, Nat.zero_le _⟩ dX0_placeOf_20 (fun hb1 => ?_)
        refine ww_if_eq (pc := 23) (tgt := 38) C dX0_placeOf_23 (by decide) (fun hc => ?_) (fun hc => ?_)
        · have hf := ifT hc hf
          obtain ⟨v2, h2, hf⟩ := bsome hf
          refine ww_iincN (pc := 38) (lv' := [(5, .int v2), (0, .ref q_this), (1, .ref q_p1), (2, .int n2), (3, .int n3), (4, .int n4)]) (j := 5) C dX0_placeOf_38 kI_1 rfl h2 (by decide) rfl ?_
          refine ww_goto (pc := 41) (tgt := 6) C dX0_placeOf_41 (by decide) ?_
          exact ww_lv [1, 2, 3, 4, 5, 0] rfl (ih6 n2 n3 n4 v2 hf)
        · have hf := ifF hc hf
          refine ww_iload (pc := 26) C dX0_placeOf_26 4 rfl ?_
          refine ww_iload_n (pc := 28) C dX0_placeOf_28 rfl 3 rfl ?_
          refine ww_icmp_ne (pc := 29) (tgt := 35) C dX0_placeOf_29 (by decide) (fun hc => ?_) (fun hc => ?_)
          · have hf := ifF hc hf
            obtain ⟨v3, h3, hf⟩ := bsome hf
            refine ww_iincN (pc := 35) (lv' := [(4, .int v3), (0, .ref q_this), (1, .ref q_p1), (2, .int n2), (3, .int n3), (5, .int n5)]) (j := 4) C dX0_placeOf_35 kI_1 rfl h3 (by decide) rfl ?_
            obtain ⟨v4, h4, hf⟩ := bsome hf
            refine ww_iincN (pc := 38) (lv' := [(5, .int v4), (4, .int v3), (0, .ref q_this), (1, .ref q_p1), (2, .int n2), (3, .int n3)]) (j := 5) C dX0_placeOf_38 kI_1 rfl h4 (by decide) rfl ?_
            refine ww_goto (pc := 41) (tgt := 6) C dX0_placeOf_41 (by decide) ?_
            exact ww_lv [2, 3, 4, 5, 1, 0] rfl (ih6 n2 n3 v3 v4 hf)
          · have hf := ifT hc hf
            refine ww_iload (pc := 32) C dX0_placeOf_32 5 rfl ?_
            obtain e0 := ij1 hf
            exact hret _ _ 34 _ dX0_placeOf_34 rfl e0 rfl
  unfold fX0_placeOf at hf
  refine ww_iconst (pc := 0) C dX0_placeOf_0 kI_0 ?_
  refine ww_istore (pc := 1) (lv' := [(4, .int (0 : Int32)), (0, .ref q_this), (1, .ref q_p1), (2, .int x2), (3, .int x3)]) C dX0_placeOf_1 (by decide) rfl ?_
  refine ww_iconst (pc := 3) C dX0_placeOf_3 kI_0 ?_
  refine ww_istore (pc := 4) (lv' := [(5, .int (0 : Int32)), (4, .int (0 : Int32)), (0, .ref q_this), (1, .ref q_p1), (2, .int x2), (3, .int x3)]) C dX0_placeOf_4 (by decide) rfl ?_
  exact ww_lv [2, 3, 4, 5, 1, 0] rfl (hL6 FU x2 x3 (0 : Int32) (0 : Int32) hf)
def fX0_follow_b86 (c_p1_size : Int32) (c_p1_marks : Nat → Int32) (c_cameOut : Int32) (c_length : Int32) (c_way : Nat → Int32) : Option (Int32 × Int32 × (Nat → Int32)) := some ((1 : Int32), c_length, c_way)
def fX0_follow_b17 (c_p1_size : Int32) (c_p1_marks : Nat → Int32) (rc17 : Int32 → Int32 → (Nat → Int32) → Int32 → Int32 → Int32 → Option (Int32 × Int32 × (Nat → Int32))) (c_cameOut : Int32) (c_length : Int32) (c_way : Nat → Int32) (n2 : Int32) (n5 : Int32) (n6 : Int32) : Option (Int32 × Int32 × (Nat → Int32)) := if n5 = (-1 : Int32) then fX0_follow_b86 c_p1_size c_p1_marks c_cameOut c_length c_way else if (512 : Int32) ≤ c_length then fX0_follow_b86 c_p1_size c_p1_marks c_cameOut c_length c_way else (ast 512 c_length c_way n5).bind fun v1 => (some (c_length + (1 : Int32))).bind fun v2 => (fX0_nextDoor c_p1_size c_p1_marks n5 n2 n6).bind fun v3 => if v3 = (-1 : Int32) then some (c_cameOut, v2, v1) else (fX1_beyond c_p1_size n5 v3).bind fun v4 => rc17 c_cameOut v2 v1 n2 v4 v3
def fX0_follow (c_p1_size : Int32) (c_p1_marks : Nat → Int32) (c_cameOut : Int32) (c_length : Int32) (c_way : Nat → Int32) (x2 : Int32) (x3 : Int32) (x4 : Int32) : Option (Int32 × Int32 × (Nat → Int32)) := lfix (fX0_follow_b17 c_p1_size c_p1_marks) (fun _ _ _ _ _ _ => none) FU (0 : Int32) (0 : Int32) c_way x2 x3 x4
set_option maxHeartbeats 4000000 in
set_option maxRecDepth 100000 in
theorem tX0_follow (l : Launch) (D : va_G) (k : Nat → ClassId) (q_this q_way q_seen q_p1 q_p1_marks : Nat) (c_length : Int32) (c_cameOut : Int32) (c_longest : Int32) (c_way : Nat → Int32) (c_p1_size : Int32) (c_p1_full : Int32) (c_p1_turns : Int32) (c_p1_firstFull : Int32) (c_p1_lastFull : Int32) (c_p1_marks : Nat → Int32) (x2 : Int32) (x3 : Int32) (x4 : Int32) (w_cameOut : Int32) (w_length : Int32) (w_way : Nat → Int32) (hf : fX0_follow c_p1_size c_p1_marks c_cameOut c_length c_way x2 x3 x4 = some (w_cameOut, w_length, w_way)) : MV l yX0_follow cX0_follow 7 (RM 4 99) D k [.ref q_this, .ref q_p1, .int x2, .int x3, .int x4] [oX0 q_this q_way q_seen c_length c_cameOut c_longest, aI k q_way 512 c_way, oX1 q_p1 q_p1_marks c_p1_size c_p1_full c_p1_turns c_p1_firstFull c_p1_lastFull, aI k q_p1_marks 153 c_p1_marks] [oX0 q_this q_way q_seen w_length w_cameOut c_longest, aI k q_way 512 w_way, oX1 q_p1 q_p1_marks c_p1_size c_p1_full c_p1_turns c_p1_firstFull c_p1_lastFull, aI k q_p1_marks 153 c_p1_marks] := by
  refine mkMV' (own := "DoorWalk$Doors") (by decide) rfl (Nat.le_of_ble_eq_true rfl) ?_
  intro p e s m args below meth c Q A hret C
  refine ww_lv (lv' := [(0, .ref q_this), (1, .ref q_p1), (2, .int x2), (3, .int x3), (4, .int x4)]) [0, 1, 2, 3, 4] rfl ?_
  have hJ86 : ∀ (c_cameOut : Int32) (c_length : Int32) (c_way : Nat → Int32), fX0_follow_b86 c_p1_size c_p1_marks c_cameOut c_length c_way = some (w_cameOut, w_length, w_way) → WW p l e (RM 4 99) s m args below meth c Q 7 D A 0 0 [oX0 q_this q_way q_seen c_length c_cameOut c_longest, aI k q_way 512 c_way, oX1 q_p1 q_p1_marks c_p1_size c_p1_full c_p1_turns c_p1_firstFull c_p1_lastFull, aI k q_p1_marks 153 c_p1_marks] [(0, .ref q_this)] 86 [] := by
    intro c_cameOut c_length c_way
    intro hf
    unfold fX0_follow_b86 at hf
    refine ww_aload_n (pc := 86) C dX0_follow_86 rfl 0 rfl ?_
    refine ww_iconst (pc := 87) C dX0_follow_87 kI_1 ?_
    refine pf0_3 (pc := 88) (ws' := [oX0 q_this q_way q_seen c_length (1 : Int32) c_longest, aI k q_way 512 c_way, oX1 q_p1 q_p1_marks c_p1_size c_p1_full c_p1_turns c_p1_firstFull c_p1_lastFull, aI k q_p1_marks 153 c_p1_marks]) C kf_X0_22 0 rfl (Nat.le_of_ble_eq_true rfl) (by decide) (by decide) rfl dX0_follow_88 ?_
    obtain ⟨e0, e1, e2⟩ := ij3 hf
    exact hret _ _ 91 dX0_follow_91 (by rw [← e0, ← e1, ← e2])
  have hL17 : ∀ (n : Nat) (c_cameOut : Int32) (c_length : Int32) (c_way : Nat → Int32) (n2 : Int32) (n5 : Int32) (n6 : Int32), lfix (fX0_follow_b17 c_p1_size c_p1_marks) (fun _ _ _ _ _ _ => none) n c_cameOut c_length c_way n2 n5 n6 = some (w_cameOut, w_length, w_way) → WW p l e (RM 4 99) s m args below meth c Q 7 D A 0 0 [oX0 q_this q_way q_seen c_length c_cameOut c_longest, aI k q_way 512 c_way, oX1 q_p1 q_p1_marks c_p1_size c_p1_full c_p1_turns c_p1_firstFull c_p1_lastFull, aI k q_p1_marks 153 c_p1_marks] [(0, .ref q_this), (1, .ref q_p1), (2, .int n2), (5, .int n5), (6, .int n6)] 17 [] := by
    intro n
    induction n with
    | zero => intro c_cameOut c_length c_way n2 n5 n6 hf; cases hf
    | succ n ih17 =>
      obtain ⟨rc17, hrc17⟩ : ∃ f9, f9 = lfix (fX0_follow_b17 c_p1_size c_p1_marks) (fun _ _ _ _ _ _ => none) n := ⟨_, rfl⟩
      rw [← hrc17] at ih17
      intro c_cameOut c_length c_way n2 n5 n6 hf
      have hf : fX0_follow_b17 c_p1_size c_p1_marks rc17 c_cameOut c_length c_way n2 n5 n6 = some (w_cameOut, w_length, w_way) := by rw [hrc17]; exact hf
      unfold fX0_follow_b17 at hf
      refine ww_iload (pc := 17) C dX0_follow_17 3 rfl ?_
      refine ww_iconst (pc := 19) C dX0_follow_19 kI_m1 ?_
      refine ww_icmp_eq (pc := 20) (tgt := 86) C dX0_follow_20 (by decide) (fun hc => ?_) (fun hc => ?_)
      · have hf := ifT hc hf
        exact ww_lv [0] rfl (hJ86 c_cameOut c_length c_way hf)
      · have hf := ifF hc hf
        refine ww_aload_n (pc := 23) C dX0_follow_23 rfl 0 rfl ?_
        refine gf0_2 (pc := 24) C kf_X0_18 0 rfl rfl dX0_follow_24 ?_
        refine ww_sipush (pc := 27) C dX0_follow_27 kS_512 ?_
        refine ww_icmp_ge (pc := 30) (tgt := 86) C dX0_follow_30 (by decide) (fun hc => ?_) (fun hc => ?_)
        · have hf := ifT hc hf
          exact ww_lv [0] rfl (hJ86 c_cameOut c_length c_way hf)
        · have hf := ifF hc hf
          refine ww_aload_n (pc := 33) C dX0_follow_33 rfl 0 rfl ?_
          refine gf0_0 (pc := 34) C kf_X0_9 0 rfl rfl dX0_follow_34 ?_
          refine ww_aload_n (pc := 37) C dX0_follow_37 rfl 0 rfl ?_
          refine gf0_2 (pc := 38) C kf_X0_18 0 rfl rfl dX0_follow_38 ?_
          refine ww_iload (pc := 41) C dX0_follow_41 3 rfl ?_
          obtain ⟨v1, h1, hf⟩ := bsome hf
          refine ww_iast (pc := 43) (ws' := [oX0 q_this q_way q_seen c_length c_cameOut c_longest, aI k q_way 512 v1, oX1 q_p1 q_p1_marks c_p1_size c_p1_full c_p1_turns c_p1_firstFull c_p1_lastFull, aI k q_p1_marks 153 c_p1_marks]) C 1 rfl h1 rfl dX0_follow_43 ?_
          refine ww_aload_n (pc := 44) C dX0_follow_44 rfl 0 rfl ?_
          refine ww_dup (pc := 45) C dX0_follow_45 rfl ?_
          refine gf0_2 (pc := 46) C kf_X0_18 0 rfl rfl dX0_follow_46 ?_
          refine ww_iconst (pc := 49) C dX0_follow_49 kI_1 ?_
          refine ww_iadd (pc := 50) C dX0_follow_50  ?_
          obtain ⟨v2, h2, hf⟩ := bsome hf
          refine ww_nmi h2 ?_
          refine pf0_2 (pc := 51) (ws' := [oX0 q_this q_way q_seen v2 c_cameOut c_longest, aI k q_way 512 v1, oX1 q_p1 q_p1_marks c_p1_size c_p1_full c_p1_turns c_p1_firstFull c_p1_lastFull, aI k q_p1_marks 153 c_p1_marks]) C kf_X0_18 0 rfl (Nat.le_of_ble_eq_true rfl) rfl dX0_follow_51 ?_
          refine ww_aload_n (pc := 54) C dX0_follow_54 rfl 0 rfl ?_
          refine ww_aload_n (pc := 55) C dX0_follow_55 rfl 1 rfl ?_
          refine ww_iload (pc := 56) C dX0_follow_56 3 rfl ?_
          refine ww_iload_n (pc := 58) C dX0_follow_58 rfl 2 rfl ?_
          refine ww_iload (pc := 59) C dX0_follow_59 4 rfl ?_
          obtain ⟨v3, h3, hf⟩ := bsome hf
          refine ww_callVi0 (pc := 61) (As := [.ref q_p1, .int n5, .int n2, .int n6]) (rest := []) C (tX0_nextDoor l D k q_this q_way q_seen q_p1 q_p1_marks v2 c_cameOut c_longest c_p1_size c_p1_full c_p1_turns c_p1_firstFull c_p1_lastFull c_p1_marks n5 n2 n6 v3 h3) cv_X0_61 ⟨⟨by decide, by decide⟩, rfl, rfl⟩ 0 rfl rfl [0, 2, 3] rfl rfl rfl rfl (Nat.le_of_ble_eq_true rfl) ⟨Nat.zero_le _, Nat.zero_le _⟩ dX0_follow_61 (fun hb3 => ?_)
          refine ww_istore (pc := 64) (lv' := [(6, .int v3), (0, .ref q_this), (1, .ref q_p1), (2, .int n2), (5, .int n5)]) C dX0_follow_64 (by decide) rfl ?_
          refine ww_iload (pc := 66) C dX0_follow_66 0 rfl ?_
          refine ww_iconst (pc := 68) C dX0_follow_68 kI_m1 ?_
          refine ww_icmp_ne (pc := 69) (tgt := 73) C dX0_follow_69 (by decide) (fun hc => ?_) (fun hc => ?_)
          · have hf := ifF hc hf
            refine ww_aload_n (pc := 73) C dX0_follow_73 rfl 2 rfl ?_
            refine ww_iload (pc := 74) C dX0_follow_74 4 rfl ?_
            refine ww_iload (pc := 76) C dX0_follow_76 0 rfl ?_
            obtain ⟨v4, h4, hf⟩ := bsome hf
            refine ww_callVi0 (pc := 78) (As := [.int n5, .int v3]) (rest := []) C (tX1_beyond l D k q_p1 q_p1_marks c_p1_size c_p1_full c_p1_turns c_p1_firstFull c_p1_lastFull n5 v3 v4 h4) cv_X0_65 ⟨⟨by decide, by decide⟩, rfl, rfl⟩ 2 rfl rfl [2] rfl rfl rfl rfl (Nat.le_of_ble_eq_true rfl) ⟨Nat.zero_le _, Nat.zero_le _⟩ dX0_follow_78 (fun hb4 => ?_)
            refine ww_istore (pc := 81) (lv' := [(5, .int v4), (6, .int v3), (0, .ref q_this), (1, .ref q_p1), (2, .int n2)]) C dX0_follow_81 (by decide) rfl ?_
            refine ww_goto (pc := 83) (tgt := 17) C dX0_follow_83 (by decide) ?_
            exact ww_lv [2, 3, 4, 0, 1] rfl (ih17 c_cameOut v2 v1 n2 v4 v3 hf)
          · have hf := ifT hc hf
            obtain ⟨e0, e1, e2⟩ := ij3 hf
            exact hret _ _ 72 dX0_follow_72 (by rw [← e0, ← e1, ← e2])
  unfold fX0_follow at hf
  refine ww_aload_n (pc := 0) C dX0_follow_0 rfl 0 rfl ?_
  refine ww_iconst (pc := 1) C dX0_follow_1 kI_0 ?_
  refine pf0_2 (pc := 2) (ws' := [oX0 q_this q_way q_seen (0 : Int32) c_cameOut c_longest, aI k q_way 512 c_way, oX1 q_p1 q_p1_marks c_p1_size c_p1_full c_p1_turns c_p1_firstFull c_p1_lastFull, aI k q_p1_marks 153 c_p1_marks]) C kf_X0_18 0 rfl (Nat.le_of_ble_eq_true rfl) rfl dX0_follow_2 ?_
  refine ww_aload_n (pc := 5) C dX0_follow_5 rfl 0 rfl ?_
  refine ww_iconst (pc := 6) C dX0_follow_6 kI_0 ?_
  refine pf0_3 (pc := 7) (ws' := [oX0 q_this q_way q_seen (0 : Int32) (0 : Int32) c_longest, aI k q_way 512 c_way, oX1 q_p1 q_p1_marks c_p1_size c_p1_full c_p1_turns c_p1_firstFull c_p1_lastFull, aI k q_p1_marks 153 c_p1_marks]) C kf_X0_22 0 rfl (Nat.le_of_ble_eq_true rfl) (by decide) (by decide) rfl dX0_follow_7 ?_
  refine ww_iload_n (pc := 10) C dX0_follow_10 rfl 3 rfl ?_
  refine ww_istore (pc := 11) (lv' := [(5, .int x3), (0, .ref q_this), (1, .ref q_p1), (2, .int x2), (3, .int x3), (4, .int x4)]) C dX0_follow_11 (by decide) rfl ?_
  refine ww_iload (pc := 13) C dX0_follow_13 5 rfl ?_
  refine ww_istore (pc := 15) (lv' := [(6, .int x4), (5, .int x3), (0, .ref q_this), (1, .ref q_p1), (2, .int x2), (3, .int x3), (4, .int x4)]) C dX0_follow_15 (by decide) rfl ?_
  exact ww_lv [2, 3, 4, 1, 0] rfl (hL17 FU (0 : Int32) (0 : Int32) c_way x2 x3 x4 hf)
def fX0_enter (c_p1_size : Int32) (c_p1_marks : Nat → Int32) (c_cameOut : Int32) (c_length : Int32) (c_way : Nat → Int32) (x2 : Int32) (x3 : Int32) : Option (Int32 × Int32 × (Nat → Int32)) := (fX1_sideCell c_p1_size x2 x3).bind fun v1 => (fX0_sideEdge x2).bind fun v2 => bd3 (fX0_follow c_p1_size c_p1_marks c_cameOut c_length c_way x2 v1 v2) fun v3 v4 v5 => some (v3, v4, v5)
set_option maxHeartbeats 4000000 in
set_option maxRecDepth 100000 in
theorem tX0_enter (l : Launch) (D : va_G) (k : Nat → ClassId) (q_this q_way q_seen q_p1 q_p1_marks : Nat) (c_length : Int32) (c_cameOut : Int32) (c_longest : Int32) (c_way : Nat → Int32) (c_p1_size : Int32) (c_p1_full : Int32) (c_p1_turns : Int32) (c_p1_firstFull : Int32) (c_p1_lastFull : Int32) (c_p1_marks : Nat → Int32) (x2 : Int32) (x3 : Int32) (w_cameOut : Int32) (w_length : Int32) (w_way : Nat → Int32) (hf : fX0_enter c_p1_size c_p1_marks c_cameOut c_length c_way x2 x3 = some (w_cameOut, w_length, w_way)) : MV l yX0_enter cX0_enter 4 (RM 5 125) D k [.ref q_this, .ref q_p1, .int x2, .int x3] [oX0 q_this q_way q_seen c_length c_cameOut c_longest, aI k q_way 512 c_way, oX1 q_p1 q_p1_marks c_p1_size c_p1_full c_p1_turns c_p1_firstFull c_p1_lastFull, aI k q_p1_marks 153 c_p1_marks] [oX0 q_this q_way q_seen w_length w_cameOut c_longest, aI k q_way 512 w_way, oX1 q_p1 q_p1_marks c_p1_size c_p1_full c_p1_turns c_p1_firstFull c_p1_lastFull, aI k q_p1_marks 153 c_p1_marks] := by
  refine mkMV' (own := "DoorWalk$Doors") (by decide) rfl (Nat.le_of_ble_eq_true rfl) ?_
  intro p e s m args below meth c Q A hret C
  refine ww_lv (lv' := [(0, .ref q_this), (1, .ref q_p1), (2, .int x2), (3, .int x3)]) [0, 1, 2, 3] rfl ?_
  unfold fX0_enter at hf
  refine ww_aload_n (pc := 0) C dX0_enter_0 rfl 0 rfl ?_
  refine ww_aload_n (pc := 1) C dX0_enter_1 rfl 1 rfl ?_
  refine ww_iload_n (pc := 2) C dX0_enter_2 rfl 2 rfl ?_
  refine ww_aload_n (pc := 3) C dX0_enter_3 rfl 1 rfl ?_
  refine ww_iload_n (pc := 4) C dX0_enter_4 rfl 2 rfl ?_
  refine ww_iload_n (pc := 5) C dX0_enter_5 rfl 3 rfl ?_
  obtain ⟨v1, h1, hf⟩ := bsome hf
  refine ww_callVi0 (pc := 6) (As := [.int x2, .int x3]) (rest := [.int x2, .ref q_p1, .ref q_this]) C (tX1_sideCell l D k q_p1 q_p1_marks c_p1_size c_p1_full c_p1_turns c_p1_firstFull c_p1_lastFull x2 x3 v1 h1) cv_X0_39 ⟨⟨by decide, by decide⟩, rfl, rfl⟩ 2 rfl rfl [2] rfl rfl rfl rfl (Nat.le_of_ble_eq_true rfl) ⟨Nat.zero_le _, Nat.zero_le _⟩ dX0_enter_6 (fun hb1 => ?_)
  refine ww_aload_n (pc := 9) C dX0_enter_9 rfl 0 rfl ?_
  refine ww_iload_n (pc := 10) C dX0_enter_10 rfl 2 rfl ?_
  obtain ⟨v2, h2, hf⟩ := bsome hf
  refine ww_callVi0 (pc := 11) (As := [.int x2]) (rest := [.int v1, .int x2, .ref q_p1, .ref q_this]) C (tX0_sideEdge l D k q_this q_way q_seen c_length c_cameOut c_longest x2 v2 h2) cv_X0_42 ⟨⟨by decide, by decide⟩, rfl, rfl⟩ 0 rfl rfl [0] rfl rfl rfl rfl (Nat.le_of_ble_eq_true rfl) ⟨Nat.zero_le _, Nat.zero_le _⟩ dX0_enter_11 (fun hb2 => ?_)
  obtain ⟨v3, v4, v5, h3, hf⟩ := bd3_some hf
  refine ww_callVv (pc := 14) (ws' := [oX0 q_this q_way q_seen v4 v3 c_longest, aI k q_way 512 v5, oX1 q_p1 q_p1_marks c_p1_size c_p1_full c_p1_turns c_p1_firstFull c_p1_lastFull, aI k q_p1_marks 153 c_p1_marks]) (As := [.ref q_p1, .int x2, .int v1, .int v2]) (rest := []) C (tX0_follow l D k q_this q_way q_seen q_p1 q_p1_marks c_length c_cameOut c_longest c_way c_p1_size c_p1_full c_p1_turns c_p1_firstFull c_p1_lastFull c_p1_marks x2 v1 v2 v3 v4 v5 h3) cv_X0_57 ⟨⟨by decide, by decide⟩, rfl, rfl⟩ 0 rfl rfl [0, 1, 2, 3] rfl rfl rfl rfl rfl rfl (Nat.le_of_ble_eq_true rfl) ⟨Nat.zero_le _, Nat.zero_le _⟩ dX0_enter_14 ?_
  obtain ⟨e0, e1, e2⟩ := ij3 hf
  exact hret _ _ 17 dX0_enter_17 (by rw [← e0, ← e1, ← e2])
def fX0_cellOfWay (c_length : Int32) (c_way : Nat → Int32) (x1 : Int32) : Option Int32 := if x1 < 0 then some ((-1 : Int32)) else if c_length ≤ x1 then some ((-1 : Int32)) else if (512 : Int32) ≤ x1 then some ((-1 : Int32)) else (ald 512 x1 c_way).bind fun v1 => some (v1)
set_option maxHeartbeats 4000000 in
set_option maxRecDepth 100000 in
theorem tX0_cellOfWay (l : Launch) (D : va_G) (k : Nat → ClassId) (q_this q_way q_seen : Nat) (c_length : Int32) (c_cameOut : Int32) (c_longest : Int32) (c_way : Nat → Int32) (x1 : Int32) (r_ : Int32) (hf : fX0_cellOfWay c_length c_way x1 = some (r_)) : MI l yX0_cellOfWay cX0_cellOfWay 2 .int (RM 0 0) D k [.ref q_this, .int x1] [oX0 q_this q_way q_seen c_length c_cameOut c_longest, aI k q_way 512 c_way] r_ [oX0 q_this q_way q_seen c_length c_cameOut c_longest, aI k q_way 512 c_way] := by
  refine mkMI' (own := "DoorWalk$Doors") (by decide) rfl (Nat.le_of_ble_eq_true rfl) ?_
  intro p e s m args below meth c Q A hret C
  refine ww_lv (lv' := [(0, .ref q_this), (1, .int x1)]) [0, 1] rfl ?_
  unfold fX0_cellOfWay at hf
  refine ww_iload_n (pc := 0) C dX0_cellOfWay_0 rfl 1 rfl ?_
  refine ww_if_lt (pc := 1) (tgt := 28) C dX0_cellOfWay_1 (by decide) (fun hc => ?_) (fun hc => ?_)
  · have hf := ifT hc hf
    refine ww_iconst (pc := 28) C dX0_cellOfWay_28 kI_m1 ?_
    obtain e0 := ij1 hf
    exact hret _ _ 29 _ dX0_cellOfWay_29 rfl e0 rfl
  · have hf := ifF hc hf
    refine ww_iload_n (pc := 4) C dX0_cellOfWay_4 rfl 1 rfl ?_
    refine ww_aload_n (pc := 5) C dX0_cellOfWay_5 rfl 0 rfl ?_
    refine gf0_2 (pc := 6) C kf_X0_18 0 rfl rfl dX0_cellOfWay_6 ?_
    refine ww_icmp_ge (pc := 9) (tgt := 28) C dX0_cellOfWay_9 (by decide) (fun hc => ?_) (fun hc => ?_)
    · have hf := ifT hc hf
      refine ww_iconst (pc := 28) C dX0_cellOfWay_28 kI_m1 ?_
      obtain e0 := ij1 hf
      exact hret _ _ 29 _ dX0_cellOfWay_29 rfl e0 rfl
    · have hf := ifF hc hf
      refine ww_iload_n (pc := 12) C dX0_cellOfWay_12 rfl 1 rfl ?_
      refine ww_sipush (pc := 13) C dX0_cellOfWay_13 kS_512 ?_
      refine ww_icmp_ge (pc := 16) (tgt := 28) C dX0_cellOfWay_16 (by decide) (fun hc => ?_) (fun hc => ?_)
      · have hf := ifT hc hf
        refine ww_iconst (pc := 28) C dX0_cellOfWay_28 kI_m1 ?_
        obtain e0 := ij1 hf
        exact hret _ _ 29 _ dX0_cellOfWay_29 rfl e0 rfl
      · have hf := ifF hc hf
        refine ww_aload_n (pc := 19) C dX0_cellOfWay_19 rfl 0 rfl ?_
        refine gf0_0 (pc := 20) C kf_X0_9 0 rfl rfl dX0_cellOfWay_20 ?_
        refine ww_iload_n (pc := 23) C dX0_cellOfWay_23 rfl 1 rfl ?_
        obtain ⟨v1, h1, hf⟩ := bsome hf
        refine ww_iald (pc := 24) C 1 rfl h1 dX0_cellOfWay_24 ?_
        refine ww_goto (pc := 25) (tgt := 29) C dX0_cellOfWay_25 (by decide) ?_
        obtain e0 := ij1 hf
        exact hret _ _ 29 _ dX0_cellOfWay_29 rfl e0 rfl
def fX0_last (c_length : Int32) (c_way : Nat → Int32) : Option Int32 := (fX0_cellOfWay c_length c_way (c_length - (1 : Int32))).bind fun v1 => some (v1)
set_option maxHeartbeats 4000000 in
set_option maxRecDepth 100000 in
theorem tX0_last (l : Launch) (D : va_G) (k : Nat → ClassId) (q_this q_way q_seen : Nat) (c_length : Int32) (c_cameOut : Int32) (c_longest : Int32) (c_way : Nat → Int32)  (r_ : Int32) (hf : fX0_last c_length c_way = some (r_)) : MI l yX0_last cX0_last 1 .int (RM 1 21) D k [.ref q_this] [oX0 q_this q_way q_seen c_length c_cameOut c_longest, aI k q_way 512 c_way] r_ [oX0 q_this q_way q_seen c_length c_cameOut c_longest, aI k q_way 512 c_way] := by
  refine mkMI' (own := "DoorWalk$Doors") (by decide) rfl (Nat.le_of_ble_eq_true rfl) ?_
  intro p e s m args below meth c Q A hret C
  refine ww_lv (lv' := [(0, .ref q_this)]) [0] rfl ?_
  unfold fX0_last at hf
  refine ww_aload_n (pc := 0) C dX0_last_0 rfl 0 rfl ?_
  refine ww_aload_n (pc := 1) C dX0_last_1 rfl 0 rfl ?_
  refine gf0_2 (pc := 2) C kf_X0_18 0 rfl rfl dX0_last_2 ?_
  refine ww_iconst (pc := 5) C dX0_last_5 kI_1 ?_
  refine ww_isub (pc := 6) C dX0_last_6  ?_
  obtain ⟨v1, h1, hf⟩ := bsome hf
  refine ww_callVi0 (pc := 7) (As := [.int (c_length - (1 : Int32))]) (rest := []) C (tX0_cellOfWay l D k q_this q_way q_seen c_length c_cameOut c_longest c_way (c_length - (1 : Int32)) v1 h1) cv_X0_68 ⟨⟨by decide, by decide⟩, rfl, rfl⟩ 0 rfl rfl [0, 1] rfl rfl rfl rfl (Nat.le_of_ble_eq_true rfl) ⟨Nat.zero_le _, Nat.zero_le _⟩ dX0_last_7 (fun hb1 => ?_)
  obtain e0 := ij1 hf
  exact hret _ _ 10 _ dX0_last_10 rfl e0 rfl
def fX0_outDoor (c_cameOut : Int32) (c_length : Int32) (c_way : Nat → Int32) (c_p1_size : Int32) (c_p1_marks : Nat → Int32) (x2 : Int32) : Option Int32 := if c_cameOut = 0 then some ((-1 : Int32)) else (fX0_last c_length c_way).bind fun v1 => (fX1_sidePlace c_p1_size x2 v1).bind fun v2 => (fX0_outersBefore c_p1_size c_p1_marks x2 v2).bind fun v3 => some (v3)
set_option maxHeartbeats 4000000 in
set_option maxRecDepth 100000 in
theorem tX0_outDoor (l : Launch) (D : va_G) (k : Nat → ClassId) (q_this q_way q_seen q_p1 q_p1_marks : Nat) (c_length : Int32) (c_cameOut : Int32) (c_longest : Int32) (c_way : Nat → Int32) (c_p1_size : Int32) (c_p1_full : Int32) (c_p1_turns : Int32) (c_p1_firstFull : Int32) (c_p1_lastFull : Int32) (c_p1_marks : Nat → Int32) (x2 : Int32) (r_ : Int32) (hf : fX0_outDoor c_cameOut c_length c_way c_p1_size c_p1_marks x2 = some (r_)) : MI l yX0_outDoor cX0_outDoor 3 .int (RM 5 122) D k [.ref q_this, .ref q_p1, .int x2] [oX0 q_this q_way q_seen c_length c_cameOut c_longest, aI k q_way 512 c_way, oX1 q_p1 q_p1_marks c_p1_size c_p1_full c_p1_turns c_p1_firstFull c_p1_lastFull, aI k q_p1_marks 153 c_p1_marks] r_ [oX0 q_this q_way q_seen c_length c_cameOut c_longest, aI k q_way 512 c_way, oX1 q_p1 q_p1_marks c_p1_size c_p1_full c_p1_turns c_p1_firstFull c_p1_lastFull, aI k q_p1_marks 153 c_p1_marks] := by
  refine mkMI' (own := "DoorWalk$Doors") (by decide) rfl (Nat.le_of_ble_eq_true rfl) ?_
  intro p e s m args below meth c Q A hret C
  refine ww_lv (lv' := [(0, .ref q_this), (1, .ref q_p1), (2, .int x2)]) [0, 1, 2] rfl ?_
  unfold fX0_outDoor at hf
  refine ww_aload_n (pc := 0) C dX0_outDoor_0 rfl 0 rfl ?_
  refine gf0_3 (pc := 1) C kf_X0_22 0 rfl rfl dX0_outDoor_1 ?_
  refine ww_if_eq (pc := 4) (tgt := 25) C dX0_outDoor_4 (by decide) (fun hc => ?_) (fun hc => ?_)
  · have hf := ifT hc hf
    refine ww_iconst (pc := 25) C dX0_outDoor_25 kI_m1 ?_
    obtain e0 := ij1 hf
    exact hret _ _ 26 _ dX0_outDoor_26 rfl e0 rfl
  · have hf := ifF hc hf
    refine ww_aload_n (pc := 7) C dX0_outDoor_7 rfl 0 rfl ?_
    refine ww_aload_n (pc := 8) C dX0_outDoor_8 rfl 1 rfl ?_
    refine ww_iload_n (pc := 9) C dX0_outDoor_9 rfl 2 rfl ?_
    refine ww_aload_n (pc := 10) C dX0_outDoor_10 rfl 1 rfl ?_
    refine ww_iload_n (pc := 11) C dX0_outDoor_11 rfl 2 rfl ?_
    refine ww_aload_n (pc := 12) C dX0_outDoor_12 rfl 0 rfl ?_
    obtain ⟨v1, h1, hf⟩ := bsome hf
    refine ww_callVi0 (pc := 13) (As := []) (rest := [.int x2, .ref q_p1, .int x2, .ref q_p1, .ref q_this]) C (tX0_last l D k q_this q_way q_seen c_length c_cameOut c_longest c_way v1 h1) cv_X0_71 ⟨⟨by decide, by decide⟩, rfl, rfl⟩ 0 rfl rfl [0, 1] rfl rfl rfl rfl (Nat.le_of_ble_eq_true rfl) ⟨Nat.zero_le _, Nat.zero_le _⟩ dX0_outDoor_13 (fun hb1 => ?_)
    obtain ⟨v2, h2, hf⟩ := bsome hf
    refine ww_callVi0 (pc := 16) (As := [.int x2, .int v1]) (rest := [.int x2, .ref q_p1, .ref q_this]) C (tX1_sidePlace l D k q_p1 q_p1_marks c_p1_size c_p1_full c_p1_turns c_p1_firstFull c_p1_lastFull x2 v1 v2 h2) cv_X0_75 ⟨⟨by decide, by decide⟩, rfl, rfl⟩ 2 rfl rfl [2] rfl rfl rfl rfl (Nat.le_of_ble_eq_true rfl) ⟨Nat.zero_le _, Nat.zero_le _⟩ dX0_outDoor_16 (fun hb2 => ?_)
    obtain ⟨v3, h3, hf⟩ := bsome hf
    refine ww_callVi0 (pc := 19) (As := [.ref q_p1, .int x2, .int v2]) (rest := []) C (tX0_outersBefore l D k q_this q_way q_seen q_p1 q_p1_marks c_length c_cameOut c_longest c_p1_size c_p1_full c_p1_turns c_p1_firstFull c_p1_lastFull c_p1_marks x2 v2 v3 h3) cv_X0_53 ⟨⟨by decide, by decide⟩, rfl, rfl⟩ 0 rfl rfl [0, 2, 3] rfl rfl rfl rfl (Nat.le_of_ble_eq_true rfl) ⟨Nat.zero_le _, Nat.zero_le _⟩ dX0_outDoor_19 (fun hb3 => ?_)
    refine ww_goto (pc := 22) (tgt := 26) C dX0_outDoor_22 (by decide) ?_
    obtain e0 := ij1 hf
    exact hret _ _ 26 _ dX0_outDoor_26 rfl e0 rfl
def fX0_cellsTo_b10 (c_p1_size : Int32) (c_p1_marks : Nat → Int32) (rc10 : Int32 → Int32 → Int32 → Int32 → Int32 → Int32 → Option Int32) (n2 : Int32) (n3 : Int32) (n5 : Int32) (n6 : Int32) (n7 : Int32) (n8 : Int32) : Option Int32 := if (512 : Int32) < n8 then some ((-1 : Int32)) else (fX1_beyond c_p1_size n6 n7).bind fun v1 => if v1 = n5 then some (n8) else if v1 = (-1 : Int32) then some ((-1 : Int32)) else if v1 = n3 then some ((-1 : Int32)) else (fX0_nextDoor c_p1_size c_p1_marks v1 n2 n7).bind fun v2 => if v2 = (-1 : Int32) then some ((-1 : Int32)) else (some (n8 + (1 : Int32))).bind fun v3 => rc10 n2 n3 n5 v1 v2 v3
def fX0_cellsTo (c_p1_size : Int32) (c_p1_marks : Nat → Int32) (x2 : Int32) (x3 : Int32) (x4 : Int32) (x5 : Int32) : Option Int32 := lfix (fX0_cellsTo_b10 c_p1_size c_p1_marks) (fun _ _ _ _ _ _ => none) FU x2 x3 x5 x3 x4 (2 : Int32)
set_option maxHeartbeats 4000000 in
set_option maxRecDepth 100000 in
theorem tX0_cellsTo (l : Launch) (D : va_G) (k : Nat → ClassId) (q_this q_way q_seen q_p1 q_p1_marks : Nat) (c_length : Int32) (c_cameOut : Int32) (c_longest : Int32) (c_p1_size : Int32) (c_p1_full : Int32) (c_p1_turns : Int32) (c_p1_firstFull : Int32) (c_p1_lastFull : Int32) (c_p1_marks : Nat → Int32) (x2 : Int32) (x3 : Int32) (x4 : Int32) (x5 : Int32) (r_ : Int32) (hf : fX0_cellsTo c_p1_size c_p1_marks x2 x3 x4 x5 = some (r_)) : MI l yX0_cellsTo cX0_cellsTo 9 .int (RM 4 99) D k [.ref q_this, .ref q_p1, .int x2, .int x3, .int x4, .int x5] [oX0 q_this q_way q_seen c_length c_cameOut c_longest, oX1 q_p1 q_p1_marks c_p1_size c_p1_full c_p1_turns c_p1_firstFull c_p1_lastFull, aI k q_p1_marks 153 c_p1_marks] r_ [oX0 q_this q_way q_seen c_length c_cameOut c_longest, oX1 q_p1 q_p1_marks c_p1_size c_p1_full c_p1_turns c_p1_firstFull c_p1_lastFull, aI k q_p1_marks 153 c_p1_marks] := by
  refine mkMI' (own := "DoorWalk$Doors") (by decide) rfl (Nat.le_of_ble_eq_true rfl) ?_
  intro p e s m args below meth c Q A hret C
  refine ww_lv (lv' := [(0, .ref q_this), (1, .ref q_p1), (2, .int x2), (3, .int x3), (4, .int x4), (5, .int x5)]) [0, 1, 2, 3, 4, 5] rfl ?_
  have hL10 : ∀ (n : Nat) (n2 : Int32) (n3 : Int32) (n5 : Int32) (n6 : Int32) (n7 : Int32) (n8 : Int32), lfix (fX0_cellsTo_b10 c_p1_size c_p1_marks) (fun _ _ _ _ _ _ => none) n n2 n3 n5 n6 n7 n8 = some (r_) → WW p l e (RM 4 99) s m args below meth c Q 9 D A 0 0 [oX0 q_this q_way q_seen c_length c_cameOut c_longest, oX1 q_p1 q_p1_marks c_p1_size c_p1_full c_p1_turns c_p1_firstFull c_p1_lastFull, aI k q_p1_marks 153 c_p1_marks] [(0, .ref q_this), (1, .ref q_p1), (2, .int n2), (3, .int n3), (5, .int n5), (6, .int n6), (7, .int n7), (8, .int n8)] 10 [] := by
    intro n
    induction n with
    | zero => intro n2 n3 n5 n6 n7 n8 hf; cases hf
    | succ n ih10 =>
      obtain ⟨rc10, hrc10⟩ : ∃ f9, f9 = lfix (fX0_cellsTo_b10 c_p1_size c_p1_marks) (fun _ _ _ _ _ _ => none) n := ⟨_, rfl⟩
      rw [← hrc10] at ih10
      intro n2 n3 n5 n6 n7 n8 hf
      have hf : fX0_cellsTo_b10 c_p1_size c_p1_marks rc10 n2 n3 n5 n6 n7 n8 = some (r_) := by rw [hrc10]; exact hf
      unfold fX0_cellsTo_b10 at hf
      refine ww_iload (pc := 10) C dX0_cellsTo_10 7 rfl ?_
      refine ww_sipush (pc := 12) C dX0_cellsTo_12 kS_512 ?_
      refine ww_icmp_gt (pc := 15) (tgt := 78) C dX0_cellsTo_15 (by decide) (fun hc => ?_) (fun hc => ?_)
      · have hf := ifT hc hf
        refine ww_iconst (pc := 78) C dX0_cellsTo_78 kI_m1 ?_
        obtain e0 := ij1 hf
        exact hret _ _ 79 _ dX0_cellsTo_79 rfl e0 rfl
      · have hf := ifF hc hf
        refine ww_aload_n (pc := 18) C dX0_cellsTo_18 rfl 1 rfl ?_
        refine ww_iload (pc := 19) C dX0_cellsTo_19 5 rfl ?_
        refine ww_iload (pc := 21) C dX0_cellsTo_21 6 rfl ?_
        obtain ⟨v1, h1, hf⟩ := bsome hf
        refine ww_callVi0 (pc := 23) (As := [.int n6, .int n7]) (rest := []) C (tX1_beyond l D k q_p1 q_p1_marks c_p1_size c_p1_full c_p1_turns c_p1_firstFull c_p1_lastFull n6 n7 v1 h1) cv_X0_65 ⟨⟨by decide, by decide⟩, rfl, rfl⟩ 1 rfl rfl [1] rfl rfl rfl rfl (Nat.le_of_ble_eq_true rfl) ⟨Nat.zero_le _, Nat.zero_le _⟩ dX0_cellsTo_23 (fun hb1 => ?_)
        refine ww_istore (pc := 26) (lv' := [(6, .int v1), (0, .ref q_this), (1, .ref q_p1), (2, .int n2), (3, .int n3), (5, .int n5), (7, .int n7), (8, .int n8)]) C dX0_cellsTo_26 (by decide) rfl ?_
        refine ww_iload (pc := 28) C dX0_cellsTo_28 0 rfl ?_
        refine ww_iload (pc := 30) C dX0_cellsTo_30 5 rfl ?_
        refine ww_icmp_ne (pc := 32) (tgt := 38) C dX0_cellsTo_32 (by decide) (fun hc => ?_) (fun hc => ?_)
        · have hf := ifF hc hf
          refine ww_iload (pc := 38) C dX0_cellsTo_38 0 rfl ?_
          refine ww_iconst (pc := 40) C dX0_cellsTo_40 kI_m1 ?_
          refine ww_icmp_eq (pc := 41) (tgt := 50) C dX0_cellsTo_41 (by decide) (fun hc => ?_) (fun hc => ?_)
          · have hf := ifT hc hf
            refine ww_iconst (pc := 50) C dX0_cellsTo_50 kI_m1 ?_
            obtain e0 := ij1 hf
            exact hret _ _ 51 _ dX0_cellsTo_51 rfl e0 rfl
          · have hf := ifF hc hf
            refine ww_iload (pc := 44) C dX0_cellsTo_44 0 rfl ?_
            refine ww_iload_n (pc := 46) C dX0_cellsTo_46 rfl 4 rfl ?_
            refine ww_icmp_ne (pc := 47) (tgt := 52) C dX0_cellsTo_47 (by decide) (fun hc => ?_) (fun hc => ?_)
            · have hf := ifF hc hf
              refine ww_aload_n (pc := 52) C dX0_cellsTo_52 rfl 1 rfl ?_
              refine ww_aload_n (pc := 53) C dX0_cellsTo_53 rfl 2 rfl ?_
              refine ww_iload (pc := 54) C dX0_cellsTo_54 0 rfl ?_
              refine ww_iload_n (pc := 56) C dX0_cellsTo_56 rfl 3 rfl ?_
              refine ww_iload (pc := 57) C dX0_cellsTo_57 6 rfl ?_
              obtain ⟨v2, h2, hf⟩ := bsome hf
              refine ww_callVi0 (pc := 59) (As := [.ref q_p1, .int v1, .int n2, .int n7]) (rest := []) C (tX0_nextDoor l D k q_this q_way q_seen q_p1 q_p1_marks c_length c_cameOut c_longest c_p1_size c_p1_full c_p1_turns c_p1_firstFull c_p1_lastFull c_p1_marks v1 n2 n7 v2 h2) cv_X0_61 ⟨⟨by decide, by decide⟩, rfl, rfl⟩ 0 rfl rfl [0, 1, 2] rfl rfl rfl rfl (Nat.le_of_ble_eq_true rfl) ⟨Nat.zero_le _, Nat.zero_le _⟩ dX0_cellsTo_59 (fun hb2 => ?_)
              refine ww_istore (pc := 62) (lv' := [(7, .int v2), (6, .int v1), (0, .ref q_this), (1, .ref q_p1), (2, .int n2), (3, .int n3), (5, .int n5), (8, .int n8)]) C dX0_cellsTo_62 (by decide) rfl ?_
              refine ww_iload (pc := 64) C dX0_cellsTo_64 0 rfl ?_
              refine ww_iconst (pc := 66) C dX0_cellsTo_66 kI_m1 ?_
              refine ww_icmp_ne (pc := 67) (tgt := 72) C dX0_cellsTo_67 (by decide) (fun hc => ?_) (fun hc => ?_)
              · have hf := ifF hc hf
                obtain ⟨v3, h3, hf⟩ := bsome hf
                refine ww_iincN (pc := 72) (lv' := [(8, .int v3), (7, .int v2), (6, .int v1), (0, .ref q_this), (1, .ref q_p1), (2, .int n2), (3, .int n3), (5, .int n5)]) (j := 7) C dX0_cellsTo_72 kI_1 rfl h3 (by decide) rfl ?_
                refine ww_goto (pc := 75) (tgt := 10) C dX0_cellsTo_75 (by decide) ?_
                exact ww_lv [3, 4, 5, 6, 7, 2, 1, 0] rfl (ih10 n2 n3 n5 v1 v2 v3 hf)
              · have hf := ifT hc hf
                refine ww_iconst (pc := 70) C dX0_cellsTo_70 kI_m1 ?_
                obtain e0 := ij1 hf
                exact hret _ _ 71 _ dX0_cellsTo_71 rfl e0 rfl
            · have hf := ifT hc hf
              refine ww_iconst (pc := 50) C dX0_cellsTo_50 kI_m1 ?_
              obtain e0 := ij1 hf
              exact hret _ _ 51 _ dX0_cellsTo_51 rfl e0 rfl
        · have hf := ifT hc hf
          refine ww_iload (pc := 35) C dX0_cellsTo_35 7 rfl ?_
          obtain e0 := ij1 hf
          exact hret _ _ 37 _ dX0_cellsTo_37 rfl e0 rfl
  unfold fX0_cellsTo at hf
  refine ww_iload_n (pc := 0) C dX0_cellsTo_0 rfl 3 rfl ?_
  refine ww_istore (pc := 1) (lv' := [(6, .int x3), (0, .ref q_this), (1, .ref q_p1), (2, .int x2), (3, .int x3), (4, .int x4), (5, .int x5)]) C dX0_cellsTo_1 (by decide) rfl ?_
  refine ww_iload (pc := 3) C dX0_cellsTo_3 5 rfl ?_
  refine ww_istore (pc := 5) (lv' := [(7, .int x4), (6, .int x3), (0, .ref q_this), (1, .ref q_p1), (2, .int x2), (3, .int x3), (4, .int x4), (5, .int x5)]) C dX0_cellsTo_5 (by decide) rfl ?_
  refine ww_iconst (pc := 7) C dX0_cellsTo_7 kI_2 ?_
  refine ww_istore (pc := 8) (lv' := [(8, .int (2 : Int32)), (7, .int x4), (6, .int x3), (0, .ref q_this), (1, .ref q_p1), (2, .int x2), (3, .int x3), (4, .int x4), (5, .int x5)]) C dX0_cellsTo_8 (by decide) rfl ?_
  exact ww_lv [3, 4, 5, 6, 8, 2, 1, 0] rfl (hL10 FU x2 x3 x5 x3 x4 (2 : Int32) hf)
def fX0_clearSeen (c_seen : Nat → Int32) : Option ((Nat → Int32)) := (fJ7_fill_53178 c_seen (0 : Int32)).bind fun v1 => some (v1)
set_option maxHeartbeats 4000000 in
set_option maxRecDepth 100000 in
theorem tX0_clearSeen (l : Launch) (D : va_G) (k : Nat → ClassId) (q_this q_way q_seen : Nat) (c_length : Int32) (c_cameOut : Int32) (c_longest : Int32) (c_seen : Nat → Int32)  (w_seen : Nat → Int32) (hf : fX0_clearSeen c_seen = some (w_seen)) : MV l yX0_clearSeen cX0_clearSeen 1 (RM 1 23) D k [.ref q_this] [oX0 q_this q_way q_seen c_length c_cameOut c_longest, aI k q_seen 512 c_seen] [oX0 q_this q_way q_seen c_length c_cameOut c_longest, aI k q_seen 512 w_seen] := by
  refine mkMV' (own := "DoorWalk$Doors") (by decide) rfl (Nat.le_of_ble_eq_true rfl) ?_
  intro p e s m args below meth c Q A hret C
  refine ww_lv (lv' := [(0, .ref q_this)]) [0] rfl ?_
  unfold fX0_clearSeen at hf
  refine ww_aload_n (pc := 0) C dX0_clearSeen_0 rfl 0 rfl ?_
  refine gf0_1 (pc := 1) C kf_X0_15 0 rfl rfl dX0_clearSeen_1 ?_
  refine ww_iconst (pc := 4) C dX0_clearSeen_4 kI_0 ?_
  obtain ⟨v1, h1, hf⟩ := bsome hf
  refine ww_callSv (pc := 5) (ws' := [oX0 q_this q_way q_seen c_length c_cameOut c_longest, aI k q_seen 512 v1]) (As := [.ref q_seen, .int (0 : Int32)]) (rest := []) C (tJ7_fill_53178 l D k q_seen c_seen (0 : Int32) v1 h1) cs_X0_78 ⟨⟨by decide, by decide⟩, rfl, rfl⟩ [1] rfl rfl rfl rfl rfl rfl (Nat.le_of_ble_eq_true rfl) ⟨Nat.zero_le _, Nat.zero_le _⟩ dX0_clearSeen_5 ?_
  obtain e0 := ij1 hf
  exact hret _ _ 8 dX0_clearSeen_8 (by rw [← e0])
def fX0_seenBy (c_seen : Nat → Int32) (x1 : Int32) : Option Int32 := if x1 < 0 then some ((0 : Int32)) else if (512 : Int32) ≤ x1 then some ((0 : Int32)) else (ald 512 x1 c_seen).bind fun v1 => some (v1)
set_option maxHeartbeats 4000000 in
set_option maxRecDepth 100000 in
theorem tX0_seenBy (l : Launch) (D : va_G) (k : Nat → ClassId) (q_this q_way q_seen : Nat) (c_length : Int32) (c_cameOut : Int32) (c_longest : Int32) (c_seen : Nat → Int32) (x1 : Int32) (r_ : Int32) (hf : fX0_seenBy c_seen x1 = some (r_)) : MI l yX0_seenBy cX0_seenBy 2 .int (RM 0 0) D k [.ref q_this, .int x1] [oX0 q_this q_way q_seen c_length c_cameOut c_longest, aI k q_seen 512 c_seen] r_ [oX0 q_this q_way q_seen c_length c_cameOut c_longest, aI k q_seen 512 c_seen] := by
  refine mkMI' (own := "DoorWalk$Doors") (by decide) rfl (Nat.le_of_ble_eq_true rfl) ?_
  intro p e s m args below meth c Q A hret C
  refine ww_lv (lv' := [(0, .ref q_this), (1, .int x1)]) [0, 1] rfl ?_
  unfold fX0_seenBy at hf
  refine ww_iload_n (pc := 0) C dX0_seenBy_0 rfl 1 rfl ?_
  refine ww_if_lt (pc := 1) (tgt := 20) C dX0_seenBy_1 (by decide) (fun hc => ?_) (fun hc => ?_)
  · have hf := ifT hc hf
    refine ww_iconst (pc := 20) C dX0_seenBy_20 kI_0 ?_
    obtain e0 := ij1 hf
    exact hret _ _ 21 _ dX0_seenBy_21 rfl e0 rfl
  · have hf := ifF hc hf
    refine ww_iload_n (pc := 4) C dX0_seenBy_4 rfl 1 rfl ?_
    refine ww_sipush (pc := 5) C dX0_seenBy_5 kS_512 ?_
    refine ww_icmp_ge (pc := 8) (tgt := 20) C dX0_seenBy_8 (by decide) (fun hc => ?_) (fun hc => ?_)
    · have hf := ifT hc hf
      refine ww_iconst (pc := 20) C dX0_seenBy_20 kI_0 ?_
      obtain e0 := ij1 hf
      exact hret _ _ 21 _ dX0_seenBy_21 rfl e0 rfl
    · have hf := ifF hc hf
      refine ww_aload_n (pc := 11) C dX0_seenBy_11 rfl 0 rfl ?_
      refine gf0_1 (pc := 12) C kf_X0_15 0 rfl rfl dX0_seenBy_12 ?_
      refine ww_iload_n (pc := 15) C dX0_seenBy_15 rfl 1 rfl ?_
      obtain ⟨v1, h1, hf⟩ := bsome hf
      refine ww_iald (pc := 16) C 1 rfl h1 dX0_seenBy_16 ?_
      refine ww_goto (pc := 17) (tgt := 21) C dX0_seenBy_17 (by decide) ?_
      obtain e0 := ij1 hf
      exact hret _ _ 21 _ dX0_seenBy_21 rfl e0 rfl
def fX0_seeWay_b2 (c_length : Int32) (c_way : Nat → Int32) (rc2 : (Nat → Int32) → Int32 → Int32 → Option ((Nat → Int32))) (c_seen : Nat → Int32) (n1 : Int32) (n2 : Int32) : Option ((Nat → Int32)) := if c_length ≤ n2 then some (c_seen) else (fX0_cellOfWay c_length c_way n2).bind fun v1 => if v1 < 0 then (some (n2 + (1 : Int32))).bind fun v2 => rc2 c_seen n1 v2 else if (512 : Int32) ≤ v1 then (some (n2 + (1 : Int32))).bind fun v3 => rc2 c_seen n1 v3 else (ald 512 v1 c_seen).bind fun v4 => (ast 512 v1 c_seen (v4 ||| ((1 : Int32) <<< (n1 &&& 31)))).bind fun v5 => (some (n2 + (1 : Int32))).bind fun v6 => rc2 v5 n1 v6
def fX0_seeWay (c_length : Int32) (c_way : Nat → Int32) (c_seen : Nat → Int32) (x1 : Int32) : Option ((Nat → Int32)) := lfix (fX0_seeWay_b2 c_length c_way) (fun _ _ _ => none) FU c_seen x1 (0 : Int32)
set_option maxHeartbeats 4000000 in
set_option maxRecDepth 100000 in
theorem tX0_seeWay (l : Launch) (D : va_G) (k : Nat → ClassId) (q_this q_way q_seen : Nat) (c_length : Int32) (c_cameOut : Int32) (c_longest : Int32) (c_seen : Nat → Int32) (c_way : Nat → Int32) (x1 : Int32) (w_seen : Nat → Int32) (hf : fX0_seeWay c_length c_way c_seen x1 = some (w_seen)) : MV l yX0_seeWay cX0_seeWay 4 (RM 1 21) D k [.ref q_this, .int x1] [oX0 q_this q_way q_seen c_length c_cameOut c_longest, aI k q_seen 512 c_seen, aI k q_way 512 c_way] [oX0 q_this q_way q_seen c_length c_cameOut c_longest, aI k q_seen 512 w_seen, aI k q_way 512 c_way] := by
  refine mkMV' (own := "DoorWalk$Doors") (by decide) rfl (Nat.le_of_ble_eq_true rfl) ?_
  intro p e s m args below meth c Q A hret C
  refine ww_lv (lv' := [(0, .ref q_this), (1, .int x1)]) [0, 1] rfl ?_
  have hL2 : ∀ (n : Nat) (c_seen : Nat → Int32) (n1 : Int32) (n2 : Int32), lfix (fX0_seeWay_b2 c_length c_way) (fun _ _ _ => none) n c_seen n1 n2 = some (w_seen) → WW p l e (RM 1 21) s m args below meth c Q 4 D A 0 0 [oX0 q_this q_way q_seen c_length c_cameOut c_longest, aI k q_seen 512 c_seen, aI k q_way 512 c_way] [(0, .ref q_this), (1, .int n1), (2, .int n2)] 2 [] := by
    intro n
    induction n with
    | zero => intro c_seen n1 n2 hf; cases hf
    | succ n ih2 =>
      obtain ⟨rc2, hrc2⟩ : ∃ f9, f9 = lfix (fX0_seeWay_b2 c_length c_way) (fun _ _ _ => none) n := ⟨_, rfl⟩
      rw [← hrc2] at ih2
      intro c_seen n1 n2 hf
      have hf : fX0_seeWay_b2 c_length c_way rc2 c_seen n1 n2 = some (w_seen) := by rw [hrc2]; exact hf
      unfold fX0_seeWay_b2 at hf
      refine ww_iload_n (pc := 2) C dX0_seeWay_2 rfl 2 rfl ?_
      refine ww_aload_n (pc := 3) C dX0_seeWay_3 rfl 0 rfl ?_
      refine gf0_2 (pc := 4) C kf_X0_18 0 rfl rfl dX0_seeWay_4 ?_
      refine ww_icmp_ge (pc := 7) (tgt := 45) C dX0_seeWay_7 (by decide) (fun hc => ?_) (fun hc => ?_)
      · have hf := ifT hc hf
        obtain e0 := ij1 hf
        exact hret _ _ 45 dX0_seeWay_45 (by rw [← e0])
      · have hf := ifF hc hf
        refine ww_aload_n (pc := 10) C dX0_seeWay_10 rfl 0 rfl ?_
        refine ww_iload_n (pc := 11) C dX0_seeWay_11 rfl 2 rfl ?_
        obtain ⟨v1, h1, hf⟩ := bsome hf
        refine ww_callVi0 (pc := 12) (As := [.int n2]) (rest := []) C (tX0_cellOfWay l D k q_this q_way q_seen c_length c_cameOut c_longest c_way n2 v1 h1) cv_X0_68 ⟨⟨by decide, by decide⟩, rfl, rfl⟩ 0 rfl rfl [0, 2] rfl rfl rfl rfl (Nat.le_of_ble_eq_true rfl) ⟨Nat.zero_le _, Nat.zero_le _⟩ dX0_seeWay_12 (fun hb1 => ?_)
        refine ww_istore_n (pc := 15) (lv' := [(3, .int v1), (0, .ref q_this), (1, .int n1), (2, .int n2)]) C dX0_seeWay_15 rfl (by decide) rfl ?_
        refine ww_iload_n (pc := 16) C dX0_seeWay_16 rfl 0 rfl ?_
        refine ww_if_lt (pc := 17) (tgt := 39) C dX0_seeWay_17 (by decide) (fun hc => ?_) (fun hc => ?_)
        · have hf := ifT hc hf
          obtain ⟨v2, h2, hf⟩ := bsome hf
          refine ww_iincN (pc := 39) (lv' := [(2, .int v2), (3, .int v1), (0, .ref q_this), (1, .int n1)]) (j := 3) C dX0_seeWay_39 kI_1 rfl h2 (by decide) rfl ?_
          refine ww_goto (pc := 42) (tgt := 2) C dX0_seeWay_42 (by decide) ?_
          exact ww_lv [2, 3, 0] rfl (ih2 c_seen n1 v2 hf)
        · have hf := ifF hc hf
          refine ww_iload_n (pc := 20) C dX0_seeWay_20 rfl 0 rfl ?_
          refine ww_sipush (pc := 21) C dX0_seeWay_21 kS_512 ?_
          refine ww_icmp_ge (pc := 24) (tgt := 39) C dX0_seeWay_24 (by decide) (fun hc => ?_) (fun hc => ?_)
          · have hf := ifT hc hf
            obtain ⟨v3, h3, hf⟩ := bsome hf
            refine ww_iincN (pc := 39) (lv' := [(2, .int v3), (3, .int v1), (0, .ref q_this), (1, .int n1)]) (j := 3) C dX0_seeWay_39 kI_1 rfl h3 (by decide) rfl ?_
            refine ww_goto (pc := 42) (tgt := 2) C dX0_seeWay_42 (by decide) ?_
            exact ww_lv [2, 3, 0] rfl (ih2 c_seen n1 v3 hf)
          · have hf := ifF hc hf
            refine ww_aload_n (pc := 27) C dX0_seeWay_27 rfl 1 rfl ?_
            refine gf0_1 (pc := 28) C kf_X0_15 0 rfl rfl dX0_seeWay_28 ?_
            refine ww_iload_n (pc := 31) C dX0_seeWay_31 rfl 0 rfl ?_
            refine ww_dup2 (pc := 32) C dX0_seeWay_32 rfl rfl ?_
            obtain ⟨v4, h4, hf⟩ := bsome hf
            refine ww_iald (pc := 33) C 1 rfl h4 dX0_seeWay_33 ?_
            refine ww_iconst (pc := 34) C dX0_seeWay_34 kI_1 ?_
            refine ww_iload_n (pc := 35) C dX0_seeWay_35 rfl 2 rfl ?_
            refine ww_ishl (pc := 36) C dX0_seeWay_36  ?_
            refine ww_ior (pc := 37) C dX0_seeWay_37  ?_
            obtain ⟨v5, h5, hf⟩ := bsome hf
            refine ww_iast (pc := 38) (ws' := [oX0 q_this q_way q_seen c_length c_cameOut c_longest, aI k q_seen 512 v5, aI k q_way 512 c_way]) C 1 rfl h5 rfl dX0_seeWay_38 ?_
            obtain ⟨v6, h6, hf⟩ := bsome hf
            refine ww_iincN (pc := 39) (lv' := [(2, .int v6), (3, .int v1), (0, .ref q_this), (1, .int n1)]) (j := 3) C dX0_seeWay_39 kI_1 rfl h6 (by decide) rfl ?_
            refine ww_goto (pc := 42) (tgt := 2) C dX0_seeWay_42 (by decide) ?_
            exact ww_lv [2, 3, 0] rfl (ih2 v5 n1 v6 hf)
  unfold fX0_seeWay at hf
  refine ww_iconst (pc := 0) C dX0_seeWay_0 kI_0 ?_
  refine ww_istore_n (pc := 1) (lv' := [(2, .int (0 : Int32)), (0, .ref q_this), (1, .int x1)]) C dX0_seeWay_1 rfl (by decide) rfl ?_
  exact ww_lv [1, 2, 0] rfl (hL2 FU c_seen x1 (0 : Int32) hf)
def fX0_seeWalks_b81 (c_p1_size : Int32) (c_p1_marks : Nat → Int32) (rc13 : Int32 → Int32 → Int32 → (Nat → Int32) → (Nat → Int32) → Int32 → Int32 → Int32 → Int32 → Option (Int32 × Int32 × Int32 × Int32 × (Nat → Int32) × (Nat → Int32))) (c_cameOut : Int32) (c_length : Int32) (c_longest : Int32) (c_seen : Nat → Int32) (c_way : Nat → Int32) (n2 : Int32) (n3 : Int32) (n4 : Int32) (n5 : Int32) : Option (Int32 × Int32 × Int32 × Int32 × (Nat → Int32) × (Nat → Int32)) := (some (n4 + (1 : Int32))).bind fun v1 => (some (n5 + (1 : Int32))).bind fun v2 => rc13 c_cameOut c_length c_longest c_seen c_way n2 n3 v1 v2
def fX0_seeWalks_b13 (c_p1_size : Int32) (c_p1_marks : Nat → Int32) (rc13 : Int32 → Int32 → Int32 → (Nat → Int32) → (Nat → Int32) → Int32 → Int32 → Int32 → Int32 → Option (Int32 × Int32 × Int32 × Int32 × (Nat → Int32) × (Nat → Int32))) (c_cameOut : Int32) (c_length : Int32) (c_longest : Int32) (c_seen : Nat → Int32) (c_way : Nat → Int32) (n2 : Int32) (n3 : Int32) (n4 : Int32) (n5 : Int32) : Option (Int32 × Int32 × Int32 × Int32 × (Nat → Int32) × (Nat → Int32)) := if c_p1_size ≤ n5 then some (n3, c_cameOut, c_length, c_longest, c_seen, c_way) else (fX0_isOuter c_p1_size c_p1_marks n2 n5).bind fun v1 => if v1 = 0 then (some (n5 + (1 : Int32))).bind fun v8 => rc13 c_cameOut c_length c_longest c_seen c_way n2 n3 n4 v8 else (fX1_sideCell c_p1_size n2 n5).bind fun v2 => (fX0_sideEdge n2).bind fun v3 => bd3 (fX0_follow c_p1_size c_p1_marks c_cameOut c_length c_way n2 v2 v3) fun v4 v5 v6 => (fX0_seeWay v5 v6 c_seen n2).bind fun v7 => if v5 ≤ c_longest then fX0_seeWalks_b81 c_p1_size c_p1_marks rc13 v4 v5 c_longest v7 v6 n2 n3 n4 n5 else fX0_seeWalks_b81 c_p1_size c_p1_marks rc13 v4 v5 v5 v7 v6 n2 n4 n4 n5
def fX0_seeWalks (c_p1_size : Int32) (c_p1_marks : Nat → Int32) (c_cameOut : Int32) (c_length : Int32) (c_longest : Int32) (c_seen : Nat → Int32) (c_way : Nat → Int32) (x2 : Int32) : Option (Int32 × Int32 × Int32 × Int32 × (Nat → Int32) × (Nat → Int32)) := lfix (fX0_seeWalks_b13 c_p1_size c_p1_marks) (fun _ _ _ _ _ _ _ _ _ => none) FU c_cameOut c_length (0 : Int32) c_seen c_way x2 (-1 : Int32) (0 : Int32) (0 : Int32)
set_option maxHeartbeats 4000000 in
set_option maxRecDepth 100000 in
theorem tX0_seeWalks (l : Launch) (D : va_G) (k : Nat → ClassId) (q_this q_way q_seen q_p1 q_p1_marks : Nat) (c_length : Int32) (c_cameOut : Int32) (c_longest : Int32) (c_seen : Nat → Int32) (c_way : Nat → Int32) (c_p1_size : Int32) (c_p1_full : Int32) (c_p1_turns : Int32) (c_p1_firstFull : Int32) (c_p1_lastFull : Int32) (c_p1_marks : Nat → Int32) (x2 : Int32) (r_ : Int32) (w_cameOut : Int32) (w_length : Int32) (w_longest : Int32) (w_seen : Nat → Int32) (w_way : Nat → Int32) (hf : fX0_seeWalks c_p1_size c_p1_marks c_cameOut c_length c_longest c_seen c_way x2 = some (r_, w_cameOut, w_length, w_longest, w_seen, w_way)) : MI l yX0_seeWalks cX0_seeWalks 6 .int (RM 5 125) D k [.ref q_this, .ref q_p1, .int x2] [oX0 q_this q_way q_seen c_length c_cameOut c_longest, aI k q_seen 512 c_seen, aI k q_way 512 c_way, oX1 q_p1 q_p1_marks c_p1_size c_p1_full c_p1_turns c_p1_firstFull c_p1_lastFull, aI k q_p1_marks 153 c_p1_marks] r_ [oX0 q_this q_way q_seen w_length w_cameOut w_longest, aI k q_seen 512 w_seen, aI k q_way 512 w_way, oX1 q_p1 q_p1_marks c_p1_size c_p1_full c_p1_turns c_p1_firstFull c_p1_lastFull, aI k q_p1_marks 153 c_p1_marks] := by
  refine mkMI' (own := "DoorWalk$Doors") (by decide) rfl (Nat.le_of_ble_eq_true rfl) ?_
  intro p e s m args below meth c Q A hret C
  refine ww_lv (lv' := [(0, .ref q_this), (1, .ref q_p1), (2, .int x2)]) [0, 1, 2] rfl ?_
  have hL13 : ∀ (n : Nat) (c_cameOut : Int32) (c_length : Int32) (c_longest : Int32) (c_seen : Nat → Int32) (c_way : Nat → Int32) (n2 : Int32) (n3 : Int32) (n4 : Int32) (n5 : Int32), lfix (fX0_seeWalks_b13 c_p1_size c_p1_marks) (fun _ _ _ _ _ _ _ _ _ => none) n c_cameOut c_length c_longest c_seen c_way n2 n3 n4 n5 = some (r_, w_cameOut, w_length, w_longest, w_seen, w_way) → WW p l e (RM 5 125) s m args below meth c Q 6 D A 0 0 [oX0 q_this q_way q_seen c_length c_cameOut c_longest, aI k q_seen 512 c_seen, aI k q_way 512 c_way, oX1 q_p1 q_p1_marks c_p1_size c_p1_full c_p1_turns c_p1_firstFull c_p1_lastFull, aI k q_p1_marks 153 c_p1_marks] [(0, .ref q_this), (1, .ref q_p1), (2, .int n2), (3, .int n3), (4, .int n4), (5, .int n5)] 13 [] := by
    intro n
    induction n with
    | zero => intro c_cameOut c_length c_longest c_seen c_way n2 n3 n4 n5 hf; cases hf
    | succ n ih13 =>
      obtain ⟨rc13, hrc13⟩ : ∃ f9, f9 = lfix (fX0_seeWalks_b13 c_p1_size c_p1_marks) (fun _ _ _ _ _ _ _ _ _ => none) n := ⟨_, rfl⟩
      rw [← hrc13] at ih13
      have hJ81 : ∀ (c_cameOut : Int32) (c_length : Int32) (c_longest : Int32) (c_seen : Nat → Int32) (c_way : Nat → Int32) (n2 : Int32) (n3 : Int32) (n4 : Int32) (n5 : Int32), fX0_seeWalks_b81 c_p1_size c_p1_marks rc13 c_cameOut c_length c_longest c_seen c_way n2 n3 n4 n5 = some (r_, w_cameOut, w_length, w_longest, w_seen, w_way) → WW p l e (RM 5 125) s m args below meth c Q 6 D A 0 0 [oX0 q_this q_way q_seen c_length c_cameOut c_longest, aI k q_seen 512 c_seen, aI k q_way 512 c_way, oX1 q_p1 q_p1_marks c_p1_size c_p1_full c_p1_turns c_p1_firstFull c_p1_lastFull, aI k q_p1_marks 153 c_p1_marks] [(0, .ref q_this), (1, .ref q_p1), (2, .int n2), (3, .int n3), (4, .int n4), (5, .int n5)] 81 [] := by
        intro c_cameOut c_length c_longest c_seen c_way n2 n3 n4 n5
        intro hf
        unfold fX0_seeWalks_b81 at hf
        obtain ⟨v1, h1, hf⟩ := bsome hf
        refine ww_iincN (pc := 81) (lv' := [(4, .int v1), (0, .ref q_this), (1, .ref q_p1), (2, .int n2), (3, .int n3), (5, .int n5)]) (j := 4) C dX0_seeWalks_81 kI_1 rfl h1 (by decide) rfl ?_
        obtain ⟨v2, h2, hf⟩ := bsome hf
        refine ww_iincN (pc := 84) (lv' := [(5, .int v2), (4, .int v1), (0, .ref q_this), (1, .ref q_p1), (2, .int n2), (3, .int n3)]) (j := 5) C dX0_seeWalks_84 kI_1 rfl h2 (by decide) rfl ?_
        refine ww_goto (pc := 87) (tgt := 13) C dX0_seeWalks_87 (by decide) ?_
        exact ww_lv [2, 3, 4, 5, 1, 0] rfl (ih13 c_cameOut c_length c_longest c_seen c_way n2 n3 v1 v2 hf)
      intro c_cameOut c_length c_longest c_seen c_way n2 n3 n4 n5 hf
      have hf : fX0_seeWalks_b13 c_p1_size c_p1_marks rc13 c_cameOut c_length c_longest c_seen c_way n2 n3 n4 n5 = some (r_, w_cameOut, w_length, w_longest, w_seen, w_way) := by rw [hrc13]; exact hf
      unfold fX0_seeWalks_b13 at hf
      refine ww_iload (pc := 13) C dX0_seeWalks_13 5 rfl ?_
      refine ww_aload_n (pc := 15) C dX0_seeWalks_15 rfl 1 rfl ?_
      refine gf1_1 (pc := 16) C kf_X0_50 3 rfl rfl dX0_seeWalks_16 ?_
      refine ww_icmp_ge (pc := 19) (tgt := 90) C dX0_seeWalks_19 (by decide) (fun hc => ?_) (fun hc => ?_)
      · have hf := ifT hc hf
        refine ww_iload_n (pc := 90) C dX0_seeWalks_90 rfl 3 rfl ?_
        obtain ⟨e0, e1, e2, e3, e4, e5⟩ := ij6 hf
        exact hret _ _ 91 _ dX0_seeWalks_91 rfl e0 (by rw [← e1, ← e2, ← e3, ← e4, ← e5])
      · have hf := ifF hc hf
        refine ww_aload_n (pc := 22) C dX0_seeWalks_22 rfl 0 rfl ?_
        refine ww_aload_n (pc := 23) C dX0_seeWalks_23 rfl 1 rfl ?_
        refine ww_iload_n (pc := 24) C dX0_seeWalks_24 rfl 2 rfl ?_
        refine ww_iload (pc := 25) C dX0_seeWalks_25 5 rfl ?_
        obtain ⟨v1, h1, hf⟩ := bsome hf
        refine ww_callVi0 (pc := 27) (As := [.ref q_p1, .int n2, .int n5]) (rest := []) C (tX0_isOuter l D k q_this q_way q_seen q_p1 q_p1_marks c_length c_cameOut c_longest c_p1_size c_p1_full c_p1_turns c_p1_firstFull c_p1_lastFull c_p1_marks n2 n5 v1 h1) cv_X0_46 ⟨⟨by decide, by decide⟩, rfl, rfl⟩ 0 rfl rfl [0, 3, 4] rfl rfl rfl rfl (Nat.le_of_ble_eq_true rfl) ⟨Nat.zero_le _, Nat.zero_le _⟩ dX0_seeWalks_27 (fun hb1 => ?_)
        refine ww_if_ne (pc := 30) (tgt := 36) C dX0_seeWalks_30 (by decide) (fun hc => ?_) (fun hc => ?_)
        · have hf := ifF hc hf
          refine ww_aload_n (pc := 36) C dX0_seeWalks_36 rfl 0 rfl ?_
          refine ww_aload_n (pc := 37) C dX0_seeWalks_37 rfl 1 rfl ?_
          refine ww_iload_n (pc := 38) C dX0_seeWalks_38 rfl 2 rfl ?_
          refine ww_aload_n (pc := 39) C dX0_seeWalks_39 rfl 1 rfl ?_
          refine ww_iload_n (pc := 40) C dX0_seeWalks_40 rfl 2 rfl ?_
          refine ww_iload (pc := 41) C dX0_seeWalks_41 5 rfl ?_
          obtain ⟨v2, h2, hf⟩ := bsome hf
          refine ww_callVi0 (pc := 43) (As := [.int n2, .int n5]) (rest := [.int n2, .ref q_p1, .ref q_this]) C (tX1_sideCell l D k q_p1 q_p1_marks c_p1_size c_p1_full c_p1_turns c_p1_firstFull c_p1_lastFull n2 n5 v2 h2) cv_X0_39 ⟨⟨by decide, by decide⟩, rfl, rfl⟩ 3 rfl rfl [3] rfl rfl rfl rfl (Nat.le_of_ble_eq_true rfl) ⟨Nat.zero_le _, Nat.zero_le _⟩ dX0_seeWalks_43 (fun hb2 => ?_)
          refine ww_aload_n (pc := 46) C dX0_seeWalks_46 rfl 0 rfl ?_
          refine ww_iload_n (pc := 47) C dX0_seeWalks_47 rfl 2 rfl ?_
          obtain ⟨v3, h3, hf⟩ := bsome hf
          refine ww_callVi0 (pc := 48) (As := [.int n2]) (rest := [.int v2, .int n2, .ref q_p1, .ref q_this]) C (tX0_sideEdge l D k q_this q_way q_seen c_length c_cameOut c_longest n2 v3 h3) cv_X0_42 ⟨⟨by decide, by decide⟩, rfl, rfl⟩ 0 rfl rfl [0] rfl rfl rfl rfl (Nat.le_of_ble_eq_true rfl) ⟨Nat.zero_le _, Nat.zero_le _⟩ dX0_seeWalks_48 (fun hb3 => ?_)
          obtain ⟨v4, v5, v6, h4, hf⟩ := bd3_some hf
          refine ww_callVv (pc := 51) (ws' := [oX0 q_this q_way q_seen v5 v4 c_longest, aI k q_seen 512 c_seen, aI k q_way 512 v6, oX1 q_p1 q_p1_marks c_p1_size c_p1_full c_p1_turns c_p1_firstFull c_p1_lastFull, aI k q_p1_marks 153 c_p1_marks]) (As := [.ref q_p1, .int n2, .int v2, .int v3]) (rest := []) C (tX0_follow l D k q_this q_way q_seen q_p1 q_p1_marks c_length c_cameOut c_longest c_way c_p1_size c_p1_full c_p1_turns c_p1_firstFull c_p1_lastFull c_p1_marks n2 v2 v3 v4 v5 v6 h4) cv_X0_57 ⟨⟨by decide, by decide⟩, rfl, rfl⟩ 0 rfl rfl [0, 2, 3, 4] rfl rfl rfl rfl rfl rfl (Nat.le_of_ble_eq_true rfl) ⟨Nat.zero_le _, Nat.zero_le _⟩ dX0_seeWalks_51 ?_
          refine ww_aload_n (pc := 54) C dX0_seeWalks_54 rfl 0 rfl ?_
          refine ww_iload_n (pc := 55) C dX0_seeWalks_55 rfl 2 rfl ?_
          obtain ⟨v7, h7, hf⟩ := bsome hf
          refine ww_callVv (pc := 56) (ws' := [oX0 q_this q_way q_seen v5 v4 c_longest, aI k q_seen 512 v7, aI k q_way 512 v6, oX1 q_p1 q_p1_marks c_p1_size c_p1_full c_p1_turns c_p1_firstFull c_p1_lastFull, aI k q_p1_marks 153 c_p1_marks]) (As := [.int n2]) (rest := []) C (tX0_seeWay l D k q_this q_way q_seen v5 v4 c_longest c_seen v6 n2 v7 h7) cv_X0_84 ⟨⟨by decide, by decide⟩, rfl, rfl⟩ 0 rfl rfl [0, 1, 2] rfl rfl rfl rfl rfl rfl (Nat.le_of_ble_eq_true rfl) ⟨Nat.zero_le _, Nat.zero_le _⟩ dX0_seeWalks_56 ?_
          refine ww_aload_n (pc := 59) C dX0_seeWalks_59 rfl 0 rfl ?_
          refine gf0_2 (pc := 60) C kf_X0_18 0 rfl rfl dX0_seeWalks_60 ?_
          refine ww_aload_n (pc := 63) C dX0_seeWalks_63 rfl 0 rfl ?_
          refine gf0_4 (pc := 64) C kf_X0_26 0 rfl rfl dX0_seeWalks_64 ?_
          refine ww_icmp_le (pc := 67) (tgt := 81) C dX0_seeWalks_67 (by decide) (fun hc => ?_) (fun hc => ?_)
          · have hf := ifT hc hf
            exact hJ81 v4 v5 c_longest v7 v6 n2 n3 n4 n5 hf
          · have hf := ifF hc hf
            refine ww_aload_n (pc := 70) C dX0_seeWalks_70 rfl 0 rfl ?_
            refine ww_aload_n (pc := 71) C dX0_seeWalks_71 rfl 0 rfl ?_
            refine gf0_2 (pc := 72) C kf_X0_18 0 rfl rfl dX0_seeWalks_72 ?_
            refine pf0_4 (pc := 75) (ws' := [oX0 q_this q_way q_seen v5 v4 v5, aI k q_seen 512 v7, aI k q_way 512 v6, oX1 q_p1 q_p1_marks c_p1_size c_p1_full c_p1_turns c_p1_firstFull c_p1_lastFull, aI k q_p1_marks 153 c_p1_marks]) C kf_X0_26 0 rfl (Nat.le_of_ble_eq_true rfl) rfl dX0_seeWalks_75 ?_
            refine ww_iload (pc := 78) C dX0_seeWalks_78 4 rfl ?_
            refine ww_istore_n (pc := 80) (lv' := [(3, .int n4), (0, .ref q_this), (1, .ref q_p1), (2, .int n2), (4, .int n4), (5, .int n5)]) C dX0_seeWalks_80 rfl (by decide) rfl ?_
            exact ww_lv [1, 2, 3, 0, 4, 5] rfl (hJ81 v4 v5 v5 v7 v6 n2 n4 n4 n5 hf)
        · have hf := ifT hc hf
          refine ww_goto (pc := 33) (tgt := 84) C dX0_seeWalks_33 (by decide) ?_
          obtain ⟨v8, h8, hf⟩ := bsome hf
          refine ww_iincN (pc := 84) (lv' := [(5, .int v8), (0, .ref q_this), (1, .ref q_p1), (2, .int n2), (3, .int n3), (4, .int n4)]) (j := 5) C dX0_seeWalks_84 kI_1 rfl h8 (by decide) rfl ?_
          refine ww_goto (pc := 87) (tgt := 13) C dX0_seeWalks_87 (by decide) ?_
          exact ww_lv [1, 2, 3, 4, 5, 0] rfl (ih13 c_cameOut c_length c_longest c_seen c_way n2 n3 n4 v8 hf)
  unfold fX0_seeWalks at hf
  refine ww_iconst (pc := 0) C dX0_seeWalks_0 kI_m1 ?_
  refine ww_istore_n (pc := 1) (lv' := [(3, .int (-1 : Int32)), (0, .ref q_this), (1, .ref q_p1), (2, .int x2)]) C dX0_seeWalks_1 rfl (by decide) rfl ?_
  refine ww_iconst (pc := 2) C dX0_seeWalks_2 kI_0 ?_
  refine ww_istore (pc := 3) (lv' := [(4, .int (0 : Int32)), (3, .int (-1 : Int32)), (0, .ref q_this), (1, .ref q_p1), (2, .int x2)]) C dX0_seeWalks_3 (by decide) rfl ?_
  refine ww_aload_n (pc := 5) C dX0_seeWalks_5 rfl 2 rfl ?_
  refine ww_iconst (pc := 6) C dX0_seeWalks_6 kI_0 ?_
  refine pf0_4 (pc := 7) (ws' := [oX0 q_this q_way q_seen c_length c_cameOut (0 : Int32), aI k q_seen 512 c_seen, aI k q_way 512 c_way, oX1 q_p1 q_p1_marks c_p1_size c_p1_full c_p1_turns c_p1_firstFull c_p1_lastFull, aI k q_p1_marks 153 c_p1_marks]) C kf_X0_26 0 rfl (Nat.le_of_ble_eq_true rfl) rfl dX0_seeWalks_7 ?_
  refine ww_iconst (pc := 10) C dX0_seeWalks_10 kI_0 ?_
  refine ww_istore (pc := 11) (lv' := [(5, .int (0 : Int32)), (4, .int (0 : Int32)), (3, .int (-1 : Int32)), (0, .ref q_this), (1, .ref q_p1), (2, .int x2)]) C dX0_seeWalks_11 (by decide) rfl ?_
  exact ww_lv [3, 4, 5, 2, 1, 0] rfl (hL13 FU c_cameOut c_length (0 : Int32) c_seen c_way x2 (-1 : Int32) (0 : Int32) (0 : Int32) hf)
