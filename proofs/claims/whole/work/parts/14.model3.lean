def fX8_goIn_b102 (c_outerMany : Int32) (c_now : Nat → Int32) (c_outerCell : Nat → Int32) (c_outerDoor : Nat → Int32) (rc16 : Int32 → Int32 → (Nat → Int32) → Int32 → Int32 → Int32 → Option (Int32 × Int32 × (Nat → Int32))) (c_cameOut : Int32) (c_walkedMany : Int32) (c_walked : Nat → Int32) (n3 : Int32) (n4 : Int32) (n6 : Int32) : Option (Int32 × Int32 × (Nat → Int32)) := rc16 c_cameOut c_walkedMany c_walked n3 n4 n6
def fX8_goIn_b76 (c_outerMany : Int32) (c_now : Nat → Int32) (c_outerCell : Nat → Int32) (c_outerDoor : Nat → Int32) (rc16 : Int32 → Int32 → (Nat → Int32) → Int32 → Int32 → Int32 → Option (Int32 × Int32 × (Nat → Int32))) (c_cameOut : Int32) (c_walkedMany : Int32) (c_walked : Nat → Int32) (n3 : Int32) (n6 : Int32) (n7 : Int32) (s0 : Int32) : Option (Int32 × Int32 × (Nat → Int32)) := if n6 = (-1 : Int32) then fX8_goIn_b102 c_outerMany c_now c_outerCell c_outerDoor rc16 c_cameOut c_walkedMany c_walked n3 s0 n6 else if s0 = (-1 : Int32) then (fX8_outerOf c_outerMany c_outerCell c_outerDoor n7 n6).bind fun v1 => fX8_goIn_b102 c_outerMany c_now c_outerCell c_outerDoor rc16 v1 c_walkedMany c_walked n3 s0 n6 else fX8_goIn_b102 c_outerMany c_now c_outerCell c_outerDoor rc16 c_cameOut c_walkedMany c_walked n3 s0 n6
def fX8_goIn_b16 (c_outerMany : Int32) (c_now : Nat → Int32) (c_outerCell : Nat → Int32) (c_outerDoor : Nat → Int32) (rc16 : Int32 → Int32 → (Nat → Int32) → Int32 → Int32 → Int32 → Option (Int32 × Int32 × (Nat → Int32))) (c_cameOut : Int32) (c_walkedMany : Int32) (c_walked : Nat → Int32) (n3 : Int32) (n4 : Int32) (n5 : Int32) : Option (Int32 × Int32 × (Nat → Int32)) := if n4 = (-1 : Int32) then some (c_cameOut, c_walkedMany, c_walked) else (ast 512 c_walkedMany c_walked n4).bind fun v1 => (some (c_walkedMany + (1 : Int32))).bind fun v2 => (fX8_otherDoor c_now n4 n5 n3).bind fun v3 => if v3 = (-1 : Int32) then fX8_goIn_b76 c_outerMany c_now c_outerCell c_outerDoor rc16 c_cameOut v2 v1 n3 v3 n4 (-1 : Int32) else (fX8_beyond c_now n4 v3).bind fun v4 => fX8_goIn_b76 c_outerMany c_now c_outerCell c_outerDoor rc16 c_cameOut v2 v1 n3 v3 n4 v4
def fX8_goIn (c_outerMany : Int32) (c_now : Nat → Int32) (c_outerCell : Nat → Int32) (c_outerDoor : Nat → Int32) (c_cameOut : Int32) (c_walkedMany : Int32) (c_walked : Nat → Int32) (x1 : Int32) (x2 : Int32) (x3 : Int32) : Option (Int32 × Int32 × (Nat → Int32)) := lfix (fX8_goIn_b16 c_outerMany c_now c_outerCell c_outerDoor) (fun _ _ _ _ _ _ => none) FU (-1 : Int32) (0 : Int32) c_walked x3 x1 x2
set_option maxHeartbeats 4000000 in
set_option maxRecDepth 100000 in
theorem tX8_goIn (l : Launch) (D : va_G) (k : Nat → ClassId) (q_this q_now q_text q_row q_read q_outerCell q_outerDoor q_walked q_onWalks q_far q_aside q_wasFull q_undos q_was q_kept q_isKept : Nat) (c_typed : Int32) (c_rowMany : Int32) (c_thrown : Int32) (c_length : Int32) (c_at : Int32) (c_wrong : Int32) (c_outerMany : Int32) (c_walkedMany : Int32) (c_cameOut : Int32) (c_undoMany : Int32) (c_drawn : Int32) (c_now : Nat → Int32) (c_outerCell : Nat → Int32) (c_outerDoor : Nat → Int32) (c_walked : Nat → Int32) (x1 : Int32) (x2 : Int32) (x3 : Int32) (w_cameOut : Int32) (w_walkedMany : Int32) (w_walked : Nat → Int32) (hf : fX8_goIn c_outerMany c_now c_outerCell c_outerDoor c_cameOut c_walkedMany c_walked x1 x2 x3 = some (w_cameOut, w_walkedMany, w_walked)) : MV l yX8_goIn cX8_goIn 8 (RM 6 137) D k [.ref q_this, .int x1, .int x2, .int x3] [oX8 q_this q_now q_text c_typed q_row c_rowMany c_thrown c_length c_at c_wrong q_read q_outerCell q_outerDoor c_outerMany q_walked c_walkedMany c_cameOut q_onWalks q_far q_aside q_wasFull q_undos q_was c_undoMany c_drawn q_kept q_isKept, aI k q_now 189 c_now, aI k q_outerCell 16 c_outerCell, aI k q_outerDoor 16 c_outerDoor, aI k q_walked 512 c_walked] [oX8 q_this q_now q_text c_typed q_row c_rowMany c_thrown c_length c_at c_wrong q_read q_outerCell q_outerDoor c_outerMany q_walked w_walkedMany w_cameOut q_onWalks q_far q_aside q_wasFull q_undos q_was c_undoMany c_drawn q_kept q_isKept, aI k q_now 189 c_now, aI k q_outerCell 16 c_outerCell, aI k q_outerDoor 16 c_outerDoor, aI k q_walked 512 w_walked] := by
  refine mkMV' (own := "DoorWalkModel") (by decide) rfl (Nat.le_of_ble_eq_true rfl) ?_
  intro p e s m args below meth c Q A hret C
  refine ww_lv (lv' := [(0, .ref q_this), (1, .int x1), (2, .int x2), (3, .int x3)]) [0, 1, 2, 3] rfl ?_
  have hL16 : ∀ (n : Nat) (c_cameOut : Int32) (c_walkedMany : Int32) (c_walked : Nat → Int32) (n3 : Int32) (n4 : Int32) (n5 : Int32), lfix (fX8_goIn_b16 c_outerMany c_now c_outerCell c_outerDoor) (fun _ _ _ _ _ _ => none) n c_cameOut c_walkedMany c_walked n3 n4 n5 = some (w_cameOut, w_walkedMany, w_walked) → WW p l e (RM 6 137) s m args below meth c Q 8 D A 0 0 [oX8 q_this q_now q_text c_typed q_row c_rowMany c_thrown c_length c_at c_wrong q_read q_outerCell q_outerDoor c_outerMany q_walked c_walkedMany c_cameOut q_onWalks q_far q_aside q_wasFull q_undos q_was c_undoMany c_drawn q_kept q_isKept, aI k q_now 189 c_now, aI k q_outerCell 16 c_outerCell, aI k q_outerDoor 16 c_outerDoor, aI k q_walked 512 c_walked] [(0, .ref q_this), (3, .int n3), (4, .int n4), (5, .int n5)] 16 [] := by
    intro n
    induction n with
    | zero => intro c_cameOut c_walkedMany c_walked n3 n4 n5 hf; cases hf
    | succ n ih16 =>
      obtain ⟨rc16, hrc16⟩ : ∃ f9, f9 = lfix (fX8_goIn_b16 c_outerMany c_now c_outerCell c_outerDoor) (fun _ _ _ _ _ _ => none) n := ⟨_, rfl⟩
      rw [← hrc16] at ih16
      have hJ102 : ∀ (c_cameOut : Int32) (c_walkedMany : Int32) (c_walked : Nat → Int32) (n3 : Int32) (n4 : Int32) (n6 : Int32), fX8_goIn_b102 c_outerMany c_now c_outerCell c_outerDoor rc16 c_cameOut c_walkedMany c_walked n3 n4 n6 = some (w_cameOut, w_walkedMany, w_walked) → WW p l e (RM 6 137) s m args below meth c Q 8 D A 0 0 [oX8 q_this q_now q_text c_typed q_row c_rowMany c_thrown c_length c_at c_wrong q_read q_outerCell q_outerDoor c_outerMany q_walked c_walkedMany c_cameOut q_onWalks q_far q_aside q_wasFull q_undos q_was c_undoMany c_drawn q_kept q_isKept, aI k q_now 189 c_now, aI k q_outerCell 16 c_outerCell, aI k q_outerDoor 16 c_outerDoor, aI k q_walked 512 c_walked] [(0, .ref q_this), (3, .int n3), (4, .int n4), (6, .int n6)] 102 [] := by
        intro c_cameOut c_walkedMany c_walked n3 n4 n6
        intro hf
        unfold fX8_goIn_b102 at hf
        refine ww_iload (pc := 102) C dX8_goIn_102 3 rfl ?_
        refine ww_istore (pc := 104) (lv' := [(5, .int n6), (0, .ref q_this), (3, .int n3), (4, .int n4), (6, .int n6)]) C dX8_goIn_104 (by decide) rfl ?_
        refine ww_goto (pc := 106) (tgt := 16) C dX8_goIn_106 (by decide) ?_
        exact ww_lv [1, 2, 3, 0] rfl (ih16 c_cameOut c_walkedMany c_walked n3 n4 n6 hf)
      have hJ76 : ∀ (c_cameOut : Int32) (c_walkedMany : Int32) (c_walked : Nat → Int32) (n3 : Int32) (n6 : Int32) (n7 : Int32) (s0 : Int32), fX8_goIn_b76 c_outerMany c_now c_outerCell c_outerDoor rc16 c_cameOut c_walkedMany c_walked n3 n6 n7 s0 = some (w_cameOut, w_walkedMany, w_walked) → WW p l e (RM 6 137) s m args below meth c Q 8 D A 0 0 [oX8 q_this q_now q_text c_typed q_row c_rowMany c_thrown c_length c_at c_wrong q_read q_outerCell q_outerDoor c_outerMany q_walked c_walkedMany c_cameOut q_onWalks q_far q_aside q_wasFull q_undos q_was c_undoMany c_drawn q_kept q_isKept, aI k q_now 189 c_now, aI k q_outerCell 16 c_outerCell, aI k q_outerDoor 16 c_outerDoor, aI k q_walked 512 c_walked] [(0, .ref q_this), (3, .int n3), (6, .int n6), (7, .int n7)] 76 [.int s0] := by
        intro c_cameOut c_walkedMany c_walked n3 n6 n7 s0
        intro hf
        unfold fX8_goIn_b76 at hf
        refine ww_istore (pc := 76) (lv' := [(4, .int s0), (0, .ref q_this), (3, .int n3), (6, .int n6), (7, .int n7)]) C dX8_goIn_76 (by decide) rfl ?_
        refine ww_iload (pc := 78) C dX8_goIn_78 3 rfl ?_
        refine ww_iconst (pc := 80) C dX8_goIn_80 kI_m1 ?_
        refine ww_icmp_eq (pc := 81) (tgt := 102) C dX8_goIn_81 (by decide) (fun hc => ?_) (fun hc => ?_)
        · have hf := ifT hc hf
          exact ww_lv [1, 2, 0, 3] rfl (hJ102 c_cameOut c_walkedMany c_walked n3 s0 n6 hf)
        · have hf := ifF hc hf
          refine ww_iload (pc := 84) C dX8_goIn_84 0 rfl ?_
          refine ww_iconst (pc := 86) C dX8_goIn_86 kI_m1 ?_
          refine ww_icmp_ne (pc := 87) (tgt := 102) C dX8_goIn_87 (by decide) (fun hc => ?_) (fun hc => ?_)
          · have hf := ifF hc hf
            exact ww_lv [1, 2, 0, 3] rfl (hJ102 c_cameOut c_walkedMany c_walked n3 s0 n6 hf)
          · have hf := ifT hc hf
            refine ww_aload_n (pc := 90) C dX8_goIn_90 rfl 1 rfl ?_
            refine ww_aload_n (pc := 91) C dX8_goIn_91 rfl 1 rfl ?_
            refine ww_iload (pc := 92) C dX8_goIn_92 4 rfl ?_
            refine ww_iload (pc := 94) C dX8_goIn_94 3 rfl ?_
            obtain ⟨v1, h1, hf⟩ := bsome hf
            refine ww_callVi0 (pc := 96) (As := [.int n7, .int n6]) (rest := [.ref q_this]) C (tX8_outerOf l D k q_this q_now q_text q_row q_read q_outerCell q_outerDoor q_walked q_onWalks q_far q_aside q_wasFull q_undos q_was q_kept q_isKept c_typed c_rowMany c_thrown c_length c_at c_wrong c_outerMany c_walkedMany c_cameOut c_undoMany c_drawn c_outerCell c_outerDoor n7 n6 v1 h1) cv_X8_265 ⟨⟨by decide, by decide⟩, rfl, rfl⟩ 0 rfl rfl [0, 2, 3] rfl rfl rfl rfl (Nat.le_of_ble_eq_true rfl) ⟨Nat.zero_le _, Nat.zero_le _⟩ dX8_goIn_96 (fun hb1 => ?_)
            refine pf8_15 (pc := 99) (ws' := [oX8 q_this q_now q_text c_typed q_row c_rowMany c_thrown c_length c_at c_wrong q_read q_outerCell q_outerDoor c_outerMany q_walked c_walkedMany v1 q_onWalks q_far q_aside q_wasFull q_undos q_was c_undoMany c_drawn q_kept q_isKept, aI k q_now 189 c_now, aI k q_outerCell 16 c_outerCell, aI k q_outerDoor 16 c_outerDoor, aI k q_walked 512 c_walked]) C kf_X8_256 0 rfl (Nat.le_of_ble_eq_true rfl) rfl dX8_goIn_99 ?_
            exact ww_lv [1, 2, 0, 3] rfl (hJ102 v1 c_walkedMany c_walked n3 s0 n6 hf)
      intro c_cameOut c_walkedMany c_walked n3 n4 n5 hf
      have hf : fX8_goIn_b16 c_outerMany c_now c_outerCell c_outerDoor rc16 c_cameOut c_walkedMany c_walked n3 n4 n5 = some (w_cameOut, w_walkedMany, w_walked) := by rw [hrc16]; exact hf
      unfold fX8_goIn_b16 at hf
      refine ww_iload (pc := 16) C dX8_goIn_16 2 rfl ?_
      refine ww_iconst (pc := 18) C dX8_goIn_18 kI_m1 ?_
      refine ww_icmp_eq (pc := 19) (tgt := 109) C dX8_goIn_19 (by decide) (fun hc => ?_) (fun hc => ?_)
      · have hf := ifT hc hf
        obtain ⟨e0, e1, e2⟩ := ij3 hf
        exact hret _ _ 109 dX8_goIn_109 (by rw [← e0, ← e1, ← e2])
      · have hf := ifF hc hf
        refine ww_aload_n (pc := 22) C dX8_goIn_22 rfl 0 rfl ?_
        refine gf8_13 (pc := 23) C kf_X8_30 0 rfl rfl dX8_goIn_23 ?_
        refine ww_aload_n (pc := 26) C dX8_goIn_26 rfl 0 rfl ?_
        refine gf8_14 (pc := 27) C kf_X8_253 0 rfl rfl dX8_goIn_27 ?_
        refine ww_iload (pc := 30) C dX8_goIn_30 2 rfl ?_
        obtain ⟨v1, h1, hf⟩ := bsome hf
        refine ww_iast (pc := 32) (ws' := [oX8 q_this q_now q_text c_typed q_row c_rowMany c_thrown c_length c_at c_wrong q_read q_outerCell q_outerDoor c_outerMany q_walked c_walkedMany c_cameOut q_onWalks q_far q_aside q_wasFull q_undos q_was c_undoMany c_drawn q_kept q_isKept, aI k q_now 189 c_now, aI k q_outerCell 16 c_outerCell, aI k q_outerDoor 16 c_outerDoor, aI k q_walked 512 v1]) C 4 rfl h1 rfl dX8_goIn_32 ?_
        refine ww_aload_n (pc := 33) C dX8_goIn_33 rfl 0 rfl ?_
        refine ww_dup (pc := 34) C dX8_goIn_34 rfl ?_
        refine gf8_14 (pc := 35) C kf_X8_253 0 rfl rfl dX8_goIn_35 ?_
        refine ww_iconst (pc := 38) C dX8_goIn_38 kI_1 ?_
        refine ww_iadd (pc := 39) C dX8_goIn_39  ?_
        obtain ⟨v2, h2, hf⟩ := bsome hf
        refine ww_nmi h2 ?_
        refine pf8_14 (pc := 40) (ws' := [oX8 q_this q_now q_text c_typed q_row c_rowMany c_thrown c_length c_at c_wrong q_read q_outerCell q_outerDoor c_outerMany q_walked v2 c_cameOut q_onWalks q_far q_aside q_wasFull q_undos q_was c_undoMany c_drawn q_kept q_isKept, aI k q_now 189 c_now, aI k q_outerCell 16 c_outerCell, aI k q_outerDoor 16 c_outerDoor, aI k q_walked 512 v1]) C kf_X8_253 0 rfl (Nat.le_of_ble_eq_true rfl) rfl dX8_goIn_40 ?_
        refine ww_aload_n (pc := 43) C dX8_goIn_43 rfl 0 rfl ?_
        refine ww_iload (pc := 44) C dX8_goIn_44 2 rfl ?_
        refine ww_iload (pc := 46) C dX8_goIn_46 3 rfl ?_
        refine ww_iload_n (pc := 48) C dX8_goIn_48 rfl 1 rfl ?_
        obtain ⟨v3, h3, hf⟩ := bsome hf
        refine ww_callVi0 (pc := 49) (As := [.int n4, .int n5, .int n3]) (rest := []) C (tX8_otherDoor l D k q_this q_now q_text q_row q_read q_outerCell q_outerDoor q_walked q_onWalks q_far q_aside q_wasFull q_undos q_was q_kept q_isKept c_typed c_rowMany c_thrown c_length c_at c_wrong c_outerMany v2 c_cameOut c_undoMany c_drawn c_now n4 n5 n3 v3 h3) cv_X8_259 ⟨⟨by decide, by decide⟩, rfl, rfl⟩ 0 rfl rfl [0, 1] rfl rfl rfl rfl (Nat.le_of_ble_eq_true rfl) ⟨Nat.zero_le _, Nat.zero_le _⟩ dX8_goIn_49 (fun hb3 => ?_)
        refine ww_istore (pc := 52) (lv' := [(6, .int v3), (0, .ref q_this), (3, .int n3), (4, .int n4), (5, .int n5)]) C dX8_goIn_52 (by decide) rfl ?_
        refine ww_iload (pc := 54) C dX8_goIn_54 3 rfl ?_
        refine ww_istore (pc := 56) (lv' := [(7, .int n4), (6, .int v3), (0, .ref q_this), (3, .int n3), (4, .int n4), (5, .int n5)]) C dX8_goIn_56 (by decide) rfl ?_
        refine ww_iload (pc := 58) C dX8_goIn_58 1 rfl ?_
        refine ww_iconst (pc := 60) C dX8_goIn_60 kI_m1 ?_
        refine ww_icmp_ne (pc := 61) (tgt := 68) C dX8_goIn_61 (by decide) (fun hc => ?_) (fun hc => ?_)
        · have hf := ifF hc hf
          refine ww_aload_n (pc := 68) C dX8_goIn_68 rfl 2 rfl ?_
          refine ww_iload (pc := 69) C dX8_goIn_69 4 rfl ?_
          refine ww_iload (pc := 71) C dX8_goIn_71 1 rfl ?_
          obtain ⟨v4, h4, hf⟩ := bsome hf
          refine ww_callVi0 (pc := 73) (As := [.int n4, .int v3]) (rest := []) C (tX8_beyond l D k q_this q_now q_text q_row q_read q_outerCell q_outerDoor q_walked q_onWalks q_far q_aside q_wasFull q_undos q_was q_kept q_isKept c_typed c_rowMany c_thrown c_length c_at c_wrong c_outerMany v2 c_cameOut c_undoMany c_drawn c_now n4 v3 v4 h4) cv_X8_262 ⟨⟨by decide, by decide⟩, rfl, rfl⟩ 0 rfl rfl [0, 1] rfl rfl rfl rfl (Nat.le_of_ble_eq_true rfl) ⟨Nat.zero_le _, Nat.zero_le _⟩ dX8_goIn_73 (fun hb4 => ?_)
          exact ww_lv [2, 3, 1, 0] rfl (hJ76 c_cameOut v2 v1 n3 v3 n4 v4 hf)
        · have hf := ifT hc hf
          refine ww_iconst (pc := 64) C dX8_goIn_64 kI_m1 ?_
          refine ww_goto (pc := 65) (tgt := 76) C dX8_goIn_65 (by decide) ?_
          exact ww_lv [2, 3, 1, 0] rfl (hJ76 c_cameOut v2 v1 n3 v3 n4 (-1 : Int32) hf)
  unfold fX8_goIn at hf
  refine ww_aload_n (pc := 0) C dX8_goIn_0 rfl 0 rfl ?_
  refine ww_iconst (pc := 1) C dX8_goIn_1 kI_0 ?_
  refine pf8_14 (pc := 2) (ws' := [oX8 q_this q_now q_text c_typed q_row c_rowMany c_thrown c_length c_at c_wrong q_read q_outerCell q_outerDoor c_outerMany q_walked (0 : Int32) c_cameOut q_onWalks q_far q_aside q_wasFull q_undos q_was c_undoMany c_drawn q_kept q_isKept, aI k q_now 189 c_now, aI k q_outerCell 16 c_outerCell, aI k q_outerDoor 16 c_outerDoor, aI k q_walked 512 c_walked]) C kf_X8_253 0 rfl (Nat.le_of_ble_eq_true rfl) rfl dX8_goIn_2 ?_
  refine ww_aload_n (pc := 5) C dX8_goIn_5 rfl 0 rfl ?_
  refine ww_iconst (pc := 6) C dX8_goIn_6 kI_m1 ?_
  refine pf8_15 (pc := 7) (ws' := [oX8 q_this q_now q_text c_typed q_row c_rowMany c_thrown c_length c_at c_wrong q_read q_outerCell q_outerDoor c_outerMany q_walked (0 : Int32) (-1 : Int32) q_onWalks q_far q_aside q_wasFull q_undos q_was c_undoMany c_drawn q_kept q_isKept, aI k q_now 189 c_now, aI k q_outerCell 16 c_outerCell, aI k q_outerDoor 16 c_outerDoor, aI k q_walked 512 c_walked]) C kf_X8_256 0 rfl (Nat.le_of_ble_eq_true rfl) rfl dX8_goIn_7 ?_
  refine ww_iload_n (pc := 10) C dX8_goIn_10 rfl 1 rfl ?_
  refine ww_istore (pc := 11) (lv' := [(4, .int x1), (0, .ref q_this), (1, .int x1), (2, .int x2), (3, .int x3)]) C dX8_goIn_11 (by decide) rfl ?_
  refine ww_iload_n (pc := 13) C dX8_goIn_13 rfl 3 rfl ?_
  refine ww_istore (pc := 14) (lv' := [(5, .int x2), (4, .int x1), (0, .ref q_this), (1, .int x1), (2, .int x2), (3, .int x3)]) C dX8_goIn_14 (by decide) rfl ?_
  exact ww_lv [2, 5, 1, 0] rfl (hL16 FU (-1 : Int32) (0 : Int32) c_walked x3 x1 x2 hf)
def fX8_goWalk (c_now : Nat → Int32) (c_cameOut : Int32) (c_outerMany : Int32) (c_walkedMany : Int32) (c_outerCell : Nat → Int32) (c_outerDoor : Nat → Int32) (c_walked : Nat → Int32) (x1 : Int32) (x2 : Int32) : Option (Int32 × Int32 × Int32 × Int32 × (Nat → Int32) × (Nat → Int32) × (Nat → Int32)) := (fX8_isKind x1).bind fun v1 => if v1 = 0 then some ((0 : Int32), c_cameOut, c_outerMany, c_walkedMany, c_outerCell, c_outerDoor, c_walked) else bd3 (fX8_layOuter c_now c_outerMany c_outerCell c_outerDoor x1) fun v2 v3 v4 => (fX8_in x2 (0 : Int32) (v2 - (1 : Int32))).bind fun v5 => if v5 = 0 then some ((0 : Int32), c_cameOut, v2, c_walkedMany, v3, v4, c_walked) else (ald 16 x2 v3).bind fun v6 => (ald 16 x2 v4).bind fun v7 => bd3 (fX8_goIn v2 c_now v3 v4 c_cameOut c_walkedMany c_walked v6 v7 x1) fun v8 v9 v10 => some ((1 : Int32), v8, v2, v9, v3, v4, v10)
set_option maxHeartbeats 4000000 in
set_option maxRecDepth 100000 in
theorem tX8_goWalk (l : Launch) (D : va_G) (k : Nat → ClassId) (q_this q_now q_text q_row q_read q_outerCell q_outerDoor q_walked q_onWalks q_far q_aside q_wasFull q_undos q_was q_kept q_isKept : Nat) (c_typed : Int32) (c_rowMany : Int32) (c_thrown : Int32) (c_length : Int32) (c_at : Int32) (c_wrong : Int32) (c_outerMany : Int32) (c_walkedMany : Int32) (c_cameOut : Int32) (c_undoMany : Int32) (c_drawn : Int32) (c_now : Nat → Int32) (c_outerCell : Nat → Int32) (c_outerDoor : Nat → Int32) (c_walked : Nat → Int32) (x1 : Int32) (x2 : Int32) (r_ : Int32) (w_cameOut : Int32) (w_outerMany : Int32) (w_walkedMany : Int32) (w_outerCell : Nat → Int32) (w_outerDoor : Nat → Int32) (w_walked : Nat → Int32) (hf : fX8_goWalk c_now c_cameOut c_outerMany c_walkedMany c_outerCell c_outerDoor c_walked x1 x2 = some (r_, w_cameOut, w_outerMany, w_walkedMany, w_outerCell, w_outerDoor, w_walked)) : MI l yX8_goWalk cX8_goWalk 3 .boolean (RM 7 164) D k [.ref q_this, .int x1, .int x2] [oX8 q_this q_now q_text c_typed q_row c_rowMany c_thrown c_length c_at c_wrong q_read q_outerCell q_outerDoor c_outerMany q_walked c_walkedMany c_cameOut q_onWalks q_far q_aside q_wasFull q_undos q_was c_undoMany c_drawn q_kept q_isKept, aI k q_now 189 c_now, aI k q_outerCell 16 c_outerCell, aI k q_outerDoor 16 c_outerDoor, aI k q_walked 512 c_walked] r_ [oX8 q_this q_now q_text c_typed q_row c_rowMany c_thrown c_length c_at c_wrong q_read q_outerCell q_outerDoor w_outerMany q_walked w_walkedMany w_cameOut q_onWalks q_far q_aside q_wasFull q_undos q_was c_undoMany c_drawn q_kept q_isKept, aI k q_now 189 c_now, aI k q_outerCell 16 w_outerCell, aI k q_outerDoor 16 w_outerDoor, aI k q_walked 512 w_walked] := by
  refine mkMI' (own := "DoorWalkModel") (by decide) rfl (Nat.le_of_ble_eq_true rfl) ?_
  intro p e s m args below meth c Q A hret C
  refine ww_lv (lv' := [(0, .ref q_this), (1, .int x1), (2, .int x2)]) [0, 1, 2] rfl ?_
  unfold fX8_goWalk at hf
  refine ww_iload_n (pc := 0) C dX8_goWalk_0 rfl 1 rfl ?_
  obtain ⟨v1, h1, hf⟩ := bsome hf
  refine ww_callSi0 (pc := 1) (As := [.int x1]) (rest := []) C (tX8_isKind l D k x1 v1 h1) cs_X8_244 ⟨⟨by decide, by decide⟩, rfl, rfl⟩ [] rfl rfl rfl rfl (Nat.le_of_ble_eq_true rfl) ⟨Nat.zero_le _, Nat.zero_le _⟩ dX8_goWalk_1 (fun hb1 => ?_)
  refine ww_if_ne (pc := 4) (tgt := 9) C dX8_goWalk_4 (by decide) (fun hc => ?_) (fun hc => ?_)
  · have hf := ifF hc hf
    refine ww_aload_n (pc := 9) C dX8_goWalk_9 rfl 0 rfl ?_
    refine ww_iload_n (pc := 10) C dX8_goWalk_10 rfl 1 rfl ?_
    obtain ⟨v2, v3, v4, h2, hf⟩ := bd3_some hf
    refine ww_callVv (pc := 11) (ws' := [oX8 q_this q_now q_text c_typed q_row c_rowMany c_thrown c_length c_at c_wrong q_read q_outerCell q_outerDoor v2 q_walked c_walkedMany c_cameOut q_onWalks q_far q_aside q_wasFull q_undos q_was c_undoMany c_drawn q_kept q_isKept, aI k q_now 189 c_now, aI k q_outerCell 16 v3, aI k q_outerDoor 16 v4, aI k q_walked 512 c_walked]) (As := [.int x1]) (rest := []) C (tX8_layOuter l D k q_this q_now q_text q_row q_read q_outerCell q_outerDoor q_walked q_onWalks q_far q_aside q_wasFull q_undos q_was q_kept q_isKept c_typed c_rowMany c_thrown c_length c_at c_wrong c_outerMany c_walkedMany c_cameOut c_undoMany c_drawn c_now c_outerCell c_outerDoor x1 v2 v3 v4 h2) cv_X8_247 ⟨⟨by decide, by decide⟩, rfl, rfl⟩ 0 rfl rfl [0, 1, 2, 3] rfl rfl rfl rfl rfl rfl (Nat.le_of_ble_eq_true rfl) ⟨Nat.zero_le _, Nat.zero_le _⟩ dX8_goWalk_11 ?_
    refine ww_iload_n (pc := 14) C dX8_goWalk_14 rfl 2 rfl ?_
    refine ww_iconst (pc := 15) C dX8_goWalk_15 kI_0 ?_
    refine ww_aload_n (pc := 16) C dX8_goWalk_16 rfl 0 rfl ?_
    refine gf8_12 (pc := 17) C kf_X8_241 0 rfl rfl dX8_goWalk_17 ?_
    refine ww_iconst (pc := 20) C dX8_goWalk_20 kI_1 ?_
    refine ww_isub (pc := 21) C dX8_goWalk_21  ?_
    obtain ⟨v5, h5, hf⟩ := bsome hf
    refine ww_callSi0 (pc := 22) (As := [.int x2, .int (0 : Int32), .int (v2 - (1 : Int32))]) (rest := []) C (tX8_in l D k x2 (0 : Int32) (v2 - (1 : Int32)) v5 h5) cs_X8_72 ⟨⟨by decide, by decide⟩, rfl, rfl⟩ [] rfl rfl rfl rfl (Nat.le_of_ble_eq_true rfl) ⟨Nat.zero_le _, Nat.zero_le _⟩ dX8_goWalk_22 (fun hb5 => ?_)
    refine ww_if_ne (pc := 25) (tgt := 30) C dX8_goWalk_25 (by decide) (fun hc => ?_) (fun hc => ?_)
    · have hf := ifF hc hf
      refine ww_aload_n (pc := 30) C dX8_goWalk_30 rfl 0 rfl ?_
      refine ww_aload_n (pc := 31) C dX8_goWalk_31 rfl 0 rfl ?_
      refine gf8_10 (pc := 32) C kf_X8_24 0 rfl rfl dX8_goWalk_32 ?_
      refine ww_iload_n (pc := 35) C dX8_goWalk_35 rfl 2 rfl ?_
      obtain ⟨v6, h6, hf⟩ := bsome hf
      refine ww_iald (pc := 36) C 2 rfl h6 dX8_goWalk_36 ?_
      refine ww_aload_n (pc := 37) C dX8_goWalk_37 rfl 0 rfl ?_
      refine gf8_11 (pc := 38) C kf_X8_27 0 rfl rfl dX8_goWalk_38 ?_
      refine ww_iload_n (pc := 41) C dX8_goWalk_41 rfl 2 rfl ?_
      obtain ⟨v7, h7, hf⟩ := bsome hf
      refine ww_iald (pc := 42) C 3 rfl h7 dX8_goWalk_42 ?_
      refine ww_iload_n (pc := 43) C dX8_goWalk_43 rfl 1 rfl ?_
      obtain ⟨v8, v9, v10, h8, hf⟩ := bd3_some hf
      refine ww_callVv (pc := 44) (ws' := [oX8 q_this q_now q_text c_typed q_row c_rowMany c_thrown c_length c_at c_wrong q_read q_outerCell q_outerDoor v2 q_walked v9 v8 q_onWalks q_far q_aside q_wasFull q_undos q_was c_undoMany c_drawn q_kept q_isKept, aI k q_now 189 c_now, aI k q_outerCell 16 v3, aI k q_outerDoor 16 v4, aI k q_walked 512 v10]) (As := [.int v6, .int v7, .int x1]) (rest := []) C (tX8_goIn l D k q_this q_now q_text q_row q_read q_outerCell q_outerDoor q_walked q_onWalks q_far q_aside q_wasFull q_undos q_was q_kept q_isKept c_typed c_rowMany c_thrown c_length c_at c_wrong v2 c_walkedMany c_cameOut c_undoMany c_drawn c_now v3 v4 c_walked v6 v7 x1 v8 v9 v10 h8) cv_X8_268 ⟨⟨by decide, by decide⟩, rfl, rfl⟩ 0 rfl rfl [0, 1, 2, 3, 4] rfl rfl rfl rfl rfl rfl (Nat.le_of_ble_eq_true rfl) ⟨Nat.zero_le _, Nat.zero_le _⟩ dX8_goWalk_44 ?_
      refine ww_iconst (pc := 47) C dX8_goWalk_47 kI_1 ?_
      obtain ⟨e0, e1, e2, e3, e4, e5, e6⟩ := ij7 hf
      exact hret _ _ 48 _ dX8_goWalk_48 (by decide) e0 (by rw [← e1, ← e2, ← e3, ← e4, ← e5, ← e6])
    · have hf := ifT hc hf
      refine ww_iconst (pc := 28) C dX8_goWalk_28 kI_0 ?_
      obtain ⟨e0, e1, e2, e3, e4, e5, e6⟩ := ij7 hf
      exact hret _ _ 29 _ dX8_goWalk_29 (by decide) e0 (by rw [← e1, ← e2, ← e3, ← e4, ← e5, ← e6])
  · have hf := ifT hc hf
    refine ww_iconst (pc := 7) C dX8_goWalk_7 kI_0 ?_
    obtain ⟨e0, e1, e2, e3, e4, e5, e6⟩ := ij7 hf
    exact hret _ _ 8 _ dX8_goWalk_8 (by decide) e0 (by rw [← e1, ← e2, ← e3, ← e4, ← e5, ← e6])
def fX8_walk_b61 (c_now : Nat → Int32) (c_cameOut : Int32) (c_outerMany : Int32) (c_rowMany : Int32) (c_thrown : Int32) (c_walkedMany : Int32) (c_outerCell : Nat → Int32) (c_outerDoor : Nat → Int32) (c_row : Nat → Int64) (c_walked : Nat → Int32) (s1 : Int64) : Option (Int32 × Int32 × Int32 × Int32 × Int32 × Int32 × (Nat → Int32) × (Nat → Int32) × (Nat → Int64) × (Nat → Int32)) := bd2 (fX8_tell c_rowMany c_row s1) fun v1 v2 => bd2 (fX8_tell v1 v2 ((c_cameOut).toInt64)) fun v3 v4 => some (c_walkedMany, c_cameOut, c_outerMany, v3, c_thrown, c_walkedMany, c_outerCell, c_outerDoor, v4, c_walked)
def fX8_walk (c_now : Nat → Int32) (c_cameOut : Int32) (c_outerMany : Int32) (c_rowMany : Int32) (c_thrown : Int32) (c_walkedMany : Int32) (c_outerCell : Nat → Int32) (c_outerDoor : Nat → Int32) (c_row : Nat → Int64) (c_walked : Nat → Int32) (x1 : Int32) (x2 : Int32) : Option (Int32 × Int32 × Int32 × Int32 × Int32 × Int32 × (Nat → Int32) × (Nat → Int32) × (Nat → Int64) × (Nat → Int32)) := bd7 (fX8_goWalk c_now c_cameOut c_outerMany c_walkedMany c_outerCell c_outerDoor c_walked x1 x2) fun v1 v2 v3 v4 v5 v6 v7 => if v1 = 0 then some ((-1 : Int32), v2, v3, c_rowMany, (0 : Int32), v4, v5, v6, c_row, v7) else (ald 512 (v4 - (1 : Int32)) v7).bind fun v8 => bd2 (fX8_tell (0 : Int32) c_row ((v8).toInt64)) fun v9 v10 => (ald 512 (v4 - (1 : Int32)) v7).bind fun v11 => (fX8_isFull c_now v11).bind fun v12 => if v12 = 0 then fX8_walk_b61 c_now v2 v3 v9 (0 : Int32) v4 v5 v6 v10 v7 (0 : Int64) else fX8_walk_b61 c_now v2 v3 v9 (0 : Int32) v4 v5 v6 v10 v7 (1 : Int64)
set_option maxHeartbeats 4000000 in
set_option maxRecDepth 100000 in
theorem tX8_walk (l : Launch) (D : va_G) (k : Nat → ClassId) (q_this q_now q_text q_row q_read q_outerCell q_outerDoor q_walked q_onWalks q_far q_aside q_wasFull q_undos q_was q_kept q_isKept : Nat) (c_typed : Int32) (c_rowMany : Int32) (c_thrown : Int32) (c_length : Int32) (c_at : Int32) (c_wrong : Int32) (c_outerMany : Int32) (c_walkedMany : Int32) (c_cameOut : Int32) (c_undoMany : Int32) (c_drawn : Int32) (c_now : Nat → Int32) (c_outerCell : Nat → Int32) (c_outerDoor : Nat → Int32) (c_row : Nat → Int64) (c_walked : Nat → Int32) (x1 : Int32) (x2 : Int32) (r_ : Int32) (w_cameOut : Int32) (w_outerMany : Int32) (w_rowMany : Int32) (w_thrown : Int32) (w_walkedMany : Int32) (w_outerCell : Nat → Int32) (w_outerDoor : Nat → Int32) (w_row : Nat → Int64) (w_walked : Nat → Int32) (hf : fX8_walk c_now c_cameOut c_outerMany c_rowMany c_thrown c_walkedMany c_outerCell c_outerDoor c_row c_walked x1 x2 = some (r_, w_cameOut, w_outerMany, w_rowMany, w_thrown, w_walkedMany, w_outerCell, w_outerDoor, w_row, w_walked)) : MI l yX8_walk cX8_walk 3 .int (RM 8 186) D k [.ref q_this, .int x1, .int x2] [oX8 q_this q_now q_text c_typed q_row c_rowMany c_thrown c_length c_at c_wrong q_read q_outerCell q_outerDoor c_outerMany q_walked c_walkedMany c_cameOut q_onWalks q_far q_aside q_wasFull q_undos q_was c_undoMany c_drawn q_kept q_isKept, aI k q_now 189 c_now, aI k q_outerCell 16 c_outerCell, aI k q_outerDoor 16 c_outerDoor, aJ k q_row 64 c_row, aI k q_walked 512 c_walked] r_ [oX8 q_this q_now q_text c_typed q_row w_rowMany w_thrown c_length c_at c_wrong q_read q_outerCell q_outerDoor w_outerMany q_walked w_walkedMany w_cameOut q_onWalks q_far q_aside q_wasFull q_undos q_was c_undoMany c_drawn q_kept q_isKept, aI k q_now 189 c_now, aI k q_outerCell 16 w_outerCell, aI k q_outerDoor 16 w_outerDoor, aJ k q_row 64 w_row, aI k q_walked 512 w_walked] := by
  refine mkMI' (own := "DoorWalkModel") (by decide) rfl (Nat.le_of_ble_eq_true rfl) ?_
  intro p e s m args below meth c Q A hret C
  refine ww_lv (lv' := [(0, .ref q_this), (1, .int x1), (2, .int x2)]) [0, 1, 2] rfl ?_
  have hJ61 : ∀ (c_cameOut : Int32) (c_outerMany : Int32) (c_rowMany : Int32) (c_thrown : Int32) (c_walkedMany : Int32) (c_outerCell : Nat → Int32) (c_outerDoor : Nat → Int32) (c_row : Nat → Int64) (c_walked : Nat → Int32) (s1 : Int64), fX8_walk_b61 c_now c_cameOut c_outerMany c_rowMany c_thrown c_walkedMany c_outerCell c_outerDoor c_row c_walked s1 = some (r_, w_cameOut, w_outerMany, w_rowMany, w_thrown, w_walkedMany, w_outerCell, w_outerDoor, w_row, w_walked) → WW p l e (RM 8 186) s m args below meth c Q 3 D A 0 0 [oX8 q_this q_now q_text c_typed q_row c_rowMany c_thrown c_length c_at c_wrong q_read q_outerCell q_outerDoor c_outerMany q_walked c_walkedMany c_cameOut q_onWalks q_far q_aside q_wasFull q_undos q_was c_undoMany c_drawn q_kept q_isKept, aI k q_now 189 c_now, aI k q_outerCell 16 c_outerCell, aI k q_outerDoor 16 c_outerDoor, aJ k q_row 64 c_row, aI k q_walked 512 c_walked] [(0, .ref q_this)] 61 [.long s1, .ref q_this] := by
    intro c_cameOut c_outerMany c_rowMany c_thrown c_walkedMany c_outerCell c_outerDoor c_row c_walked s1
    intro hf
    unfold fX8_walk_b61 at hf
    obtain ⟨v1, v2, h1, hf⟩ := bd2_some hf
    refine ww_callVv (pc := 61) (ws' := [oX8 q_this q_now q_text c_typed q_row v1 c_thrown c_length c_at c_wrong q_read q_outerCell q_outerDoor c_outerMany q_walked c_walkedMany c_cameOut q_onWalks q_far q_aside q_wasFull q_undos q_was c_undoMany c_drawn q_kept q_isKept, aI k q_now 189 c_now, aI k q_outerCell 16 c_outerCell, aI k q_outerDoor 16 c_outerDoor, aJ k q_row 64 v2, aI k q_walked 512 c_walked]) (As := [.long s1]) (rest := []) C (tX8_tell l D k q_this q_now q_text q_row q_read q_outerCell q_outerDoor q_walked q_onWalks q_far q_aside q_wasFull q_undos q_was q_kept q_isKept c_typed c_rowMany c_thrown c_length c_at c_wrong c_outerMany c_walkedMany c_cameOut c_undoMany c_drawn c_row s1 v1 v2 h1) cv_X8_182 ⟨⟨by decide, by decide⟩, rfl, rfl⟩ 0 rfl rfl [0, 4] rfl rfl rfl rfl rfl rfl (Nat.le_of_ble_eq_true rfl) ⟨Nat.zero_le _, Nat.zero_le _⟩ dX8_walk_61 ?_
    refine ww_aload_n (pc := 64) C dX8_walk_64 rfl 0 rfl ?_
    refine ww_aload_n (pc := 65) C dX8_walk_65 rfl 0 rfl ?_
    refine gf8_15 (pc := 66) C kf_X8_256 0 rfl rfl dX8_walk_66 ?_
    refine ww_i2l (pc := 69) C dX8_walk_69  ?_
    obtain ⟨v3, v4, h3, hf⟩ := bd2_some hf
    refine ww_callVv (pc := 70) (ws' := [oX8 q_this q_now q_text c_typed q_row v3 c_thrown c_length c_at c_wrong q_read q_outerCell q_outerDoor c_outerMany q_walked c_walkedMany c_cameOut q_onWalks q_far q_aside q_wasFull q_undos q_was c_undoMany c_drawn q_kept q_isKept, aI k q_now 189 c_now, aI k q_outerCell 16 c_outerCell, aI k q_outerDoor 16 c_outerDoor, aJ k q_row 64 v4, aI k q_walked 512 c_walked]) (As := [.long ((c_cameOut).toInt64)]) (rest := []) C (tX8_tell l D k q_this q_now q_text q_row q_read q_outerCell q_outerDoor q_walked q_onWalks q_far q_aside q_wasFull q_undos q_was q_kept q_isKept c_typed v1 c_thrown c_length c_at c_wrong c_outerMany c_walkedMany c_cameOut c_undoMany c_drawn v2 ((c_cameOut).toInt64) v3 v4 h3) cv_X8_182 ⟨⟨by decide, by decide⟩, rfl, rfl⟩ 0 rfl rfl [0, 4] rfl rfl rfl rfl rfl rfl (Nat.le_of_ble_eq_true rfl) ⟨Nat.zero_le _, Nat.zero_le _⟩ dX8_walk_70 ?_
    refine ww_aload_n (pc := 73) C dX8_walk_73 rfl 0 rfl ?_
    refine gf8_14 (pc := 74) C kf_X8_253 0 rfl rfl dX8_walk_74 ?_
    obtain ⟨e0, e1, e2, e3, e4, e5, e6, e7, e8, e9⟩ := ij10 hf
    exact hret _ _ 77 _ dX8_walk_77 rfl e0 (by rw [← e1, ← e2, ← e3, ← e4, ← e5, ← e6, ← e7, ← e8, ← e9])
  unfold fX8_walk at hf
  refine ww_aload_n (pc := 0) C dX8_walk_0 rfl 0 rfl ?_
  refine ww_iconst (pc := 1) C dX8_walk_1 kI_0 ?_
  refine pf8_5 (pc := 2) (ws' := [oX8 q_this q_now q_text c_typed q_row c_rowMany (0 : Int32) c_length c_at c_wrong q_read q_outerCell q_outerDoor c_outerMany q_walked c_walkedMany c_cameOut q_onWalks q_far q_aside q_wasFull q_undos q_was c_undoMany c_drawn q_kept q_isKept, aI k q_now 189 c_now, aI k q_outerCell 16 c_outerCell, aI k q_outerDoor 16 c_outerDoor, aJ k q_row 64 c_row, aI k q_walked 512 c_walked]) C kf_X8_61 0 rfl (Nat.le_of_ble_eq_true rfl) rfl dX8_walk_2 ?_
  refine ww_aload_n (pc := 5) C dX8_walk_5 rfl 0 rfl ?_
  refine ww_iload_n (pc := 6) C dX8_walk_6 rfl 1 rfl ?_
  refine ww_iload_n (pc := 7) C dX8_walk_7 rfl 2 rfl ?_
  obtain ⟨v1, v2, v3, v4, v5, v6, v7, h1, hf⟩ := bd7_some hf
  refine ww_callVi (pc := 8) (ws' := [oX8 q_this q_now q_text c_typed q_row c_rowMany (0 : Int32) c_length c_at c_wrong q_read q_outerCell q_outerDoor v3 q_walked v4 v2 q_onWalks q_far q_aside q_wasFull q_undos q_was c_undoMany c_drawn q_kept q_isKept, aI k q_now 189 c_now, aI k q_outerCell 16 v5, aI k q_outerDoor 16 v6, aJ k q_row 64 c_row, aI k q_walked 512 v7]) (As := [.int x1, .int x2]) (rest := []) C (tX8_goWalk l D k q_this q_now q_text q_row q_read q_outerCell q_outerDoor q_walked q_onWalks q_far q_aside q_wasFull q_undos q_was q_kept q_isKept c_typed c_rowMany (0 : Int32) c_length c_at c_wrong c_outerMany c_walkedMany c_cameOut c_undoMany c_drawn c_now c_outerCell c_outerDoor c_walked x1 x2 v1 v2 v3 v4 v5 v6 v7 h1) cv_X8_272 ⟨⟨by decide, by decide⟩, rfl, rfl⟩ 0 rfl rfl [0, 1, 2, 3, 5] rfl rfl rfl rfl rfl rfl (Nat.le_of_ble_eq_true rfl) ⟨Nat.zero_le _, Nat.zero_le _⟩ dX8_walk_8 (fun hb1 => ?_)
  refine ww_if_ne (pc := 11) (tgt := 16) C dX8_walk_11 (by decide) (fun hc => ?_) (fun hc => ?_)
  · have hf := ifF hc hf
    refine ww_aload_n (pc := 16) C dX8_walk_16 rfl 0 rfl ?_
    refine ww_iconst (pc := 17) C dX8_walk_17 kI_0 ?_
    refine pf8_4 (pc := 18) (ws' := [oX8 q_this q_now q_text c_typed q_row (0 : Int32) (0 : Int32) c_length c_at c_wrong q_read q_outerCell q_outerDoor v3 q_walked v4 v2 q_onWalks q_far q_aside q_wasFull q_undos q_was c_undoMany c_drawn q_kept q_isKept, aI k q_now 189 c_now, aI k q_outerCell 16 v5, aI k q_outerDoor 16 v6, aJ k q_row 64 c_row, aI k q_walked 512 v7]) C kf_X8_65 0 rfl (Nat.le_of_ble_eq_true rfl) rfl dX8_walk_18 ?_
    refine ww_aload_n (pc := 21) C dX8_walk_21 rfl 0 rfl ?_
    refine ww_aload_n (pc := 22) C dX8_walk_22 rfl 0 rfl ?_
    refine gf8_13 (pc := 23) C kf_X8_30 0 rfl rfl dX8_walk_23 ?_
    refine ww_aload_n (pc := 26) C dX8_walk_26 rfl 0 rfl ?_
    refine gf8_14 (pc := 27) C kf_X8_253 0 rfl rfl dX8_walk_27 ?_
    refine ww_iconst (pc := 30) C dX8_walk_30 kI_1 ?_
    refine ww_isub (pc := 31) C dX8_walk_31  ?_
    obtain ⟨v8, h8, hf⟩ := bsome hf
    refine ww_iald (pc := 32) C 5 rfl h8 dX8_walk_32 ?_
    refine ww_i2l (pc := 33) C dX8_walk_33  ?_
    obtain ⟨v9, v10, h9, hf⟩ := bd2_some hf
    refine ww_callVv (pc := 34) (ws' := [oX8 q_this q_now q_text c_typed q_row v9 (0 : Int32) c_length c_at c_wrong q_read q_outerCell q_outerDoor v3 q_walked v4 v2 q_onWalks q_far q_aside q_wasFull q_undos q_was c_undoMany c_drawn q_kept q_isKept, aI k q_now 189 c_now, aI k q_outerCell 16 v5, aI k q_outerDoor 16 v6, aJ k q_row 64 v10, aI k q_walked 512 v7]) (As := [.long ((v8).toInt64)]) (rest := []) C (tX8_tell l D k q_this q_now q_text q_row q_read q_outerCell q_outerDoor q_walked q_onWalks q_far q_aside q_wasFull q_undos q_was q_kept q_isKept c_typed (0 : Int32) (0 : Int32) c_length c_at c_wrong v3 v4 v2 c_undoMany c_drawn c_row ((v8).toInt64) v9 v10 h9) cv_X8_182 ⟨⟨by decide, by decide⟩, rfl, rfl⟩ 0 rfl rfl [0, 4] rfl rfl rfl rfl rfl rfl (Nat.le_of_ble_eq_true rfl) ⟨Nat.zero_le _, Nat.zero_le _⟩ dX8_walk_34 ?_
    refine ww_aload_n (pc := 37) C dX8_walk_37 rfl 0 rfl ?_
    refine ww_aload_n (pc := 38) C dX8_walk_38 rfl 0 rfl ?_
    refine ww_aload_n (pc := 39) C dX8_walk_39 rfl 0 rfl ?_
    refine gf8_13 (pc := 40) C kf_X8_30 0 rfl rfl dX8_walk_40 ?_
    refine ww_aload_n (pc := 43) C dX8_walk_43 rfl 0 rfl ?_
    refine gf8_14 (pc := 44) C kf_X8_253 0 rfl rfl dX8_walk_44 ?_
    refine ww_iconst (pc := 47) C dX8_walk_47 kI_1 ?_
    refine ww_isub (pc := 48) C dX8_walk_48  ?_
    obtain ⟨v11, h11, hf⟩ := bsome hf
    refine ww_iald (pc := 49) C 5 rfl h11 dX8_walk_49 ?_
    obtain ⟨v12, h12, hf⟩ := bsome hf
    refine ww_callVi0 (pc := 50) (As := [.int v11]) (rest := [.ref q_this]) C (tX8_isFull l D k q_this q_now q_text q_row q_read q_outerCell q_outerDoor q_walked q_onWalks q_far q_aside q_wasFull q_undos q_was q_kept q_isKept c_typed v9 (0 : Int32) c_length c_at c_wrong v3 v4 v2 c_undoMany c_drawn c_now v11 v12 h12) cv_X8_206 ⟨⟨by decide, by decide⟩, rfl, rfl⟩ 0 rfl rfl [0, 1] rfl rfl rfl rfl (Nat.le_of_ble_eq_true rfl) ⟨Nat.zero_le _, Nat.zero_le _⟩ dX8_walk_50 (fun hb12 => ?_)
    refine ww_if_eq (pc := 53) (tgt := 60) C dX8_walk_53 (by decide) (fun hc => ?_) (fun hc => ?_)
    · have hf := ifT hc hf
      refine ww_lconst (pc := 60) C dX8_walk_60 kL_0 ?_
      exact ww_lv [0] rfl (hJ61 v2 v3 v9 (0 : Int32) v4 v5 v6 v10 v7 (0 : Int64) hf)
    · have hf := ifF hc hf
      refine ww_lconst (pc := 56) C dX8_walk_56 kL_1 ?_
      refine ww_goto (pc := 57) (tgt := 61) C dX8_walk_57 (by decide) ?_
      exact ww_lv [0] rfl (hJ61 v2 v3 v9 (0 : Int32) v4 v5 v6 v10 v7 (1 : Int64) hf)
  · have hf := ifT hc hf
    refine ww_iconst (pc := 14) C dX8_walk_14 kI_m1 ?_
    obtain ⟨e0, e1, e2, e3, e4, e5, e6, e7, e8, e9⟩ := ij10 hf
    exact hret _ _ 15 _ dX8_walk_15 rfl e0 (by rw [← e1, ← e2, ← e3, ← e4, ← e5, ← e6, ← e7, ← e8, ← e9])
def fX8_step_b37 (c_now : Nat → Int32) (c_cameOut : Int32) (c_outerMany : Int32) (c_thrown : Int32) (c_walkedMany : Int32) (c_outerCell : Nat → Int32) (c_outerDoor : Nat → Int32) (c_walked : Nat → Int32) : Option (Int32 × Int32 × Int32 × Int32 × Int32 × (Nat → Int32) × (Nat → Int32) × (Nat → Int32)) := bd2 (fX8_lost c_thrown) fun v1 v2 => some (v1, c_cameOut, c_outerMany, v2, c_walkedMany, c_outerCell, c_outerDoor, c_walked)
def fX8_step (c_now : Nat → Int32) (c_cameOut : Int32) (c_outerMany : Int32) (c_thrown : Int32) (c_walkedMany : Int32) (c_outerCell : Nat → Int32) (c_outerDoor : Nat → Int32) (c_walked : Nat → Int32) (x1 : Int32) (x2 : Int32) (x3 : Int32) : Option (Int32 × Int32 × Int32 × Int32 × Int32 × (Nat → Int32) × (Nat → Int32) × (Nat → Int32)) := bd7 (fX8_goWalk c_now c_cameOut c_outerMany c_walkedMany c_outerCell c_outerDoor c_walked x1 x2) fun v1 v2 v3 v4 v5 v6 v7 => if v1 = 0 then fX8_step_b37 c_now v2 v3 (0 : Int32) v4 v5 v6 v7 else (fX8_in x3 (0 : Int32) (v4 - (1 : Int32))).bind fun v8 => if v8 = 0 then fX8_step_b37 c_now v2 v3 (0 : Int32) v4 v5 v6 v7 else (ald 512 x3 v7).bind fun v9 => some (v9, v2, v3, (0 : Int32), v4, v5, v6, v7)
set_option maxHeartbeats 4000000 in
set_option maxRecDepth 100000 in
theorem tX8_step (l : Launch) (D : va_G) (k : Nat → ClassId) (q_this q_now q_text q_row q_read q_outerCell q_outerDoor q_walked q_onWalks q_far q_aside q_wasFull q_undos q_was q_kept q_isKept : Nat) (c_typed : Int32) (c_rowMany : Int32) (c_thrown : Int32) (c_length : Int32) (c_at : Int32) (c_wrong : Int32) (c_outerMany : Int32) (c_walkedMany : Int32) (c_cameOut : Int32) (c_undoMany : Int32) (c_drawn : Int32) (c_now : Nat → Int32) (c_outerCell : Nat → Int32) (c_outerDoor : Nat → Int32) (c_walked : Nat → Int32) (x1 : Int32) (x2 : Int32) (x3 : Int32) (r_ : Int32) (w_cameOut : Int32) (w_outerMany : Int32) (w_thrown : Int32) (w_walkedMany : Int32) (w_outerCell : Nat → Int32) (w_outerDoor : Nat → Int32) (w_walked : Nat → Int32) (hf : fX8_step c_now c_cameOut c_outerMany c_thrown c_walkedMany c_outerCell c_outerDoor c_walked x1 x2 x3 = some (r_, w_cameOut, w_outerMany, w_thrown, w_walkedMany, w_outerCell, w_outerDoor, w_walked)) : MI l yX8_step cX8_step 4 .int (RM 8 186) D k [.ref q_this, .int x1, .int x2, .int x3] [oX8 q_this q_now q_text c_typed q_row c_rowMany c_thrown c_length c_at c_wrong q_read q_outerCell q_outerDoor c_outerMany q_walked c_walkedMany c_cameOut q_onWalks q_far q_aside q_wasFull q_undos q_was c_undoMany c_drawn q_kept q_isKept, aI k q_now 189 c_now, aI k q_outerCell 16 c_outerCell, aI k q_outerDoor 16 c_outerDoor, aI k q_walked 512 c_walked] r_ [oX8 q_this q_now q_text c_typed q_row c_rowMany w_thrown c_length c_at c_wrong q_read q_outerCell q_outerDoor w_outerMany q_walked w_walkedMany w_cameOut q_onWalks q_far q_aside q_wasFull q_undos q_was c_undoMany c_drawn q_kept q_isKept, aI k q_now 189 c_now, aI k q_outerCell 16 w_outerCell, aI k q_outerDoor 16 w_outerDoor, aI k q_walked 512 w_walked] := by
  refine mkMI' (own := "DoorWalkModel") (by decide) rfl (Nat.le_of_ble_eq_true rfl) ?_
  intro p e s m args below meth c Q A hret C
  refine ww_lv (lv' := [(0, .ref q_this), (1, .int x1), (2, .int x2), (3, .int x3)]) [0, 1, 2, 3] rfl ?_
  have hJ37 : ∀ (c_cameOut : Int32) (c_outerMany : Int32) (c_thrown : Int32) (c_walkedMany : Int32) (c_outerCell : Nat → Int32) (c_outerDoor : Nat → Int32) (c_walked : Nat → Int32), fX8_step_b37 c_now c_cameOut c_outerMany c_thrown c_walkedMany c_outerCell c_outerDoor c_walked = some (r_, w_cameOut, w_outerMany, w_thrown, w_walkedMany, w_outerCell, w_outerDoor, w_walked) → WW p l e (RM 8 186) s m args below meth c Q 4 D A 0 0 [oX8 q_this q_now q_text c_typed q_row c_rowMany c_thrown c_length c_at c_wrong q_read q_outerCell q_outerDoor c_outerMany q_walked c_walkedMany c_cameOut q_onWalks q_far q_aside q_wasFull q_undos q_was c_undoMany c_drawn q_kept q_isKept, aI k q_now 189 c_now, aI k q_outerCell 16 c_outerCell, aI k q_outerDoor 16 c_outerDoor, aI k q_walked 512 c_walked] [(0, .ref q_this)] 37 [] := by
    intro c_cameOut c_outerMany c_thrown c_walkedMany c_outerCell c_outerDoor c_walked
    intro hf
    unfold fX8_step_b37 at hf
    refine ww_aload_n (pc := 37) C dX8_step_37 rfl 0 rfl ?_
    obtain ⟨v1, v2, h1, hf⟩ := bd2_some hf
    refine ww_callVi (pc := 38) (ws' := [oX8 q_this q_now q_text c_typed q_row c_rowMany v2 c_length c_at c_wrong q_read q_outerCell q_outerDoor c_outerMany q_walked c_walkedMany c_cameOut q_onWalks q_far q_aside q_wasFull q_undos q_was c_undoMany c_drawn q_kept q_isKept, aI k q_now 189 c_now, aI k q_outerCell 16 c_outerCell, aI k q_outerDoor 16 c_outerDoor, aI k q_walked 512 c_walked]) (As := []) (rest := []) C (tX8_lost l D k q_this q_now q_text q_row q_read q_outerCell q_outerDoor q_walked q_onWalks q_far q_aside q_wasFull q_undos q_was q_kept q_isKept c_typed c_rowMany c_thrown c_length c_at c_wrong c_outerMany c_walkedMany c_cameOut c_undoMany c_drawn v1 v2 h1) cv_X8_223 ⟨⟨by decide, by decide⟩, rfl, rfl⟩ 0 rfl rfl [0] rfl rfl rfl rfl rfl rfl (Nat.le_of_ble_eq_true rfl) ⟨Nat.zero_le _, Nat.zero_le _⟩ dX8_step_38 (fun hb1 => ?_)
    obtain ⟨e0, e1, e2, e3, e4, e5, e6, e7⟩ := ij8 hf
    exact hret _ _ 41 _ dX8_step_41 rfl e0 (by rw [← e1, ← e2, ← e3, ← e4, ← e5, ← e6, ← e7])
  unfold fX8_step at hf
  refine ww_aload_n (pc := 0) C dX8_step_0 rfl 0 rfl ?_
  refine ww_iconst (pc := 1) C dX8_step_1 kI_0 ?_
  refine pf8_5 (pc := 2) (ws' := [oX8 q_this q_now q_text c_typed q_row c_rowMany (0 : Int32) c_length c_at c_wrong q_read q_outerCell q_outerDoor c_outerMany q_walked c_walkedMany c_cameOut q_onWalks q_far q_aside q_wasFull q_undos q_was c_undoMany c_drawn q_kept q_isKept, aI k q_now 189 c_now, aI k q_outerCell 16 c_outerCell, aI k q_outerDoor 16 c_outerDoor, aI k q_walked 512 c_walked]) C kf_X8_61 0 rfl (Nat.le_of_ble_eq_true rfl) rfl dX8_step_2 ?_
  refine ww_aload_n (pc := 5) C dX8_step_5 rfl 0 rfl ?_
  refine ww_iload_n (pc := 6) C dX8_step_6 rfl 1 rfl ?_
  refine ww_iload_n (pc := 7) C dX8_step_7 rfl 2 rfl ?_
  obtain ⟨v1, v2, v3, v4, v5, v6, v7, h1, hf⟩ := bd7_some hf
  refine ww_callVi (pc := 8) (ws' := [oX8 q_this q_now q_text c_typed q_row c_rowMany (0 : Int32) c_length c_at c_wrong q_read q_outerCell q_outerDoor v3 q_walked v4 v2 q_onWalks q_far q_aside q_wasFull q_undos q_was c_undoMany c_drawn q_kept q_isKept, aI k q_now 189 c_now, aI k q_outerCell 16 v5, aI k q_outerDoor 16 v6, aI k q_walked 512 v7]) (As := [.int x1, .int x2]) (rest := []) C (tX8_goWalk l D k q_this q_now q_text q_row q_read q_outerCell q_outerDoor q_walked q_onWalks q_far q_aside q_wasFull q_undos q_was q_kept q_isKept c_typed c_rowMany (0 : Int32) c_length c_at c_wrong c_outerMany c_walkedMany c_cameOut c_undoMany c_drawn c_now c_outerCell c_outerDoor c_walked x1 x2 v1 v2 v3 v4 v5 v6 v7 h1) cv_X8_272 ⟨⟨by decide, by decide⟩, rfl, rfl⟩ 0 rfl rfl [0, 1, 2, 3, 4] rfl rfl rfl rfl rfl rfl (Nat.le_of_ble_eq_true rfl) ⟨Nat.zero_le _, Nat.zero_le _⟩ dX8_step_8 (fun hb1 => ?_)
  refine ww_if_eq (pc := 11) (tgt := 37) C dX8_step_11 (by decide) (fun hc => ?_) (fun hc => ?_)
  · have hf := ifT hc hf
    exact ww_lv [0] rfl (hJ37 v2 v3 (0 : Int32) v4 v5 v6 v7 hf)
  · have hf := ifF hc hf
    refine ww_iload_n (pc := 14) C dX8_step_14 rfl 3 rfl ?_
    refine ww_iconst (pc := 15) C dX8_step_15 kI_0 ?_
    refine ww_aload_n (pc := 16) C dX8_step_16 rfl 0 rfl ?_
    refine gf8_14 (pc := 17) C kf_X8_253 0 rfl rfl dX8_step_17 ?_
    refine ww_iconst (pc := 20) C dX8_step_20 kI_1 ?_
    refine ww_isub (pc := 21) C dX8_step_21  ?_
    obtain ⟨v8, h8, hf⟩ := bsome hf
    refine ww_callSi0 (pc := 22) (As := [.int x3, .int (0 : Int32), .int (v4 - (1 : Int32))]) (rest := []) C (tX8_in l D k x3 (0 : Int32) (v4 - (1 : Int32)) v8 h8) cs_X8_72 ⟨⟨by decide, by decide⟩, rfl, rfl⟩ [] rfl rfl rfl rfl (Nat.le_of_ble_eq_true rfl) ⟨Nat.zero_le _, Nat.zero_le _⟩ dX8_step_22 (fun hb8 => ?_)
    refine ww_if_eq (pc := 25) (tgt := 37) C dX8_step_25 (by decide) (fun hc => ?_) (fun hc => ?_)
    · have hf := ifT hc hf
      exact ww_lv [0] rfl (hJ37 v2 v3 (0 : Int32) v4 v5 v6 v7 hf)
    · have hf := ifF hc hf
      refine ww_aload_n (pc := 28) C dX8_step_28 rfl 0 rfl ?_
      refine gf8_13 (pc := 29) C kf_X8_30 0 rfl rfl dX8_step_29 ?_
      refine ww_iload_n (pc := 32) C dX8_step_32 rfl 3 rfl ?_
      obtain ⟨v9, h9, hf⟩ := bsome hf
      refine ww_iald (pc := 33) C 4 rfl h9 dX8_step_33 ?_
      refine ww_goto (pc := 34) (tgt := 41) C dX8_step_34 (by decide) ?_
      obtain ⟨e0, e1, e2, e3, e4, e5, e6, e7⟩ := ij8 hf
      exact hret _ _ 41 _ dX8_step_41 rfl e0 (by rw [← e1, ← e2, ← e3, ← e4, ← e5, ← e6, ← e7])
def fX8_from (c_now : Nat → Int32) (c_cameOut : Int32) (c_outerMany : Int32) (c_rowMany : Int32) (c_thrown : Int32) (c_walkedMany : Int32) (c_outerCell : Nat → Int32) (c_outerDoor : Nat → Int32) (c_row : Nat → Int64) (c_walked : Nat → Int32) (x1 : Int32) (x2 : Int32) : Option (Int32 × Int32 × Int32 × Int32 × Int32 × Int32 × (Nat → Int32) × (Nat → Int32) × (Nat → Int64) × (Nat → Int32)) := (fX8_isCell c_now x1).bind fun v1 => if v1 = 0 then some ((-1 : Int32), c_cameOut, c_outerMany, c_rowMany, (0 : Int32), c_walkedMany, c_outerCell, c_outerDoor, c_row, c_walked) else (fX8_isKind x2).bind fun v2 => if v2 = 0 then some ((-1 : Int32), c_cameOut, c_outerMany, c_rowMany, (0 : Int32), c_walkedMany, c_outerCell, c_outerDoor, c_row, c_walked) else (fX8_isFull c_now x1).bind fun v3 => if v3 = 0 then some ((-2 : Int32), c_cameOut, c_outerMany, c_rowMany, (0 : Int32), c_walkedMany, c_outerCell, c_outerDoor, c_row, c_walked) else bd3 (fX8_layOuter c_now c_outerMany c_outerCell c_outerDoor x2) fun v4 v5 v6 => (fX8_otherDoor c_now x1 (-1 : Int32) x2).bind fun v7 => (fX8_beyond c_now x1 v7).bind fun v8 => if v8 = (-1 : Int32) then bd2 (fX8_tell (0 : Int32) c_row ((x1).toInt64)) fun v17 v18 => (fX8_outerOf v4 v5 v6 x1 v7).bind fun v19 => bd2 (fX8_tell v17 v18 ((v19).toInt64)) fun v20 v21 => some ((0 : Int32), c_cameOut, v4, v20, (0 : Int32), c_walkedMany, v5, v6, v21, c_walked) else bd3 (fX8_goIn v4 c_now v5 v6 c_cameOut c_walkedMany c_walked v8 v7 x2) fun v9 v10 v11 => (ald 512 (v10 - (1 : Int32)) v11).bind fun v12 => bd2 (fX8_tell (0 : Int32) c_row ((v12).toInt64)) fun v13 v14 => bd2 (fX8_tell v13 v14 ((v9).toInt64)) fun v15 v16 => some (v10, v9, v4, v15, (0 : Int32), v10, v5, v6, v16, v11)
set_option maxHeartbeats 4000000 in
set_option maxRecDepth 100000 in
theorem tX8_from (l : Launch) (D : va_G) (k : Nat → ClassId) (q_this q_now q_text q_row q_read q_outerCell q_outerDoor q_walked q_onWalks q_far q_aside q_wasFull q_undos q_was q_kept q_isKept : Nat) (c_typed : Int32) (c_rowMany : Int32) (c_thrown : Int32) (c_length : Int32) (c_at : Int32) (c_wrong : Int32) (c_outerMany : Int32) (c_walkedMany : Int32) (c_cameOut : Int32) (c_undoMany : Int32) (c_drawn : Int32) (c_now : Nat → Int32) (c_outerCell : Nat → Int32) (c_outerDoor : Nat → Int32) (c_row : Nat → Int64) (c_walked : Nat → Int32) (x1 : Int32) (x2 : Int32) (r_ : Int32) (w_cameOut : Int32) (w_outerMany : Int32) (w_rowMany : Int32) (w_thrown : Int32) (w_walkedMany : Int32) (w_outerCell : Nat → Int32) (w_outerDoor : Nat → Int32) (w_row : Nat → Int64) (w_walked : Nat → Int32) (hf : fX8_from c_now c_cameOut c_outerMany c_rowMany c_thrown c_walkedMany c_outerCell c_outerDoor c_row c_walked x1 x2 = some (r_, w_cameOut, w_outerMany, w_rowMany, w_thrown, w_walkedMany, w_outerCell, w_outerDoor, w_row, w_walked)) : MI l yX8_from cX8_from 5 .int (RM 7 164) D k [.ref q_this, .int x1, .int x2] [oX8 q_this q_now q_text c_typed q_row c_rowMany c_thrown c_length c_at c_wrong q_read q_outerCell q_outerDoor c_outerMany q_walked c_walkedMany c_cameOut q_onWalks q_far q_aside q_wasFull q_undos q_was c_undoMany c_drawn q_kept q_isKept, aI k q_now 189 c_now, aI k q_outerCell 16 c_outerCell, aI k q_outerDoor 16 c_outerDoor, aJ k q_row 64 c_row, aI k q_walked 512 c_walked] r_ [oX8 q_this q_now q_text c_typed q_row w_rowMany w_thrown c_length c_at c_wrong q_read q_outerCell q_outerDoor w_outerMany q_walked w_walkedMany w_cameOut q_onWalks q_far q_aside q_wasFull q_undos q_was c_undoMany c_drawn q_kept q_isKept, aI k q_now 189 c_now, aI k q_outerCell 16 w_outerCell, aI k q_outerDoor 16 w_outerDoor, aJ k q_row 64 w_row, aI k q_walked 512 w_walked] := by
  refine mkMI' (own := "DoorWalkModel") (by decide) rfl (Nat.le_of_ble_eq_true rfl) ?_
  intro p e s m args below meth c Q A hret C
  refine ww_lv (lv' := [(0, .ref q_this), (1, .int x1), (2, .int x2)]) [0, 1, 2] rfl ?_
  unfold fX8_from at hf
  refine ww_aload_n (pc := 0) C dX8_from_0 rfl 0 rfl ?_
  refine ww_iconst (pc := 1) C dX8_from_1 kI_0 ?_
  refine pf8_5 (pc := 2) (ws' := [oX8 q_this q_now q_text c_typed q_row c_rowMany (0 : Int32) c_length c_at c_wrong q_read q_outerCell q_outerDoor c_outerMany q_walked c_walkedMany c_cameOut q_onWalks q_far q_aside q_wasFull q_undos q_was c_undoMany c_drawn q_kept q_isKept, aI k q_now 189 c_now, aI k q_outerCell 16 c_outerCell, aI k q_outerDoor 16 c_outerDoor, aJ k q_row 64 c_row, aI k q_walked 512 c_walked]) C kf_X8_61 0 rfl (Nat.le_of_ble_eq_true rfl) rfl dX8_from_2 ?_
  refine ww_aload_n (pc := 5) C dX8_from_5 rfl 0 rfl ?_
  refine ww_iload_n (pc := 6) C dX8_from_6 rfl 1 rfl ?_
  obtain ⟨v1, h1, hf⟩ := bsome hf
  refine ww_callVi0 (pc := 7) (As := [.int x1]) (rest := []) C (tX8_isCell l D k q_this q_now q_text q_row q_read q_outerCell q_outerDoor q_walked q_onWalks q_far q_aside q_wasFull q_undos q_was q_kept q_isKept c_typed c_rowMany (0 : Int32) c_length c_at c_wrong c_outerMany c_walkedMany c_cameOut c_undoMany c_drawn c_now x1 v1 h1) cv_X8_213 ⟨⟨by decide, by decide⟩, rfl, rfl⟩ 0 rfl rfl [0, 1] rfl rfl rfl rfl (Nat.le_of_ble_eq_true rfl) ⟨Nat.zero_le _, Nat.zero_le _⟩ dX8_from_7 (fun hb1 => ?_)
  refine ww_if_eq (pc := 10) (tgt := 20) C dX8_from_10 (by decide) (fun hc => ?_) (fun hc => ?_)
  · have hf := ifT hc hf
    refine ww_iconst (pc := 20) C dX8_from_20 kI_m1 ?_
    obtain ⟨e0, e1, e2, e3, e4, e5, e6, e7, e8, e9⟩ := ij10 hf
    exact hret _ _ 21 _ dX8_from_21 rfl e0 (by rw [← e1, ← e2, ← e3, ← e4, ← e5, ← e6, ← e7, ← e8, ← e9])
  · have hf := ifF hc hf
    refine ww_iload_n (pc := 13) C dX8_from_13 rfl 2 rfl ?_
    obtain ⟨v2, h2, hf⟩ := bsome hf
    refine ww_callSi0 (pc := 14) (As := [.int x2]) (rest := []) C (tX8_isKind l D k x2 v2 h2) cs_X8_244 ⟨⟨by decide, by decide⟩, rfl, rfl⟩ [] rfl rfl rfl rfl (Nat.le_of_ble_eq_true rfl) ⟨Nat.zero_le _, Nat.zero_le _⟩ dX8_from_14 (fun hb2 => ?_)
    refine ww_if_ne (pc := 17) (tgt := 22) C dX8_from_17 (by decide) (fun hc => ?_) (fun hc => ?_)
    · have hf := ifF hc hf
      refine ww_aload_n (pc := 22) C dX8_from_22 rfl 0 rfl ?_
      refine ww_iload_n (pc := 23) C dX8_from_23 rfl 1 rfl ?_
      obtain ⟨v3, h3, hf⟩ := bsome hf
      refine ww_callVi0 (pc := 24) (As := [.int x1]) (rest := []) C (tX8_isFull l D k q_this q_now q_text q_row q_read q_outerCell q_outerDoor q_walked q_onWalks q_far q_aside q_wasFull q_undos q_was q_kept q_isKept c_typed c_rowMany (0 : Int32) c_length c_at c_wrong c_outerMany c_walkedMany c_cameOut c_undoMany c_drawn c_now x1 v3 h3) cv_X8_206 ⟨⟨by decide, by decide⟩, rfl, rfl⟩ 0 rfl rfl [0, 1] rfl rfl rfl rfl (Nat.le_of_ble_eq_true rfl) ⟨Nat.zero_le _, Nat.zero_le _⟩ dX8_from_24 (fun hb3 => ?_)
      refine ww_if_ne (pc := 27) (tgt := 33) C dX8_from_27 (by decide) (fun hc => ?_) (fun hc => ?_)
      · have hf := ifF hc hf
        refine ww_aload_n (pc := 33) C dX8_from_33 rfl 0 rfl ?_
        refine ww_iload_n (pc := 34) C dX8_from_34 rfl 2 rfl ?_
        obtain ⟨v4, v5, v6, h4, hf⟩ := bd3_some hf
        refine ww_callVv (pc := 35) (ws' := [oX8 q_this q_now q_text c_typed q_row c_rowMany (0 : Int32) c_length c_at c_wrong q_read q_outerCell q_outerDoor v4 q_walked c_walkedMany c_cameOut q_onWalks q_far q_aside q_wasFull q_undos q_was c_undoMany c_drawn q_kept q_isKept, aI k q_now 189 c_now, aI k q_outerCell 16 v5, aI k q_outerDoor 16 v6, aJ k q_row 64 c_row, aI k q_walked 512 c_walked]) (As := [.int x2]) (rest := []) C (tX8_layOuter l D k q_this q_now q_text q_row q_read q_outerCell q_outerDoor q_walked q_onWalks q_far q_aside q_wasFull q_undos q_was q_kept q_isKept c_typed c_rowMany (0 : Int32) c_length c_at c_wrong c_outerMany c_walkedMany c_cameOut c_undoMany c_drawn c_now c_outerCell c_outerDoor x2 v4 v5 v6 h4) cv_X8_247 ⟨⟨by decide, by decide⟩, rfl, rfl⟩ 0 rfl rfl [0, 1, 2, 3] rfl rfl rfl rfl rfl rfl (Nat.le_of_ble_eq_true rfl) ⟨Nat.zero_le _, Nat.zero_le _⟩ dX8_from_35 ?_
        refine ww_aload_n (pc := 38) C dX8_from_38 rfl 0 rfl ?_
        refine ww_iload_n (pc := 39) C dX8_from_39 rfl 1 rfl ?_
        refine ww_iconst (pc := 40) C dX8_from_40 kI_m1 ?_
        refine ww_iload_n (pc := 41) C dX8_from_41 rfl 2 rfl ?_
        obtain ⟨v7, h7, hf⟩ := bsome hf
        refine ww_callVi0 (pc := 42) (As := [.int x1, .int (-1 : Int32), .int x2]) (rest := []) C (tX8_otherDoor l D k q_this q_now q_text q_row q_read q_outerCell q_outerDoor q_walked q_onWalks q_far q_aside q_wasFull q_undos q_was q_kept q_isKept c_typed c_rowMany (0 : Int32) c_length c_at c_wrong v4 c_walkedMany c_cameOut c_undoMany c_drawn c_now x1 (-1 : Int32) x2 v7 h7) cv_X8_259 ⟨⟨by decide, by decide⟩, rfl, rfl⟩ 0 rfl rfl [0, 1] rfl rfl rfl rfl (Nat.le_of_ble_eq_true rfl) ⟨Nat.zero_le _, Nat.zero_le _⟩ dX8_from_42 (fun hb7 => ?_)
        refine ww_istore_n (pc := 45) (lv' := [(3, .int v7), (0, .ref q_this), (1, .int x1), (2, .int x2)]) C dX8_from_45 rfl (by decide) rfl ?_
        refine ww_aload_n (pc := 46) C dX8_from_46 rfl 1 rfl ?_
        refine ww_iload_n (pc := 47) C dX8_from_47 rfl 2 rfl ?_
        refine ww_iload_n (pc := 48) C dX8_from_48 rfl 0 rfl ?_
        obtain ⟨v8, h8, hf⟩ := bsome hf
        refine ww_callVi0 (pc := 49) (As := [.int x1, .int v7]) (rest := []) C (tX8_beyond l D k q_this q_now q_text q_row q_read q_outerCell q_outerDoor q_walked q_onWalks q_far q_aside q_wasFull q_undos q_was q_kept q_isKept c_typed c_rowMany (0 : Int32) c_length c_at c_wrong v4 c_walkedMany c_cameOut c_undoMany c_drawn c_now x1 v7 v8 h8) cv_X8_262 ⟨⟨by decide, by decide⟩, rfl, rfl⟩ 0 rfl rfl [0, 1] rfl rfl rfl rfl (Nat.le_of_ble_eq_true rfl) ⟨Nat.zero_le _, Nat.zero_le _⟩ dX8_from_49 (fun hb8 => ?_)
        refine ww_istore (pc := 52) (lv' := [(4, .int v8), (3, .int v7), (0, .ref q_this), (1, .int x1), (2, .int x2)]) C dX8_from_52 (by decide) rfl ?_
        refine ww_aload_n (pc := 54) C dX8_from_54 rfl 2 rfl ?_
        refine ww_iconst (pc := 55) C dX8_from_55 kI_0 ?_
        refine pf8_4 (pc := 56) (ws' := [oX8 q_this q_now q_text c_typed q_row (0 : Int32) (0 : Int32) c_length c_at c_wrong q_read q_outerCell q_outerDoor v4 q_walked c_walkedMany c_cameOut q_onWalks q_far q_aside q_wasFull q_undos q_was c_undoMany c_drawn q_kept q_isKept, aI k q_now 189 c_now, aI k q_outerCell 16 v5, aI k q_outerDoor 16 v6, aJ k q_row 64 c_row, aI k q_walked 512 c_walked]) C kf_X8_65 0 rfl (Nat.le_of_ble_eq_true rfl) rfl dX8_from_56 ?_
        refine ww_iload (pc := 59) C dX8_from_59 0 rfl ?_
        refine ww_iconst (pc := 61) C dX8_from_61 kI_m1 ?_
        refine ww_icmp_ne (pc := 62) (tgt := 84) C dX8_from_62 (by decide) (fun hc => ?_) (fun hc => ?_)
        · have hf := ifF hc hf
          refine ww_aload_n (pc := 84) C dX8_from_84 rfl 2 rfl ?_
          refine ww_iload (pc := 85) C dX8_from_85 0 rfl ?_
          refine ww_iload_n (pc := 87) C dX8_from_87 rfl 1 rfl ?_
          refine ww_iload_n (pc := 88) C dX8_from_88 rfl 4 rfl ?_
          obtain ⟨v9, v10, v11, h9, hf⟩ := bd3_some hf
          refine ww_callVv (pc := 89) (ws' := [oX8 q_this q_now q_text c_typed q_row (0 : Int32) (0 : Int32) c_length c_at c_wrong q_read q_outerCell q_outerDoor v4 q_walked v10 v9 q_onWalks q_far q_aside q_wasFull q_undos q_was c_undoMany c_drawn q_kept q_isKept, aI k q_now 189 c_now, aI k q_outerCell 16 v5, aI k q_outerDoor 16 v6, aJ k q_row 64 c_row, aI k q_walked 512 v11]) (As := [.int v8, .int v7, .int x2]) (rest := []) C (tX8_goIn l D k q_this q_now q_text q_row q_read q_outerCell q_outerDoor q_walked q_onWalks q_far q_aside q_wasFull q_undos q_was q_kept q_isKept c_typed (0 : Int32) (0 : Int32) c_length c_at c_wrong v4 c_walkedMany c_cameOut c_undoMany c_drawn c_now v5 v6 c_walked v8 v7 x2 v9 v10 v11 h9) cv_X8_268 ⟨⟨by decide, by decide⟩, rfl, rfl⟩ 0 rfl rfl [0, 1, 2, 3, 5] rfl rfl rfl rfl rfl rfl (Nat.le_of_ble_eq_true rfl) ⟨Nat.zero_le _, Nat.zero_le _⟩ dX8_from_89 ?_
          refine ww_aload_n (pc := 92) C dX8_from_92 rfl 2 rfl ?_
          refine ww_aload_n (pc := 93) C dX8_from_93 rfl 2 rfl ?_
          refine gf8_13 (pc := 94) C kf_X8_30 0 rfl rfl dX8_from_94 ?_
          refine ww_aload_n (pc := 97) C dX8_from_97 rfl 2 rfl ?_
          refine gf8_14 (pc := 98) C kf_X8_253 0 rfl rfl dX8_from_98 ?_
          refine ww_iconst (pc := 101) C dX8_from_101 kI_1 ?_
          refine ww_isub (pc := 102) C dX8_from_102  ?_
          obtain ⟨v12, h12, hf⟩ := bsome hf
          refine ww_iald (pc := 103) C 5 rfl h12 dX8_from_103 ?_
          refine ww_i2l (pc := 104) C dX8_from_104  ?_
          obtain ⟨v13, v14, h13, hf⟩ := bd2_some hf
          refine ww_callVv (pc := 105) (ws' := [oX8 q_this q_now q_text c_typed q_row v13 (0 : Int32) c_length c_at c_wrong q_read q_outerCell q_outerDoor v4 q_walked v10 v9 q_onWalks q_far q_aside q_wasFull q_undos q_was c_undoMany c_drawn q_kept q_isKept, aI k q_now 189 c_now, aI k q_outerCell 16 v5, aI k q_outerDoor 16 v6, aJ k q_row 64 v14, aI k q_walked 512 v11]) (As := [.long ((v12).toInt64)]) (rest := []) C (tX8_tell l D k q_this q_now q_text q_row q_read q_outerCell q_outerDoor q_walked q_onWalks q_far q_aside q_wasFull q_undos q_was q_kept q_isKept c_typed (0 : Int32) (0 : Int32) c_length c_at c_wrong v4 v10 v9 c_undoMany c_drawn c_row ((v12).toInt64) v13 v14 h13) cv_X8_182 ⟨⟨by decide, by decide⟩, rfl, rfl⟩ 0 rfl rfl [0, 4] rfl rfl rfl rfl rfl rfl (Nat.le_of_ble_eq_true rfl) ⟨Nat.zero_le _, Nat.zero_le _⟩ dX8_from_105 ?_
          refine ww_aload_n (pc := 108) C dX8_from_108 rfl 2 rfl ?_
          refine ww_aload_n (pc := 109) C dX8_from_109 rfl 2 rfl ?_
          refine gf8_15 (pc := 110) C kf_X8_256 0 rfl rfl dX8_from_110 ?_
          refine ww_i2l (pc := 113) C dX8_from_113  ?_
          obtain ⟨v15, v16, h15, hf⟩ := bd2_some hf
          refine ww_callVv (pc := 114) (ws' := [oX8 q_this q_now q_text c_typed q_row v15 (0 : Int32) c_length c_at c_wrong q_read q_outerCell q_outerDoor v4 q_walked v10 v9 q_onWalks q_far q_aside q_wasFull q_undos q_was c_undoMany c_drawn q_kept q_isKept, aI k q_now 189 c_now, aI k q_outerCell 16 v5, aI k q_outerDoor 16 v6, aJ k q_row 64 v16, aI k q_walked 512 v11]) (As := [.long ((v9).toInt64)]) (rest := []) C (tX8_tell l D k q_this q_now q_text q_row q_read q_outerCell q_outerDoor q_walked q_onWalks q_far q_aside q_wasFull q_undos q_was q_kept q_isKept c_typed v13 (0 : Int32) c_length c_at c_wrong v4 v10 v9 c_undoMany c_drawn v14 ((v9).toInt64) v15 v16 h15) cv_X8_182 ⟨⟨by decide, by decide⟩, rfl, rfl⟩ 0 rfl rfl [0, 4] rfl rfl rfl rfl rfl rfl (Nat.le_of_ble_eq_true rfl) ⟨Nat.zero_le _, Nat.zero_le _⟩ dX8_from_114 ?_
          refine ww_aload_n (pc := 117) C dX8_from_117 rfl 2 rfl ?_
          refine gf8_14 (pc := 118) C kf_X8_253 0 rfl rfl dX8_from_118 ?_
          obtain ⟨e0, e1, e2, e3, e4, e5, e6, e7, e8, e9⟩ := ij10 hf
          exact hret _ _ 121 _ dX8_from_121 rfl e0 (by rw [← e1, ← e2, ← e3, ← e4, ← e5, ← e6, ← e7, ← e8, ← e9])
        · have hf := ifT hc hf
          refine ww_aload_n (pc := 65) C dX8_from_65 rfl 2 rfl ?_
          refine ww_iload_n (pc := 66) C dX8_from_66 rfl 3 rfl ?_
          refine ww_i2l (pc := 67) C dX8_from_67  ?_
          obtain ⟨v17, v18, h17, hf⟩ := bd2_some hf
          refine ww_callVv (pc := 68) (ws' := [oX8 q_this q_now q_text c_typed q_row v17 (0 : Int32) c_length c_at c_wrong q_read q_outerCell q_outerDoor v4 q_walked c_walkedMany c_cameOut q_onWalks q_far q_aside q_wasFull q_undos q_was c_undoMany c_drawn q_kept q_isKept, aI k q_now 189 c_now, aI k q_outerCell 16 v5, aI k q_outerDoor 16 v6, aJ k q_row 64 v18, aI k q_walked 512 c_walked]) (As := [.long ((x1).toInt64)]) (rest := []) C (tX8_tell l D k q_this q_now q_text q_row q_read q_outerCell q_outerDoor q_walked q_onWalks q_far q_aside q_wasFull q_undos q_was q_kept q_isKept c_typed (0 : Int32) (0 : Int32) c_length c_at c_wrong v4 c_walkedMany c_cameOut c_undoMany c_drawn c_row ((x1).toInt64) v17 v18 h17) cv_X8_182 ⟨⟨by decide, by decide⟩, rfl, rfl⟩ 0 rfl rfl [0, 4] rfl rfl rfl rfl rfl rfl (Nat.le_of_ble_eq_true rfl) ⟨Nat.zero_le _, Nat.zero_le _⟩ dX8_from_68 ?_
          refine ww_aload_n (pc := 71) C dX8_from_71 rfl 2 rfl ?_
          refine ww_aload_n (pc := 72) C dX8_from_72 rfl 2 rfl ?_
          refine ww_iload_n (pc := 73) C dX8_from_73 rfl 3 rfl ?_
          refine ww_iload_n (pc := 74) C dX8_from_74 rfl 1 rfl ?_
          obtain ⟨v19, h19, hf⟩ := bsome hf
          refine ww_callVi0 (pc := 75) (As := [.int x1, .int v7]) (rest := [.ref q_this]) C (tX8_outerOf l D k q_this q_now q_text q_row q_read q_outerCell q_outerDoor q_walked q_onWalks q_far q_aside q_wasFull q_undos q_was q_kept q_isKept c_typed v17 (0 : Int32) c_length c_at c_wrong v4 c_walkedMany c_cameOut c_undoMany c_drawn v5 v6 x1 v7 v19 h19) cv_X8_265 ⟨⟨by decide, by decide⟩, rfl, rfl⟩ 0 rfl rfl [0, 2, 3] rfl rfl rfl rfl (Nat.le_of_ble_eq_true rfl) ⟨Nat.zero_le _, Nat.zero_le _⟩ dX8_from_75 (fun hb19 => ?_)
          refine ww_i2l (pc := 78) C dX8_from_78  ?_
          obtain ⟨v20, v21, h20, hf⟩ := bd2_some hf
          refine ww_callVv (pc := 79) (ws' := [oX8 q_this q_now q_text c_typed q_row v20 (0 : Int32) c_length c_at c_wrong q_read q_outerCell q_outerDoor v4 q_walked c_walkedMany c_cameOut q_onWalks q_far q_aside q_wasFull q_undos q_was c_undoMany c_drawn q_kept q_isKept, aI k q_now 189 c_now, aI k q_outerCell 16 v5, aI k q_outerDoor 16 v6, aJ k q_row 64 v21, aI k q_walked 512 c_walked]) (As := [.long ((v19).toInt64)]) (rest := []) C (tX8_tell l D k q_this q_now q_text q_row q_read q_outerCell q_outerDoor q_walked q_onWalks q_far q_aside q_wasFull q_undos q_was q_kept q_isKept c_typed v17 (0 : Int32) c_length c_at c_wrong v4 c_walkedMany c_cameOut c_undoMany c_drawn v18 ((v19).toInt64) v20 v21 h20) cv_X8_182 ⟨⟨by decide, by decide⟩, rfl, rfl⟩ 0 rfl rfl [0, 4] rfl rfl rfl rfl rfl rfl (Nat.le_of_ble_eq_true rfl) ⟨Nat.zero_le _, Nat.zero_le _⟩ dX8_from_79 ?_
          refine ww_iconst (pc := 82) C dX8_from_82 kI_0 ?_
          obtain ⟨e0, e1, e2, e3, e4, e5, e6, e7, e8, e9⟩ := ij10 hf
          exact hret _ _ 83 _ dX8_from_83 rfl e0 (by rw [← e1, ← e2, ← e3, ← e4, ← e5, ← e6, ← e7, ← e8, ← e9])
      · have hf := ifT hc hf
        refine ww_bipush (pc := 30) C dX8_from_30 kB_m2 ?_
        obtain ⟨e0, e1, e2, e3, e4, e5, e6, e7, e8, e9⟩ := ij10 hf
        exact hret _ _ 32 _ dX8_from_32 rfl e0 (by rw [← e1, ← e2, ← e3, ← e4, ← e5, ← e6, ← e7, ← e8, ← e9])
    · have hf := ifT hc hf
      refine ww_iconst (pc := 20) C dX8_from_20 kI_m1 ?_
      obtain ⟨e0, e1, e2, e3, e4, e5, e6, e7, e8, e9⟩ := ij10 hf
      exact hret _ _ 21 _ dX8_from_21 rfl e0 (by rw [← e1, ← e2, ← e3, ← e4, ← e5, ← e6, ← e7, ← e8, ← e9])
def fX8_layWalks_b37 (c_now : Nat → Int32) (rc12 : Int32 → Int32 → Int32 → (Nat → Int32) → (Nat → Int32) → (Nat → Int32) → (Nat → Int32) → Int32 → Int32 → Int32 → Option (Int32 × Int32 × Int32 × (Nat → Int32) × (Nat → Int32) × (Nat → Int32) × (Nat → Int32))) (rc37 : Int32 → Int32 → Int32 → (Nat → Int32) → (Nat → Int32) → (Nat → Int32) → (Nat → Int32) → Int32 → Int32 → Int32 → Int32 → Option (Int32 × Int32 × Int32 × (Nat → Int32) × (Nat → Int32) × (Nat → Int32) × (Nat → Int32))) (c_cameOut : Int32) (c_outerMany : Int32) (c_walkedMany : Int32) (c_onWalks : Nat → Int32) (c_outerCell : Nat → Int32) (c_outerDoor : Nat → Int32) (c_walked : Nat → Int32) (n1 : Int32) (n2 : Int32) (n3 : Int32) (n4 : Int32) : Option (Int32 × Int32 × Int32 × (Nat → Int32) × (Nat → Int32) × (Nat → Int32) × (Nat → Int32)) := if c_walkedMany ≤ n4 then (some (n3 + (1 : Int32))).bind fun v1 => rc12 c_cameOut c_outerMany c_walkedMany c_onWalks c_outerCell c_outerDoor c_walked n1 n2 v1 else (ald 512 n4 c_walked).bind fun v2 => (ald 512 v2 c_onWalks).bind fun v3 => (ast 512 v2 c_onWalks (v3 ||| ((1 : Int32) <<< (n1 &&& 31)))).bind fun v4 => (some (n4 + (1 : Int32))).bind fun v5 => rc37 c_cameOut c_outerMany c_walkedMany v4 c_outerCell c_outerDoor c_walked n1 n2 n3 v5
def fX8_layWalks_b12 (c_now : Nat → Int32) (rc12 : Int32 → Int32 → Int32 → (Nat → Int32) → (Nat → Int32) → (Nat → Int32) → (Nat → Int32) → Int32 → Int32 → Int32 → Option (Int32 × Int32 × Int32 × (Nat → Int32) × (Nat → Int32) × (Nat → Int32) × (Nat → Int32))) (c_cameOut : Int32) (c_outerMany : Int32) (c_walkedMany : Int32) (c_onWalks : Nat → Int32) (c_outerCell : Nat → Int32) (c_outerDoor : Nat → Int32) (c_walked : Nat → Int32) (n1 : Int32) (n2 : Int32) (n3 : Int32) : Option (Int32 × Int32 × Int32 × (Nat → Int32) × (Nat → Int32) × (Nat → Int32) × (Nat → Int32)) := if n2 ≤ n3 then some (c_cameOut, c_outerMany, c_walkedMany, c_onWalks, c_outerCell, c_outerDoor, c_walked) else (ald 16 n3 c_outerCell).bind fun v1 => (ald 16 n3 c_outerDoor).bind fun v2 => bd3 (fX8_goIn c_outerMany c_now c_outerCell c_outerDoor c_cameOut c_walkedMany c_walked v1 v2 n1) fun v3 v4 v5 => lfix (fX8_layWalks_b37 c_now rc12) (fun _ _ _ _ _ _ _ _ _ _ _ => none) FU v3 c_outerMany v4 c_onWalks c_outerCell c_outerDoor v5 n1 n2 n3 (0 : Int32)
def fX8_layWalks (c_now : Nat → Int32) (c_cameOut : Int32) (c_outerMany : Int32) (c_walkedMany : Int32) (c_onWalks : Nat → Int32) (c_outerCell : Nat → Int32) (c_outerDoor : Nat → Int32) (c_walked : Nat → Int32) (x1 : Int32) : Option (Int32 × Int32 × Int32 × (Nat → Int32) × (Nat → Int32) × (Nat → Int32) × (Nat → Int32)) := bd3 (fX8_layOuter c_now c_outerMany c_outerCell c_outerDoor x1) fun v1 v2 v3 => lfix (fX8_layWalks_b12 c_now) (fun _ _ _ _ _ _ _ _ _ _ => none) FU c_cameOut v1 c_walkedMany c_onWalks v2 v3 c_walked x1 v1 (0 : Int32)
set_option maxHeartbeats 4000000 in
set_option maxRecDepth 100000 in
theorem tX8_layWalks (l : Launch) (D : va_G) (k : Nat → ClassId) (q_this q_now q_text q_row q_read q_outerCell q_outerDoor q_walked q_onWalks q_far q_aside q_wasFull q_undos q_was q_kept q_isKept : Nat) (c_typed : Int32) (c_rowMany : Int32) (c_thrown : Int32) (c_length : Int32) (c_at : Int32) (c_wrong : Int32) (c_outerMany : Int32) (c_walkedMany : Int32) (c_cameOut : Int32) (c_undoMany : Int32) (c_drawn : Int32) (c_now : Nat → Int32) (c_onWalks : Nat → Int32) (c_outerCell : Nat → Int32) (c_outerDoor : Nat → Int32) (c_walked : Nat → Int32) (x1 : Int32) (w_cameOut : Int32) (w_outerMany : Int32) (w_walkedMany : Int32) (w_onWalks : Nat → Int32) (w_outerCell : Nat → Int32) (w_outerDoor : Nat → Int32) (w_walked : Nat → Int32) (hf : fX8_layWalks c_now c_cameOut c_outerMany c_walkedMany c_onWalks c_outerCell c_outerDoor c_walked x1 = some (w_cameOut, w_outerMany, w_walkedMany, w_onWalks, w_outerCell, w_outerDoor, w_walked)) : MV l yX8_layWalks cX8_layWalks 5 (RM 7 164) D k [.ref q_this, .int x1] [oX8 q_this q_now q_text c_typed q_row c_rowMany c_thrown c_length c_at c_wrong q_read q_outerCell q_outerDoor c_outerMany q_walked c_walkedMany c_cameOut q_onWalks q_far q_aside q_wasFull q_undos q_was c_undoMany c_drawn q_kept q_isKept, aI k q_now 189 c_now, aI k q_onWalks 512 c_onWalks, aI k q_outerCell 16 c_outerCell, aI k q_outerDoor 16 c_outerDoor, aI k q_walked 512 c_walked] [oX8 q_this q_now q_text c_typed q_row c_rowMany c_thrown c_length c_at c_wrong q_read q_outerCell q_outerDoor w_outerMany q_walked w_walkedMany w_cameOut q_onWalks q_far q_aside q_wasFull q_undos q_was c_undoMany c_drawn q_kept q_isKept, aI k q_now 189 c_now, aI k q_onWalks 512 w_onWalks, aI k q_outerCell 16 w_outerCell, aI k q_outerDoor 16 w_outerDoor, aI k q_walked 512 w_walked] := by
  refine mkMV' (own := "DoorWalkModel") (by decide) rfl (Nat.le_of_ble_eq_true rfl) ?_
  intro p e s m args below meth c Q A hret C
  refine ww_lv (lv' := [(0, .ref q_this), (1, .int x1)]) [0, 1] rfl ?_
  have hL12 : ∀ (n : Nat) (c_cameOut : Int32) (c_outerMany : Int32) (c_walkedMany : Int32) (c_onWalks : Nat → Int32) (c_outerCell : Nat → Int32) (c_outerDoor : Nat → Int32) (c_walked : Nat → Int32) (n1 : Int32) (n2 : Int32) (n3 : Int32), lfix (fX8_layWalks_b12 c_now) (fun _ _ _ _ _ _ _ _ _ _ => none) n c_cameOut c_outerMany c_walkedMany c_onWalks c_outerCell c_outerDoor c_walked n1 n2 n3 = some (w_cameOut, w_outerMany, w_walkedMany, w_onWalks, w_outerCell, w_outerDoor, w_walked) → WW p l e (RM 7 164) s m args below meth c Q 5 D A 0 0 [oX8 q_this q_now q_text c_typed q_row c_rowMany c_thrown c_length c_at c_wrong q_read q_outerCell q_outerDoor c_outerMany q_walked c_walkedMany c_cameOut q_onWalks q_far q_aside q_wasFull q_undos q_was c_undoMany c_drawn q_kept q_isKept, aI k q_now 189 c_now, aI k q_onWalks 512 c_onWalks, aI k q_outerCell 16 c_outerCell, aI k q_outerDoor 16 c_outerDoor, aI k q_walked 512 c_walked] [(0, .ref q_this), (1, .int n1), (2, .int n2), (3, .int n3)] 12 [] := by
    intro n
    induction n with
    | zero => intro c_cameOut c_outerMany c_walkedMany c_onWalks c_outerCell c_outerDoor c_walked n1 n2 n3 hf; cases hf
    | succ n ih12 =>
      obtain ⟨rc12, hrc12⟩ : ∃ f9, f9 = lfix (fX8_layWalks_b12 c_now) (fun _ _ _ _ _ _ _ _ _ _ => none) n := ⟨_, rfl⟩
      rw [← hrc12] at ih12
      have hL37 : ∀ (n : Nat) (c_cameOut : Int32) (c_outerMany : Int32) (c_walkedMany : Int32) (c_onWalks : Nat → Int32) (c_outerCell : Nat → Int32) (c_outerDoor : Nat → Int32) (c_walked : Nat → Int32) (n1 : Int32) (n2 : Int32) (n3 : Int32) (n4 : Int32), lfix (fX8_layWalks_b37 c_now rc12) (fun _ _ _ _ _ _ _ _ _ _ _ => none) n c_cameOut c_outerMany c_walkedMany c_onWalks c_outerCell c_outerDoor c_walked n1 n2 n3 n4 = some (w_cameOut, w_outerMany, w_walkedMany, w_onWalks, w_outerCell, w_outerDoor, w_walked) → WW p l e (RM 7 164) s m args below meth c Q 5 D A 0 0 [oX8 q_this q_now q_text c_typed q_row c_rowMany c_thrown c_length c_at c_wrong q_read q_outerCell q_outerDoor c_outerMany q_walked c_walkedMany c_cameOut q_onWalks q_far q_aside q_wasFull q_undos q_was c_undoMany c_drawn q_kept q_isKept, aI k q_now 189 c_now, aI k q_onWalks 512 c_onWalks, aI k q_outerCell 16 c_outerCell, aI k q_outerDoor 16 c_outerDoor, aI k q_walked 512 c_walked] [(0, .ref q_this), (1, .int n1), (2, .int n2), (3, .int n3), (4, .int n4)] 37 [] := by
        intro n
        induction n with
        | zero => intro c_cameOut c_outerMany c_walkedMany c_onWalks c_outerCell c_outerDoor c_walked n1 n2 n3 n4 hf; cases hf
        | succ n ih37 =>
          obtain ⟨rc37, hrc37⟩ : ∃ f9, f9 = lfix (fX8_layWalks_b37 c_now rc12) (fun _ _ _ _ _ _ _ _ _ _ _ => none) n := ⟨_, rfl⟩
          rw [← hrc37] at ih37
          intro c_cameOut c_outerMany c_walkedMany c_onWalks c_outerCell c_outerDoor c_walked n1 n2 n3 n4 hf
          have hf : fX8_layWalks_b37 c_now rc12 rc37 c_cameOut c_outerMany c_walkedMany c_onWalks c_outerCell c_outerDoor c_walked n1 n2 n3 n4 = some (w_cameOut, w_outerMany, w_walkedMany, w_onWalks, w_outerCell, w_outerDoor, w_walked) := by rw [hrc37]; exact hf
          unfold fX8_layWalks_b37 at hf
          refine ww_iload (pc := 37) C dX8_layWalks_37 4 rfl ?_
          refine ww_aload_n (pc := 39) C dX8_layWalks_39 rfl 0 rfl ?_
          refine gf8_14 (pc := 40) C kf_X8_253 0 rfl rfl dX8_layWalks_40 ?_
          refine ww_icmp_ge (pc := 43) (tgt := 70) C dX8_layWalks_43 (by decide) (fun hc => ?_) (fun hc => ?_)
          · have hf := ifT hc hf
            obtain ⟨v1, h1, hf⟩ := bsome hf
            refine ww_iincN (pc := 70) (lv' := [(3, .int v1), (0, .ref q_this), (1, .int n1), (2, .int n2), (4, .int n4)]) (j := 3) C dX8_layWalks_70 kI_1 rfl h1 (by decide) rfl ?_
            refine ww_goto (pc := 73) (tgt := 12) C dX8_layWalks_73 (by decide) ?_
            exact ww_lv [1, 2, 3, 0] rfl (ih12 c_cameOut c_outerMany c_walkedMany c_onWalks c_outerCell c_outerDoor c_walked n1 n2 v1 hf)
          · have hf := ifF hc hf
            refine ww_aload_n (pc := 46) C dX8_layWalks_46 rfl 0 rfl ?_
            refine gf8_16 (pc := 47) C kf_X8_33 0 rfl rfl dX8_layWalks_47 ?_
            refine ww_aload_n (pc := 50) C dX8_layWalks_50 rfl 0 rfl ?_
            refine gf8_13 (pc := 51) C kf_X8_30 0 rfl rfl dX8_layWalks_51 ?_
            refine ww_iload (pc := 54) C dX8_layWalks_54 4 rfl ?_
            obtain ⟨v2, h2, hf⟩ := bsome hf
            refine ww_iald (pc := 56) C 5 rfl h2 dX8_layWalks_56 ?_
            refine ww_dup2 (pc := 57) C dX8_layWalks_57 rfl rfl ?_
            obtain ⟨v3, h3, hf⟩ := bsome hf
            refine ww_iald (pc := 58) C 2 rfl h3 dX8_layWalks_58 ?_
            refine ww_iconst (pc := 59) C dX8_layWalks_59 kI_1 ?_
            refine ww_iload_n (pc := 60) C dX8_layWalks_60 rfl 1 rfl ?_
            refine ww_ishl (pc := 61) C dX8_layWalks_61  ?_
            refine ww_ior (pc := 62) C dX8_layWalks_62  ?_
            obtain ⟨v4, h4, hf⟩ := bsome hf
            refine ww_iast (pc := 63) (ws' := [oX8 q_this q_now q_text c_typed q_row c_rowMany c_thrown c_length c_at c_wrong q_read q_outerCell q_outerDoor c_outerMany q_walked c_walkedMany c_cameOut q_onWalks q_far q_aside q_wasFull q_undos q_was c_undoMany c_drawn q_kept q_isKept, aI k q_now 189 c_now, aI k q_onWalks 512 v4, aI k q_outerCell 16 c_outerCell, aI k q_outerDoor 16 c_outerDoor, aI k q_walked 512 c_walked]) C 2 rfl h4 rfl dX8_layWalks_63 ?_
            obtain ⟨v5, h5, hf⟩ := bsome hf
            refine ww_iincN (pc := 64) (lv' := [(4, .int v5), (0, .ref q_this), (1, .int n1), (2, .int n2), (3, .int n3)]) (j := 4) C dX8_layWalks_64 kI_1 rfl h5 (by decide) rfl ?_
            refine ww_goto (pc := 67) (tgt := 37) C dX8_layWalks_67 (by decide) ?_
            exact ww_lv [1, 2, 3, 4, 0] rfl (ih37 c_cameOut c_outerMany c_walkedMany v4 c_outerCell c_outerDoor c_walked n1 n2 n3 v5 hf)
      intro c_cameOut c_outerMany c_walkedMany c_onWalks c_outerCell c_outerDoor c_walked n1 n2 n3 hf
      have hf : fX8_layWalks_b12 c_now rc12 c_cameOut c_outerMany c_walkedMany c_onWalks c_outerCell c_outerDoor c_walked n1 n2 n3 = some (w_cameOut, w_outerMany, w_walkedMany, w_onWalks, w_outerCell, w_outerDoor, w_walked) := by rw [hrc12]; exact hf
      unfold fX8_layWalks_b12 at hf
      refine ww_iload_n (pc := 12) C dX8_layWalks_12 rfl 3 rfl ?_
      refine ww_iload_n (pc := 13) C dX8_layWalks_13 rfl 2 rfl ?_
      refine ww_icmp_ge (pc := 14) (tgt := 76) C dX8_layWalks_14 (by decide) (fun hc => ?_) (fun hc => ?_)
      · have hf := ifT hc hf
        obtain ⟨e0, e1, e2, e3, e4, e5, e6⟩ := ij7 hf
        exact hret _ _ 76 dX8_layWalks_76 (by rw [← e0, ← e1, ← e2, ← e3, ← e4, ← e5, ← e6])
      · have hf := ifF hc hf
        refine ww_aload_n (pc := 17) C dX8_layWalks_17 rfl 0 rfl ?_
        refine ww_aload_n (pc := 18) C dX8_layWalks_18 rfl 0 rfl ?_
        refine gf8_10 (pc := 19) C kf_X8_24 0 rfl rfl dX8_layWalks_19 ?_
        refine ww_iload_n (pc := 22) C dX8_layWalks_22 rfl 3 rfl ?_
        obtain ⟨v1, h1, hf⟩ := bsome hf
        refine ww_iald (pc := 23) C 3 rfl h1 dX8_layWalks_23 ?_
        refine ww_aload_n (pc := 24) C dX8_layWalks_24 rfl 0 rfl ?_
        refine gf8_11 (pc := 25) C kf_X8_27 0 rfl rfl dX8_layWalks_25 ?_
        refine ww_iload_n (pc := 28) C dX8_layWalks_28 rfl 3 rfl ?_
        obtain ⟨v2, h2, hf⟩ := bsome hf
        refine ww_iald (pc := 29) C 4 rfl h2 dX8_layWalks_29 ?_
        refine ww_iload_n (pc := 30) C dX8_layWalks_30 rfl 1 rfl ?_
        obtain ⟨v3, v4, v5, h3, hf⟩ := bd3_some hf
        refine ww_callVv (pc := 31) (ws' := [oX8 q_this q_now q_text c_typed q_row c_rowMany c_thrown c_length c_at c_wrong q_read q_outerCell q_outerDoor c_outerMany q_walked v4 v3 q_onWalks q_far q_aside q_wasFull q_undos q_was c_undoMany c_drawn q_kept q_isKept, aI k q_now 189 c_now, aI k q_onWalks 512 c_onWalks, aI k q_outerCell 16 c_outerCell, aI k q_outerDoor 16 c_outerDoor, aI k q_walked 512 v5]) (As := [.int v1, .int v2, .int n1]) (rest := []) C (tX8_goIn l D k q_this q_now q_text q_row q_read q_outerCell q_outerDoor q_walked q_onWalks q_far q_aside q_wasFull q_undos q_was q_kept q_isKept c_typed c_rowMany c_thrown c_length c_at c_wrong c_outerMany c_walkedMany c_cameOut c_undoMany c_drawn c_now c_outerCell c_outerDoor c_walked v1 v2 n1 v3 v4 v5 h3) cv_X8_268 ⟨⟨by decide, by decide⟩, rfl, rfl⟩ 0 rfl rfl [0, 1, 3, 4, 5] rfl rfl rfl rfl rfl rfl (Nat.le_of_ble_eq_true rfl) ⟨Nat.zero_le _, Nat.zero_le _⟩ dX8_layWalks_31 ?_
        refine ww_iconst (pc := 34) C dX8_layWalks_34 kI_0 ?_
        refine ww_istore (pc := 35) (lv' := [(4, .int (0 : Int32)), (0, .ref q_this), (1, .int n1), (2, .int n2), (3, .int n3)]) C dX8_layWalks_35 (by decide) rfl ?_
        exact ww_lv [1, 2, 3, 4, 0] rfl (hL37 FU v3 c_outerMany v4 c_onWalks c_outerCell c_outerDoor v5 n1 n2 n3 (0 : Int32) hf)
  unfold fX8_layWalks at hf
  refine ww_aload_n (pc := 0) C dX8_layWalks_0 rfl 0 rfl ?_
  refine ww_iload_n (pc := 1) C dX8_layWalks_1 rfl 1 rfl ?_
  obtain ⟨v1, v2, v3, h1, hf⟩ := bd3_some hf
  refine ww_callVv (pc := 2) (ws' := [oX8 q_this q_now q_text c_typed q_row c_rowMany c_thrown c_length c_at c_wrong q_read q_outerCell q_outerDoor v1 q_walked c_walkedMany c_cameOut q_onWalks q_far q_aside q_wasFull q_undos q_was c_undoMany c_drawn q_kept q_isKept, aI k q_now 189 c_now, aI k q_onWalks 512 c_onWalks, aI k q_outerCell 16 v2, aI k q_outerDoor 16 v3, aI k q_walked 512 c_walked]) (As := [.int x1]) (rest := []) C (tX8_layOuter l D k q_this q_now q_text q_row q_read q_outerCell q_outerDoor q_walked q_onWalks q_far q_aside q_wasFull q_undos q_was q_kept q_isKept c_typed c_rowMany c_thrown c_length c_at c_wrong c_outerMany c_walkedMany c_cameOut c_undoMany c_drawn c_now c_outerCell c_outerDoor x1 v1 v2 v3 h1) cv_X8_247 ⟨⟨by decide, by decide⟩, rfl, rfl⟩ 0 rfl rfl [0, 1, 3, 4] rfl rfl rfl rfl rfl rfl (Nat.le_of_ble_eq_true rfl) ⟨Nat.zero_le _, Nat.zero_le _⟩ dX8_layWalks_2 ?_
  refine ww_aload_n (pc := 5) C dX8_layWalks_5 rfl 0 rfl ?_
  refine gf8_12 (pc := 6) C kf_X8_241 0 rfl rfl dX8_layWalks_6 ?_
  refine ww_istore_n (pc := 9) (lv' := [(2, .int v1), (0, .ref q_this), (1, .int x1)]) C dX8_layWalks_9 rfl (by decide) rfl ?_
  refine ww_iconst (pc := 10) C dX8_layWalks_10 kI_0 ?_
  refine ww_istore_n (pc := 11) (lv' := [(3, .int (0 : Int32)), (2, .int v1), (0, .ref q_this), (1, .int x1)]) C dX8_layWalks_11 rfl (by decide) rfl ?_
  exact ww_lv [2, 3, 1, 0] rfl (hL12 FU c_cameOut v1 c_walkedMany c_onWalks v2 v3 c_walked x1 v1 (0 : Int32) hf)
def fX8_clearWalks_b2 (rc2 : (Nat → Int32) → Int32 → Option ((Nat → Int32))) (c_onWalks : Nat → Int32) (n1 : Int32) : Option ((Nat → Int32)) := if (512 : Int32) ≤ n1 then some (c_onWalks) else (ast 512 n1 c_onWalks (0 : Int32)).bind fun v1 => (some (n1 + (1 : Int32))).bind fun v2 => rc2 v1 v2
def fX8_clearWalks (c_onWalks : Nat → Int32) : Option ((Nat → Int32)) := lfix (fX8_clearWalks_b2) (fun _ _ => none) FU c_onWalks (0 : Int32)
set_option maxHeartbeats 4000000 in
set_option maxRecDepth 100000 in
theorem tX8_clearWalks (l : Launch) (D : va_G) (k : Nat → ClassId) (q_this q_now q_text q_row q_read q_outerCell q_outerDoor q_walked q_onWalks q_far q_aside q_wasFull q_undos q_was q_kept q_isKept : Nat) (c_typed : Int32) (c_rowMany : Int32) (c_thrown : Int32) (c_length : Int32) (c_at : Int32) (c_wrong : Int32) (c_outerMany : Int32) (c_walkedMany : Int32) (c_cameOut : Int32) (c_undoMany : Int32) (c_drawn : Int32) (c_onWalks : Nat → Int32)  (w_onWalks : Nat → Int32) (hf : fX8_clearWalks c_onWalks = some (w_onWalks)) : MV l yX8_clearWalks cX8_clearWalks 2 (RM 0 0) D k [.ref q_this] [oX8 q_this q_now q_text c_typed q_row c_rowMany c_thrown c_length c_at c_wrong q_read q_outerCell q_outerDoor c_outerMany q_walked c_walkedMany c_cameOut q_onWalks q_far q_aside q_wasFull q_undos q_was c_undoMany c_drawn q_kept q_isKept, aI k q_onWalks 512 c_onWalks] [oX8 q_this q_now q_text c_typed q_row c_rowMany c_thrown c_length c_at c_wrong q_read q_outerCell q_outerDoor c_outerMany q_walked c_walkedMany c_cameOut q_onWalks q_far q_aside q_wasFull q_undos q_was c_undoMany c_drawn q_kept q_isKept, aI k q_onWalks 512 w_onWalks] := by
  refine mkMV' (own := "DoorWalkModel") (by decide) rfl (Nat.le_of_ble_eq_true rfl) ?_
  intro p e s m args below meth c Q A hret C
  refine ww_lv (lv' := [(0, .ref q_this)]) [0] rfl ?_
  have hL2 : ∀ (n : Nat) (c_onWalks : Nat → Int32) (n1 : Int32), lfix (fX8_clearWalks_b2) (fun _ _ => none) n c_onWalks n1 = some (w_onWalks) → WW p l e (RM 0 0) s m args below meth c Q 2 D A 0 0 [oX8 q_this q_now q_text c_typed q_row c_rowMany c_thrown c_length c_at c_wrong q_read q_outerCell q_outerDoor c_outerMany q_walked c_walkedMany c_cameOut q_onWalks q_far q_aside q_wasFull q_undos q_was c_undoMany c_drawn q_kept q_isKept, aI k q_onWalks 512 c_onWalks] [(0, .ref q_this), (1, .int n1)] 2 [] := by
    intro n
    induction n with
    | zero => intro c_onWalks n1 hf; cases hf
    | succ n ih2 =>
      obtain ⟨rc2, hrc2⟩ : ∃ f9, f9 = lfix (fX8_clearWalks_b2) (fun _ _ => none) n := ⟨_, rfl⟩
      rw [← hrc2] at ih2
      intro c_onWalks n1 hf
      have hf : fX8_clearWalks_b2 rc2 c_onWalks n1 = some (w_onWalks) := by rw [hrc2]; exact hf
      unfold fX8_clearWalks_b2 at hf
      refine ww_iload_n (pc := 2) C dX8_clearWalks_2 rfl 1 rfl ?_
      refine ww_sipush (pc := 3) C dX8_clearWalks_3 kS_512 ?_
      refine ww_icmp_ge (pc := 6) (tgt := 22) C dX8_clearWalks_6 (by decide) (fun hc => ?_) (fun hc => ?_)
      · have hf := ifT hc hf
        obtain e0 := ij1 hf
        exact hret _ _ 22 dX8_clearWalks_22 (by rw [← e0])
      · have hf := ifF hc hf
        refine ww_aload_n (pc := 9) C dX8_clearWalks_9 rfl 0 rfl ?_
        refine gf8_16 (pc := 10) C kf_X8_33 0 rfl rfl dX8_clearWalks_10 ?_
        refine ww_iload_n (pc := 13) C dX8_clearWalks_13 rfl 1 rfl ?_
        refine ww_iconst (pc := 14) C dX8_clearWalks_14 kI_0 ?_
        obtain ⟨v1, h1, hf⟩ := bsome hf
        refine ww_iast (pc := 15) (ws' := [oX8 q_this q_now q_text c_typed q_row c_rowMany c_thrown c_length c_at c_wrong q_read q_outerCell q_outerDoor c_outerMany q_walked c_walkedMany c_cameOut q_onWalks q_far q_aside q_wasFull q_undos q_was c_undoMany c_drawn q_kept q_isKept, aI k q_onWalks 512 v1]) C 1 rfl h1 rfl dX8_clearWalks_15 ?_
        obtain ⟨v2, h2, hf⟩ := bsome hf
        refine ww_iincN (pc := 16) (lv' := [(1, .int v2), (0, .ref q_this)]) (j := 1) C dX8_clearWalks_16 kI_1 rfl h2 (by decide) rfl ?_
        refine ww_goto (pc := 19) (tgt := 2) C dX8_clearWalks_19 (by decide) ?_
        exact ww_lv [1, 0] rfl (ih2 v1 v2 hf)
  unfold fX8_clearWalks at hf
  refine ww_iconst (pc := 0) C dX8_clearWalks_0 kI_0 ?_
  refine ww_istore_n (pc := 1) (lv' := [(1, .int (0 : Int32)), (0, .ref q_this)]) C dX8_clearWalks_1 rfl (by decide) rfl ?_
  exact ww_lv [1, 0] rfl (hL2 FU c_onWalks (0 : Int32) hf)
def fX8_hidden_b35 (c_now : Nat → Int32) (rc35 : Int32 → Int32 → Int32 → Int32 → Int32 → (Nat → Int32) → (Nat → Int32) → (Nat → Int32) → (Nat → Int64) → (Nat → Int32) → Int32 → Int32 → Int32 → Option (Int32 × Int32 × Int32 × Int32 × Int32 × Int32 × (Nat → Int32) × (Nat → Int32) × (Nat → Int32) × (Nat → Int64) × (Nat → Int32))) (c_cameOut : Int32) (c_outerMany : Int32) (c_rowMany : Int32) (c_thrown : Int32) (c_walkedMany : Int32) (c_onWalks : Nat → Int32) (c_outerCell : Nat → Int32) (c_outerDoor : Nat → Int32) (c_row : Nat → Int64) (c_walked : Nat → Int32) (n2 : Int32) (n3 : Int32) (n4 : Int32) : Option (Int32 × Int32 × Int32 × Int32 × Int32 × Int32 × (Nat → Int32) × (Nat → Int32) × (Nat → Int32) × (Nat → Int64) × (Nat → Int32)) := if n4 < 0 then bd2 (fX8_tell (0 : Int32) c_row ((n3).toInt64)) fun v1 v2 => some (n2, c_cameOut, c_outerMany, v1, c_thrown, c_walkedMany, c_onWalks, c_outerCell, c_outerDoor, v2, c_walked) else (fX8_isCell c_now n4).bind fun v3 => if v3 = 0 then (some (n4 + (-1 : Int32))).bind fun v4 => rc35 c_cameOut c_outerMany c_rowMany c_thrown c_walkedMany c_onWalks c_outerCell c_outerDoor c_row c_walked n2 n3 v4 else (fX8_isFull c_now n4).bind fun v5 => if v5 = 0 then (some (n4 + (-1 : Int32))).bind fun v6 => rc35 c_cameOut c_outerMany c_rowMany c_thrown c_walkedMany c_onWalks c_outerCell c_outerDoor c_row c_walked n2 n3 v6 else (ald 512 n4 c_onWalks).bind fun v7 => if v7 = 0 then (some (n2 + (1 : Int32))).bind fun v8 => (some (n4 + (-1 : Int32))).bind fun v9 => rc35 c_cameOut c_outerMany c_rowMany c_thrown c_walkedMany c_onWalks c_outerCell c_outerDoor c_row c_walked v8 n4 v9 else (some (n4 + (-1 : Int32))).bind fun v10 => rc35 c_cameOut c_outerMany c_rowMany c_thrown c_walkedMany c_onWalks c_outerCell c_outerDoor c_row c_walked n2 n3 v10
def fX8_hidden (c_now : Nat → Int32) (c_cameOut : Int32) (c_outerMany : Int32) (c_rowMany : Int32) (c_thrown : Int32) (c_walkedMany : Int32) (c_onWalks : Nat → Int32) (c_outerCell : Nat → Int32) (c_outerDoor : Nat → Int32) (c_row : Nat → Int64) (c_walked : Nat → Int32) (x1 : Int32) : Option (Int32 × Int32 × Int32 × Int32 × Int32 × Int32 × (Nat → Int32) × (Nat → Int32) × (Nat → Int32) × (Nat → Int64) × (Nat → Int32)) := (fX8_isKind x1).bind fun v1 => if v1 = 0 then some ((-1 : Int32), c_cameOut, c_outerMany, c_rowMany, (0 : Int32), c_walkedMany, c_onWalks, c_outerCell, c_outerDoor, c_row, c_walked) else (fX8_clearWalks c_onWalks).bind fun v2 => bd7 (fX8_layWalks c_now c_cameOut c_outerMany c_walkedMany v2 c_outerCell c_outerDoor c_walked x1) fun v3 v4 v5 v6 v7 v8 v9 => (fX8_numbers c_now).bind fun v10 => (some (v10 - (1 : Int32))).bind fun v11 => lfix (fX8_hidden_b35 c_now) (fun _ _ _ _ _ _ _ _ _ _ _ _ _ => none) FU v3 v4 c_rowMany (0 : Int32) v5 v6 v7 v8 c_row v9 (0 : Int32) (-1 : Int32) v11
set_option maxHeartbeats 4000000 in
set_option maxRecDepth 100000 in
theorem tX8_hidden (l : Launch) (D : va_G) (k : Nat → ClassId) (q_this q_now q_text q_row q_read q_outerCell q_outerDoor q_walked q_onWalks q_far q_aside q_wasFull q_undos q_was q_kept q_isKept : Nat) (c_typed : Int32) (c_rowMany : Int32) (c_thrown : Int32) (c_length : Int32) (c_at : Int32) (c_wrong : Int32) (c_outerMany : Int32) (c_walkedMany : Int32) (c_cameOut : Int32) (c_undoMany : Int32) (c_drawn : Int32) (c_now : Nat → Int32) (c_onWalks : Nat → Int32) (c_outerCell : Nat → Int32) (c_outerDoor : Nat → Int32) (c_row : Nat → Int64) (c_walked : Nat → Int32) (x1 : Int32) (r_ : Int32) (w_cameOut : Int32) (w_outerMany : Int32) (w_rowMany : Int32) (w_thrown : Int32) (w_walkedMany : Int32) (w_onWalks : Nat → Int32) (w_outerCell : Nat → Int32) (w_outerDoor : Nat → Int32) (w_row : Nat → Int64) (w_walked : Nat → Int32) (hf : fX8_hidden c_now c_cameOut c_outerMany c_rowMany c_thrown c_walkedMany c_onWalks c_outerCell c_outerDoor c_row c_walked x1 = some (r_, w_cameOut, w_outerMany, w_rowMany, w_thrown, w_walkedMany, w_onWalks, w_outerCell, w_outerDoor, w_row, w_walked)) : MI l yX8_hidden cX8_hidden 5 .int (RM 8 188) D k [.ref q_this, .int x1] [oX8 q_this q_now q_text c_typed q_row c_rowMany c_thrown c_length c_at c_wrong q_read q_outerCell q_outerDoor c_outerMany q_walked c_walkedMany c_cameOut q_onWalks q_far q_aside q_wasFull q_undos q_was c_undoMany c_drawn q_kept q_isKept, aI k q_now 189 c_now, aI k q_onWalks 512 c_onWalks, aI k q_outerCell 16 c_outerCell, aI k q_outerDoor 16 c_outerDoor, aJ k q_row 64 c_row, aI k q_walked 512 c_walked] r_ [oX8 q_this q_now q_text c_typed q_row w_rowMany w_thrown c_length c_at c_wrong q_read q_outerCell q_outerDoor w_outerMany q_walked w_walkedMany w_cameOut q_onWalks q_far q_aside q_wasFull q_undos q_was c_undoMany c_drawn q_kept q_isKept, aI k q_now 189 c_now, aI k q_onWalks 512 w_onWalks, aI k q_outerCell 16 w_outerCell, aI k q_outerDoor 16 w_outerDoor, aJ k q_row 64 w_row, aI k q_walked 512 w_walked] := by
  refine mkMI' (own := "DoorWalkModel") (by decide) rfl (Nat.le_of_ble_eq_true rfl) ?_
  intro p e s m args below meth c Q A hret C
  refine ww_lv (lv' := [(0, .ref q_this), (1, .int x1)]) [0, 1] rfl ?_
  have hL35 : ∀ (n : Nat) (c_cameOut : Int32) (c_outerMany : Int32) (c_rowMany : Int32) (c_thrown : Int32) (c_walkedMany : Int32) (c_onWalks : Nat → Int32) (c_outerCell : Nat → Int32) (c_outerDoor : Nat → Int32) (c_row : Nat → Int64) (c_walked : Nat → Int32) (n2 : Int32) (n3 : Int32) (n4 : Int32), lfix (fX8_hidden_b35 c_now) (fun _ _ _ _ _ _ _ _ _ _ _ _ _ => none) n c_cameOut c_outerMany c_rowMany c_thrown c_walkedMany c_onWalks c_outerCell c_outerDoor c_row c_walked n2 n3 n4 = some (r_, w_cameOut, w_outerMany, w_rowMany, w_thrown, w_walkedMany, w_onWalks, w_outerCell, w_outerDoor, w_row, w_walked) → WW p l e (RM 8 188) s m args below meth c Q 5 D A 0 0 [oX8 q_this q_now q_text c_typed q_row c_rowMany c_thrown c_length c_at c_wrong q_read q_outerCell q_outerDoor c_outerMany q_walked c_walkedMany c_cameOut q_onWalks q_far q_aside q_wasFull q_undos q_was c_undoMany c_drawn q_kept q_isKept, aI k q_now 189 c_now, aI k q_onWalks 512 c_onWalks, aI k q_outerCell 16 c_outerCell, aI k q_outerDoor 16 c_outerDoor, aJ k q_row 64 c_row, aI k q_walked 512 c_walked] [(0, .ref q_this), (2, .int n2), (3, .int n3), (4, .int n4)] 35 [] := by
    intro n
    induction n with
    | zero => intro c_cameOut c_outerMany c_rowMany c_thrown c_walkedMany c_onWalks c_outerCell c_outerDoor c_row c_walked n2 n3 n4 hf; cases hf
    | succ n ih35 =>
      obtain ⟨rc35, hrc35⟩ : ∃ f9, f9 = lfix (fX8_hidden_b35 c_now) (fun _ _ _ _ _ _ _ _ _ _ _ _ _ => none) n := ⟨_, rfl⟩
      rw [← hrc35] at ih35
      intro c_cameOut c_outerMany c_rowMany c_thrown c_walkedMany c_onWalks c_outerCell c_outerDoor c_row c_walked n2 n3 n4 hf
      have hf : fX8_hidden_b35 c_now rc35 c_cameOut c_outerMany c_rowMany c_thrown c_walkedMany c_onWalks c_outerCell c_outerDoor c_row c_walked n2 n3 n4 = some (r_, w_cameOut, w_outerMany, w_rowMany, w_thrown, w_walkedMany, w_onWalks, w_outerCell, w_outerDoor, w_row, w_walked) := by rw [hrc35]; exact hf
      unfold fX8_hidden_b35 at hf
      refine ww_iload (pc := 35) C dX8_hidden_35 3 rfl ?_
      refine ww_if_lt (pc := 37) (tgt := 83) C dX8_hidden_37 (by decide) (fun hc => ?_) (fun hc => ?_)
      · have hf := ifT hc hf
        refine ww_aload_n (pc := 83) C dX8_hidden_83 rfl 0 rfl ?_
        refine ww_iconst (pc := 84) C dX8_hidden_84 kI_0 ?_
        refine pf8_4 (pc := 85) (ws' := [oX8 q_this q_now q_text c_typed q_row (0 : Int32) c_thrown c_length c_at c_wrong q_read q_outerCell q_outerDoor c_outerMany q_walked c_walkedMany c_cameOut q_onWalks q_far q_aside q_wasFull q_undos q_was c_undoMany c_drawn q_kept q_isKept, aI k q_now 189 c_now, aI k q_onWalks 512 c_onWalks, aI k q_outerCell 16 c_outerCell, aI k q_outerDoor 16 c_outerDoor, aJ k q_row 64 c_row, aI k q_walked 512 c_walked]) C kf_X8_65 0 rfl (Nat.le_of_ble_eq_true rfl) rfl dX8_hidden_85 ?_
        refine ww_aload_n (pc := 88) C dX8_hidden_88 rfl 0 rfl ?_
        refine ww_iload_n (pc := 89) C dX8_hidden_89 rfl 2 rfl ?_
        refine ww_i2l (pc := 90) C dX8_hidden_90  ?_
        obtain ⟨v1, v2, h1, hf⟩ := bd2_some hf
        refine ww_callVv (pc := 91) (ws' := [oX8 q_this q_now q_text c_typed q_row v1 c_thrown c_length c_at c_wrong q_read q_outerCell q_outerDoor c_outerMany q_walked c_walkedMany c_cameOut q_onWalks q_far q_aside q_wasFull q_undos q_was c_undoMany c_drawn q_kept q_isKept, aI k q_now 189 c_now, aI k q_onWalks 512 c_onWalks, aI k q_outerCell 16 c_outerCell, aI k q_outerDoor 16 c_outerDoor, aJ k q_row 64 v2, aI k q_walked 512 c_walked]) (As := [.long ((n3).toInt64)]) (rest := []) C (tX8_tell l D k q_this q_now q_text q_row q_read q_outerCell q_outerDoor q_walked q_onWalks q_far q_aside q_wasFull q_undos q_was q_kept q_isKept c_typed (0 : Int32) c_thrown c_length c_at c_wrong c_outerMany c_walkedMany c_cameOut c_undoMany c_drawn c_row ((n3).toInt64) v1 v2 h1) cv_X8_182 ⟨⟨by decide, by decide⟩, rfl, rfl⟩ 0 rfl rfl [0, 5] rfl rfl rfl rfl rfl rfl (Nat.le_of_ble_eq_true rfl) ⟨Nat.zero_le _, Nat.zero_le _⟩ dX8_hidden_91 ?_
        refine ww_iload_n (pc := 94) C dX8_hidden_94 rfl 1 rfl ?_
        obtain ⟨e0, e1, e2, e3, e4, e5, e6, e7, e8, e9, e10⟩ := ij11 hf
        exact hret _ _ 95 _ dX8_hidden_95 rfl e0 (by rw [← e1, ← e2, ← e3, ← e4, ← e5, ← e6, ← e7, ← e8, ← e9, ← e10])
      · have hf := ifF hc hf
        refine ww_aload_n (pc := 40) C dX8_hidden_40 rfl 0 rfl ?_
        refine ww_iload (pc := 41) C dX8_hidden_41 3 rfl ?_
        obtain ⟨v3, h3, hf⟩ := bsome hf
        refine ww_callVi0 (pc := 43) (As := [.int n4]) (rest := []) C (tX8_isCell l D k q_this q_now q_text q_row q_read q_outerCell q_outerDoor q_walked q_onWalks q_far q_aside q_wasFull q_undos q_was q_kept q_isKept c_typed c_rowMany c_thrown c_length c_at c_wrong c_outerMany c_walkedMany c_cameOut c_undoMany c_drawn c_now n4 v3 h3) cv_X8_213 ⟨⟨by decide, by decide⟩, rfl, rfl⟩ 0 rfl rfl [0, 1] rfl rfl rfl rfl (Nat.le_of_ble_eq_true rfl) ⟨Nat.zero_le _, Nat.zero_le _⟩ dX8_hidden_43 (fun hb3 => ?_)
        refine ww_if_eq (pc := 46) (tgt := 77) C dX8_hidden_46 (by decide) (fun hc => ?_) (fun hc => ?_)
        · have hf := ifT hc hf
          obtain ⟨v4, h4, hf⟩ := bsome hf
          refine ww_iincN (pc := 77) (lv' := [(4, .int v4), (0, .ref q_this), (2, .int n2), (3, .int n3)]) (j := 3) C dX8_hidden_77 kI_m1 rfl h4 (by decide) rfl ?_
          refine ww_goto (pc := 80) (tgt := 35) C dX8_hidden_80 (by decide) ?_
          exact ww_lv [1, 2, 3, 0] rfl (ih35 c_cameOut c_outerMany c_rowMany c_thrown c_walkedMany c_onWalks c_outerCell c_outerDoor c_row c_walked n2 n3 v4 hf)
        · have hf := ifF hc hf
          refine ww_aload_n (pc := 49) C dX8_hidden_49 rfl 0 rfl ?_
          refine ww_iload (pc := 50) C dX8_hidden_50 3 rfl ?_
          obtain ⟨v5, h5, hf⟩ := bsome hf
          refine ww_callVi0 (pc := 52) (As := [.int n4]) (rest := []) C (tX8_isFull l D k q_this q_now q_text q_row q_read q_outerCell q_outerDoor q_walked q_onWalks q_far q_aside q_wasFull q_undos q_was q_kept q_isKept c_typed c_rowMany c_thrown c_length c_at c_wrong c_outerMany c_walkedMany c_cameOut c_undoMany c_drawn c_now n4 v5 h5) cv_X8_206 ⟨⟨by decide, by decide⟩, rfl, rfl⟩ 0 rfl rfl [0, 1] rfl rfl rfl rfl (Nat.le_of_ble_eq_true rfl) ⟨Nat.zero_le _, Nat.zero_le _⟩ dX8_hidden_52 (fun hb5 => ?_)
          refine ww_if_eq (pc := 55) (tgt := 77) C dX8_hidden_55 (by decide) (fun hc => ?_) (fun hc => ?_)
          · have hf := ifT hc hf
            obtain ⟨v6, h6, hf⟩ := bsome hf
            refine ww_iincN (pc := 77) (lv' := [(4, .int v6), (0, .ref q_this), (2, .int n2), (3, .int n3)]) (j := 3) C dX8_hidden_77 kI_m1 rfl h6 (by decide) rfl ?_
            refine ww_goto (pc := 80) (tgt := 35) C dX8_hidden_80 (by decide) ?_
            exact ww_lv [1, 2, 3, 0] rfl (ih35 c_cameOut c_outerMany c_rowMany c_thrown c_walkedMany c_onWalks c_outerCell c_outerDoor c_row c_walked n2 n3 v6 hf)
          · have hf := ifF hc hf
            refine ww_aload_n (pc := 58) C dX8_hidden_58 rfl 0 rfl ?_
            refine gf8_16 (pc := 59) C kf_X8_33 0 rfl rfl dX8_hidden_59 ?_
            refine ww_iload (pc := 62) C dX8_hidden_62 3 rfl ?_
            obtain ⟨v7, h7, hf⟩ := bsome hf
            refine ww_iald (pc := 64) C 2 rfl h7 dX8_hidden_64 ?_
            refine ww_if_eq (pc := 65) (tgt := 71) C dX8_hidden_65 (by decide) (fun hc => ?_) (fun hc => ?_)
            · have hf := ifT hc hf
              obtain ⟨v8, h8, hf⟩ := bsome hf
              refine ww_iincN (pc := 71) (lv' := [(2, .int v8), (0, .ref q_this), (3, .int n3), (4, .int n4)]) (j := 1) C dX8_hidden_71 kI_1 rfl h8 (by decide) rfl ?_
              refine ww_iload (pc := 74) C dX8_hidden_74 3 rfl ?_
              refine ww_istore_n (pc := 76) (lv' := [(3, .int n4), (2, .int v8), (0, .ref q_this), (4, .int n4)]) C dX8_hidden_76 rfl (by decide) rfl ?_
              obtain ⟨v9, h9, hf⟩ := bsome hf
              refine ww_iincN (pc := 77) (lv' := [(4, .int v9), (3, .int n4), (2, .int v8), (0, .ref q_this)]) (j := 3) C dX8_hidden_77 kI_m1 rfl h9 (by decide) rfl ?_
              refine ww_goto (pc := 80) (tgt := 35) C dX8_hidden_80 (by decide) ?_
              exact ww_lv [3, 2, 1, 0] rfl (ih35 c_cameOut c_outerMany c_rowMany c_thrown c_walkedMany c_onWalks c_outerCell c_outerDoor c_row c_walked v8 n4 v9 hf)
            · have hf := ifF hc hf
              refine ww_goto (pc := 68) (tgt := 77) C dX8_hidden_68 (by decide) ?_
              obtain ⟨v10, h10, hf⟩ := bsome hf
              refine ww_iincN (pc := 77) (lv' := [(4, .int v10), (0, .ref q_this), (2, .int n2), (3, .int n3)]) (j := 3) C dX8_hidden_77 kI_m1 rfl h10 (by decide) rfl ?_
              refine ww_goto (pc := 80) (tgt := 35) C dX8_hidden_80 (by decide) ?_
              exact ww_lv [1, 2, 3, 0] rfl (ih35 c_cameOut c_outerMany c_rowMany c_thrown c_walkedMany c_onWalks c_outerCell c_outerDoor c_row c_walked n2 n3 v10 hf)
  unfold fX8_hidden at hf
  refine ww_aload_n (pc := 0) C dX8_hidden_0 rfl 0 rfl ?_
  refine ww_iconst (pc := 1) C dX8_hidden_1 kI_0 ?_
  refine pf8_5 (pc := 2) (ws' := [oX8 q_this q_now q_text c_typed q_row c_rowMany (0 : Int32) c_length c_at c_wrong q_read q_outerCell q_outerDoor c_outerMany q_walked c_walkedMany c_cameOut q_onWalks q_far q_aside q_wasFull q_undos q_was c_undoMany c_drawn q_kept q_isKept, aI k q_now 189 c_now, aI k q_onWalks 512 c_onWalks, aI k q_outerCell 16 c_outerCell, aI k q_outerDoor 16 c_outerDoor, aJ k q_row 64 c_row, aI k q_walked 512 c_walked]) C kf_X8_61 0 rfl (Nat.le_of_ble_eq_true rfl) rfl dX8_hidden_2 ?_
  refine ww_iload_n (pc := 5) C dX8_hidden_5 rfl 1 rfl ?_
  obtain ⟨v1, h1, hf⟩ := bsome hf
  refine ww_callSi0 (pc := 6) (As := [.int x1]) (rest := []) C (tX8_isKind l D k x1 v1 h1) cs_X8_244 ⟨⟨by decide, by decide⟩, rfl, rfl⟩ [] rfl rfl rfl rfl (Nat.le_of_ble_eq_true rfl) ⟨Nat.zero_le _, Nat.zero_le _⟩ dX8_hidden_6 (fun hb1 => ?_)
  refine ww_if_ne (pc := 9) (tgt := 14) C dX8_hidden_9 (by decide) (fun hc => ?_) (fun hc => ?_)
  · have hf := ifF hc hf
    refine ww_aload_n (pc := 14) C dX8_hidden_14 rfl 0 rfl ?_
    obtain ⟨v2, h2, hf⟩ := bsome hf
    refine ww_callVv (pc := 15) (ws' := [oX8 q_this q_now q_text c_typed q_row c_rowMany (0 : Int32) c_length c_at c_wrong q_read q_outerCell q_outerDoor c_outerMany q_walked c_walkedMany c_cameOut q_onWalks q_far q_aside q_wasFull q_undos q_was c_undoMany c_drawn q_kept q_isKept, aI k q_now 189 c_now, aI k q_onWalks 512 v2, aI k q_outerCell 16 c_outerCell, aI k q_outerDoor 16 c_outerDoor, aJ k q_row 64 c_row, aI k q_walked 512 c_walked]) (As := []) (rest := []) C (tX8_clearWalks l D k q_this q_now q_text q_row q_read q_outerCell q_outerDoor q_walked q_onWalks q_far q_aside q_wasFull q_undos q_was q_kept q_isKept c_typed c_rowMany (0 : Int32) c_length c_at c_wrong c_outerMany c_walkedMany c_cameOut c_undoMany c_drawn c_onWalks v2 h2) cv_X8_275 ⟨⟨by decide, by decide⟩, rfl, rfl⟩ 0 rfl rfl [0, 2] rfl rfl rfl rfl rfl rfl (Nat.le_of_ble_eq_true rfl) ⟨Nat.zero_le _, Nat.zero_le _⟩ dX8_hidden_15 ?_
    refine ww_aload_n (pc := 18) C dX8_hidden_18 rfl 0 rfl ?_
    refine ww_iload_n (pc := 19) C dX8_hidden_19 rfl 1 rfl ?_
    obtain ⟨v3, v4, v5, v6, v7, v8, v9, h3, hf⟩ := bd7_some hf
    refine ww_callVv (pc := 20) (ws' := [oX8 q_this q_now q_text c_typed q_row c_rowMany (0 : Int32) c_length c_at c_wrong q_read q_outerCell q_outerDoor v4 q_walked v5 v3 q_onWalks q_far q_aside q_wasFull q_undos q_was c_undoMany c_drawn q_kept q_isKept, aI k q_now 189 c_now, aI k q_onWalks 512 v6, aI k q_outerCell 16 v7, aI k q_outerDoor 16 v8, aJ k q_row 64 c_row, aI k q_walked 512 v9]) (As := [.int x1]) (rest := []) C (tX8_layWalks l D k q_this q_now q_text q_row q_read q_outerCell q_outerDoor q_walked q_onWalks q_far q_aside q_wasFull q_undos q_was q_kept q_isKept c_typed c_rowMany (0 : Int32) c_length c_at c_wrong c_outerMany c_walkedMany c_cameOut c_undoMany c_drawn c_now v2 c_outerCell c_outerDoor c_walked x1 v3 v4 v5 v6 v7 v8 v9 h3) cv_X8_278 ⟨⟨by decide, by decide⟩, rfl, rfl⟩ 0 rfl rfl [0, 1, 2, 3, 4, 6] rfl rfl rfl rfl rfl rfl (Nat.le_of_ble_eq_true rfl) ⟨Nat.zero_le _, Nat.zero_le _⟩ dX8_hidden_20 ?_
    refine ww_iconst (pc := 23) C dX8_hidden_23 kI_0 ?_
    refine ww_istore_n (pc := 24) (lv' := [(2, .int (0 : Int32)), (0, .ref q_this), (1, .int x1)]) C dX8_hidden_24 rfl (by decide) rfl ?_
    refine ww_iconst (pc := 25) C dX8_hidden_25 kI_m1 ?_
    refine ww_istore_n (pc := 26) (lv' := [(3, .int (-1 : Int32)), (2, .int (0 : Int32)), (0, .ref q_this), (1, .int x1)]) C dX8_hidden_26 rfl (by decide) rfl ?_
    refine ww_aload_n (pc := 27) C dX8_hidden_27 rfl 2 rfl ?_
    obtain ⟨v10, h10, hf⟩ := bsome hf
    refine ww_callVi0 (pc := 28) (As := []) (rest := []) C (tX8_numbers l D k q_this q_now q_text q_row q_read q_outerCell q_outerDoor q_walked q_onWalks q_far q_aside q_wasFull q_undos q_was q_kept q_isKept c_typed c_rowMany (0 : Int32) c_length c_at c_wrong v4 v5 v3 c_undoMany c_drawn c_now v10 h10) cv_X8_210 ⟨⟨by decide, by decide⟩, rfl, rfl⟩ 0 rfl rfl [0, 1] rfl rfl rfl rfl (Nat.le_of_ble_eq_true rfl) ⟨Nat.zero_le _, Nat.zero_le _⟩ dX8_hidden_28 (fun hb10 => ?_)
    refine ww_iconst (pc := 31) C dX8_hidden_31 kI_1 ?_
    refine ww_isub (pc := 32) C dX8_hidden_32  ?_
    obtain ⟨v11, h11, hf⟩ := bsome hf
    refine ww_nmi h11 ?_
    refine ww_istore (pc := 33) (lv' := [(4, .int v11), (3, .int (-1 : Int32)), (2, .int (0 : Int32)), (0, .ref q_this), (1, .int x1)]) C dX8_hidden_33 (by decide) rfl ?_
    exact ww_lv [3, 2, 1, 0] rfl (hL35 FU v3 v4 c_rowMany (0 : Int32) v5 v6 v7 v8 c_row v9 (0 : Int32) (-1 : Int32) v11 hf)
  · have hf := ifT hc hf
    refine ww_iconst (pc := 12) C dX8_hidden_12 kI_m1 ?_
    obtain ⟨e0, e1, e2, e3, e4, e5, e6, e7, e8, e9, e10⟩ := ij11 hf
    exact hret _ _ 13 _ dX8_hidden_13 rfl e0 (by rw [← e1, ← e2, ← e3, ← e4, ← e5, ← e6, ← e7, ← e8, ← e9, ← e10])
def fX8_longest_b134 (c_now : Nat → Int32) (rc99 : Int32 → Int32 → Int32 → Int32 → Int32 → (Nat → Int32) → (Nat → Int32) → (Nat → Int32) → (Nat → Int64) → (Nat → Int32) → Int32 → Int32 → Int32 → Int32 → Option (Int32 × Int32 × Int32 × Int32 × Int32 × Int32 × (Nat → Int32) × (Nat → Int32) × (Nat → Int32) × (Nat → Int64) × (Nat → Int32))) (c_cameOut : Int32) (c_outerMany : Int32) (c_rowMany : Int32) (c_thrown : Int32) (c_walkedMany : Int32) (c_onWalks : Nat → Int32) (c_outerCell : Nat → Int32) (c_outerDoor : Nat → Int32) (c_row : Nat → Int64) (c_walked : Nat → Int32) (n2 : Int32) (n3 : Int32) (n5 : Int32) (s0 : Int32) (s1 : Int32) : Option (Int32 × Int32 × Int32 × Int32 × Int32 × Int32 × (Nat → Int32) × (Nat → Int32) × (Nat → Int32) × (Nat → Int64) × (Nat → Int32)) := (some (s0 + s1)).bind fun v1 => (some (n5 + (1 : Int32))).bind fun v2 => rc99 c_cameOut c_outerMany c_rowMany c_thrown c_walkedMany c_onWalks c_outerCell c_outerDoor c_row c_walked n2 n3 v1 v2
def fX8_longest_b133 (c_now : Nat → Int32) (rc99 : Int32 → Int32 → Int32 → Int32 → Int32 → (Nat → Int32) → (Nat → Int32) → (Nat → Int32) → (Nat → Int64) → (Nat → Int32) → Int32 → Int32 → Int32 → Int32 → Option (Int32 × Int32 × Int32 × Int32 × Int32 × Int32 × (Nat → Int32) × (Nat → Int32) × (Nat → Int32) × (Nat → Int64) × (Nat → Int32))) (c_cameOut : Int32) (c_outerMany : Int32) (c_rowMany : Int32) (c_thrown : Int32) (c_walkedMany : Int32) (c_onWalks : Nat → Int32) (c_outerCell : Nat → Int32) (c_outerDoor : Nat → Int32) (c_row : Nat → Int64) (c_walked : Nat → Int32) (n2 : Int32) (n3 : Int32) (n5 : Int32) (s0 : Int32) : Option (Int32 × Int32 × Int32 × Int32 × Int32 × Int32 × (Nat → Int32) × (Nat → Int32) × (Nat → Int32) × (Nat → Int64) × (Nat → Int32)) := fX8_longest_b134 c_now rc99 c_cameOut c_outerMany c_rowMany c_thrown c_walkedMany c_onWalks c_outerCell c_outerDoor c_row c_walked n2 n3 n5 s0 (0 : Int32)
def fX8_longest_b99 (c_now : Nat → Int32) (rc99 : Int32 → Int32 → Int32 → Int32 → Int32 → (Nat → Int32) → (Nat → Int32) → (Nat → Int32) → (Nat → Int64) → (Nat → Int32) → Int32 → Int32 → Int32 → Int32 → Option (Int32 × Int32 × Int32 × Int32 × Int32 × Int32 × (Nat → Int32) × (Nat → Int32) × (Nat → Int32) × (Nat → Int64) × (Nat → Int32))) (c_cameOut : Int32) (c_outerMany : Int32) (c_rowMany : Int32) (c_thrown : Int32) (c_walkedMany : Int32) (c_onWalks : Nat → Int32) (c_outerCell : Nat → Int32) (c_outerDoor : Nat → Int32) (c_row : Nat → Int64) (c_walked : Nat → Int32) (n2 : Int32) (n3 : Int32) (n4 : Int32) (n5 : Int32) : Option (Int32 × Int32 × Int32 × Int32 × Int32 × Int32 × (Nat → Int32) × (Nat → Int32) × (Nat → Int32) × (Nat → Int64) × (Nat → Int32)) := (fX8_numbers c_now).bind fun v1 => if v1 ≤ n5 then bd2 (fX8_tell (0 : Int32) c_row ((n3).toInt64)) fun v2 v3 => bd2 (fX8_tell v2 v3 ((n4).toInt64)) fun v4 v5 => some (n2, c_cameOut, c_outerMany, v4, c_thrown, c_walkedMany, c_onWalks, c_outerCell, c_outerDoor, v5, c_walked) else (fX8_isCell c_now n5).bind fun v6 => if v6 = 0 then fX8_longest_b133 c_now rc99 c_cameOut c_outerMany c_rowMany c_thrown c_walkedMany c_onWalks c_outerCell c_outerDoor c_row c_walked n2 n3 n5 n4 else (ald 512 n5 c_onWalks).bind fun v7 => if v7 = 0 then fX8_longest_b134 c_now rc99 c_cameOut c_outerMany c_rowMany c_thrown c_walkedMany c_onWalks c_outerCell c_outerDoor c_row c_walked n2 n3 n5 n4 (1 : Int32) else fX8_longest_b133 c_now rc99 c_cameOut c_outerMany c_rowMany c_thrown c_walkedMany c_onWalks c_outerCell c_outerDoor c_row c_walked n2 n3 n5 n4
def fX8_longest_b40 (c_now : Nat → Int32) (rc40 : Int32 → Int32 → Int32 → Int32 → Int32 → (Nat → Int32) → (Nat → Int32) → (Nat → Int32) → (Nat → Int64) → (Nat → Int32) → Int32 → Int32 → Int32 → Int32 → Option (Int32 × Int32 × Int32 × Int32 × Int32 × Int32 × (Nat → Int32) × (Nat → Int32) × (Nat → Int32) × (Nat → Int64) × (Nat → Int32))) (c_cameOut : Int32) (c_outerMany : Int32) (c_rowMany : Int32) (c_thrown : Int32) (c_walkedMany : Int32) (c_onWalks : Nat → Int32) (c_outerCell : Nat → Int32) (c_outerDoor : Nat → Int32) (c_row : Nat → Int64) (c_walked : Nat → Int32) (n1 : Int32) (n2 : Int32) (n3 : Int32) (n4 : Int32) : Option (Int32 × Int32 × Int32 × Int32 × Int32 × Int32 × (Nat → Int32) × (Nat → Int32) × (Nat → Int32) × (Nat → Int64) × (Nat → Int32)) := if c_outerMany ≤ n4 then lfix (fX8_longest_b99 c_now) (fun _ _ _ _ _ _ _ _ _ _ _ _ _ _ => none) FU c_cameOut c_outerMany c_rowMany c_thrown c_walkedMany c_onWalks c_outerCell c_outerDoor c_row c_walked n2 n3 (0 : Int32) (0 : Int32) else (ald 16 n4 c_outerCell).bind fun v1 => (ald 16 n4 c_outerDoor).bind fun v2 => bd3 (fX8_goIn c_outerMany c_now c_outerCell c_outerDoor c_cameOut c_walkedMany c_walked v1 v2 n1) fun v3 v4 v5 => if n3 < v4 then (some (n4 + (1 : Int32))).bind fun v6 => rc40 v3 c_outerMany c_rowMany c_thrown v4 c_onWalks c_outerCell c_outerDoor c_row v5 n1 n4 v4 v6 else (some (n4 + (1 : Int32))).bind fun v7 => rc40 v3 c_outerMany c_rowMany c_thrown v4 c_onWalks c_outerCell c_outerDoor c_row v5 n1 n2 n3 v7
def fX8_longest (c_now : Nat → Int32) (c_cameOut : Int32) (c_outerMany : Int32) (c_rowMany : Int32) (c_thrown : Int32) (c_walkedMany : Int32) (c_onWalks : Nat → Int32) (c_outerCell : Nat → Int32) (c_outerDoor : Nat → Int32) (c_row : Nat → Int64) (c_walked : Nat → Int32) (x1 : Int32) : Option (Int32 × Int32 × Int32 × Int32 × Int32 × Int32 × (Nat → Int32) × (Nat → Int32) × (Nat → Int32) × (Nat → Int64) × (Nat → Int32)) := (fX8_isKind x1).bind fun v1 => if v1 = 0 then some ((-1 : Int32), c_cameOut, c_outerMany, c_rowMany, (0 : Int32), c_walkedMany, c_onWalks, c_outerCell, c_outerDoor, c_row, c_walked) else (fX8_clearWalks c_onWalks).bind fun v2 => bd7 (fX8_layWalks c_now c_cameOut c_outerMany c_walkedMany v2 c_outerCell c_outerDoor c_walked x1) fun v3 v4 v5 v6 v7 v8 v9 => if v4 = 0 then some ((-2 : Int32), v3, v4, c_rowMany, (0 : Int32), v5, v6, v7, v8, c_row, v9) else lfix (fX8_longest_b40 c_now) (fun _ _ _ _ _ _ _ _ _ _ _ _ _ _ => none) FU v3 v4 c_rowMany (0 : Int32) v5 v6 v7 v8 c_row v9 x1 (-1 : Int32) (0 : Int32) (0 : Int32)
set_option maxHeartbeats 4000000 in
set_option maxRecDepth 100000 in
theorem tX8_longest (l : Launch) (D : va_G) (k : Nat → ClassId) (q_this q_now q_text q_row q_read q_outerCell q_outerDoor q_walked q_onWalks q_far q_aside q_wasFull q_undos q_was q_kept q_isKept : Nat) (c_typed : Int32) (c_rowMany : Int32) (c_thrown : Int32) (c_length : Int32) (c_at : Int32) (c_wrong : Int32) (c_outerMany : Int32) (c_walkedMany : Int32) (c_cameOut : Int32) (c_undoMany : Int32) (c_drawn : Int32) (c_now : Nat → Int32) (c_onWalks : Nat → Int32) (c_outerCell : Nat → Int32) (c_outerDoor : Nat → Int32) (c_row : Nat → Int64) (c_walked : Nat → Int32) (x1 : Int32) (r_ : Int32) (w_cameOut : Int32) (w_outerMany : Int32) (w_rowMany : Int32) (w_thrown : Int32) (w_walkedMany : Int32) (w_onWalks : Nat → Int32) (w_outerCell : Nat → Int32) (w_outerDoor : Nat → Int32) (w_row : Nat → Int64) (w_walked : Nat → Int32) (hf : fX8_longest c_now c_cameOut c_outerMany c_rowMany c_thrown c_walkedMany c_onWalks c_outerCell c_outerDoor c_row c_walked x1 = some (r_, w_cameOut, w_outerMany, w_rowMany, w_thrown, w_walkedMany, w_onWalks, w_outerCell, w_outerDoor, w_row, w_walked)) : MI l yX8_longest cX8_longest 6 .int (RM 8 188) D k [.ref q_this, .int x1] [oX8 q_this q_now q_text c_typed q_row c_rowMany c_thrown c_length c_at c_wrong q_read q_outerCell q_outerDoor c_outerMany q_walked c_walkedMany c_cameOut q_onWalks q_far q_aside q_wasFull q_undos q_was c_undoMany c_drawn q_kept q_isKept, aI k q_now 189 c_now, aI k q_onWalks 512 c_onWalks, aI k q_outerCell 16 c_outerCell, aI k q_outerDoor 16 c_outerDoor, aJ k q_row 64 c_row, aI k q_walked 512 c_walked] r_ [oX8 q_this q_now q_text c_typed q_row w_rowMany w_thrown c_length c_at c_wrong q_read q_outerCell q_outerDoor w_outerMany q_walked w_walkedMany w_cameOut q_onWalks q_far q_aside q_wasFull q_undos q_was c_undoMany c_drawn q_kept q_isKept, aI k q_now 189 c_now, aI k q_onWalks 512 w_onWalks, aI k q_outerCell 16 w_outerCell, aI k q_outerDoor 16 w_outerDoor, aJ k q_row 64 w_row, aI k q_walked 512 w_walked] := by
  refine mkMI' (own := "DoorWalkModel") (by decide) rfl (Nat.le_of_ble_eq_true rfl) ?_
  intro p e s m args below meth c Q A hret C
  refine ww_lv (lv' := [(0, .ref q_this), (1, .int x1)]) [0, 1] rfl ?_
  have hL99 : ∀ (n : Nat) (c_cameOut : Int32) (c_outerMany : Int32) (c_rowMany : Int32) (c_thrown : Int32) (c_walkedMany : Int32) (c_onWalks : Nat → Int32) (c_outerCell : Nat → Int32) (c_outerDoor : Nat → Int32) (c_row : Nat → Int64) (c_walked : Nat → Int32) (n2 : Int32) (n3 : Int32) (n4 : Int32) (n5 : Int32), lfix (fX8_longest_b99 c_now) (fun _ _ _ _ _ _ _ _ _ _ _ _ _ _ => none) n c_cameOut c_outerMany c_rowMany c_thrown c_walkedMany c_onWalks c_outerCell c_outerDoor c_row c_walked n2 n3 n4 n5 = some (r_, w_cameOut, w_outerMany, w_rowMany, w_thrown, w_walkedMany, w_onWalks, w_outerCell, w_outerDoor, w_row, w_walked) → WW p l e (RM 8 188) s m args below meth c Q 6 D A 0 0 [oX8 q_this q_now q_text c_typed q_row c_rowMany c_thrown c_length c_at c_wrong q_read q_outerCell q_outerDoor c_outerMany q_walked c_walkedMany c_cameOut q_onWalks q_far q_aside q_wasFull q_undos q_was c_undoMany c_drawn q_kept q_isKept, aI k q_now 189 c_now, aI k q_onWalks 512 c_onWalks, aI k q_outerCell 16 c_outerCell, aI k q_outerDoor 16 c_outerDoor, aJ k q_row 64 c_row, aI k q_walked 512 c_walked] [(0, .ref q_this), (2, .int n2), (3, .int n3), (4, .int n4), (5, .int n5)] 99 [] := by
    intro n
    induction n with
    | zero => intro c_cameOut c_outerMany c_rowMany c_thrown c_walkedMany c_onWalks c_outerCell c_outerDoor c_row c_walked n2 n3 n4 n5 hf; cases hf
    | succ n ih99 =>
      obtain ⟨rc99, hrc99⟩ : ∃ f9, f9 = lfix (fX8_longest_b99 c_now) (fun _ _ _ _ _ _ _ _ _ _ _ _ _ _ => none) n := ⟨_, rfl⟩
      rw [← hrc99] at ih99
      have hJ134 : ∀ (c_cameOut : Int32) (c_outerMany : Int32) (c_rowMany : Int32) (c_thrown : Int32) (c_walkedMany : Int32) (c_onWalks : Nat → Int32) (c_outerCell : Nat → Int32) (c_outerDoor : Nat → Int32) (c_row : Nat → Int64) (c_walked : Nat → Int32) (n2 : Int32) (n3 : Int32) (n5 : Int32) (s0 : Int32) (s1 : Int32), fX8_longest_b134 c_now rc99 c_cameOut c_outerMany c_rowMany c_thrown c_walkedMany c_onWalks c_outerCell c_outerDoor c_row c_walked n2 n3 n5 s0 s1 = some (r_, w_cameOut, w_outerMany, w_rowMany, w_thrown, w_walkedMany, w_onWalks, w_outerCell, w_outerDoor, w_row, w_walked) → WW p l e (RM 8 188) s m args below meth c Q 6 D A 0 0 [oX8 q_this q_now q_text c_typed q_row c_rowMany c_thrown c_length c_at c_wrong q_read q_outerCell q_outerDoor c_outerMany q_walked c_walkedMany c_cameOut q_onWalks q_far q_aside q_wasFull q_undos q_was c_undoMany c_drawn q_kept q_isKept, aI k q_now 189 c_now, aI k q_onWalks 512 c_onWalks, aI k q_outerCell 16 c_outerCell, aI k q_outerDoor 16 c_outerDoor, aJ k q_row 64 c_row, aI k q_walked 512 c_walked] [(0, .ref q_this), (2, .int n2), (3, .int n3), (5, .int n5)] 134 [.int s1, .int s0] := by
        intro c_cameOut c_outerMany c_rowMany c_thrown c_walkedMany c_onWalks c_outerCell c_outerDoor c_row c_walked n2 n3 n5 s0 s1
        intro hf
        unfold fX8_longest_b134 at hf
        refine ww_iadd (pc := 134) C dX8_longest_134  ?_
        obtain ⟨v1, h1, hf⟩ := bsome hf
        refine ww_nmi h1 ?_
        refine ww_istore (pc := 135) (lv' := [(4, .int v1), (0, .ref q_this), (2, .int n2), (3, .int n3), (5, .int n5)]) C dX8_longest_135 (by decide) rfl ?_
        obtain ⟨v2, h2, hf⟩ := bsome hf
        refine ww_iincN (pc := 137) (lv' := [(5, .int v2), (4, .int v1), (0, .ref q_this), (2, .int n2), (3, .int n3)]) (j := 4) C dX8_longest_137 kI_1 rfl h2 (by decide) rfl ?_
        refine ww_goto (pc := 140) (tgt := 99) C dX8_longest_140 (by decide) ?_
        exact ww_lv [2, 3, 4, 1, 0] rfl (ih99 c_cameOut c_outerMany c_rowMany c_thrown c_walkedMany c_onWalks c_outerCell c_outerDoor c_row c_walked n2 n3 v1 v2 hf)
      have hJ133 : ∀ (c_cameOut : Int32) (c_outerMany : Int32) (c_rowMany : Int32) (c_thrown : Int32) (c_walkedMany : Int32) (c_onWalks : Nat → Int32) (c_outerCell : Nat → Int32) (c_outerDoor : Nat → Int32) (c_row : Nat → Int64) (c_walked : Nat → Int32) (n2 : Int32) (n3 : Int32) (n5 : Int32) (s0 : Int32), fX8_longest_b133 c_now rc99 c_cameOut c_outerMany c_rowMany c_thrown c_walkedMany c_onWalks c_outerCell c_outerDoor c_row c_walked n2 n3 n5 s0 = some (r_, w_cameOut, w_outerMany, w_rowMany, w_thrown, w_walkedMany, w_onWalks, w_outerCell, w_outerDoor, w_row, w_walked) → WW p l e (RM 8 188) s m args below meth c Q 6 D A 0 0 [oX8 q_this q_now q_text c_typed q_row c_rowMany c_thrown c_length c_at c_wrong q_read q_outerCell q_outerDoor c_outerMany q_walked c_walkedMany c_cameOut q_onWalks q_far q_aside q_wasFull q_undos q_was c_undoMany c_drawn q_kept q_isKept, aI k q_now 189 c_now, aI k q_onWalks 512 c_onWalks, aI k q_outerCell 16 c_outerCell, aI k q_outerDoor 16 c_outerDoor, aJ k q_row 64 c_row, aI k q_walked 512 c_walked] [(0, .ref q_this), (2, .int n2), (3, .int n3), (5, .int n5)] 133 [.int s0] := by
        intro c_cameOut c_outerMany c_rowMany c_thrown c_walkedMany c_onWalks c_outerCell c_outerDoor c_row c_walked n2 n3 n5 s0
        intro hf
        unfold fX8_longest_b133 at hf
        refine ww_iconst (pc := 133) C dX8_longest_133 kI_0 ?_
        exact hJ134 c_cameOut c_outerMany c_rowMany c_thrown c_walkedMany c_onWalks c_outerCell c_outerDoor c_row c_walked n2 n3 n5 s0 (0 : Int32) hf
      intro c_cameOut c_outerMany c_rowMany c_thrown c_walkedMany c_onWalks c_outerCell c_outerDoor c_row c_walked n2 n3 n4 n5 hf
      have hf : fX8_longest_b99 c_now rc99 c_cameOut c_outerMany c_rowMany c_thrown c_walkedMany c_onWalks c_outerCell c_outerDoor c_row c_walked n2 n3 n4 n5 = some (r_, w_cameOut, w_outerMany, w_rowMany, w_thrown, w_walkedMany, w_onWalks, w_outerCell, w_outerDoor, w_row, w_walked) := by rw [hrc99]; exact hf
      unfold fX8_longest_b99 at hf
      refine ww_iload (pc := 99) C dX8_longest_99 4 rfl ?_
      refine ww_aload_n (pc := 101) C dX8_longest_101 rfl 0 rfl ?_
      obtain ⟨v1, h1, hf⟩ := bsome hf
      refine ww_callVi0 (pc := 102) (As := []) (rest := [.int n5]) C (tX8_numbers l D k q_this q_now q_text q_row q_read q_outerCell q_outerDoor q_walked q_onWalks q_far q_aside q_wasFull q_undos q_was q_kept q_isKept c_typed c_rowMany c_thrown c_length c_at c_wrong c_outerMany c_walkedMany c_cameOut c_undoMany c_drawn c_now v1 h1) cv_X8_210 ⟨⟨by decide, by decide⟩, rfl, rfl⟩ 0 rfl rfl [0, 1] rfl rfl rfl rfl (Nat.le_of_ble_eq_true rfl) ⟨Nat.zero_le _, Nat.zero_le _⟩ dX8_longest_102 (fun hb1 => ?_)
      refine ww_icmp_ge (pc := 105) (tgt := 143) C dX8_longest_105 (by decide) (fun hc => ?_) (fun hc => ?_)
      · have hf := ifT hc hf
        refine ww_aload_n (pc := 143) C dX8_longest_143 rfl 0 rfl ?_
        refine ww_iconst (pc := 144) C dX8_longest_144 kI_0 ?_
        refine pf8_4 (pc := 145) (ws' := [oX8 q_this q_now q_text c_typed q_row (0 : Int32) c_thrown c_length c_at c_wrong q_read q_outerCell q_outerDoor c_outerMany q_walked c_walkedMany c_cameOut q_onWalks q_far q_aside q_wasFull q_undos q_was c_undoMany c_drawn q_kept q_isKept, aI k q_now 189 c_now, aI k q_onWalks 512 c_onWalks, aI k q_outerCell 16 c_outerCell, aI k q_outerDoor 16 c_outerDoor, aJ k q_row 64 c_row, aI k q_walked 512 c_walked]) C kf_X8_65 0 rfl (Nat.le_of_ble_eq_true rfl) rfl dX8_longest_145 ?_
        refine ww_aload_n (pc := 148) C dX8_longest_148 rfl 0 rfl ?_
        refine ww_iload_n (pc := 149) C dX8_longest_149 rfl 2 rfl ?_
        refine ww_i2l (pc := 150) C dX8_longest_150  ?_
        obtain ⟨v2, v3, h2, hf⟩ := bd2_some hf
        refine ww_callVv (pc := 151) (ws' := [oX8 q_this q_now q_text c_typed q_row v2 c_thrown c_length c_at c_wrong q_read q_outerCell q_outerDoor c_outerMany q_walked c_walkedMany c_cameOut q_onWalks q_far q_aside q_wasFull q_undos q_was c_undoMany c_drawn q_kept q_isKept, aI k q_now 189 c_now, aI k q_onWalks 512 c_onWalks, aI k q_outerCell 16 c_outerCell, aI k q_outerDoor 16 c_outerDoor, aJ k q_row 64 v3, aI k q_walked 512 c_walked]) (As := [.long ((n3).toInt64)]) (rest := []) C (tX8_tell l D k q_this q_now q_text q_row q_read q_outerCell q_outerDoor q_walked q_onWalks q_far q_aside q_wasFull q_undos q_was q_kept q_isKept c_typed (0 : Int32) c_thrown c_length c_at c_wrong c_outerMany c_walkedMany c_cameOut c_undoMany c_drawn c_row ((n3).toInt64) v2 v3 h2) cv_X8_182 ⟨⟨by decide, by decide⟩, rfl, rfl⟩ 0 rfl rfl [0, 5] rfl rfl rfl rfl rfl rfl (Nat.le_of_ble_eq_true rfl) ⟨Nat.zero_le _, Nat.zero_le _⟩ dX8_longest_151 ?_
        refine ww_aload_n (pc := 154) C dX8_longest_154 rfl 0 rfl ?_
        refine ww_iload (pc := 155) C dX8_longest_155 3 rfl ?_
        refine ww_i2l (pc := 157) C dX8_longest_157  ?_
        obtain ⟨v4, v5, h4, hf⟩ := bd2_some hf
        refine ww_callVv (pc := 158) (ws' := [oX8 q_this q_now q_text c_typed q_row v4 c_thrown c_length c_at c_wrong q_read q_outerCell q_outerDoor c_outerMany q_walked c_walkedMany c_cameOut q_onWalks q_far q_aside q_wasFull q_undos q_was c_undoMany c_drawn q_kept q_isKept, aI k q_now 189 c_now, aI k q_onWalks 512 c_onWalks, aI k q_outerCell 16 c_outerCell, aI k q_outerDoor 16 c_outerDoor, aJ k q_row 64 v5, aI k q_walked 512 c_walked]) (As := [.long ((n4).toInt64)]) (rest := []) C (tX8_tell l D k q_this q_now q_text q_row q_read q_outerCell q_outerDoor q_walked q_onWalks q_far q_aside q_wasFull q_undos q_was q_kept q_isKept c_typed v2 c_thrown c_length c_at c_wrong c_outerMany c_walkedMany c_cameOut c_undoMany c_drawn v3 ((n4).toInt64) v4 v5 h4) cv_X8_182 ⟨⟨by decide, by decide⟩, rfl, rfl⟩ 0 rfl rfl [0, 5] rfl rfl rfl rfl rfl rfl (Nat.le_of_ble_eq_true rfl) ⟨Nat.zero_le _, Nat.zero_le _⟩ dX8_longest_158 ?_
        refine ww_iload_n (pc := 161) C dX8_longest_161 rfl 1 rfl ?_
        obtain ⟨e0, e1, e2, e3, e4, e5, e6, e7, e8, e9, e10⟩ := ij11 hf
        exact hret _ _ 162 _ dX8_longest_162 rfl e0 (by rw [← e1, ← e2, ← e3, ← e4, ← e5, ← e6, ← e7, ← e8, ← e9, ← e10])
      · have hf := ifF hc hf
        refine ww_iload (pc := 108) C dX8_longest_108 3 rfl ?_
        refine ww_aload_n (pc := 110) C dX8_longest_110 rfl 0 rfl ?_
        refine ww_iload (pc := 111) C dX8_longest_111 4 rfl ?_
        obtain ⟨v6, h6, hf⟩ := bsome hf
        refine ww_callVi0 (pc := 113) (As := [.int n5]) (rest := [.int n4]) C (tX8_isCell l D k q_this q_now q_text q_row q_read q_outerCell q_outerDoor q_walked q_onWalks q_far q_aside q_wasFull q_undos q_was q_kept q_isKept c_typed c_rowMany c_thrown c_length c_at c_wrong c_outerMany c_walkedMany c_cameOut c_undoMany c_drawn c_now n5 v6 h6) cv_X8_213 ⟨⟨by decide, by decide⟩, rfl, rfl⟩ 0 rfl rfl [0, 1] rfl rfl rfl rfl (Nat.le_of_ble_eq_true rfl) ⟨Nat.zero_le _, Nat.zero_le _⟩ dX8_longest_113 (fun hb6 => ?_)
        refine ww_if_eq (pc := 116) (tgt := 133) C dX8_longest_116 (by decide) (fun hc => ?_) (fun hc => ?_)
        · have hf := ifT hc hf
          exact ww_lv [0, 1, 2, 4] rfl (hJ133 c_cameOut c_outerMany c_rowMany c_thrown c_walkedMany c_onWalks c_outerCell c_outerDoor c_row c_walked n2 n3 n5 n4 hf)
        · have hf := ifF hc hf
          refine ww_aload_n (pc := 119) C dX8_longest_119 rfl 0 rfl ?_
          refine gf8_16 (pc := 120) C kf_X8_33 0 rfl rfl dX8_longest_120 ?_
          refine ww_iload (pc := 123) C dX8_longest_123 4 rfl ?_
          obtain ⟨v7, h7, hf⟩ := bsome hf
          refine ww_iald (pc := 125) C 2 rfl h7 dX8_longest_125 ?_
          refine ww_if_ne (pc := 126) (tgt := 133) C dX8_longest_126 (by decide) (fun hc => ?_) (fun hc => ?_)
          · have hf := ifF hc hf
            exact ww_lv [0, 1, 2, 4] rfl (hJ133 c_cameOut c_outerMany c_rowMany c_thrown c_walkedMany c_onWalks c_outerCell c_outerDoor c_row c_walked n2 n3 n5 n4 hf)
          · have hf := ifT hc hf
            refine ww_iconst (pc := 129) C dX8_longest_129 kI_1 ?_
            refine ww_goto (pc := 130) (tgt := 134) C dX8_longest_130 (by decide) ?_
            exact ww_lv [0, 1, 2, 4] rfl (hJ134 c_cameOut c_outerMany c_rowMany c_thrown c_walkedMany c_onWalks c_outerCell c_outerDoor c_row c_walked n2 n3 n5 n4 (1 : Int32) hf)
  have hL40 : ∀ (n : Nat) (c_cameOut : Int32) (c_outerMany : Int32) (c_rowMany : Int32) (c_thrown : Int32) (c_walkedMany : Int32) (c_onWalks : Nat → Int32) (c_outerCell : Nat → Int32) (c_outerDoor : Nat → Int32) (c_row : Nat → Int64) (c_walked : Nat → Int32) (n1 : Int32) (n2 : Int32) (n3 : Int32) (n4 : Int32), lfix (fX8_longest_b40 c_now) (fun _ _ _ _ _ _ _ _ _ _ _ _ _ _ => none) n c_cameOut c_outerMany c_rowMany c_thrown c_walkedMany c_onWalks c_outerCell c_outerDoor c_row c_walked n1 n2 n3 n4 = some (r_, w_cameOut, w_outerMany, w_rowMany, w_thrown, w_walkedMany, w_onWalks, w_outerCell, w_outerDoor, w_row, w_walked) → WW p l e (RM 8 188) s m args below meth c Q 6 D A 0 0 [oX8 q_this q_now q_text c_typed q_row c_rowMany c_thrown c_length c_at c_wrong q_read q_outerCell q_outerDoor c_outerMany q_walked c_walkedMany c_cameOut q_onWalks q_far q_aside q_wasFull q_undos q_was c_undoMany c_drawn q_kept q_isKept, aI k q_now 189 c_now, aI k q_onWalks 512 c_onWalks, aI k q_outerCell 16 c_outerCell, aI k q_outerDoor 16 c_outerDoor, aJ k q_row 64 c_row, aI k q_walked 512 c_walked] [(0, .ref q_this), (1, .int n1), (2, .int n2), (3, .int n3), (4, .int n4)] 40 [] := by
    intro n
    induction n with
    | zero => intro c_cameOut c_outerMany c_rowMany c_thrown c_walkedMany c_onWalks c_outerCell c_outerDoor c_row c_walked n1 n2 n3 n4 hf; cases hf
    | succ n ih40 =>
      obtain ⟨rc40, hrc40⟩ : ∃ f9, f9 = lfix (fX8_longest_b40 c_now) (fun _ _ _ _ _ _ _ _ _ _ _ _ _ _ => none) n := ⟨_, rfl⟩
      rw [← hrc40] at ih40
      intro c_cameOut c_outerMany c_rowMany c_thrown c_walkedMany c_onWalks c_outerCell c_outerDoor c_row c_walked n1 n2 n3 n4 hf
      have hf : fX8_longest_b40 c_now rc40 c_cameOut c_outerMany c_rowMany c_thrown c_walkedMany c_onWalks c_outerCell c_outerDoor c_row c_walked n1 n2 n3 n4 = some (r_, w_cameOut, w_outerMany, w_rowMany, w_thrown, w_walkedMany, w_onWalks, w_outerCell, w_outerDoor, w_row, w_walked) := by rw [hrc40]; exact hf
      unfold fX8_longest_b40 at hf
      refine ww_iload (pc := 40) C dX8_longest_40 4 rfl ?_
      refine ww_aload_n (pc := 42) C dX8_longest_42 rfl 0 rfl ?_
      refine gf8_12 (pc := 43) C kf_X8_241 0 rfl rfl dX8_longest_43 ?_
      refine ww_icmp_ge (pc := 46) (tgt := 93) C dX8_longest_46 (by decide) (fun hc => ?_) (fun hc => ?_)
      · have hf := ifT hc hf
        refine ww_iconst (pc := 93) C dX8_longest_93 kI_0 ?_
        refine ww_istore (pc := 94) (lv' := [(4, .int (0 : Int32)), (0, .ref q_this), (1, .int n1), (2, .int n2), (3, .int n3)]) C dX8_longest_94 (by decide) rfl ?_
        refine ww_iconst (pc := 96) C dX8_longest_96 kI_0 ?_
        refine ww_istore (pc := 97) (lv' := [(5, .int (0 : Int32)), (4, .int (0 : Int32)), (0, .ref q_this), (1, .int n1), (2, .int n2), (3, .int n3)]) C dX8_longest_97 (by decide) rfl ?_
        exact ww_lv [2, 4, 5, 1, 0] rfl (hL99 FU c_cameOut c_outerMany c_rowMany c_thrown c_walkedMany c_onWalks c_outerCell c_outerDoor c_row c_walked n2 n3 (0 : Int32) (0 : Int32) hf)
      · have hf := ifF hc hf
        refine ww_aload_n (pc := 49) C dX8_longest_49 rfl 0 rfl ?_
        refine ww_aload_n (pc := 50) C dX8_longest_50 rfl 0 rfl ?_
        refine gf8_10 (pc := 51) C kf_X8_24 0 rfl rfl dX8_longest_51 ?_
        refine ww_iload (pc := 54) C dX8_longest_54 4 rfl ?_
        obtain ⟨v1, h1, hf⟩ := bsome hf
        refine ww_iald (pc := 56) C 3 rfl h1 dX8_longest_56 ?_
        refine ww_aload_n (pc := 57) C dX8_longest_57 rfl 0 rfl ?_
        refine gf8_11 (pc := 58) C kf_X8_27 0 rfl rfl dX8_longest_58 ?_
        refine ww_iload (pc := 61) C dX8_longest_61 4 rfl ?_
        obtain ⟨v2, h2, hf⟩ := bsome hf
        refine ww_iald (pc := 63) C 4 rfl h2 dX8_longest_63 ?_
        refine ww_iload_n (pc := 64) C dX8_longest_64 rfl 1 rfl ?_
        obtain ⟨v3, v4, v5, h3, hf⟩ := bd3_some hf
        refine ww_callVv (pc := 65) (ws' := [oX8 q_this q_now q_text c_typed q_row c_rowMany c_thrown c_length c_at c_wrong q_read q_outerCell q_outerDoor c_outerMany q_walked v4 v3 q_onWalks q_far q_aside q_wasFull q_undos q_was c_undoMany c_drawn q_kept q_isKept, aI k q_now 189 c_now, aI k q_onWalks 512 c_onWalks, aI k q_outerCell 16 c_outerCell, aI k q_outerDoor 16 c_outerDoor, aJ k q_row 64 c_row, aI k q_walked 512 v5]) (As := [.int v1, .int v2, .int n1]) (rest := []) C (tX8_goIn l D k q_this q_now q_text q_row q_read q_outerCell q_outerDoor q_walked q_onWalks q_far q_aside q_wasFull q_undos q_was q_kept q_isKept c_typed c_rowMany c_thrown c_length c_at c_wrong c_outerMany c_walkedMany c_cameOut c_undoMany c_drawn c_now c_outerCell c_outerDoor c_walked v1 v2 n1 v3 v4 v5 h3) cv_X8_268 ⟨⟨by decide, by decide⟩, rfl, rfl⟩ 0 rfl rfl [0, 1, 3, 4, 6] rfl rfl rfl rfl rfl rfl (Nat.le_of_ble_eq_true rfl) ⟨Nat.zero_le _, Nat.zero_le _⟩ dX8_longest_65 ?_
        refine ww_aload_n (pc := 68) C dX8_longest_68 rfl 0 rfl ?_
        refine gf8_14 (pc := 69) C kf_X8_253 0 rfl rfl dX8_longest_69 ?_
        refine ww_iload_n (pc := 72) C dX8_longest_72 rfl 3 rfl ?_
        refine ww_icmp_gt (pc := 73) (tgt := 79) C dX8_longest_73 (by decide) (fun hc => ?_) (fun hc => ?_)
        · have hf := ifT hc hf
          refine ww_iload (pc := 79) C dX8_longest_79 4 rfl ?_
          refine ww_istore_n (pc := 81) (lv' := [(2, .int n4), (0, .ref q_this), (1, .int n1), (3, .int n3), (4, .int n4)]) C dX8_longest_81 rfl (by decide) rfl ?_
          refine ww_aload_n (pc := 82) C dX8_longest_82 rfl 1 rfl ?_
          refine gf8_14 (pc := 83) C kf_X8_253 0 rfl rfl dX8_longest_83 ?_
          refine ww_istore_n (pc := 86) (lv' := [(3, .int v4), (2, .int n4), (0, .ref q_this), (1, .int n1), (4, .int n4)]) C dX8_longest_86 rfl (by decide) rfl ?_
          obtain ⟨v6, h6, hf⟩ := bsome hf
          refine ww_iincN (pc := 87) (lv' := [(4, .int v6), (3, .int v4), (2, .int n4), (0, .ref q_this), (1, .int n1)]) (j := 4) C dX8_longest_87 kI_1 rfl h6 (by decide) rfl ?_
          refine ww_goto (pc := 90) (tgt := 40) C dX8_longest_90 (by decide) ?_
          exact ww_lv [3, 4, 2, 1, 0] rfl (ih40 v3 c_outerMany c_rowMany c_thrown v4 c_onWalks c_outerCell c_outerDoor c_row v5 n1 n4 v4 v6 hf)
        · have hf := ifF hc hf
          refine ww_goto (pc := 76) (tgt := 87) C dX8_longest_76 (by decide) ?_
          obtain ⟨v7, h7, hf⟩ := bsome hf
          refine ww_iincN (pc := 87) (lv' := [(4, .int v7), (0, .ref q_this), (1, .int n1), (2, .int n2), (3, .int n3)]) (j := 4) C dX8_longest_87 kI_1 rfl h7 (by decide) rfl ?_
          refine ww_goto (pc := 90) (tgt := 40) C dX8_longest_90 (by decide) ?_
          exact ww_lv [1, 2, 3, 4, 0] rfl (ih40 v3 c_outerMany c_rowMany c_thrown v4 c_onWalks c_outerCell c_outerDoor c_row v5 n1 n2 n3 v7 hf)
  unfold fX8_longest at hf
  refine ww_aload_n (pc := 0) C dX8_longest_0 rfl 0 rfl ?_
  refine ww_iconst (pc := 1) C dX8_longest_1 kI_0 ?_
  refine pf8_5 (pc := 2) (ws' := [oX8 q_this q_now q_text c_typed q_row c_rowMany (0 : Int32) c_length c_at c_wrong q_read q_outerCell q_outerDoor c_outerMany q_walked c_walkedMany c_cameOut q_onWalks q_far q_aside q_wasFull q_undos q_was c_undoMany c_drawn q_kept q_isKept, aI k q_now 189 c_now, aI k q_onWalks 512 c_onWalks, aI k q_outerCell 16 c_outerCell, aI k q_outerDoor 16 c_outerDoor, aJ k q_row 64 c_row, aI k q_walked 512 c_walked]) C kf_X8_61 0 rfl (Nat.le_of_ble_eq_true rfl) rfl dX8_longest_2 ?_
  refine ww_iload_n (pc := 5) C dX8_longest_5 rfl 1 rfl ?_
  obtain ⟨v1, h1, hf⟩ := bsome hf
  refine ww_callSi0 (pc := 6) (As := [.int x1]) (rest := []) C (tX8_isKind l D k x1 v1 h1) cs_X8_244 ⟨⟨by decide, by decide⟩, rfl, rfl⟩ [] rfl rfl rfl rfl (Nat.le_of_ble_eq_true rfl) ⟨Nat.zero_le _, Nat.zero_le _⟩ dX8_longest_6 (fun hb1 => ?_)
  refine ww_if_ne (pc := 9) (tgt := 14) C dX8_longest_9 (by decide) (fun hc => ?_) (fun hc => ?_)
  · have hf := ifF hc hf
    refine ww_aload_n (pc := 14) C dX8_longest_14 rfl 0 rfl ?_
    obtain ⟨v2, h2, hf⟩ := bsome hf
    refine ww_callVv (pc := 15) (ws' := [oX8 q_this q_now q_text c_typed q_row c_rowMany (0 : Int32) c_length c_at c_wrong q_read q_outerCell q_outerDoor c_outerMany q_walked c_walkedMany c_cameOut q_onWalks q_far q_aside q_wasFull q_undos q_was c_undoMany c_drawn q_kept q_isKept, aI k q_now 189 c_now, aI k q_onWalks 512 v2, aI k q_outerCell 16 c_outerCell, aI k q_outerDoor 16 c_outerDoor, aJ k q_row 64 c_row, aI k q_walked 512 c_walked]) (As := []) (rest := []) C (tX8_clearWalks l D k q_this q_now q_text q_row q_read q_outerCell q_outerDoor q_walked q_onWalks q_far q_aside q_wasFull q_undos q_was q_kept q_isKept c_typed c_rowMany (0 : Int32) c_length c_at c_wrong c_outerMany c_walkedMany c_cameOut c_undoMany c_drawn c_onWalks v2 h2) cv_X8_275 ⟨⟨by decide, by decide⟩, rfl, rfl⟩ 0 rfl rfl [0, 2] rfl rfl rfl rfl rfl rfl (Nat.le_of_ble_eq_true rfl) ⟨Nat.zero_le _, Nat.zero_le _⟩ dX8_longest_15 ?_
    refine ww_aload_n (pc := 18) C dX8_longest_18 rfl 0 rfl ?_
    refine ww_iload_n (pc := 19) C dX8_longest_19 rfl 1 rfl ?_
    obtain ⟨v3, v4, v5, v6, v7, v8, v9, h3, hf⟩ := bd7_some hf
    refine ww_callVv (pc := 20) (ws' := [oX8 q_this q_now q_text c_typed q_row c_rowMany (0 : Int32) c_length c_at c_wrong q_read q_outerCell q_outerDoor v4 q_walked v5 v3 q_onWalks q_far q_aside q_wasFull q_undos q_was c_undoMany c_drawn q_kept q_isKept, aI k q_now 189 c_now, aI k q_onWalks 512 v6, aI k q_outerCell 16 v7, aI k q_outerDoor 16 v8, aJ k q_row 64 c_row, aI k q_walked 512 v9]) (As := [.int x1]) (rest := []) C (tX8_layWalks l D k q_this q_now q_text q_row q_read q_outerCell q_outerDoor q_walked q_onWalks q_far q_aside q_wasFull q_undos q_was q_kept q_isKept c_typed c_rowMany (0 : Int32) c_length c_at c_wrong c_outerMany c_walkedMany c_cameOut c_undoMany c_drawn c_now v2 c_outerCell c_outerDoor c_walked x1 v3 v4 v5 v6 v7 v8 v9 h3) cv_X8_278 ⟨⟨by decide, by decide⟩, rfl, rfl⟩ 0 rfl rfl [0, 1, 2, 3, 4, 6] rfl rfl rfl rfl rfl rfl (Nat.le_of_ble_eq_true rfl) ⟨Nat.zero_le _, Nat.zero_le _⟩ dX8_longest_20 ?_
    refine ww_aload_n (pc := 23) C dX8_longest_23 rfl 0 rfl ?_
    refine gf8_12 (pc := 24) C kf_X8_241 0 rfl rfl dX8_longest_24 ?_
    refine ww_if_ne (pc := 27) (tgt := 33) C dX8_longest_27 (by decide) (fun hc => ?_) (fun hc => ?_)
    · have hf := ifF hc hf
      refine ww_iconst (pc := 33) C dX8_longest_33 kI_m1 ?_
      refine ww_istore_n (pc := 34) (lv' := [(2, .int (-1 : Int32)), (0, .ref q_this), (1, .int x1)]) C dX8_longest_34 rfl (by decide) rfl ?_
      refine ww_iconst (pc := 35) C dX8_longest_35 kI_0 ?_
      refine ww_istore_n (pc := 36) (lv' := [(3, .int (0 : Int32)), (2, .int (-1 : Int32)), (0, .ref q_this), (1, .int x1)]) C dX8_longest_36 rfl (by decide) rfl ?_
      refine ww_iconst (pc := 37) C dX8_longest_37 kI_0 ?_
      refine ww_istore (pc := 38) (lv' := [(4, .int (0 : Int32)), (3, .int (0 : Int32)), (2, .int (-1 : Int32)), (0, .ref q_this), (1, .int x1)]) C dX8_longest_38 (by decide) rfl ?_
      exact ww_lv [3, 4, 2, 1, 0] rfl (hL40 FU v3 v4 c_rowMany (0 : Int32) v5 v6 v7 v8 c_row v9 x1 (-1 : Int32) (0 : Int32) (0 : Int32) hf)
    · have hf := ifT hc hf
      refine ww_bipush (pc := 30) C dX8_longest_30 kB_m2 ?_
      obtain ⟨e0, e1, e2, e3, e4, e5, e6, e7, e8, e9, e10⟩ := ij11 hf
      exact hret _ _ 32 _ dX8_longest_32 rfl e0 (by rw [← e1, ← e2, ← e3, ← e4, ← e5, ← e6, ← e7, ← e8, ← e9, ← e10])
  · have hf := ifT hc hf
    refine ww_iconst (pc := 12) C dX8_longest_12 kI_m1 ?_
    obtain ⟨e0, e1, e2, e3, e4, e5, e6, e7, e8, e9, e10⟩ := ij11 hf
    exact hret _ _ 13 _ dX8_longest_13 rfl e0 (by rw [← e1, ← e2, ← e3, ← e4, ← e5, ← e6, ← e7, ← e8, ← e9, ← e10])
def fX8_crossed_b80 (c_now : Nat → Int32) (rc33 : Int32 → Int32 → Int32 → Int32 → Int32 → (Nat → Int32) → (Nat → Int32) → (Nat → Int32) → (Nat → Int64) → (Nat → Int32) → Int32 → Int32 → Int32 → Option (Int32 × Int32 × Int32 × Int32 × Int32 × Int32 × (Nat → Int32) × (Nat → Int32) × (Nat → Int32) × (Nat → Int64) × (Nat → Int32))) (c_cameOut : Int32) (c_outerMany : Int32) (c_rowMany : Int32) (c_thrown : Int32) (c_walkedMany : Int32) (c_onWalks : Nat → Int32) (c_outerCell : Nat → Int32) (c_outerDoor : Nat → Int32) (c_row : Nat → Int64) (c_walked : Nat → Int32) (n1 : Int32) (n3 : Int32) (s0 : Int32) (s1 : Int32) : Option (Int32 × Int32 × Int32 × Int32 × Int32 × Int32 × (Nat → Int32) × (Nat → Int32) × (Nat → Int32) × (Nat → Int64) × (Nat → Int32)) := (some (s0 + s1)).bind fun v1 => (some (n3 + (1 : Int32))).bind fun v2 => rc33 c_cameOut c_outerMany c_rowMany c_thrown c_walkedMany c_onWalks c_outerCell c_outerDoor c_row c_walked n1 v1 v2
def fX8_crossed_b33 (c_now : Nat → Int32) (rc33 : Int32 → Int32 → Int32 → Int32 → Int32 → (Nat → Int32) → (Nat → Int32) → (Nat → Int32) → (Nat → Int64) → (Nat → Int32) → Int32 → Int32 → Int32 → Option (Int32 × Int32 × Int32 × Int32 × Int32 × Int32 × (Nat → Int32) × (Nat → Int32) × (Nat → Int32) × (Nat → Int64) × (Nat → Int32))) (c_cameOut : Int32) (c_outerMany : Int32) (c_rowMany : Int32) (c_thrown : Int32) (c_walkedMany : Int32) (c_onWalks : Nat → Int32) (c_outerCell : Nat → Int32) (c_outerDoor : Nat → Int32) (c_row : Nat → Int64) (c_walked : Nat → Int32) (n1 : Int32) (n2 : Int32) (n3 : Int32) : Option (Int32 × Int32 × Int32 × Int32 × Int32 × Int32 × (Nat → Int32) × (Nat → Int32) × (Nat → Int32) × (Nat → Int64) × (Nat → Int32)) := (fX8_numbers c_now).bind fun v1 => if v1 ≤ n3 then bd2 (fX8_tell (0 : Int32) c_row ((n2).toInt64)) fun v2 v3 => some (n1, c_cameOut, c_outerMany, v2, c_thrown, c_walkedMany, c_onWalks, c_outerCell, c_outerDoor, v3, c_walked) else (fX8_isCell c_now n3).bind fun v4 => if v4 = 0 then (some (n3 + (1 : Int32))).bind fun v5 => rc33 c_cameOut c_outerMany c_rowMany c_thrown c_walkedMany c_onWalks c_outerCell c_outerDoor c_row c_walked n1 n2 v5 else (ald 512 n3 c_onWalks).bind fun v6 => if v6 = (7 : Int32) then (some (n1 + (1 : Int32))).bind fun v7 => (fX8_isFull c_now n3).bind fun v8 => if v8 = 0 then fX8_crossed_b80 c_now rc33 c_cameOut c_outerMany c_rowMany c_thrown c_walkedMany c_onWalks c_outerCell c_outerDoor c_row c_walked v7 n3 n2 (0 : Int32) else fX8_crossed_b80 c_now rc33 c_cameOut c_outerMany c_rowMany c_thrown c_walkedMany c_onWalks c_outerCell c_outerDoor c_row c_walked v7 n3 n2 (1 : Int32) else (some (n3 + (1 : Int32))).bind fun v9 => rc33 c_cameOut c_outerMany c_rowMany c_thrown c_walkedMany c_onWalks c_outerCell c_outerDoor c_row c_walked n1 n2 v9
def fX8_crossed_b11 (c_now : Nat → Int32) (rc11 : Int32 → Int32 → Int32 → Int32 → Int32 → (Nat → Int32) → (Nat → Int32) → (Nat → Int32) → (Nat → Int64) → (Nat → Int32) → Int32 → Option (Int32 × Int32 × Int32 × Int32 × Int32 × Int32 × (Nat → Int32) × (Nat → Int32) × (Nat → Int32) × (Nat → Int64) × (Nat → Int32))) (c_cameOut : Int32) (c_outerMany : Int32) (c_rowMany : Int32) (c_thrown : Int32) (c_walkedMany : Int32) (c_onWalks : Nat → Int32) (c_outerCell : Nat → Int32) (c_outerDoor : Nat → Int32) (c_row : Nat → Int64) (c_walked : Nat → Int32) (n1 : Int32) : Option (Int32 × Int32 × Int32 × Int32 × Int32 × Int32 × (Nat → Int32) × (Nat → Int32) × (Nat → Int32) × (Nat → Int64) × (Nat → Int32)) := if (3 : Int32) ≤ n1 then lfix (fX8_crossed_b33 c_now) (fun _ _ _ _ _ _ _ _ _ _ _ _ _ => none) FU c_cameOut c_outerMany c_rowMany c_thrown c_walkedMany c_onWalks c_outerCell c_outerDoor c_row c_walked (0 : Int32) (0 : Int32) (0 : Int32) else bd7 (fX8_layWalks c_now c_cameOut c_outerMany c_walkedMany c_onWalks c_outerCell c_outerDoor c_walked n1) fun v1 v2 v3 v4 v5 v6 v7 => (some (n1 + (1 : Int32))).bind fun v8 => rc11 v1 v2 c_rowMany c_thrown v3 v4 v5 v6 c_row v7 v8
def fX8_crossed (c_now : Nat → Int32) (c_cameOut : Int32) (c_outerMany : Int32) (c_rowMany : Int32) (c_thrown : Int32) (c_walkedMany : Int32) (c_onWalks : Nat → Int32) (c_outerCell : Nat → Int32) (c_outerDoor : Nat → Int32) (c_row : Nat → Int64) (c_walked : Nat → Int32) : Option (Int32 × Int32 × Int32 × Int32 × Int32 × Int32 × (Nat → Int32) × (Nat → Int32) × (Nat → Int32) × (Nat → Int64) × (Nat → Int32)) := (fX8_clearWalks c_onWalks).bind fun v1 => lfix (fX8_crossed_b11 c_now) (fun _ _ _ _ _ _ _ _ _ _ _ => none) FU c_cameOut c_outerMany c_rowMany (0 : Int32) c_walkedMany v1 c_outerCell c_outerDoor c_row c_walked (0 : Int32)
set_option maxHeartbeats 4000000 in
set_option maxRecDepth 100000 in
theorem tX8_crossed (l : Launch) (D : va_G) (k : Nat → ClassId) (q_this q_now q_text q_row q_read q_outerCell q_outerDoor q_walked q_onWalks q_far q_aside q_wasFull q_undos q_was q_kept q_isKept : Nat) (c_typed : Int32) (c_rowMany : Int32) (c_thrown : Int32) (c_length : Int32) (c_at : Int32) (c_wrong : Int32) (c_outerMany : Int32) (c_walkedMany : Int32) (c_cameOut : Int32) (c_undoMany : Int32) (c_drawn : Int32) (c_now : Nat → Int32) (c_onWalks : Nat → Int32) (c_outerCell : Nat → Int32) (c_outerDoor : Nat → Int32) (c_row : Nat → Int64) (c_walked : Nat → Int32)  (r_ : Int32) (w_cameOut : Int32) (w_outerMany : Int32) (w_rowMany : Int32) (w_thrown : Int32) (w_walkedMany : Int32) (w_onWalks : Nat → Int32) (w_outerCell : Nat → Int32) (w_outerDoor : Nat → Int32) (w_row : Nat → Int64) (w_walked : Nat → Int32) (hf : fX8_crossed c_now c_cameOut c_outerMany c_rowMany c_thrown c_walkedMany c_onWalks c_outerCell c_outerDoor c_row c_walked = some (r_, w_cameOut, w_outerMany, w_rowMany, w_thrown, w_walkedMany, w_onWalks, w_outerCell, w_outerDoor, w_row, w_walked)) : MI l yX8_crossed cX8_crossed 4 .int (RM 8 188) D k [.ref q_this] [oX8 q_this q_now q_text c_typed q_row c_rowMany c_thrown c_length c_at c_wrong q_read q_outerCell q_outerDoor c_outerMany q_walked c_walkedMany c_cameOut q_onWalks q_far q_aside q_wasFull q_undos q_was c_undoMany c_drawn q_kept q_isKept, aI k q_now 189 c_now, aI k q_onWalks 512 c_onWalks, aI k q_outerCell 16 c_outerCell, aI k q_outerDoor 16 c_outerDoor, aJ k q_row 64 c_row, aI k q_walked 512 c_walked] r_ [oX8 q_this q_now q_text c_typed q_row w_rowMany w_thrown c_length c_at c_wrong q_read q_outerCell q_outerDoor w_outerMany q_walked w_walkedMany w_cameOut q_onWalks q_far q_aside q_wasFull q_undos q_was c_undoMany c_drawn q_kept q_isKept, aI k q_now 189 c_now, aI k q_onWalks 512 w_onWalks, aI k q_outerCell 16 w_outerCell, aI k q_outerDoor 16 w_outerDoor, aJ k q_row 64 w_row, aI k q_walked 512 w_walked] := by
  refine mkMI' (own := "DoorWalkModel") (by decide) rfl (Nat.le_of_ble_eq_true rfl) ?_
  intro p e s m args below meth c Q A hret C
  refine ww_lv (lv' := [(0, .ref q_this)]) [0] rfl ?_
  have hL33 : ∀ (n : Nat) (c_cameOut : Int32) (c_outerMany : Int32) (c_rowMany : Int32) (c_thrown : Int32) (c_walkedMany : Int32) (c_onWalks : Nat → Int32) (c_outerCell : Nat → Int32) (c_outerDoor : Nat → Int32) (c_row : Nat → Int64) (c_walked : Nat → Int32) (n1 : Int32) (n2 : Int32) (n3 : Int32), lfix (fX8_crossed_b33 c_now) (fun _ _ _ _ _ _ _ _ _ _ _ _ _ => none) n c_cameOut c_outerMany c_rowMany c_thrown c_walkedMany c_onWalks c_outerCell c_outerDoor c_row c_walked n1 n2 n3 = some (r_, w_cameOut, w_outerMany, w_rowMany, w_thrown, w_walkedMany, w_onWalks, w_outerCell, w_outerDoor, w_row, w_walked) → WW p l e (RM 8 188) s m args below meth c Q 4 D A 0 0 [oX8 q_this q_now q_text c_typed q_row c_rowMany c_thrown c_length c_at c_wrong q_read q_outerCell q_outerDoor c_outerMany q_walked c_walkedMany c_cameOut q_onWalks q_far q_aside q_wasFull q_undos q_was c_undoMany c_drawn q_kept q_isKept, aI k q_now 189 c_now, aI k q_onWalks 512 c_onWalks, aI k q_outerCell 16 c_outerCell, aI k q_outerDoor 16 c_outerDoor, aJ k q_row 64 c_row, aI k q_walked 512 c_walked] [(0, .ref q_this), (1, .int n1), (2, .int n2), (3, .int n3)] 33 [] := by
    intro n
    induction n with
    | zero => intro c_cameOut c_outerMany c_rowMany c_thrown c_walkedMany c_onWalks c_outerCell c_outerDoor c_row c_walked n1 n2 n3 hf; cases hf
    | succ n ih33 =>
      obtain ⟨rc33, hrc33⟩ : ∃ f9, f9 = lfix (fX8_crossed_b33 c_now) (fun _ _ _ _ _ _ _ _ _ _ _ _ _ => none) n := ⟨_, rfl⟩
      rw [← hrc33] at ih33
      have hJ80 : ∀ (c_cameOut : Int32) (c_outerMany : Int32) (c_rowMany : Int32) (c_thrown : Int32) (c_walkedMany : Int32) (c_onWalks : Nat → Int32) (c_outerCell : Nat → Int32) (c_outerDoor : Nat → Int32) (c_row : Nat → Int64) (c_walked : Nat → Int32) (n1 : Int32) (n3 : Int32) (s0 : Int32) (s1 : Int32), fX8_crossed_b80 c_now rc33 c_cameOut c_outerMany c_rowMany c_thrown c_walkedMany c_onWalks c_outerCell c_outerDoor c_row c_walked n1 n3 s0 s1 = some (r_, w_cameOut, w_outerMany, w_rowMany, w_thrown, w_walkedMany, w_onWalks, w_outerCell, w_outerDoor, w_row, w_walked) → WW p l e (RM 8 188) s m args below meth c Q 4 D A 0 0 [oX8 q_this q_now q_text c_typed q_row c_rowMany c_thrown c_length c_at c_wrong q_read q_outerCell q_outerDoor c_outerMany q_walked c_walkedMany c_cameOut q_onWalks q_far q_aside q_wasFull q_undos q_was c_undoMany c_drawn q_kept q_isKept, aI k q_now 189 c_now, aI k q_onWalks 512 c_onWalks, aI k q_outerCell 16 c_outerCell, aI k q_outerDoor 16 c_outerDoor, aJ k q_row 64 c_row, aI k q_walked 512 c_walked] [(0, .ref q_this), (1, .int n1), (3, .int n3)] 80 [.int s1, .int s0] := by
        intro c_cameOut c_outerMany c_rowMany c_thrown c_walkedMany c_onWalks c_outerCell c_outerDoor c_row c_walked n1 n3 s0 s1
        intro hf
        unfold fX8_crossed_b80 at hf
        refine ww_iadd (pc := 80) C dX8_crossed_80  ?_
        obtain ⟨v1, h1, hf⟩ := bsome hf
        refine ww_nmi h1 ?_
        refine ww_istore_n (pc := 81) (lv' := [(2, .int v1), (0, .ref q_this), (1, .int n1), (3, .int n3)]) C dX8_crossed_81 rfl (by decide) rfl ?_
        obtain ⟨v2, h2, hf⟩ := bsome hf
        refine ww_iincN (pc := 82) (lv' := [(3, .int v2), (2, .int v1), (0, .ref q_this), (1, .int n1)]) (j := 3) C dX8_crossed_82 kI_1 rfl h2 (by decide) rfl ?_
        refine ww_goto (pc := 85) (tgt := 33) C dX8_crossed_85 (by decide) ?_
        exact ww_lv [2, 3, 1, 0] rfl (ih33 c_cameOut c_outerMany c_rowMany c_thrown c_walkedMany c_onWalks c_outerCell c_outerDoor c_row c_walked n1 v1 v2 hf)
      intro c_cameOut c_outerMany c_rowMany c_thrown c_walkedMany c_onWalks c_outerCell c_outerDoor c_row c_walked n1 n2 n3 hf
      have hf : fX8_crossed_b33 c_now rc33 c_cameOut c_outerMany c_rowMany c_thrown c_walkedMany c_onWalks c_outerCell c_outerDoor c_row c_walked n1 n2 n3 = some (r_, w_cameOut, w_outerMany, w_rowMany, w_thrown, w_walkedMany, w_onWalks, w_outerCell, w_outerDoor, w_row, w_walked) := by rw [hrc33]; exact hf
      unfold fX8_crossed_b33 at hf
      refine ww_iload_n (pc := 33) C dX8_crossed_33 rfl 3 rfl ?_
      refine ww_aload_n (pc := 34) C dX8_crossed_34 rfl 0 rfl ?_
      obtain ⟨v1, h1, hf⟩ := bsome hf
      refine ww_callVi0 (pc := 35) (As := []) (rest := [.int n3]) C (tX8_numbers l D k q_this q_now q_text q_row q_read q_outerCell q_outerDoor q_walked q_onWalks q_far q_aside q_wasFull q_undos q_was q_kept q_isKept c_typed c_rowMany c_thrown c_length c_at c_wrong c_outerMany c_walkedMany c_cameOut c_undoMany c_drawn c_now v1 h1) cv_X8_210 ⟨⟨by decide, by decide⟩, rfl, rfl⟩ 0 rfl rfl [0, 1] rfl rfl rfl rfl (Nat.le_of_ble_eq_true rfl) ⟨Nat.zero_le _, Nat.zero_le _⟩ dX8_crossed_35 (fun hb1 => ?_)
      refine ww_icmp_ge (pc := 38) (tgt := 88) C dX8_crossed_38 (by decide) (fun hc => ?_) (fun hc => ?_)
      · have hf := ifT hc hf
        refine ww_aload_n (pc := 88) C dX8_crossed_88 rfl 0 rfl ?_
        refine ww_iconst (pc := 89) C dX8_crossed_89 kI_0 ?_
        refine pf8_4 (pc := 90) (ws' := [oX8 q_this q_now q_text c_typed q_row (0 : Int32) c_thrown c_length c_at c_wrong q_read q_outerCell q_outerDoor c_outerMany q_walked c_walkedMany c_cameOut q_onWalks q_far q_aside q_wasFull q_undos q_was c_undoMany c_drawn q_kept q_isKept, aI k q_now 189 c_now, aI k q_onWalks 512 c_onWalks, aI k q_outerCell 16 c_outerCell, aI k q_outerDoor 16 c_outerDoor, aJ k q_row 64 c_row, aI k q_walked 512 c_walked]) C kf_X8_65 0 rfl (Nat.le_of_ble_eq_true rfl) rfl dX8_crossed_90 ?_
        refine ww_aload_n (pc := 93) C dX8_crossed_93 rfl 0 rfl ?_
        refine ww_iload_n (pc := 94) C dX8_crossed_94 rfl 2 rfl ?_
        refine ww_i2l (pc := 95) C dX8_crossed_95  ?_
        obtain ⟨v2, v3, h2, hf⟩ := bd2_some hf
        refine ww_callVv (pc := 96) (ws' := [oX8 q_this q_now q_text c_typed q_row v2 c_thrown c_length c_at c_wrong q_read q_outerCell q_outerDoor c_outerMany q_walked c_walkedMany c_cameOut q_onWalks q_far q_aside q_wasFull q_undos q_was c_undoMany c_drawn q_kept q_isKept, aI k q_now 189 c_now, aI k q_onWalks 512 c_onWalks, aI k q_outerCell 16 c_outerCell, aI k q_outerDoor 16 c_outerDoor, aJ k q_row 64 v3, aI k q_walked 512 c_walked]) (As := [.long ((n2).toInt64)]) (rest := []) C (tX8_tell l D k q_this q_now q_text q_row q_read q_outerCell q_outerDoor q_walked q_onWalks q_far q_aside q_wasFull q_undos q_was q_kept q_isKept c_typed (0 : Int32) c_thrown c_length c_at c_wrong c_outerMany c_walkedMany c_cameOut c_undoMany c_drawn c_row ((n2).toInt64) v2 v3 h2) cv_X8_182 ⟨⟨by decide, by decide⟩, rfl, rfl⟩ 0 rfl rfl [0, 5] rfl rfl rfl rfl rfl rfl (Nat.le_of_ble_eq_true rfl) ⟨Nat.zero_le _, Nat.zero_le _⟩ dX8_crossed_96 ?_
        refine ww_iload_n (pc := 99) C dX8_crossed_99 rfl 1 rfl ?_
        obtain ⟨e0, e1, e2, e3, e4, e5, e6, e7, e8, e9, e10⟩ := ij11 hf
        exact hret _ _ 100 _ dX8_crossed_100 rfl e0 (by rw [← e1, ← e2, ← e3, ← e4, ← e5, ← e6, ← e7, ← e8, ← e9, ← e10])
      · have hf := ifF hc hf
        refine ww_aload_n (pc := 41) C dX8_crossed_41 rfl 0 rfl ?_
        refine ww_iload_n (pc := 42) C dX8_crossed_42 rfl 3 rfl ?_
        obtain ⟨v4, h4, hf⟩ := bsome hf
        refine ww_callVi0 (pc := 43) (As := [.int n3]) (rest := []) C (tX8_isCell l D k q_this q_now q_text q_row q_read q_outerCell q_outerDoor q_walked q_onWalks q_far q_aside q_wasFull q_undos q_was q_kept q_isKept c_typed c_rowMany c_thrown c_length c_at c_wrong c_outerMany c_walkedMany c_cameOut c_undoMany c_drawn c_now n3 v4 h4) cv_X8_213 ⟨⟨by decide, by decide⟩, rfl, rfl⟩ 0 rfl rfl [0, 1] rfl rfl rfl rfl (Nat.le_of_ble_eq_true rfl) ⟨Nat.zero_le _, Nat.zero_le _⟩ dX8_crossed_43 (fun hb4 => ?_)
        refine ww_if_eq (pc := 46) (tgt := 82) C dX8_crossed_46 (by decide) (fun hc => ?_) (fun hc => ?_)
        · have hf := ifT hc hf
          obtain ⟨v5, h5, hf⟩ := bsome hf
          refine ww_iincN (pc := 82) (lv' := [(3, .int v5), (0, .ref q_this), (1, .int n1), (2, .int n2)]) (j := 3) C dX8_crossed_82 kI_1 rfl h5 (by decide) rfl ?_
          refine ww_goto (pc := 85) (tgt := 33) C dX8_crossed_85 (by decide) ?_
          exact ww_lv [1, 2, 3, 0] rfl (ih33 c_cameOut c_outerMany c_rowMany c_thrown c_walkedMany c_onWalks c_outerCell c_outerDoor c_row c_walked n1 n2 v5 hf)
        · have hf := ifF hc hf
          refine ww_aload_n (pc := 49) C dX8_crossed_49 rfl 0 rfl ?_
          refine gf8_16 (pc := 50) C kf_X8_33 0 rfl rfl dX8_crossed_50 ?_
          refine ww_iload_n (pc := 53) C dX8_crossed_53 rfl 3 rfl ?_
          obtain ⟨v6, h6, hf⟩ := bsome hf
          refine ww_iald (pc := 54) C 2 rfl h6 dX8_crossed_54 ?_
          refine ww_bipush (pc := 55) C dX8_crossed_55 kB_7 ?_
          refine ww_icmp_eq (pc := 57) (tgt := 63) C dX8_crossed_57 (by decide) (fun hc => ?_) (fun hc => ?_)
          · have hf := ifT hc hf
            obtain ⟨v7, h7, hf⟩ := bsome hf
            refine ww_iincN (pc := 63) (lv' := [(1, .int v7), (0, .ref q_this), (2, .int n2), (3, .int n3)]) (j := 1) C dX8_crossed_63 kI_1 rfl h7 (by decide) rfl ?_
            refine ww_iload_n (pc := 66) C dX8_crossed_66 rfl 2 rfl ?_
            refine ww_aload_n (pc := 67) C dX8_crossed_67 rfl 1 rfl ?_
            refine ww_iload_n (pc := 68) C dX8_crossed_68 rfl 3 rfl ?_
            obtain ⟨v8, h8, hf⟩ := bsome hf
            refine ww_callVi0 (pc := 69) (As := [.int n3]) (rest := [.int n2]) C (tX8_isFull l D k q_this q_now q_text q_row q_read q_outerCell q_outerDoor q_walked q_onWalks q_far q_aside q_wasFull q_undos q_was q_kept q_isKept c_typed c_rowMany c_thrown c_length c_at c_wrong c_outerMany c_walkedMany c_cameOut c_undoMany c_drawn c_now n3 v8 h8) cv_X8_206 ⟨⟨by decide, by decide⟩, rfl, rfl⟩ 0 rfl rfl [0, 1] rfl rfl rfl rfl (Nat.le_of_ble_eq_true rfl) ⟨Nat.zero_le _, Nat.zero_le _⟩ dX8_crossed_69 (fun hb8 => ?_)
            refine ww_if_eq (pc := 72) (tgt := 79) C dX8_crossed_72 (by decide) (fun hc => ?_) (fun hc => ?_)
            · have hf := ifT hc hf
              refine ww_iconst (pc := 79) C dX8_crossed_79 kI_0 ?_
              exact ww_lv [1, 0, 3] rfl (hJ80 c_cameOut c_outerMany c_rowMany c_thrown c_walkedMany c_onWalks c_outerCell c_outerDoor c_row c_walked v7 n3 n2 (0 : Int32) hf)
            · have hf := ifF hc hf
              refine ww_iconst (pc := 75) C dX8_crossed_75 kI_1 ?_
              refine ww_goto (pc := 76) (tgt := 80) C dX8_crossed_76 (by decide) ?_
              exact ww_lv [1, 0, 3] rfl (hJ80 c_cameOut c_outerMany c_rowMany c_thrown c_walkedMany c_onWalks c_outerCell c_outerDoor c_row c_walked v7 n3 n2 (1 : Int32) hf)
          · have hf := ifF hc hf
            refine ww_goto (pc := 60) (tgt := 82) C dX8_crossed_60 (by decide) ?_
            obtain ⟨v9, h9, hf⟩ := bsome hf
            refine ww_iincN (pc := 82) (lv' := [(3, .int v9), (0, .ref q_this), (1, .int n1), (2, .int n2)]) (j := 3) C dX8_crossed_82 kI_1 rfl h9 (by decide) rfl ?_
            refine ww_goto (pc := 85) (tgt := 33) C dX8_crossed_85 (by decide) ?_
            exact ww_lv [1, 2, 3, 0] rfl (ih33 c_cameOut c_outerMany c_rowMany c_thrown c_walkedMany c_onWalks c_outerCell c_outerDoor c_row c_walked n1 n2 v9 hf)
  have hL11 : ∀ (n : Nat) (c_cameOut : Int32) (c_outerMany : Int32) (c_rowMany : Int32) (c_thrown : Int32) (c_walkedMany : Int32) (c_onWalks : Nat → Int32) (c_outerCell : Nat → Int32) (c_outerDoor : Nat → Int32) (c_row : Nat → Int64) (c_walked : Nat → Int32) (n1 : Int32), lfix (fX8_crossed_b11 c_now) (fun _ _ _ _ _ _ _ _ _ _ _ => none) n c_cameOut c_outerMany c_rowMany c_thrown c_walkedMany c_onWalks c_outerCell c_outerDoor c_row c_walked n1 = some (r_, w_cameOut, w_outerMany, w_rowMany, w_thrown, w_walkedMany, w_onWalks, w_outerCell, w_outerDoor, w_row, w_walked) → WW p l e (RM 8 188) s m args below meth c Q 4 D A 0 0 [oX8 q_this q_now q_text c_typed q_row c_rowMany c_thrown c_length c_at c_wrong q_read q_outerCell q_outerDoor c_outerMany q_walked c_walkedMany c_cameOut q_onWalks q_far q_aside q_wasFull q_undos q_was c_undoMany c_drawn q_kept q_isKept, aI k q_now 189 c_now, aI k q_onWalks 512 c_onWalks, aI k q_outerCell 16 c_outerCell, aI k q_outerDoor 16 c_outerDoor, aJ k q_row 64 c_row, aI k q_walked 512 c_walked] [(0, .ref q_this), (1, .int n1)] 11 [] := by
    intro n
    induction n with
    | zero => intro c_cameOut c_outerMany c_rowMany c_thrown c_walkedMany c_onWalks c_outerCell c_outerDoor c_row c_walked n1 hf; cases hf
    | succ n ih11 =>
      obtain ⟨rc11, hrc11⟩ : ∃ f9, f9 = lfix (fX8_crossed_b11 c_now) (fun _ _ _ _ _ _ _ _ _ _ _ => none) n := ⟨_, rfl⟩
      rw [← hrc11] at ih11
      intro c_cameOut c_outerMany c_rowMany c_thrown c_walkedMany c_onWalks c_outerCell c_outerDoor c_row c_walked n1 hf
      have hf : fX8_crossed_b11 c_now rc11 c_cameOut c_outerMany c_rowMany c_thrown c_walkedMany c_onWalks c_outerCell c_outerDoor c_row c_walked n1 = some (r_, w_cameOut, w_outerMany, w_rowMany, w_thrown, w_walkedMany, w_onWalks, w_outerCell, w_outerDoor, w_row, w_walked) := by rw [hrc11]; exact hf
      unfold fX8_crossed_b11 at hf
      refine ww_iload_n (pc := 11) C dX8_crossed_11 rfl 1 rfl ?_
      refine ww_iconst (pc := 12) C dX8_crossed_12 kI_3 ?_
      refine ww_icmp_ge (pc := 13) (tgt := 27) C dX8_crossed_13 (by decide) (fun hc => ?_) (fun hc => ?_)
      · have hf := ifT hc hf
        refine ww_iconst (pc := 27) C dX8_crossed_27 kI_0 ?_
        refine ww_istore_n (pc := 28) (lv' := [(1, .int (0 : Int32)), (0, .ref q_this)]) C dX8_crossed_28 rfl (by decide) rfl ?_
        refine ww_iconst (pc := 29) C dX8_crossed_29 kI_0 ?_
        refine ww_istore_n (pc := 30) (lv' := [(2, .int (0 : Int32)), (1, .int (0 : Int32)), (0, .ref q_this)]) C dX8_crossed_30 rfl (by decide) rfl ?_
        refine ww_iconst (pc := 31) C dX8_crossed_31 kI_0 ?_
        refine ww_istore_n (pc := 32) (lv' := [(3, .int (0 : Int32)), (2, .int (0 : Int32)), (1, .int (0 : Int32)), (0, .ref q_this)]) C dX8_crossed_32 rfl (by decide) rfl ?_
        exact ww_lv [3, 2, 1, 0] rfl (hL33 FU c_cameOut c_outerMany c_rowMany c_thrown c_walkedMany c_onWalks c_outerCell c_outerDoor c_row c_walked (0 : Int32) (0 : Int32) (0 : Int32) hf)
      · have hf := ifF hc hf
        refine ww_aload_n (pc := 16) C dX8_crossed_16 rfl 0 rfl ?_
        refine ww_iload_n (pc := 17) C dX8_crossed_17 rfl 1 rfl ?_
        obtain ⟨v1, v2, v3, v4, v5, v6, v7, h1, hf⟩ := bd7_some hf
        refine ww_callVv (pc := 18) (ws' := [oX8 q_this q_now q_text c_typed q_row c_rowMany c_thrown c_length c_at c_wrong q_read q_outerCell q_outerDoor v2 q_walked v3 v1 q_onWalks q_far q_aside q_wasFull q_undos q_was c_undoMany c_drawn q_kept q_isKept, aI k q_now 189 c_now, aI k q_onWalks 512 v4, aI k q_outerCell 16 v5, aI k q_outerDoor 16 v6, aJ k q_row 64 c_row, aI k q_walked 512 v7]) (As := [.int n1]) (rest := []) C (tX8_layWalks l D k q_this q_now q_text q_row q_read q_outerCell q_outerDoor q_walked q_onWalks q_far q_aside q_wasFull q_undos q_was q_kept q_isKept c_typed c_rowMany c_thrown c_length c_at c_wrong c_outerMany c_walkedMany c_cameOut c_undoMany c_drawn c_now c_onWalks c_outerCell c_outerDoor c_walked n1 v1 v2 v3 v4 v5 v6 v7 h1) cv_X8_278 ⟨⟨by decide, by decide⟩, rfl, rfl⟩ 0 rfl rfl [0, 1, 2, 3, 4, 6] rfl rfl rfl rfl rfl rfl (Nat.le_of_ble_eq_true rfl) ⟨Nat.zero_le _, Nat.zero_le _⟩ dX8_crossed_18 ?_
        obtain ⟨v8, h8, hf⟩ := bsome hf
        refine ww_iincN (pc := 21) (lv' := [(1, .int v8), (0, .ref q_this)]) (j := 1) C dX8_crossed_21 kI_1 rfl h8 (by decide) rfl ?_
        refine ww_goto (pc := 24) (tgt := 11) C dX8_crossed_24 (by decide) ?_
        exact ww_lv [1, 0] rfl (ih11 v1 v2 c_rowMany c_thrown v3 v4 v5 v6 c_row v7 v8 hf)
  unfold fX8_crossed at hf
  refine ww_aload_n (pc := 0) C dX8_crossed_0 rfl 0 rfl ?_
  refine ww_iconst (pc := 1) C dX8_crossed_1 kI_0 ?_
  refine pf8_5 (pc := 2) (ws' := [oX8 q_this q_now q_text c_typed q_row c_rowMany (0 : Int32) c_length c_at c_wrong q_read q_outerCell q_outerDoor c_outerMany q_walked c_walkedMany c_cameOut q_onWalks q_far q_aside q_wasFull q_undos q_was c_undoMany c_drawn q_kept q_isKept, aI k q_now 189 c_now, aI k q_onWalks 512 c_onWalks, aI k q_outerCell 16 c_outerCell, aI k q_outerDoor 16 c_outerDoor, aJ k q_row 64 c_row, aI k q_walked 512 c_walked]) C kf_X8_61 0 rfl (Nat.le_of_ble_eq_true rfl) rfl dX8_crossed_2 ?_
  refine ww_aload_n (pc := 5) C dX8_crossed_5 rfl 0 rfl ?_
  obtain ⟨v1, h1, hf⟩ := bsome hf
  refine ww_callVv (pc := 6) (ws' := [oX8 q_this q_now q_text c_typed q_row c_rowMany (0 : Int32) c_length c_at c_wrong q_read q_outerCell q_outerDoor c_outerMany q_walked c_walkedMany c_cameOut q_onWalks q_far q_aside q_wasFull q_undos q_was c_undoMany c_drawn q_kept q_isKept, aI k q_now 189 c_now, aI k q_onWalks 512 v1, aI k q_outerCell 16 c_outerCell, aI k q_outerDoor 16 c_outerDoor, aJ k q_row 64 c_row, aI k q_walked 512 c_walked]) (As := []) (rest := []) C (tX8_clearWalks l D k q_this q_now q_text q_row q_read q_outerCell q_outerDoor q_walked q_onWalks q_far q_aside q_wasFull q_undos q_was q_kept q_isKept c_typed c_rowMany (0 : Int32) c_length c_at c_wrong c_outerMany c_walkedMany c_cameOut c_undoMany c_drawn c_onWalks v1 h1) cv_X8_275 ⟨⟨by decide, by decide⟩, rfl, rfl⟩ 0 rfl rfl [0, 2] rfl rfl rfl rfl rfl rfl (Nat.le_of_ble_eq_true rfl) ⟨Nat.zero_le _, Nat.zero_le _⟩ dX8_crossed_6 ?_
  refine ww_iconst (pc := 9) C dX8_crossed_9 kI_0 ?_
  refine ww_istore_n (pc := 10) (lv' := [(1, .int (0 : Int32)), (0, .ref q_this)]) C dX8_crossed_10 rfl (by decide) rfl ?_
  exact ww_lv [1, 0] rfl (hL11 FU c_cameOut c_outerMany c_rowMany (0 : Int32) c_walkedMany v1 c_outerCell c_outerDoor c_row c_walked (0 : Int32) hf)
def fX8_leads_b134 (c_now : Nat → Int32) (rc65 : Int32 → (Nat → Int32) → Int32 → Int32 → Int32 → Option (Int32 × Int32 × (Nat → Int32))) (rc77 : Int32 → (Nat → Int32) → Int32 → Int32 → Int32 → Int32 → Option (Int32 × Int32 × (Nat → Int32))) (rc104 : Int32 → (Nat → Int32) → Int32 → Int32 → Int32 → Int32 → Int32 → Option (Int32 × Int32 × (Nat → Int32))) (c_thrown : Int32) (c_far : Nat → Int32) (n2 : Int32) (n3 : Int32) (n4 : Int32) (n5 : Int32) (n6 : Int32) (s0 : Int32) : Option (Int32 × Int32 × (Nat → Int32)) := if s0 = (-1 : Int32) then (some (n6 + (1 : Int32))).bind fun v1 => rc104 c_thrown c_far n2 n3 n4 n5 v1 else (ald 512 s0 c_far).bind fun v2 => if v2 = 0 then (ast 512 s0 c_far (n4 + (1 : Int32))).bind fun v4 => (some (n6 + (1 : Int32))).bind fun v5 => rc104 c_thrown v4 n2 n3 n4 n5 v5 else (some (n6 + (1 : Int32))).bind fun v3 => rc104 c_thrown c_far n2 n3 n4 n5 v3
def fX8_leads_b104 (c_now : Nat → Int32) (rc65 : Int32 → (Nat → Int32) → Int32 → Int32 → Int32 → Option (Int32 × Int32 × (Nat → Int32))) (rc77 : Int32 → (Nat → Int32) → Int32 → Int32 → Int32 → Int32 → Option (Int32 × Int32 × (Nat → Int32))) (rc104 : Int32 → (Nat → Int32) → Int32 → Int32 → Int32 → Int32 → Int32 → Option (Int32 × Int32 × (Nat → Int32))) (c_thrown : Int32) (c_far : Nat → Int32) (n2 : Int32) (n3 : Int32) (n4 : Int32) (n5 : Int32) (n6 : Int32) : Option (Int32 × Int32 × (Nat → Int32)) := if (3 : Int32) ≤ n6 then (some (n5 + (1 : Int32))).bind fun v1 => rc77 c_thrown c_far n2 n3 n4 v1 else (fX8_isDoor c_now n5 n6 n3).bind fun v2 => if v2 = 0 then fX8_leads_b134 c_now rc65 rc77 rc104 c_thrown c_far n2 n3 n4 n5 n6 (-1 : Int32) else (fX8_beyond c_now n5 n6).bind fun v3 => fX8_leads_b134 c_now rc65 rc77 rc104 c_thrown c_far n2 n3 n4 n5 n6 v3
def fX8_leads_b77 (c_now : Nat → Int32) (rc65 : Int32 → (Nat → Int32) → Int32 → Int32 → Int32 → Option (Int32 × Int32 × (Nat → Int32))) (rc77 : Int32 → (Nat → Int32) → Int32 → Int32 → Int32 → Int32 → Option (Int32 × Int32 × (Nat → Int32))) (c_thrown : Int32) (c_far : Nat → Int32) (n2 : Int32) (n3 : Int32) (n4 : Int32) (n5 : Int32) : Option (Int32 × Int32 × (Nat → Int32)) := (fX8_numbers c_now).bind fun v1 => if v1 ≤ n5 then (some (n4 + (1 : Int32))).bind fun v2 => rc65 c_thrown c_far n2 n3 v2 else (ald 512 n5 c_far).bind fun v3 => if v3 = n4 then lfix (fX8_leads_b104 c_now rc65 rc77) (fun _ _ _ _ _ _ _ => none) FU c_thrown c_far n2 n3 n4 n5 (0 : Int32) else (some (n5 + (1 : Int32))).bind fun v4 => rc77 c_thrown c_far n2 n3 n4 v4
def fX8_leads_b65 (c_now : Nat → Int32) (rc65 : Int32 → (Nat → Int32) → Int32 → Int32 → Int32 → Option (Int32 × Int32 × (Nat → Int32))) (c_thrown : Int32) (c_far : Nat → Int32) (n2 : Int32) (n3 : Int32) (n4 : Int32) : Option (Int32 × Int32 × (Nat → Int32)) := (fX8_numbers c_now).bind fun v1 => if v1 < n4 then (ald 512 n2 c_far).bind fun v2 => if v2 = 0 then some ((-2 : Int32), c_thrown, c_far) else (ald 512 n2 c_far).bind fun v3 => some (v3, c_thrown, c_far) else lfix (fX8_leads_b77 c_now rc65) (fun _ _ _ _ _ _ => none) FU c_thrown c_far n2 n3 n4 (0 : Int32)
def fX8_leads_b33 (c_now : Nat → Int32) (rc33 : Int32 → (Nat → Int32) → Int32 → Int32 → Int32 → Int32 → Option (Int32 × Int32 × (Nat → Int32))) (c_thrown : Int32) (c_far : Nat → Int32) (n1 : Int32) (n2 : Int32) (n3 : Int32) (n4 : Int32) : Option (Int32 × Int32 × (Nat → Int32)) := if (512 : Int32) ≤ n4 then (ast 512 n1 c_far (1 : Int32)).bind fun v1 => lfix (fX8_leads_b65 c_now) (fun _ _ _ _ _ => none) FU c_thrown v1 n2 n3 (1 : Int32) else (ast 512 n4 c_far (0 : Int32)).bind fun v2 => (some (n4 + (1 : Int32))).bind fun v3 => rc33 c_thrown v2 n1 n2 n3 v3
def fX8_leads (c_now : Nat → Int32) (c_thrown : Int32) (c_far : Nat → Int32) (x1 : Int32) (x2 : Int32) (x3 : Int32) : Option (Int32 × Int32 × (Nat → Int32)) := (fX8_isCell c_now x1).bind fun v1 => if v1 = 0 then some ((-1 : Int32), (0 : Int32), c_far) else (fX8_isCell c_now x2).bind fun v2 => if v2 = 0 then some ((-1 : Int32), (0 : Int32), c_far) else (fX8_isKind x3).bind fun v3 => if v3 = 0 then some ((-1 : Int32), (0 : Int32), c_far) else lfix (fX8_leads_b33 c_now) (fun _ _ _ _ _ _ => none) FU (0 : Int32) c_far x1 x2 x3 (0 : Int32)
set_option maxHeartbeats 4000000 in
set_option maxRecDepth 100000 in
theorem tX8_leads (l : Launch) (D : va_G) (k : Nat → ClassId) (q_this q_now q_text q_row q_read q_outerCell q_outerDoor q_walked q_onWalks q_far q_aside q_wasFull q_undos q_was q_kept q_isKept : Nat) (c_typed : Int32) (c_rowMany : Int32) (c_thrown : Int32) (c_length : Int32) (c_at : Int32) (c_wrong : Int32) (c_outerMany : Int32) (c_walkedMany : Int32) (c_cameOut : Int32) (c_undoMany : Int32) (c_drawn : Int32) (c_far : Nat → Int32) (c_now : Nat → Int32) (x1 : Int32) (x2 : Int32) (x3 : Int32) (r_ : Int32) (w_thrown : Int32) (w_far : Nat → Int32) (hf : fX8_leads c_now c_thrown c_far x1 x2 x3 = some (r_, w_thrown, w_far)) : MI l yX8_leads cX8_leads 8 .int (RM 5 113) D k [.ref q_this, .int x1, .int x2, .int x3] [oX8 q_this q_now q_text c_typed q_row c_rowMany c_thrown c_length c_at c_wrong q_read q_outerCell q_outerDoor c_outerMany q_walked c_walkedMany c_cameOut q_onWalks q_far q_aside q_wasFull q_undos q_was c_undoMany c_drawn q_kept q_isKept, aI k q_far 512 c_far, aI k q_now 189 c_now] r_ [oX8 q_this q_now q_text c_typed q_row c_rowMany w_thrown c_length c_at c_wrong q_read q_outerCell q_outerDoor c_outerMany q_walked c_walkedMany c_cameOut q_onWalks q_far q_aside q_wasFull q_undos q_was c_undoMany c_drawn q_kept q_isKept, aI k q_far 512 w_far, aI k q_now 189 c_now] := by
  refine mkMI' (own := "DoorWalkModel") (by decide) rfl (Nat.le_of_ble_eq_true rfl) ?_
  intro p e s m args below meth c Q A hret C
  refine ww_lv (lv' := [(0, .ref q_this), (1, .int x1), (2, .int x2), (3, .int x3)]) [0, 1, 2, 3] rfl ?_
  have hL65 : ∀ (n : Nat) (c_thrown : Int32) (c_far : Nat → Int32) (n2 : Int32) (n3 : Int32) (n4 : Int32), lfix (fX8_leads_b65 c_now) (fun _ _ _ _ _ => none) n c_thrown c_far n2 n3 n4 = some (r_, w_thrown, w_far) → WW p l e (RM 5 113) s m args below meth c Q 8 D A 0 0 [oX8 q_this q_now q_text c_typed q_row c_rowMany c_thrown c_length c_at c_wrong q_read q_outerCell q_outerDoor c_outerMany q_walked c_walkedMany c_cameOut q_onWalks q_far q_aside q_wasFull q_undos q_was c_undoMany c_drawn q_kept q_isKept, aI k q_far 512 c_far, aI k q_now 189 c_now] [(0, .ref q_this), (2, .int n2), (3, .int n3), (4, .int n4)] 65 [] := by
    intro n
    induction n with
    | zero => intro c_thrown c_far n2 n3 n4 hf; cases hf
    | succ n ih65 =>
      obtain ⟨rc65, hrc65⟩ : ∃ f9, f9 = lfix (fX8_leads_b65 c_now) (fun _ _ _ _ _ => none) n := ⟨_, rfl⟩
      rw [← hrc65] at ih65
      have hL77 : ∀ (n : Nat) (c_thrown : Int32) (c_far : Nat → Int32) (n2 : Int32) (n3 : Int32) (n4 : Int32) (n5 : Int32), lfix (fX8_leads_b77 c_now rc65) (fun _ _ _ _ _ _ => none) n c_thrown c_far n2 n3 n4 n5 = some (r_, w_thrown, w_far) → WW p l e (RM 5 113) s m args below meth c Q 8 D A 0 0 [oX8 q_this q_now q_text c_typed q_row c_rowMany c_thrown c_length c_at c_wrong q_read q_outerCell q_outerDoor c_outerMany q_walked c_walkedMany c_cameOut q_onWalks q_far q_aside q_wasFull q_undos q_was c_undoMany c_drawn q_kept q_isKept, aI k q_far 512 c_far, aI k q_now 189 c_now] [(0, .ref q_this), (2, .int n2), (3, .int n3), (4, .int n4), (5, .int n5)] 77 [] := by
        intro n
        induction n with
        | zero => intro c_thrown c_far n2 n3 n4 n5 hf; cases hf
        | succ n ih77 =>
          obtain ⟨rc77, hrc77⟩ : ∃ f9, f9 = lfix (fX8_leads_b77 c_now rc65) (fun _ _ _ _ _ _ => none) n := ⟨_, rfl⟩
          rw [← hrc77] at ih77
          have hL104 : ∀ (n : Nat) (c_thrown : Int32) (c_far : Nat → Int32) (n2 : Int32) (n3 : Int32) (n4 : Int32) (n5 : Int32) (n6 : Int32), lfix (fX8_leads_b104 c_now rc65 rc77) (fun _ _ _ _ _ _ _ => none) n c_thrown c_far n2 n3 n4 n5 n6 = some (r_, w_thrown, w_far) → WW p l e (RM 5 113) s m args below meth c Q 8 D A 0 0 [oX8 q_this q_now q_text c_typed q_row c_rowMany c_thrown c_length c_at c_wrong q_read q_outerCell q_outerDoor c_outerMany q_walked c_walkedMany c_cameOut q_onWalks q_far q_aside q_wasFull q_undos q_was c_undoMany c_drawn q_kept q_isKept, aI k q_far 512 c_far, aI k q_now 189 c_now] [(0, .ref q_this), (2, .int n2), (3, .int n3), (4, .int n4), (5, .int n5), (6, .int n6)] 104 [] := by
            intro n
            induction n with
            | zero => intro c_thrown c_far n2 n3 n4 n5 n6 hf; cases hf
            | succ n ih104 =>
              obtain ⟨rc104, hrc104⟩ : ∃ f9, f9 = lfix (fX8_leads_b104 c_now rc65 rc77) (fun _ _ _ _ _ _ _ => none) n := ⟨_, rfl⟩
              rw [← hrc104] at ih104
              have hJ134 : ∀ (c_thrown : Int32) (c_far : Nat → Int32) (n2 : Int32) (n3 : Int32) (n4 : Int32) (n5 : Int32) (n6 : Int32) (s0 : Int32), fX8_leads_b134 c_now rc65 rc77 rc104 c_thrown c_far n2 n3 n4 n5 n6 s0 = some (r_, w_thrown, w_far) → WW p l e (RM 5 113) s m args below meth c Q 8 D A 0 0 [oX8 q_this q_now q_text c_typed q_row c_rowMany c_thrown c_length c_at c_wrong q_read q_outerCell q_outerDoor c_outerMany q_walked c_walkedMany c_cameOut q_onWalks q_far q_aside q_wasFull q_undos q_was c_undoMany c_drawn q_kept q_isKept, aI k q_far 512 c_far, aI k q_now 189 c_now] [(0, .ref q_this), (2, .int n2), (3, .int n3), (4, .int n4), (5, .int n5), (6, .int n6)] 134 [.int s0] := by
                intro c_thrown c_far n2 n3 n4 n5 n6 s0
                intro hf
                unfold fX8_leads_b134 at hf
                refine ww_istore (pc := 134) (lv' := [(7, .int s0), (0, .ref q_this), (2, .int n2), (3, .int n3), (4, .int n4), (5, .int n5), (6, .int n6)]) C dX8_leads_134 (by decide) rfl ?_
                refine ww_iload (pc := 136) C dX8_leads_136 0 rfl ?_
                refine ww_iconst (pc := 138) C dX8_leads_138 kI_m1 ?_
                refine ww_icmp_eq (pc := 139) (tgt := 163) C dX8_leads_139 (by decide) (fun hc => ?_) (fun hc => ?_)
                · have hf := ifT hc hf
                  obtain ⟨v1, h1, hf⟩ := bsome hf
                  refine ww_iincN (pc := 163) (lv' := [(6, .int v1), (7, .int s0), (0, .ref q_this), (2, .int n2), (3, .int n3), (4, .int n4), (5, .int n5)]) (j := 6) C dX8_leads_163 kI_1 rfl h1 (by decide) rfl ?_
                  refine ww_goto (pc := 166) (tgt := 104) C dX8_leads_166 (by decide) ?_
                  exact ww_lv [2, 3, 4, 5, 6, 0] rfl (ih104 c_thrown c_far n2 n3 n4 n5 v1 hf)
                · have hf := ifF hc hf
                  refine ww_aload_n (pc := 142) C dX8_leads_142 rfl 1 rfl ?_
                  refine gf8_17 (pc := 143) C kf_X8_36 0 rfl rfl dX8_leads_143 ?_
                  refine ww_iload (pc := 146) C dX8_leads_146 0 rfl ?_
                  obtain ⟨v2, h2, hf⟩ := bsome hf
                  refine ww_iald (pc := 148) C 1 rfl h2 dX8_leads_148 ?_
                  refine ww_if_ne (pc := 149) (tgt := 163) C dX8_leads_149 (by decide) (fun hc => ?_) (fun hc => ?_)
                  · have hf := ifF hc hf
                    obtain ⟨v3, h3, hf⟩ := bsome hf
                    refine ww_iincN (pc := 163) (lv' := [(6, .int v3), (7, .int s0), (0, .ref q_this), (2, .int n2), (3, .int n3), (4, .int n4), (5, .int n5)]) (j := 6) C dX8_leads_163 kI_1 rfl h3 (by decide) rfl ?_
                    refine ww_goto (pc := 166) (tgt := 104) C dX8_leads_166 (by decide) ?_
                    exact ww_lv [2, 3, 4, 5, 6, 0] rfl (ih104 c_thrown c_far n2 n3 n4 n5 v3 hf)
                  · have hf := ifT hc hf
                    refine ww_aload_n (pc := 152) C dX8_leads_152 rfl 1 rfl ?_
                    refine gf8_17 (pc := 153) C kf_X8_36 0 rfl rfl dX8_leads_153 ?_
                    refine ww_iload (pc := 156) C dX8_leads_156 0 rfl ?_
                    refine ww_iload (pc := 158) C dX8_leads_158 4 rfl ?_
                    refine ww_iconst (pc := 160) C dX8_leads_160 kI_1 ?_
                    refine ww_iadd (pc := 161) C dX8_leads_161  ?_
                    obtain ⟨v4, h4, hf⟩ := bsome hf
                    refine ww_iast (pc := 162) (ws' := [oX8 q_this q_now q_text c_typed q_row c_rowMany c_thrown c_length c_at c_wrong q_read q_outerCell q_outerDoor c_outerMany q_walked c_walkedMany c_cameOut q_onWalks q_far q_aside q_wasFull q_undos q_was c_undoMany c_drawn q_kept q_isKept, aI k q_far 512 v4, aI k q_now 189 c_now]) C 1 rfl h4 rfl dX8_leads_162 ?_
                    obtain ⟨v5, h5, hf⟩ := bsome hf
                    refine ww_iincN (pc := 163) (lv' := [(6, .int v5), (7, .int s0), (0, .ref q_this), (2, .int n2), (3, .int n3), (4, .int n4), (5, .int n5)]) (j := 6) C dX8_leads_163 kI_1 rfl h5 (by decide) rfl ?_
                    refine ww_goto (pc := 166) (tgt := 104) C dX8_leads_166 (by decide) ?_
                    exact ww_lv [2, 3, 4, 5, 6, 0] rfl (ih104 c_thrown v4 n2 n3 n4 n5 v5 hf)
              intro c_thrown c_far n2 n3 n4 n5 n6 hf
              have hf : fX8_leads_b104 c_now rc65 rc77 rc104 c_thrown c_far n2 n3 n4 n5 n6 = some (r_, w_thrown, w_far) := by rw [hrc104]; exact hf
              unfold fX8_leads_b104 at hf
              refine ww_iload (pc := 104) C dX8_leads_104 5 rfl ?_
              refine ww_iconst (pc := 106) C dX8_leads_106 kI_3 ?_
              refine ww_icmp_ge (pc := 107) (tgt := 169) C dX8_leads_107 (by decide) (fun hc => ?_) (fun hc => ?_)
              · have hf := ifT hc hf
                obtain ⟨v1, h1, hf⟩ := bsome hf
                refine ww_iincN (pc := 169) (lv' := [(5, .int v1), (0, .ref q_this), (2, .int n2), (3, .int n3), (4, .int n4), (6, .int n6)]) (j := 4) C dX8_leads_169 kI_1 rfl h1 (by decide) rfl ?_
                refine ww_goto (pc := 172) (tgt := 77) C dX8_leads_172 (by decide) ?_
                exact ww_lv [1, 2, 3, 4, 0] rfl (ih77 c_thrown c_far n2 n3 n4 v1 hf)
              · have hf := ifF hc hf
                refine ww_aload_n (pc := 110) C dX8_leads_110 rfl 0 rfl ?_
                refine ww_iload (pc := 111) C dX8_leads_111 4 rfl ?_
                refine ww_iload (pc := 113) C dX8_leads_113 5 rfl ?_
                refine ww_iload_n (pc := 115) C dX8_leads_115 rfl 2 rfl ?_
                obtain ⟨v2, h2, hf⟩ := bsome hf
                refine ww_callVi0 (pc := 116) (As := [.int n5, .int n6, .int n3]) (rest := []) C (tX8_isDoor l D k q_this q_now q_text q_row q_read q_outerCell q_outerDoor q_walked q_onWalks q_far q_aside q_wasFull q_undos q_was q_kept q_isKept c_typed c_rowMany c_thrown c_length c_at c_wrong c_outerMany c_walkedMany c_cameOut c_undoMany c_drawn c_now n5 n6 n3 v2 h2) cv_X8_238 ⟨⟨by decide, by decide⟩, rfl, rfl⟩ 0 rfl rfl [0, 2] rfl rfl rfl rfl (Nat.le_of_ble_eq_true rfl) ⟨Nat.zero_le _, Nat.zero_le _⟩ dX8_leads_116 (fun hb2 => ?_)
                refine ww_if_eq (pc := 119) (tgt := 133) C dX8_leads_119 (by decide) (fun hc => ?_) (fun hc => ?_)
                · have hf := ifT hc hf
                  refine ww_iconst (pc := 133) C dX8_leads_133 kI_m1 ?_
                  exact hJ134 c_thrown c_far n2 n3 n4 n5 n6 (-1 : Int32) hf
                · have hf := ifF hc hf
                  refine ww_aload_n (pc := 122) C dX8_leads_122 rfl 0 rfl ?_
                  refine ww_iload (pc := 123) C dX8_leads_123 4 rfl ?_
                  refine ww_iload (pc := 125) C dX8_leads_125 5 rfl ?_
                  obtain ⟨v3, h3, hf⟩ := bsome hf
                  refine ww_callVi0 (pc := 127) (As := [.int n5, .int n6]) (rest := []) C (tX8_beyond l D k q_this q_now q_text q_row q_read q_outerCell q_outerDoor q_walked q_onWalks q_far q_aside q_wasFull q_undos q_was q_kept q_isKept c_typed c_rowMany c_thrown c_length c_at c_wrong c_outerMany c_walkedMany c_cameOut c_undoMany c_drawn c_now n5 n6 v3 h3) cv_X8_262 ⟨⟨by decide, by decide⟩, rfl, rfl⟩ 0 rfl rfl [0, 2] rfl rfl rfl rfl (Nat.le_of_ble_eq_true rfl) ⟨Nat.zero_le _, Nat.zero_le _⟩ dX8_leads_127 (fun hb3 => ?_)
                  refine ww_goto (pc := 130) (tgt := 134) C dX8_leads_130 (by decide) ?_
                  exact hJ134 c_thrown c_far n2 n3 n4 n5 n6 v3 hf
          intro c_thrown c_far n2 n3 n4 n5 hf
          have hf : fX8_leads_b77 c_now rc65 rc77 c_thrown c_far n2 n3 n4 n5 = some (r_, w_thrown, w_far) := by rw [hrc77]; exact hf
          unfold fX8_leads_b77 at hf
          refine ww_iload (pc := 77) C dX8_leads_77 4 rfl ?_
          refine ww_aload_n (pc := 79) C dX8_leads_79 rfl 0 rfl ?_
          obtain ⟨v1, h1, hf⟩ := bsome hf
          refine ww_callVi0 (pc := 80) (As := []) (rest := [.int n5]) C (tX8_numbers l D k q_this q_now q_text q_row q_read q_outerCell q_outerDoor q_walked q_onWalks q_far q_aside q_wasFull q_undos q_was q_kept q_isKept c_typed c_rowMany c_thrown c_length c_at c_wrong c_outerMany c_walkedMany c_cameOut c_undoMany c_drawn c_now v1 h1) cv_X8_210 ⟨⟨by decide, by decide⟩, rfl, rfl⟩ 0 rfl rfl [0, 2] rfl rfl rfl rfl (Nat.le_of_ble_eq_true rfl) ⟨Nat.zero_le _, Nat.zero_le _⟩ dX8_leads_80 (fun hb1 => ?_)
          refine ww_icmp_ge (pc := 83) (tgt := 175) C dX8_leads_83 (by decide) (fun hc => ?_) (fun hc => ?_)
          · have hf := ifT hc hf
            obtain ⟨v2, h2, hf⟩ := bsome hf
            refine ww_iincN (pc := 175) (lv' := [(4, .int v2), (0, .ref q_this), (2, .int n2), (3, .int n3), (5, .int n5)]) (j := 3) C dX8_leads_175 kI_1 rfl h2 (by decide) rfl ?_
            refine ww_goto (pc := 178) (tgt := 65) C dX8_leads_178 (by decide) ?_
            exact ww_lv [1, 2, 3, 0] rfl (ih65 c_thrown c_far n2 n3 v2 hf)
          · have hf := ifF hc hf
            refine ww_aload_n (pc := 86) C dX8_leads_86 rfl 0 rfl ?_
            refine gf8_17 (pc := 87) C kf_X8_36 0 rfl rfl dX8_leads_87 ?_
            refine ww_iload (pc := 90) C dX8_leads_90 4 rfl ?_
            obtain ⟨v3, h3, hf⟩ := bsome hf
            refine ww_iald (pc := 92) C 1 rfl h3 dX8_leads_92 ?_
            refine ww_iload (pc := 93) C dX8_leads_93 3 rfl ?_
            refine ww_icmp_eq (pc := 95) (tgt := 101) C dX8_leads_95 (by decide) (fun hc => ?_) (fun hc => ?_)
            · have hf := ifT hc hf
              refine ww_iconst (pc := 101) C dX8_leads_101 kI_0 ?_
              refine ww_istore (pc := 102) (lv' := [(6, .int (0 : Int32)), (0, .ref q_this), (2, .int n2), (3, .int n3), (4, .int n4), (5, .int n5)]) C dX8_leads_102 (by decide) rfl ?_
              exact ww_lv [1, 2, 3, 4, 5, 0] rfl (hL104 FU c_thrown c_far n2 n3 n4 n5 (0 : Int32) hf)
            · have hf := ifF hc hf
              refine ww_goto (pc := 98) (tgt := 169) C dX8_leads_98 (by decide) ?_
              obtain ⟨v4, h4, hf⟩ := bsome hf
              refine ww_iincN (pc := 169) (lv' := [(5, .int v4), (0, .ref q_this), (2, .int n2), (3, .int n3), (4, .int n4)]) (j := 4) C dX8_leads_169 kI_1 rfl h4 (by decide) rfl ?_
              refine ww_goto (pc := 172) (tgt := 77) C dX8_leads_172 (by decide) ?_
              exact ww_lv [1, 2, 3, 4, 0] rfl (ih77 c_thrown c_far n2 n3 n4 v4 hf)
      intro c_thrown c_far n2 n3 n4 hf
      have hf : fX8_leads_b65 c_now rc65 c_thrown c_far n2 n3 n4 = some (r_, w_thrown, w_far) := by rw [hrc65]; exact hf
      unfold fX8_leads_b65 at hf
      refine ww_iload (pc := 65) C dX8_leads_65 3 rfl ?_
      refine ww_aload_n (pc := 67) C dX8_leads_67 rfl 0 rfl ?_
      obtain ⟨v1, h1, hf⟩ := bsome hf
      refine ww_callVi0 (pc := 68) (As := []) (rest := [.int n4]) C (tX8_numbers l D k q_this q_now q_text q_row q_read q_outerCell q_outerDoor q_walked q_onWalks q_far q_aside q_wasFull q_undos q_was q_kept q_isKept c_typed c_rowMany c_thrown c_length c_at c_wrong c_outerMany c_walkedMany c_cameOut c_undoMany c_drawn c_now v1 h1) cv_X8_210 ⟨⟨by decide, by decide⟩, rfl, rfl⟩ 0 rfl rfl [0, 2] rfl rfl rfl rfl (Nat.le_of_ble_eq_true rfl) ⟨Nat.zero_le _, Nat.zero_le _⟩ dX8_leads_68 (fun hb1 => ?_)
      refine ww_icmp_gt (pc := 71) (tgt := 181) C dX8_leads_71 (by decide) (fun hc => ?_) (fun hc => ?_)
      · have hf := ifT hc hf
        refine ww_aload_n (pc := 181) C dX8_leads_181 rfl 0 rfl ?_
        refine gf8_17 (pc := 182) C kf_X8_36 0 rfl rfl dX8_leads_182 ?_
        refine ww_iload_n (pc := 185) C dX8_leads_185 rfl 1 rfl ?_
        obtain ⟨v2, h2, hf⟩ := bsome hf
        refine ww_iald (pc := 186) C 1 rfl h2 dX8_leads_186 ?_
        refine ww_if_ne (pc := 187) (tgt := 195) C dX8_leads_187 (by decide) (fun hc => ?_) (fun hc => ?_)
        · have hf := ifF hc hf
          refine ww_aload_n (pc := 195) C dX8_leads_195 rfl 0 rfl ?_
          refine gf8_17 (pc := 196) C kf_X8_36 0 rfl rfl dX8_leads_196 ?_
          refine ww_iload_n (pc := 199) C dX8_leads_199 rfl 1 rfl ?_
          obtain ⟨v3, h3, hf⟩ := bsome hf
          refine ww_iald (pc := 200) C 1 rfl h3 dX8_leads_200 ?_
          obtain ⟨e0, e1, e2⟩ := ij3 hf
          exact hret _ _ 201 _ dX8_leads_201 rfl e0 (by rw [← e1, ← e2])
        · have hf := ifT hc hf
          refine ww_bipush (pc := 190) C dX8_leads_190 kB_m2 ?_
          refine ww_goto (pc := 192) (tgt := 201) C dX8_leads_192 (by decide) ?_
          obtain ⟨e0, e1, e2⟩ := ij3 hf
          exact hret _ _ 201 _ dX8_leads_201 rfl e0 (by rw [← e1, ← e2])
      · have hf := ifF hc hf
        refine ww_iconst (pc := 74) C dX8_leads_74 kI_0 ?_
        refine ww_istore (pc := 75) (lv' := [(5, .int (0 : Int32)), (0, .ref q_this), (2, .int n2), (3, .int n3), (4, .int n4)]) C dX8_leads_75 (by decide) rfl ?_
        exact ww_lv [1, 2, 3, 4, 0] rfl (hL77 FU c_thrown c_far n2 n3 n4 (0 : Int32) hf)
  have hL33 : ∀ (n : Nat) (c_thrown : Int32) (c_far : Nat → Int32) (n1 : Int32) (n2 : Int32) (n3 : Int32) (n4 : Int32), lfix (fX8_leads_b33 c_now) (fun _ _ _ _ _ _ => none) n c_thrown c_far n1 n2 n3 n4 = some (r_, w_thrown, w_far) → WW p l e (RM 5 113) s m args below meth c Q 8 D A 0 0 [oX8 q_this q_now q_text c_typed q_row c_rowMany c_thrown c_length c_at c_wrong q_read q_outerCell q_outerDoor c_outerMany q_walked c_walkedMany c_cameOut q_onWalks q_far q_aside q_wasFull q_undos q_was c_undoMany c_drawn q_kept q_isKept, aI k q_far 512 c_far, aI k q_now 189 c_now] [(0, .ref q_this), (1, .int n1), (2, .int n2), (3, .int n3), (4, .int n4)] 33 [] := by
    intro n
    induction n with
    | zero => intro c_thrown c_far n1 n2 n3 n4 hf; cases hf
    | succ n ih33 =>
      obtain ⟨rc33, hrc33⟩ : ∃ f9, f9 = lfix (fX8_leads_b33 c_now) (fun _ _ _ _ _ _ => none) n := ⟨_, rfl⟩
      rw [← hrc33] at ih33
      intro c_thrown c_far n1 n2 n3 n4 hf
      have hf : fX8_leads_b33 c_now rc33 c_thrown c_far n1 n2 n3 n4 = some (r_, w_thrown, w_far) := by rw [hrc33]; exact hf
      unfold fX8_leads_b33 at hf
      refine ww_iload (pc := 33) C dX8_leads_33 4 rfl ?_
      refine ww_sipush (pc := 35) C dX8_leads_35 kS_512 ?_
      refine ww_icmp_ge (pc := 38) (tgt := 55) C dX8_leads_38 (by decide) (fun hc => ?_) (fun hc => ?_)
      · have hf := ifT hc hf
        refine ww_aload_n (pc := 55) C dX8_leads_55 rfl 0 rfl ?_
        refine gf8_17 (pc := 56) C kf_X8_36 0 rfl rfl dX8_leads_56 ?_
        refine ww_iload_n (pc := 59) C dX8_leads_59 rfl 1 rfl ?_
        refine ww_iconst (pc := 60) C dX8_leads_60 kI_1 ?_
        obtain ⟨v1, h1, hf⟩ := bsome hf
        refine ww_iast (pc := 61) (ws' := [oX8 q_this q_now q_text c_typed q_row c_rowMany c_thrown c_length c_at c_wrong q_read q_outerCell q_outerDoor c_outerMany q_walked c_walkedMany c_cameOut q_onWalks q_far q_aside q_wasFull q_undos q_was c_undoMany c_drawn q_kept q_isKept, aI k q_far 512 v1, aI k q_now 189 c_now]) C 1 rfl h1 rfl dX8_leads_61 ?_
        refine ww_iconst (pc := 62) C dX8_leads_62 kI_1 ?_
        refine ww_istore (pc := 63) (lv' := [(4, .int (1 : Int32)), (0, .ref q_this), (1, .int n1), (2, .int n2), (3, .int n3)]) C dX8_leads_63 (by decide) rfl ?_
        exact ww_lv [1, 3, 4, 0] rfl (hL65 FU c_thrown v1 n2 n3 (1 : Int32) hf)
      · have hf := ifF hc hf
        refine ww_aload_n (pc := 41) C dX8_leads_41 rfl 0 rfl ?_
        refine gf8_17 (pc := 42) C kf_X8_36 0 rfl rfl dX8_leads_42 ?_
        refine ww_iload (pc := 45) C dX8_leads_45 4 rfl ?_
        refine ww_iconst (pc := 47) C dX8_leads_47 kI_0 ?_
        obtain ⟨v2, h2, hf⟩ := bsome hf
        refine ww_iast (pc := 48) (ws' := [oX8 q_this q_now q_text c_typed q_row c_rowMany c_thrown c_length c_at c_wrong q_read q_outerCell q_outerDoor c_outerMany q_walked c_walkedMany c_cameOut q_onWalks q_far q_aside q_wasFull q_undos q_was c_undoMany c_drawn q_kept q_isKept, aI k q_far 512 v2, aI k q_now 189 c_now]) C 1 rfl h2 rfl dX8_leads_48 ?_
        obtain ⟨v3, h3, hf⟩ := bsome hf
        refine ww_iincN (pc := 49) (lv' := [(4, .int v3), (0, .ref q_this), (1, .int n1), (2, .int n2), (3, .int n3)]) (j := 4) C dX8_leads_49 kI_1 rfl h3 (by decide) rfl ?_
        refine ww_goto (pc := 52) (tgt := 33) C dX8_leads_52 (by decide) ?_
        exact ww_lv [1, 2, 3, 4, 0] rfl (ih33 c_thrown v2 n1 n2 n3 v3 hf)
  unfold fX8_leads at hf
  refine ww_aload_n (pc := 0) C dX8_leads_0 rfl 0 rfl ?_
  refine ww_iconst (pc := 1) C dX8_leads_1 kI_0 ?_
  refine pf8_5 (pc := 2) (ws' := [oX8 q_this q_now q_text c_typed q_row c_rowMany (0 : Int32) c_length c_at c_wrong q_read q_outerCell q_outerDoor c_outerMany q_walked c_walkedMany c_cameOut q_onWalks q_far q_aside q_wasFull q_undos q_was c_undoMany c_drawn q_kept q_isKept, aI k q_far 512 c_far, aI k q_now 189 c_now]) C kf_X8_61 0 rfl (Nat.le_of_ble_eq_true rfl) rfl dX8_leads_2 ?_
  refine ww_aload_n (pc := 5) C dX8_leads_5 rfl 0 rfl ?_
  refine ww_iload_n (pc := 6) C dX8_leads_6 rfl 1 rfl ?_
  obtain ⟨v1, h1, hf⟩ := bsome hf
  refine ww_callVi0 (pc := 7) (As := [.int x1]) (rest := []) C (tX8_isCell l D k q_this q_now q_text q_row q_read q_outerCell q_outerDoor q_walked q_onWalks q_far q_aside q_wasFull q_undos q_was q_kept q_isKept c_typed c_rowMany (0 : Int32) c_length c_at c_wrong c_outerMany c_walkedMany c_cameOut c_undoMany c_drawn c_now x1 v1 h1) cv_X8_213 ⟨⟨by decide, by decide⟩, rfl, rfl⟩ 0 rfl rfl [0, 2] rfl rfl rfl rfl (Nat.le_of_ble_eq_true rfl) ⟨Nat.zero_le _, Nat.zero_le _⟩ dX8_leads_7 (fun hb1 => ?_)
  refine ww_if_eq (pc := 10) (tgt := 28) C dX8_leads_10 (by decide) (fun hc => ?_) (fun hc => ?_)
  · have hf := ifT hc hf
    refine ww_iconst (pc := 28) C dX8_leads_28 kI_m1 ?_
    obtain ⟨e0, e1, e2⟩ := ij3 hf
    exact hret _ _ 29 _ dX8_leads_29 rfl e0 (by rw [← e1, ← e2])
  · have hf := ifF hc hf
    refine ww_aload_n (pc := 13) C dX8_leads_13 rfl 0 rfl ?_
    refine ww_iload_n (pc := 14) C dX8_leads_14 rfl 2 rfl ?_
    obtain ⟨v2, h2, hf⟩ := bsome hf
    refine ww_callVi0 (pc := 15) (As := [.int x2]) (rest := []) C (tX8_isCell l D k q_this q_now q_text q_row q_read q_outerCell q_outerDoor q_walked q_onWalks q_far q_aside q_wasFull q_undos q_was q_kept q_isKept c_typed c_rowMany (0 : Int32) c_length c_at c_wrong c_outerMany c_walkedMany c_cameOut c_undoMany c_drawn c_now x2 v2 h2) cv_X8_213 ⟨⟨by decide, by decide⟩, rfl, rfl⟩ 0 rfl rfl [0, 2] rfl rfl rfl rfl (Nat.le_of_ble_eq_true rfl) ⟨Nat.zero_le _, Nat.zero_le _⟩ dX8_leads_15 (fun hb2 => ?_)
    refine ww_if_eq (pc := 18) (tgt := 28) C dX8_leads_18 (by decide) (fun hc => ?_) (fun hc => ?_)
    · have hf := ifT hc hf
      refine ww_iconst (pc := 28) C dX8_leads_28 kI_m1 ?_
      obtain ⟨e0, e1, e2⟩ := ij3 hf
      exact hret _ _ 29 _ dX8_leads_29 rfl e0 (by rw [← e1, ← e2])
    · have hf := ifF hc hf
      refine ww_iload_n (pc := 21) C dX8_leads_21 rfl 3 rfl ?_
      obtain ⟨v3, h3, hf⟩ := bsome hf
      refine ww_callSi0 (pc := 22) (As := [.int x3]) (rest := []) C (tX8_isKind l D k x3 v3 h3) cs_X8_244 ⟨⟨by decide, by decide⟩, rfl, rfl⟩ [] rfl rfl rfl rfl (Nat.le_of_ble_eq_true rfl) ⟨Nat.zero_le _, Nat.zero_le _⟩ dX8_leads_22 (fun hb3 => ?_)
      refine ww_if_ne (pc := 25) (tgt := 30) C dX8_leads_25 (by decide) (fun hc => ?_) (fun hc => ?_)
      · have hf := ifF hc hf
        refine ww_iconst (pc := 30) C dX8_leads_30 kI_0 ?_
        refine ww_istore (pc := 31) (lv' := [(4, .int (0 : Int32)), (0, .ref q_this), (1, .int x1), (2, .int x2), (3, .int x3)]) C dX8_leads_31 (by decide) rfl ?_
        exact ww_lv [1, 2, 3, 4, 0] rfl (hL33 FU (0 : Int32) c_far x1 x2 x3 (0 : Int32) hf)
      · have hf := ifT hc hf
        refine ww_iconst (pc := 28) C dX8_leads_28 kI_m1 ?_
        obtain ⟨e0, e1, e2⟩ := ij3 hf
        exact hret _ _ 29 _ dX8_leads_29 rfl e0 (by rw [← e1, ← e2])
def fX8_layAside_b2 (c_now : Nat → Int32) (rc2 : (Nat → Int32) → Int32 → Option ((Nat → Int32))) (c_aside : Nat → Int32) (n1 : Int32) : Option ((Nat → Int32)) := if (189 : Int32) ≤ n1 then some (c_aside) else (ald 189 n1 c_now).bind fun v1 => (ast 189 n1 c_aside v1).bind fun v2 => (some (n1 + (1 : Int32))).bind fun v3 => rc2 v2 v3
def fX8_layAside (c_now : Nat → Int32) (c_aside : Nat → Int32) : Option ((Nat → Int32)) := lfix (fX8_layAside_b2 c_now) (fun _ _ => none) FU c_aside (0 : Int32)
set_option maxHeartbeats 4000000 in
set_option maxRecDepth 100000 in
theorem tX8_layAside (l : Launch) (D : va_G) (k : Nat → ClassId) (q_this q_now q_text q_row q_read q_outerCell q_outerDoor q_walked q_onWalks q_far q_aside q_wasFull q_undos q_was q_kept q_isKept : Nat) (c_typed : Int32) (c_rowMany : Int32) (c_thrown : Int32) (c_length : Int32) (c_at : Int32) (c_wrong : Int32) (c_outerMany : Int32) (c_walkedMany : Int32) (c_cameOut : Int32) (c_undoMany : Int32) (c_drawn : Int32) (c_aside : Nat → Int32) (c_now : Nat → Int32)  (w_aside : Nat → Int32) (hf : fX8_layAside c_now c_aside = some (w_aside)) : MV l yX8_layAside cX8_layAside 2 (RM 0 0) D k [.ref q_this] [oX8 q_this q_now q_text c_typed q_row c_rowMany c_thrown c_length c_at c_wrong q_read q_outerCell q_outerDoor c_outerMany q_walked c_walkedMany c_cameOut q_onWalks q_far q_aside q_wasFull q_undos q_was c_undoMany c_drawn q_kept q_isKept, aI k q_aside 189 c_aside, aI k q_now 189 c_now] [oX8 q_this q_now q_text c_typed q_row c_rowMany c_thrown c_length c_at c_wrong q_read q_outerCell q_outerDoor c_outerMany q_walked c_walkedMany c_cameOut q_onWalks q_far q_aside q_wasFull q_undos q_was c_undoMany c_drawn q_kept q_isKept, aI k q_aside 189 w_aside, aI k q_now 189 c_now] := by
  refine mkMV' (own := "DoorWalkModel") (by decide) rfl (Nat.le_of_ble_eq_true rfl) ?_
  intro p e s m args below meth c Q A hret C
  refine ww_lv (lv' := [(0, .ref q_this)]) [0] rfl ?_
  have hL2 : ∀ (n : Nat) (c_aside : Nat → Int32) (n1 : Int32), lfix (fX8_layAside_b2 c_now) (fun _ _ => none) n c_aside n1 = some (w_aside) → WW p l e (RM 0 0) s m args below meth c Q 2 D A 0 0 [oX8 q_this q_now q_text c_typed q_row c_rowMany c_thrown c_length c_at c_wrong q_read q_outerCell q_outerDoor c_outerMany q_walked c_walkedMany c_cameOut q_onWalks q_far q_aside q_wasFull q_undos q_was c_undoMany c_drawn q_kept q_isKept, aI k q_aside 189 c_aside, aI k q_now 189 c_now] [(0, .ref q_this), (1, .int n1)] 2 [] := by
    intro n
    induction n with
    | zero => intro c_aside n1 hf; cases hf
    | succ n ih2 =>
      obtain ⟨rc2, hrc2⟩ : ∃ f9, f9 = lfix (fX8_layAside_b2 c_now) (fun _ _ => none) n := ⟨_, rfl⟩
      rw [← hrc2] at ih2
      intro c_aside n1 hf
      have hf : fX8_layAside_b2 c_now rc2 c_aside n1 = some (w_aside) := by rw [hrc2]; exact hf
      unfold fX8_layAside_b2 at hf
      refine ww_iload_n (pc := 2) C dX8_layAside_2 rfl 1 rfl ?_
      refine ww_sipush (pc := 3) C dX8_layAside_3 kS_189 ?_
      refine ww_icmp_ge (pc := 6) (tgt := 27) C dX8_layAside_6 (by decide) (fun hc => ?_) (fun hc => ?_)
      · have hf := ifT hc hf
        obtain e0 := ij1 hf
        exact hret _ _ 27 dX8_layAside_27 (by rw [← e0])
      · have hf := ifF hc hf
        refine ww_aload_n (pc := 9) C dX8_layAside_9 rfl 0 rfl ?_
        refine gf8_18 (pc := 10) C kf_X8_39 0 rfl rfl dX8_layAside_10 ?_
        refine ww_iload_n (pc := 13) C dX8_layAside_13 rfl 1 rfl ?_
        refine ww_aload_n (pc := 14) C dX8_layAside_14 rfl 0 rfl ?_
        refine gf8_0 (pc := 15) C kf_X8_9 0 rfl rfl dX8_layAside_15 ?_
        refine ww_iload_n (pc := 18) C dX8_layAside_18 rfl 1 rfl ?_
        obtain ⟨v1, h1, hf⟩ := bsome hf
        refine ww_iald (pc := 19) C 2 rfl h1 dX8_layAside_19 ?_
        obtain ⟨v2, h2, hf⟩ := bsome hf
        refine ww_iast (pc := 20) (ws' := [oX8 q_this q_now q_text c_typed q_row c_rowMany c_thrown c_length c_at c_wrong q_read q_outerCell q_outerDoor c_outerMany q_walked c_walkedMany c_cameOut q_onWalks q_far q_aside q_wasFull q_undos q_was c_undoMany c_drawn q_kept q_isKept, aI k q_aside 189 v2, aI k q_now 189 c_now]) C 1 rfl h2 rfl dX8_layAside_20 ?_
        obtain ⟨v3, h3, hf⟩ := bsome hf
        refine ww_iincN (pc := 21) (lv' := [(1, .int v3), (0, .ref q_this)]) (j := 1) C dX8_layAside_21 kI_1 rfl h3 (by decide) rfl ?_
        refine ww_goto (pc := 24) (tgt := 2) C dX8_layAside_24 (by decide) ?_
        exact ww_lv [1, 0] rfl (ih2 v2 v3 hf)
  unfold fX8_layAside at hf
  refine ww_iconst (pc := 0) C dX8_layAside_0 kI_0 ?_
  refine ww_istore_n (pc := 1) (lv' := [(1, .int (0 : Int32)), (0, .ref q_this)]) C dX8_layAside_1 rfl (by decide) rfl ?_
  exact ww_lv [1, 0] rfl (hL2 FU c_aside (0 : Int32) hf)
def fX8_comesBack_b2 (c_aside : Nat → Int32) (rc2 : (Nat → Int32) → Int32 → Option ((Nat → Int32))) (c_now : Nat → Int32) (n1 : Int32) : Option ((Nat → Int32)) := if (189 : Int32) ≤ n1 then some (c_now) else (ald 189 n1 c_aside).bind fun v1 => (ast 189 n1 c_now v1).bind fun v2 => (some (n1 + (1 : Int32))).bind fun v3 => rc2 v2 v3
def fX8_comesBack (c_aside : Nat → Int32) (c_now : Nat → Int32) : Option ((Nat → Int32)) := lfix (fX8_comesBack_b2 c_aside) (fun _ _ => none) FU c_now (0 : Int32)
set_option maxHeartbeats 4000000 in
set_option maxRecDepth 100000 in
theorem tX8_comesBack (l : Launch) (D : va_G) (k : Nat → ClassId) (q_this q_now q_text q_row q_read q_outerCell q_outerDoor q_walked q_onWalks q_far q_aside q_wasFull q_undos q_was q_kept q_isKept : Nat) (c_typed : Int32) (c_rowMany : Int32) (c_thrown : Int32) (c_length : Int32) (c_at : Int32) (c_wrong : Int32) (c_outerMany : Int32) (c_walkedMany : Int32) (c_cameOut : Int32) (c_undoMany : Int32) (c_drawn : Int32) (c_aside : Nat → Int32) (c_now : Nat → Int32)  (w_now : Nat → Int32) (hf : fX8_comesBack c_aside c_now = some (w_now)) : MV l yX8_comesBack cX8_comesBack 2 (RM 0 0) D k [.ref q_this] [oX8 q_this q_now q_text c_typed q_row c_rowMany c_thrown c_length c_at c_wrong q_read q_outerCell q_outerDoor c_outerMany q_walked c_walkedMany c_cameOut q_onWalks q_far q_aside q_wasFull q_undos q_was c_undoMany c_drawn q_kept q_isKept, aI k q_aside 189 c_aside, aI k q_now 189 c_now] [oX8 q_this q_now q_text c_typed q_row c_rowMany c_thrown c_length c_at c_wrong q_read q_outerCell q_outerDoor c_outerMany q_walked c_walkedMany c_cameOut q_onWalks q_far q_aside q_wasFull q_undos q_was c_undoMany c_drawn q_kept q_isKept, aI k q_aside 189 c_aside, aI k q_now 189 w_now] := by
  refine mkMV' (own := "DoorWalkModel") (by decide) rfl (Nat.le_of_ble_eq_true rfl) ?_
  intro p e s m args below meth c Q A hret C
  refine ww_lv (lv' := [(0, .ref q_this)]) [0] rfl ?_
  have hL2 : ∀ (n : Nat) (c_now : Nat → Int32) (n1 : Int32), lfix (fX8_comesBack_b2 c_aside) (fun _ _ => none) n c_now n1 = some (w_now) → WW p l e (RM 0 0) s m args below meth c Q 2 D A 0 0 [oX8 q_this q_now q_text c_typed q_row c_rowMany c_thrown c_length c_at c_wrong q_read q_outerCell q_outerDoor c_outerMany q_walked c_walkedMany c_cameOut q_onWalks q_far q_aside q_wasFull q_undos q_was c_undoMany c_drawn q_kept q_isKept, aI k q_aside 189 c_aside, aI k q_now 189 c_now] [(0, .ref q_this), (1, .int n1)] 2 [] := by
    intro n
    induction n with
    | zero => intro c_now n1 hf; cases hf
    | succ n ih2 =>
      obtain ⟨rc2, hrc2⟩ : ∃ f9, f9 = lfix (fX8_comesBack_b2 c_aside) (fun _ _ => none) n := ⟨_, rfl⟩
      rw [← hrc2] at ih2
      intro c_now n1 hf
      have hf : fX8_comesBack_b2 c_aside rc2 c_now n1 = some (w_now) := by rw [hrc2]; exact hf
      unfold fX8_comesBack_b2 at hf
      refine ww_iload_n (pc := 2) C dX8_comesBack_2 rfl 1 rfl ?_
      refine ww_sipush (pc := 3) C dX8_comesBack_3 kS_189 ?_
      refine ww_icmp_ge (pc := 6) (tgt := 27) C dX8_comesBack_6 (by decide) (fun hc => ?_) (fun hc => ?_)
      · have hf := ifT hc hf
        obtain e0 := ij1 hf
        exact hret _ _ 27 dX8_comesBack_27 (by rw [← e0])
      · have hf := ifF hc hf
        refine ww_aload_n (pc := 9) C dX8_comesBack_9 rfl 0 rfl ?_
        refine gf8_0 (pc := 10) C kf_X8_9 0 rfl rfl dX8_comesBack_10 ?_
        refine ww_iload_n (pc := 13) C dX8_comesBack_13 rfl 1 rfl ?_
        refine ww_aload_n (pc := 14) C dX8_comesBack_14 rfl 0 rfl ?_
        refine gf8_18 (pc := 15) C kf_X8_39 0 rfl rfl dX8_comesBack_15 ?_
        refine ww_iload_n (pc := 18) C dX8_comesBack_18 rfl 1 rfl ?_
        obtain ⟨v1, h1, hf⟩ := bsome hf
        refine ww_iald (pc := 19) C 1 rfl h1 dX8_comesBack_19 ?_
        obtain ⟨v2, h2, hf⟩ := bsome hf
        refine ww_iast (pc := 20) (ws' := [oX8 q_this q_now q_text c_typed q_row c_rowMany c_thrown c_length c_at c_wrong q_read q_outerCell q_outerDoor c_outerMany q_walked c_walkedMany c_cameOut q_onWalks q_far q_aside q_wasFull q_undos q_was c_undoMany c_drawn q_kept q_isKept, aI k q_aside 189 c_aside, aI k q_now 189 v2]) C 2 rfl h2 rfl dX8_comesBack_20 ?_
        obtain ⟨v3, h3, hf⟩ := bsome hf
        refine ww_iincN (pc := 21) (lv' := [(1, .int v3), (0, .ref q_this)]) (j := 1) C dX8_comesBack_21 kI_1 rfl h3 (by decide) rfl ?_
        refine ww_goto (pc := 24) (tgt := 2) C dX8_comesBack_24 (by decide) ?_
        exact ww_lv [1, 0] rfl (ih2 v2 v3 hf)
  unfold fX8_comesBack at hf
  refine ww_iconst (pc := 0) C dX8_comesBack_0 kI_0 ?_
  refine ww_istore_n (pc := 1) (lv' := [(1, .int (0 : Int32)), (0, .ref q_this)]) C dX8_comesBack_1 rfl (by decide) rfl ?_
  exact ww_lv [1, 0] rfl (hL2 FU c_now (0 : Int32) hf)
def fX8_goGrid_b2 (rc2 : (Nat → Int32) → Int32 → Int32 → Option ((Nat → Int32))) (c_now : Nat → Int32) (n1 : Int32) (n2 : Int32) : Option ((Nat → Int32)) := if (153 : Int32) ≤ n2 then (ast 189 (0 : Int32) c_now n1).bind fun v1 => (fX8_layRule v1).bind fun v2 => some (v2) else (ast 189 ((36 : Int32) + n2) c_now (0 : Int32)).bind fun v3 => (some (n2 + (1 : Int32))).bind fun v4 => rc2 v3 n1 v4
def fX8_goGrid (c_now : Nat → Int32) (x1 : Int32) : Option ((Nat → Int32)) := lfix (fX8_goGrid_b2) (fun _ _ _ => none) FU c_now x1 (0 : Int32)
set_option maxHeartbeats 4000000 in
set_option maxRecDepth 100000 in
theorem tX8_goGrid (l : Launch) (D : va_G) (k : Nat → ClassId) (q_this q_now q_text q_row q_read q_outerCell q_outerDoor q_walked q_onWalks q_far q_aside q_wasFull q_undos q_was q_kept q_isKept : Nat) (c_typed : Int32) (c_rowMany : Int32) (c_thrown : Int32) (c_length : Int32) (c_at : Int32) (c_wrong : Int32) (c_outerMany : Int32) (c_walkedMany : Int32) (c_cameOut : Int32) (c_undoMany : Int32) (c_drawn : Int32) (c_now : Nat → Int32) (x1 : Int32) (w_now : Nat → Int32) (hf : fX8_goGrid c_now x1 = some (w_now)) : MV l yX8_goGrid cX8_goGrid 3 (RM 6 141) D k [.ref q_this, .int x1] [oX8 q_this q_now q_text c_typed q_row c_rowMany c_thrown c_length c_at c_wrong q_read q_outerCell q_outerDoor c_outerMany q_walked c_walkedMany c_cameOut q_onWalks q_far q_aside q_wasFull q_undos q_was c_undoMany c_drawn q_kept q_isKept, aI k q_now 189 c_now] [oX8 q_this q_now q_text c_typed q_row c_rowMany c_thrown c_length c_at c_wrong q_read q_outerCell q_outerDoor c_outerMany q_walked c_walkedMany c_cameOut q_onWalks q_far q_aside q_wasFull q_undos q_was c_undoMany c_drawn q_kept q_isKept, aI k q_now 189 w_now] := by
  refine mkMV' (own := "DoorWalkModel") (by decide) rfl (Nat.le_of_ble_eq_true rfl) ?_
  intro p e s m args below meth c Q A hret C
  refine ww_lv (lv' := [(0, .ref q_this), (1, .int x1)]) [0, 1] rfl ?_
  have hL2 : ∀ (n : Nat) (c_now : Nat → Int32) (n1 : Int32) (n2 : Int32), lfix (fX8_goGrid_b2) (fun _ _ _ => none) n c_now n1 n2 = some (w_now) → WW p l e (RM 6 141) s m args below meth c Q 3 D A 0 0 [oX8 q_this q_now q_text c_typed q_row c_rowMany c_thrown c_length c_at c_wrong q_read q_outerCell q_outerDoor c_outerMany q_walked c_walkedMany c_cameOut q_onWalks q_far q_aside q_wasFull q_undos q_was c_undoMany c_drawn q_kept q_isKept, aI k q_now 189 c_now] [(0, .ref q_this), (1, .int n1), (2, .int n2)] 2 [] := by
    intro n
    induction n with
    | zero => intro c_now n1 n2 hf; cases hf
    | succ n ih2 =>
      obtain ⟨rc2, hrc2⟩ : ∃ f9, f9 = lfix (fX8_goGrid_b2) (fun _ _ _ => none) n := ⟨_, rfl⟩
      rw [← hrc2] at ih2
      intro c_now n1 n2 hf
      have hf : fX8_goGrid_b2 rc2 c_now n1 n2 = some (w_now) := by rw [hrc2]; exact hf
      unfold fX8_goGrid_b2 at hf
      refine ww_iload_n (pc := 2) C dX8_goGrid_2 rfl 2 rfl ?_
      refine ww_sipush (pc := 3) C dX8_goGrid_3 kS_153 ?_
      refine ww_icmp_ge (pc := 6) (tgt := 25) C dX8_goGrid_6 (by decide) (fun hc => ?_) (fun hc => ?_)
      · have hf := ifT hc hf
        refine ww_aload_n (pc := 25) C dX8_goGrid_25 rfl 0 rfl ?_
        refine gf8_0 (pc := 26) C kf_X8_9 0 rfl rfl dX8_goGrid_26 ?_
        refine ww_iconst (pc := 29) C dX8_goGrid_29 kI_0 ?_
        refine ww_iload_n (pc := 30) C dX8_goGrid_30 rfl 1 rfl ?_
        obtain ⟨v1, h1, hf⟩ := bsome hf
        refine ww_iast (pc := 31) (ws' := [oX8 q_this q_now q_text c_typed q_row c_rowMany c_thrown c_length c_at c_wrong q_read q_outerCell q_outerDoor c_outerMany q_walked c_walkedMany c_cameOut q_onWalks q_far q_aside q_wasFull q_undos q_was c_undoMany c_drawn q_kept q_isKept, aI k q_now 189 v1]) C 1 rfl h1 rfl dX8_goGrid_31 ?_
        refine ww_aload_n (pc := 32) C dX8_goGrid_32 rfl 0 rfl ?_
        obtain ⟨v2, h2, hf⟩ := bsome hf
        refine ww_callVv (pc := 33) (ws' := [oX8 q_this q_now q_text c_typed q_row c_rowMany c_thrown c_length c_at c_wrong q_read q_outerCell q_outerDoor c_outerMany q_walked c_walkedMany c_cameOut q_onWalks q_far q_aside q_wasFull q_undos q_was c_undoMany c_drawn q_kept q_isKept, aI k q_now 189 v2]) (As := []) (rest := []) C (tX8_layRule l D k q_this q_now q_text q_row q_read q_outerCell q_outerDoor q_walked q_onWalks q_far q_aside q_wasFull q_undos q_was q_kept q_isKept c_typed c_rowMany c_thrown c_length c_at c_wrong c_outerMany c_walkedMany c_cameOut c_undoMany c_drawn v1 v2 h2) cv_X8_169 ⟨⟨by decide, by decide⟩, rfl, rfl⟩ 0 rfl rfl [0, 1] rfl rfl rfl rfl rfl rfl (Nat.le_of_ble_eq_true rfl) ⟨Nat.zero_le _, Nat.zero_le _⟩ dX8_goGrid_33 ?_
        obtain e0 := ij1 hf
        exact hret _ _ 36 dX8_goGrid_36 (by rw [← e0])
      · have hf := ifF hc hf
        refine ww_aload_n (pc := 9) C dX8_goGrid_9 rfl 0 rfl ?_
        refine gf8_0 (pc := 10) C kf_X8_9 0 rfl rfl dX8_goGrid_10 ?_
        refine ww_bipush (pc := 13) C dX8_goGrid_13 kB_36 ?_
        refine ww_iload_n (pc := 15) C dX8_goGrid_15 rfl 2 rfl ?_
        refine ww_iadd (pc := 16) C dX8_goGrid_16  ?_
        refine ww_iconst (pc := 17) C dX8_goGrid_17 kI_0 ?_
        obtain ⟨v3, h3, hf⟩ := bsome hf
        refine ww_iast (pc := 18) (ws' := [oX8 q_this q_now q_text c_typed q_row c_rowMany c_thrown c_length c_at c_wrong q_read q_outerCell q_outerDoor c_outerMany q_walked c_walkedMany c_cameOut q_onWalks q_far q_aside q_wasFull q_undos q_was c_undoMany c_drawn q_kept q_isKept, aI k q_now 189 v3]) C 1 rfl h3 rfl dX8_goGrid_18 ?_
        obtain ⟨v4, h4, hf⟩ := bsome hf
        refine ww_iincN (pc := 19) (lv' := [(2, .int v4), (0, .ref q_this), (1, .int n1)]) (j := 2) C dX8_goGrid_19 kI_1 rfl h4 (by decide) rfl ?_
        refine ww_goto (pc := 22) (tgt := 2) C dX8_goGrid_22 (by decide) ?_
        exact ww_lv [1, 2, 0] rfl (ih2 v3 n1 v4 hf)
  unfold fX8_goGrid at hf
  refine ww_iconst (pc := 0) C dX8_goGrid_0 kI_0 ?_
  refine ww_istore_n (pc := 1) (lv' := [(2, .int (0 : Int32)), (0, .ref q_this), (1, .int x1)]) C dX8_goGrid_1 rfl (by decide) rfl ?_
  exact ww_lv [1, 2, 0] rfl (hL2 FU c_now x1 (0 : Int32) hf)
def fX8_finer (c_rowMany : Int32) (c_thrown : Int32) (c_aside : Nat → Int32) (c_now : Nat → Int32) (c_row : Nat → Int64) (x1 : Int32) : Option (Int32 × Int32 × Int32 × (Nat → Int32) × (Nat → Int32) × (Nat → Int64)) := (fX8_in x1 (1 : Int32) (16 : Int32)).bind fun v1 => if v1 = 0 then some ((-1 : Int32), c_rowMany, (0 : Int32), c_aside, c_now, c_row) else (ald 189 (1 : Int32) c_now).bind fun v2 => if v2 = 0 then some ((-3 : Int32), c_rowMany, (0 : Int32), c_aside, c_now, c_row) else (fX8_layAside c_now c_aside).bind fun v3 => (fX8_goGrid c_now x1).bind fun v4 => (fX8_fullMany v4).bind fun v5 => (fX8_turns v4).bind fun v6 => bd2 (fX8_tell (0 : Int32) c_row ((v6).toInt64)) fun v7 v8 => (fX8_nthFull v4 (0 : Int32)).bind fun v9 => bd2 (fX8_tell v7 v8 ((v9).toInt64)) fun v10 v11 => (fX8_comesBack v3 v4).bind fun v12 => some (v5, v10, (0 : Int32), v3, v12, v11)
set_option maxHeartbeats 4000000 in
set_option maxRecDepth 100000 in
theorem tX8_finer (l : Launch) (D : va_G) (k : Nat → ClassId) (q_this q_now q_text q_row q_read q_outerCell q_outerDoor q_walked q_onWalks q_far q_aside q_wasFull q_undos q_was q_kept q_isKept : Nat) (c_typed : Int32) (c_rowMany : Int32) (c_thrown : Int32) (c_length : Int32) (c_at : Int32) (c_wrong : Int32) (c_outerMany : Int32) (c_walkedMany : Int32) (c_cameOut : Int32) (c_undoMany : Int32) (c_drawn : Int32) (c_aside : Nat → Int32) (c_now : Nat → Int32) (c_row : Nat → Int64) (x1 : Int32) (r_ : Int32) (w_rowMany : Int32) (w_thrown : Int32) (w_aside : Nat → Int32) (w_now : Nat → Int32) (w_row : Nat → Int64) (hf : fX8_finer c_rowMany c_thrown c_aside c_now c_row x1 = some (r_, w_rowMany, w_thrown, w_aside, w_now, w_row)) : MI l yX8_finer cX8_finer 3 .int (RM 8 173) D k [.ref q_this, .int x1] [oX8 q_this q_now q_text c_typed q_row c_rowMany c_thrown c_length c_at c_wrong q_read q_outerCell q_outerDoor c_outerMany q_walked c_walkedMany c_cameOut q_onWalks q_far q_aside q_wasFull q_undos q_was c_undoMany c_drawn q_kept q_isKept, aI k q_aside 189 c_aside, aI k q_now 189 c_now, aJ k q_row 64 c_row] r_ [oX8 q_this q_now q_text c_typed q_row w_rowMany w_thrown c_length c_at c_wrong q_read q_outerCell q_outerDoor c_outerMany q_walked c_walkedMany c_cameOut q_onWalks q_far q_aside q_wasFull q_undos q_was c_undoMany c_drawn q_kept q_isKept, aI k q_aside 189 w_aside, aI k q_now 189 w_now, aJ k q_row 64 w_row] := by
  refine mkMI' (own := "DoorWalkModel") (by decide) rfl (Nat.le_of_ble_eq_true rfl) ?_
  intro p e s m args below meth c Q A hret C
  refine ww_lv (lv' := [(0, .ref q_this), (1, .int x1)]) [0, 1] rfl ?_
  unfold fX8_finer at hf
  refine ww_aload_n (pc := 0) C dX8_finer_0 rfl 0 rfl ?_
  refine ww_iconst (pc := 1) C dX8_finer_1 kI_0 ?_
  refine pf8_5 (pc := 2) (ws' := [oX8 q_this q_now q_text c_typed q_row c_rowMany (0 : Int32) c_length c_at c_wrong q_read q_outerCell q_outerDoor c_outerMany q_walked c_walkedMany c_cameOut q_onWalks q_far q_aside q_wasFull q_undos q_was c_undoMany c_drawn q_kept q_isKept, aI k q_aside 189 c_aside, aI k q_now 189 c_now, aJ k q_row 64 c_row]) C kf_X8_61 0 rfl (Nat.le_of_ble_eq_true rfl) rfl dX8_finer_2 ?_
  refine ww_iload_n (pc := 5) C dX8_finer_5 rfl 1 rfl ?_
  refine ww_iconst (pc := 6) C dX8_finer_6 kI_1 ?_
  refine ww_bipush (pc := 7) C dX8_finer_7 kB_16 ?_
  obtain ⟨v1, h1, hf⟩ := bsome hf
  refine ww_callSi0 (pc := 9) (As := [.int x1, .int (1 : Int32), .int (16 : Int32)]) (rest := []) C (tX8_in l D k x1 (1 : Int32) (16 : Int32) v1 h1) cs_X8_72 ⟨⟨by decide, by decide⟩, rfl, rfl⟩ [] rfl rfl rfl rfl (Nat.le_of_ble_eq_true rfl) ⟨Nat.zero_le _, Nat.zero_le _⟩ dX8_finer_9 (fun hb1 => ?_)
  refine ww_if_ne (pc := 12) (tgt := 17) C dX8_finer_12 (by decide) (fun hc => ?_) (fun hc => ?_)
  · have hf := ifF hc hf
    refine ww_aload_n (pc := 17) C dX8_finer_17 rfl 0 rfl ?_
    refine gf8_0 (pc := 18) C kf_X8_9 0 rfl rfl dX8_finer_18 ?_
    refine ww_iconst (pc := 21) C dX8_finer_21 kI_1 ?_
    obtain ⟨v2, h2, hf⟩ := bsome hf
    refine ww_iald (pc := 22) C 2 rfl h2 dX8_finer_22 ?_
    refine ww_if_ne (pc := 23) (tgt := 29) C dX8_finer_23 (by decide) (fun hc => ?_) (fun hc => ?_)
    · have hf := ifF hc hf
      refine ww_aload_n (pc := 29) C dX8_finer_29 rfl 0 rfl ?_
      obtain ⟨v3, h3, hf⟩ := bsome hf
      refine ww_callVv (pc := 30) (ws' := [oX8 q_this q_now q_text c_typed q_row c_rowMany (0 : Int32) c_length c_at c_wrong q_read q_outerCell q_outerDoor c_outerMany q_walked c_walkedMany c_cameOut q_onWalks q_far q_aside q_wasFull q_undos q_was c_undoMany c_drawn q_kept q_isKept, aI k q_aside 189 v3, aI k q_now 189 c_now, aJ k q_row 64 c_row]) (As := []) (rest := []) C (tX8_layAside l D k q_this q_now q_text q_row q_read q_outerCell q_outerDoor q_walked q_onWalks q_far q_aside q_wasFull q_undos q_was q_kept q_isKept c_typed c_rowMany (0 : Int32) c_length c_at c_wrong c_outerMany c_walkedMany c_cameOut c_undoMany c_drawn c_aside c_now v3 h3) cv_X8_281 ⟨⟨by decide, by decide⟩, rfl, rfl⟩ 0 rfl rfl [0, 1, 2] rfl rfl rfl rfl rfl rfl (Nat.le_of_ble_eq_true rfl) ⟨Nat.zero_le _, Nat.zero_le _⟩ dX8_finer_30 ?_
      refine ww_aload_n (pc := 33) C dX8_finer_33 rfl 0 rfl ?_
      refine ww_iload_n (pc := 34) C dX8_finer_34 rfl 1 rfl ?_
      obtain ⟨v4, h4, hf⟩ := bsome hf
      refine ww_callVv (pc := 35) (ws' := [oX8 q_this q_now q_text c_typed q_row c_rowMany (0 : Int32) c_length c_at c_wrong q_read q_outerCell q_outerDoor c_outerMany q_walked c_walkedMany c_cameOut q_onWalks q_far q_aside q_wasFull q_undos q_was c_undoMany c_drawn q_kept q_isKept, aI k q_aside 189 v3, aI k q_now 189 v4, aJ k q_row 64 c_row]) (As := [.int x1]) (rest := []) C (tX8_goGrid l D k q_this q_now q_text q_row q_read q_outerCell q_outerDoor q_walked q_onWalks q_far q_aside q_wasFull q_undos q_was q_kept q_isKept c_typed c_rowMany (0 : Int32) c_length c_at c_wrong c_outerMany c_walkedMany c_cameOut c_undoMany c_drawn c_now x1 v4 h4) cv_X8_284 ⟨⟨by decide, by decide⟩, rfl, rfl⟩ 0 rfl rfl [0, 2] rfl rfl rfl rfl rfl rfl (Nat.le_of_ble_eq_true rfl) ⟨Nat.zero_le _, Nat.zero_le _⟩ dX8_finer_35 ?_
      refine ww_aload_n (pc := 38) C dX8_finer_38 rfl 0 rfl ?_
      obtain ⟨v5, h5, hf⟩ := bsome hf
      refine ww_callVi0 (pc := 39) (As := []) (rest := []) C (tX8_fullMany l D k q_this q_now q_text q_row q_read q_outerCell q_outerDoor q_walked q_onWalks q_far q_aside q_wasFull q_undos q_was q_kept q_isKept c_typed c_rowMany (0 : Int32) c_length c_at c_wrong c_outerMany c_walkedMany c_cameOut c_undoMany c_drawn v4 v5 h5) cv_X8_226 ⟨⟨by decide, by decide⟩, rfl, rfl⟩ 0 rfl rfl [0, 2] rfl rfl rfl rfl (Nat.le_of_ble_eq_true rfl) ⟨Nat.zero_le _, Nat.zero_le _⟩ dX8_finer_39 (fun hb5 => ?_)
      refine ww_istore_n (pc := 42) (lv' := [(2, .int v5), (0, .ref q_this), (1, .int x1)]) C dX8_finer_42 rfl (by decide) rfl ?_
      refine ww_aload_n (pc := 43) C dX8_finer_43 rfl 1 rfl ?_
      refine ww_iconst (pc := 44) C dX8_finer_44 kI_0 ?_
      refine pf8_4 (pc := 45) (ws' := [oX8 q_this q_now q_text c_typed q_row (0 : Int32) (0 : Int32) c_length c_at c_wrong q_read q_outerCell q_outerDoor c_outerMany q_walked c_walkedMany c_cameOut q_onWalks q_far q_aside q_wasFull q_undos q_was c_undoMany c_drawn q_kept q_isKept, aI k q_aside 189 v3, aI k q_now 189 v4, aJ k q_row 64 c_row]) C kf_X8_65 0 rfl (Nat.le_of_ble_eq_true rfl) rfl dX8_finer_45 ?_
      refine ww_aload_n (pc := 48) C dX8_finer_48 rfl 1 rfl ?_
      refine ww_aload_n (pc := 49) C dX8_finer_49 rfl 1 rfl ?_
      obtain ⟨v6, h6, hf⟩ := bsome hf
      refine ww_callVi0 (pc := 50) (As := []) (rest := [.ref q_this]) C (tX8_turns l D k q_this q_now q_text q_row q_read q_outerCell q_outerDoor q_walked q_onWalks q_far q_aside q_wasFull q_undos q_was q_kept q_isKept c_typed (0 : Int32) (0 : Int32) c_length c_at c_wrong c_outerMany c_walkedMany c_cameOut c_undoMany c_drawn v4 v6 h6) cv_X8_229 ⟨⟨by decide, by decide⟩, rfl, rfl⟩ 0 rfl rfl [0, 2] rfl rfl rfl rfl (Nat.le_of_ble_eq_true rfl) ⟨Nat.zero_le _, Nat.zero_le _⟩ dX8_finer_50 (fun hb6 => ?_)
      refine ww_i2l (pc := 53) C dX8_finer_53  ?_
      obtain ⟨v7, v8, h7, hf⟩ := bd2_some hf
      refine ww_callVv (pc := 54) (ws' := [oX8 q_this q_now q_text c_typed q_row v7 (0 : Int32) c_length c_at c_wrong q_read q_outerCell q_outerDoor c_outerMany q_walked c_walkedMany c_cameOut q_onWalks q_far q_aside q_wasFull q_undos q_was c_undoMany c_drawn q_kept q_isKept, aI k q_aside 189 v3, aI k q_now 189 v4, aJ k q_row 64 v8]) (As := [.long ((v6).toInt64)]) (rest := []) C (tX8_tell l D k q_this q_now q_text q_row q_read q_outerCell q_outerDoor q_walked q_onWalks q_far q_aside q_wasFull q_undos q_was q_kept q_isKept c_typed (0 : Int32) (0 : Int32) c_length c_at c_wrong c_outerMany c_walkedMany c_cameOut c_undoMany c_drawn c_row ((v6).toInt64) v7 v8 h7) cv_X8_182 ⟨⟨by decide, by decide⟩, rfl, rfl⟩ 0 rfl rfl [0, 3] rfl rfl rfl rfl rfl rfl (Nat.le_of_ble_eq_true rfl) ⟨Nat.zero_le _, Nat.zero_le _⟩ dX8_finer_54 ?_
      refine ww_aload_n (pc := 57) C dX8_finer_57 rfl 1 rfl ?_
      refine ww_aload_n (pc := 58) C dX8_finer_58 rfl 1 rfl ?_
      refine ww_iconst (pc := 59) C dX8_finer_59 kI_0 ?_
      obtain ⟨v9, h9, hf⟩ := bsome hf
      refine ww_callVi0 (pc := 60) (As := [.int (0 : Int32)]) (rest := [.ref q_this]) C (tX8_nthFull l D k q_this q_now q_text q_row q_read q_outerCell q_outerDoor q_walked q_onWalks q_far q_aside q_wasFull q_undos q_was q_kept q_isKept c_typed v7 (0 : Int32) c_length c_at c_wrong c_outerMany c_walkedMany c_cameOut c_undoMany c_drawn v4 (0 : Int32) v9 h9) cv_X8_232 ⟨⟨by decide, by decide⟩, rfl, rfl⟩ 0 rfl rfl [0, 2] rfl rfl rfl rfl (Nat.le_of_ble_eq_true rfl) ⟨Nat.zero_le _, Nat.zero_le _⟩ dX8_finer_60 (fun hb9 => ?_)
      refine ww_i2l (pc := 63) C dX8_finer_63  ?_
      obtain ⟨v10, v11, h10, hf⟩ := bd2_some hf
      refine ww_callVv (pc := 64) (ws' := [oX8 q_this q_now q_text c_typed q_row v10 (0 : Int32) c_length c_at c_wrong q_read q_outerCell q_outerDoor c_outerMany q_walked c_walkedMany c_cameOut q_onWalks q_far q_aside q_wasFull q_undos q_was c_undoMany c_drawn q_kept q_isKept, aI k q_aside 189 v3, aI k q_now 189 v4, aJ k q_row 64 v11]) (As := [.long ((v9).toInt64)]) (rest := []) C (tX8_tell l D k q_this q_now q_text q_row q_read q_outerCell q_outerDoor q_walked q_onWalks q_far q_aside q_wasFull q_undos q_was q_kept q_isKept c_typed v7 (0 : Int32) c_length c_at c_wrong c_outerMany c_walkedMany c_cameOut c_undoMany c_drawn v8 ((v9).toInt64) v10 v11 h10) cv_X8_182 ⟨⟨by decide, by decide⟩, rfl, rfl⟩ 0 rfl rfl [0, 3] rfl rfl rfl rfl rfl rfl (Nat.le_of_ble_eq_true rfl) ⟨Nat.zero_le _, Nat.zero_le _⟩ dX8_finer_64 ?_
      refine ww_aload_n (pc := 67) C dX8_finer_67 rfl 1 rfl ?_
      obtain ⟨v12, h12, hf⟩ := bsome hf
      refine ww_callVv (pc := 68) (ws' := [oX8 q_this q_now q_text c_typed q_row v10 (0 : Int32) c_length c_at c_wrong q_read q_outerCell q_outerDoor c_outerMany q_walked c_walkedMany c_cameOut q_onWalks q_far q_aside q_wasFull q_undos q_was c_undoMany c_drawn q_kept q_isKept, aI k q_aside 189 v3, aI k q_now 189 v12, aJ k q_row 64 v11]) (As := []) (rest := []) C (tX8_comesBack l D k q_this q_now q_text q_row q_read q_outerCell q_outerDoor q_walked q_onWalks q_far q_aside q_wasFull q_undos q_was q_kept q_isKept c_typed v10 (0 : Int32) c_length c_at c_wrong c_outerMany c_walkedMany c_cameOut c_undoMany c_drawn v3 v4 v12 h12) cv_X8_287 ⟨⟨by decide, by decide⟩, rfl, rfl⟩ 0 rfl rfl [0, 1, 2] rfl rfl rfl rfl rfl rfl (Nat.le_of_ble_eq_true rfl) ⟨Nat.zero_le _, Nat.zero_le _⟩ dX8_finer_68 ?_
      refine ww_iload_n (pc := 71) C dX8_finer_71 rfl 0 rfl ?_
      obtain ⟨e0, e1, e2, e3, e4, e5⟩ := ij6 hf
      exact hret _ _ 72 _ dX8_finer_72 rfl e0 (by rw [← e1, ← e2, ← e3, ← e4, ← e5])
    · have hf := ifT hc hf
      refine ww_bipush (pc := 26) C dX8_finer_26 kB_m3 ?_
      obtain ⟨e0, e1, e2, e3, e4, e5⟩ := ij6 hf
      exact hret _ _ 28 _ dX8_finer_28 rfl e0 (by rw [← e1, ← e2, ← e3, ← e4, ← e5])
  · have hf := ifT hc hf
    refine ww_iconst (pc := 15) C dX8_finer_15 kI_m1 ?_
    obtain ⟨e0, e1, e2, e3, e4, e5⟩ := ij6 hf
    exact hret _ _ 16 _ dX8_finer_16 rfl e0 (by rw [← e1, ← e2, ← e3, ← e4, ← e5])
def fX8_withinOf (x1 : Int32) (x2 : Int32) (x3 : Int32) (x4 : Int32) (x5 : Int32) : Option Int32 := (some ((2 : Int32) * x4)).bind fun v1 => if x3 = 0 then (some (((2 : Int32) * ((((v1 * (2 : Int32)) * x1) + ((2 : Int32) * x2)) + (1 : Int32))) + (1 : Int32))).bind fun v2 => (some ((2 : Int32) * ((v1 * (((2 : Int32) * x1) + (1 : Int32))) + ((2 : Int32) * x2)))).bind fun v3 => if x5 = 0 then some (v2) else if x5 = (1 : Int32) then some ((v3 + (1 : Int32))) else if x5 = (2 : Int32) then some ((v3 + (2 : Int32))) else some ((v3 + (3 : Int32))) else (some ((2 : Int32) * (((v1 * (2 : Int32)) * x1) + ((2 : Int32) * x2)))).bind fun v4 => if x5 = 0 then some (v4) else if x5 = (1 : Int32) then some ((v4 + (1 : Int32))) else if x5 = (2 : Int32) then some ((v4 + (2 : Int32))) else some ((v4 + ((2 : Int32) * v1)))
set_option maxHeartbeats 4000000 in
set_option maxRecDepth 100000 in
theorem tX8_withinOf (l : Launch) (D : va_G) (k : Nat → ClassId)   (x1 : Int32) (x2 : Int32) (x3 : Int32) (x4 : Int32) (x5 : Int32) (r_ : Int32) (hf : fX8_withinOf x1 x2 x3 x4 x5 = some (r_)) : MI l yX8_withinOf cX8_withinOf 8 .int (RM 0 0) D k [.int x1, .int x2, .int x3, .int x4, .int x5] [] r_ [] := by
  refine mkMI' (own := "DoorWalkModel") (by decide) rfl (Nat.le_of_ble_eq_true rfl) ?_
  intro p e s m args below meth c Q A hret C
  refine ww_lv (lv' := [(0, .int x1), (1, .int x2), (2, .int x3), (3, .int x4), (4, .int x5)]) [0, 1, 2, 3, 4] rfl ?_
  unfold fX8_withinOf at hf
  refine ww_iconst (pc := 0) C dX8_withinOf_0 kI_2 ?_
  refine ww_iload_n (pc := 1) C dX8_withinOf_1 rfl 3 rfl ?_
  refine ww_imul (pc := 2) C dX8_withinOf_2  ?_
  obtain ⟨v1, h1, hf⟩ := bsome hf
  refine ww_nmi h1 ?_
  refine ww_istore (pc := 3) (lv' := [(5, .int v1), (0, .int x1), (1, .int x2), (2, .int x3), (3, .int x4), (4, .int x5)]) C dX8_withinOf_3 (by decide) rfl ?_
  refine ww_iload_n (pc := 5) C dX8_withinOf_5 rfl 3 rfl ?_
  refine ww_if_eq (pc := 6) (tgt := 67) C dX8_withinOf_6 (by decide) (fun hc => ?_) (fun hc => ?_)
  · have hf := ifT hc hf
    refine ww_iconst (pc := 67) C dX8_withinOf_67 kI_2 ?_
    refine ww_iload (pc := 68) C dX8_withinOf_68 0 rfl ?_
    refine ww_iconst (pc := 70) C dX8_withinOf_70 kI_2 ?_
    refine ww_imul (pc := 71) C dX8_withinOf_71  ?_
    refine ww_iload_n (pc := 72) C dX8_withinOf_72 rfl 1 rfl ?_
    refine ww_imul (pc := 73) C dX8_withinOf_73  ?_
    refine ww_iconst (pc := 74) C dX8_withinOf_74 kI_2 ?_
    refine ww_iload_n (pc := 75) C dX8_withinOf_75 rfl 2 rfl ?_
    refine ww_imul (pc := 76) C dX8_withinOf_76  ?_
    refine ww_iadd (pc := 77) C dX8_withinOf_77  ?_
    refine ww_iconst (pc := 78) C dX8_withinOf_78 kI_1 ?_
    refine ww_iadd (pc := 79) C dX8_withinOf_79  ?_
    refine ww_imul (pc := 80) C dX8_withinOf_80  ?_
    refine ww_iconst (pc := 81) C dX8_withinOf_81 kI_1 ?_
    refine ww_iadd (pc := 82) C dX8_withinOf_82  ?_
    obtain ⟨v2, h2, hf⟩ := bsome hf
    refine ww_nmi h2 ?_
    refine ww_istore (pc := 83) (lv' := [(6, .int v2), (5, .int v1), (0, .int x1), (1, .int x2), (2, .int x3), (3, .int x4), (4, .int x5)]) C dX8_withinOf_83 (by decide) rfl ?_
    refine ww_iconst (pc := 85) C dX8_withinOf_85 kI_2 ?_
    refine ww_iload (pc := 86) C dX8_withinOf_86 1 rfl ?_
    refine ww_iconst (pc := 88) C dX8_withinOf_88 kI_2 ?_
    refine ww_iload_n (pc := 89) C dX8_withinOf_89 rfl 2 rfl ?_
    refine ww_imul (pc := 90) C dX8_withinOf_90  ?_
    refine ww_iconst (pc := 91) C dX8_withinOf_91 kI_1 ?_
    refine ww_iadd (pc := 92) C dX8_withinOf_92  ?_
    refine ww_imul (pc := 93) C dX8_withinOf_93  ?_
    refine ww_iconst (pc := 94) C dX8_withinOf_94 kI_2 ?_
    refine ww_iload_n (pc := 95) C dX8_withinOf_95 rfl 3 rfl ?_
    refine ww_imul (pc := 96) C dX8_withinOf_96  ?_
    refine ww_iadd (pc := 97) C dX8_withinOf_97  ?_
    refine ww_imul (pc := 98) C dX8_withinOf_98  ?_
    obtain ⟨v3, h3, hf⟩ := bsome hf
    refine ww_nmi h3 ?_
    refine ww_istore (pc := 99) (lv' := [(7, .int v3), (6, .int v2), (5, .int v1), (0, .int x1), (1, .int x2), (2, .int x3), (3, .int x4), (4, .int x5)]) C dX8_withinOf_99 (by decide) rfl ?_
    refine ww_iload (pc := 101) C dX8_withinOf_101 7 rfl ?_
    refine ww_if_ne (pc := 103) (tgt := 111) C dX8_withinOf_103 (by decide) (fun hc => ?_) (fun hc => ?_)
    · have hf := ifF hc hf
      refine ww_iload (pc := 111) C dX8_withinOf_111 7 rfl ?_
      refine ww_iconst (pc := 113) C dX8_withinOf_113 kI_1 ?_
      refine ww_icmp_ne (pc := 114) (tgt := 124) C dX8_withinOf_114 (by decide) (fun hc => ?_) (fun hc => ?_)
      · have hf := ifF hc hf
        refine ww_iload (pc := 124) C dX8_withinOf_124 7 rfl ?_
        refine ww_iconst (pc := 126) C dX8_withinOf_126 kI_2 ?_
        refine ww_icmp_ne (pc := 127) (tgt := 137) C dX8_withinOf_127 (by decide) (fun hc => ?_) (fun hc => ?_)
        · have hf := ifF hc hf
          refine ww_iload (pc := 137) C dX8_withinOf_137 0 rfl ?_
          refine ww_iconst (pc := 139) C dX8_withinOf_139 kI_3 ?_
          refine ww_iadd (pc := 140) C dX8_withinOf_140  ?_
          obtain e0 := ij1 hf
          exact hret _ _ 141 _ dX8_withinOf_141 rfl e0 rfl
        · have hf := ifT hc hf
          refine ww_iload (pc := 130) C dX8_withinOf_130 0 rfl ?_
          refine ww_iconst (pc := 132) C dX8_withinOf_132 kI_2 ?_
          refine ww_iadd (pc := 133) C dX8_withinOf_133  ?_
          refine ww_goto (pc := 134) (tgt := 141) C dX8_withinOf_134 (by decide) ?_
          obtain e0 := ij1 hf
          exact hret _ _ 141 _ dX8_withinOf_141 rfl e0 rfl
      · have hf := ifT hc hf
        refine ww_iload (pc := 117) C dX8_withinOf_117 0 rfl ?_
        refine ww_iconst (pc := 119) C dX8_withinOf_119 kI_1 ?_
        refine ww_iadd (pc := 120) C dX8_withinOf_120  ?_
        refine ww_goto (pc := 121) (tgt := 141) C dX8_withinOf_121 (by decide) ?_
        obtain e0 := ij1 hf
        exact hret _ _ 141 _ dX8_withinOf_141 rfl e0 rfl
    · have hf := ifT hc hf
      refine ww_iload (pc := 106) C dX8_withinOf_106 1 rfl ?_
      refine ww_goto (pc := 108) (tgt := 141) C dX8_withinOf_108 (by decide) ?_
      obtain e0 := ij1 hf
      exact hret _ _ 141 _ dX8_withinOf_141 rfl e0 rfl
  · have hf := ifF hc hf
    refine ww_iconst (pc := 9) C dX8_withinOf_9 kI_2 ?_
    refine ww_iload (pc := 10) C dX8_withinOf_10 0 rfl ?_
    refine ww_iconst (pc := 12) C dX8_withinOf_12 kI_2 ?_
    refine ww_imul (pc := 13) C dX8_withinOf_13  ?_
    refine ww_iload_n (pc := 14) C dX8_withinOf_14 rfl 1 rfl ?_
    refine ww_imul (pc := 15) C dX8_withinOf_15  ?_
    refine ww_iconst (pc := 16) C dX8_withinOf_16 kI_2 ?_
    refine ww_iload_n (pc := 17) C dX8_withinOf_17 rfl 2 rfl ?_
    refine ww_imul (pc := 18) C dX8_withinOf_18  ?_
    refine ww_iadd (pc := 19) C dX8_withinOf_19  ?_
    refine ww_imul (pc := 20) C dX8_withinOf_20  ?_
    obtain ⟨v4, h4, hf⟩ := bsome hf
    refine ww_nmi h4 ?_
    refine ww_istore (pc := 21) (lv' := [(6, .int v4), (5, .int v1), (0, .int x1), (1, .int x2), (2, .int x3), (3, .int x4), (4, .int x5)]) C dX8_withinOf_21 (by decide) rfl ?_
    refine ww_iload (pc := 23) C dX8_withinOf_23 6 rfl ?_
    refine ww_if_ne (pc := 25) (tgt := 33) C dX8_withinOf_25 (by decide) (fun hc => ?_) (fun hc => ?_)
    · have hf := ifF hc hf
      refine ww_iload (pc := 33) C dX8_withinOf_33 6 rfl ?_
      refine ww_iconst (pc := 35) C dX8_withinOf_35 kI_1 ?_
      refine ww_icmp_ne (pc := 36) (tgt := 46) C dX8_withinOf_36 (by decide) (fun hc => ?_) (fun hc => ?_)
      · have hf := ifF hc hf
        refine ww_iload (pc := 46) C dX8_withinOf_46 6 rfl ?_
        refine ww_iconst (pc := 48) C dX8_withinOf_48 kI_2 ?_
        refine ww_icmp_ne (pc := 49) (tgt := 59) C dX8_withinOf_49 (by decide) (fun hc => ?_) (fun hc => ?_)
        · have hf := ifF hc hf
          refine ww_iload (pc := 59) C dX8_withinOf_59 0 rfl ?_
          refine ww_iconst (pc := 61) C dX8_withinOf_61 kI_2 ?_
          refine ww_iload (pc := 62) C dX8_withinOf_62 1 rfl ?_
          refine ww_imul (pc := 64) C dX8_withinOf_64  ?_
          refine ww_iadd (pc := 65) C dX8_withinOf_65  ?_
          obtain e0 := ij1 hf
          exact hret _ _ 66 _ dX8_withinOf_66 rfl e0 rfl
        · have hf := ifT hc hf
          refine ww_iload (pc := 52) C dX8_withinOf_52 0 rfl ?_
          refine ww_iconst (pc := 54) C dX8_withinOf_54 kI_2 ?_
          refine ww_iadd (pc := 55) C dX8_withinOf_55  ?_
          refine ww_goto (pc := 56) (tgt := 66) C dX8_withinOf_56 (by decide) ?_
          obtain e0 := ij1 hf
          exact hret _ _ 66 _ dX8_withinOf_66 rfl e0 rfl
      · have hf := ifT hc hf
        refine ww_iload (pc := 39) C dX8_withinOf_39 0 rfl ?_
        refine ww_iconst (pc := 41) C dX8_withinOf_41 kI_1 ?_
        refine ww_iadd (pc := 42) C dX8_withinOf_42  ?_
        refine ww_goto (pc := 43) (tgt := 66) C dX8_withinOf_43 (by decide) ?_
        obtain e0 := ij1 hf
        exact hret _ _ 66 _ dX8_withinOf_66 rfl e0 rfl
    · have hf := ifT hc hf
      refine ww_iload (pc := 28) C dX8_withinOf_28 0 rfl ?_
      refine ww_goto (pc := 30) (tgt := 66) C dX8_withinOf_30 (by decide) ?_
      obtain e0 := ij1 hf
      exact hret _ _ 66 _ dX8_withinOf_66 rfl e0 rfl
def fX8_within_b133 (rc82 : Int32 → Int32 → (Nat → Int32) → (Nat → Int32) → (Nat → Int64) → Int32 → Int32 → Int32 → Int32 → Int32 → Int32 → Option (Int32 × Int32 × Int32 × (Nat → Int32) × (Nat → Int32) × (Nat → Int64))) (c_rowMany : Int32) (c_thrown : Int32) (c_aside : Nat → Int32) (c_now : Nat → Int32) (c_row : Nat → Int64) (n1 : Int32) (n2 : Int32) (n3 : Int32) (n4 : Int32) (n6 : Int32) (s0 : Int32) (s1 : Int32) : Option (Int32 × Int32 × Int32 × (Nat → Int32) × (Nat → Int32) × (Nat → Int64)) := (some (s0 + s1)).bind fun v1 => (some (n6 + (1 : Int32))).bind fun v2 => rc82 c_rowMany c_thrown c_aside c_now c_row n1 n2 n3 n4 v1 v2
def fX8_within_b101 (rc82 : Int32 → Int32 → (Nat → Int32) → (Nat → Int32) → (Nat → Int64) → Int32 → Int32 → Int32 → Int32 → Int32 → Int32 → Option (Int32 × Int32 × Int32 × (Nat → Int32) × (Nat → Int32) × (Nat → Int64))) (c_rowMany : Int32) (c_thrown : Int32) (c_aside : Nat → Int32) (c_now : Nat → Int32) (c_row : Nat → Int64) (n1 : Int32) (n2 : Int32) (n3 : Int32) (n4 : Int32) (n5 : Int32) (n6 : Int32) (s0 : Int32) (s1 : Int32) (s2 : Int32) : Option (Int32 × Int32 × Int32 × (Nat → Int32) × (Nat → Int32) × (Nat → Int64)) := (fX8_withinOf s0 s1 s2 n4 n6).bind fun v1 => bd2 (fX8_tell c_rowMany c_row ((v1).toInt64)) fun v2 v3 => (fX8_isFull c_now v1).bind fun v4 => if v4 = 0 then fX8_within_b133 rc82 v2 c_thrown c_aside c_now v3 n1 n2 n3 n4 n6 n5 (0 : Int32) else fX8_within_b133 rc82 v2 c_thrown c_aside c_now v3 n1 n2 n3 n4 n6 n5 (1 : Int32)
def fX8_within_b82 (rc82 : Int32 → Int32 → (Nat → Int32) → (Nat → Int32) → (Nat → Int64) → Int32 → Int32 → Int32 → Int32 → Int32 → Int32 → Option (Int32 × Int32 × Int32 × (Nat → Int32) × (Nat → Int32) × (Nat → Int64))) (c_rowMany : Int32) (c_thrown : Int32) (c_aside : Nat → Int32) (c_now : Nat → Int32) (c_row : Nat → Int64) (n1 : Int32) (n2 : Int32) (n3 : Int32) (n4 : Int32) (n5 : Int32) (n6 : Int32) : Option (Int32 × Int32 × Int32 × (Nat → Int32) × (Nat → Int32) × (Nat → Int64)) := if (4 : Int32) ≤ n6 then (fX8_comesBack c_aside c_now).bind fun v1 => some (n5, c_rowMany, c_thrown, c_aside, v1, c_row) else if (n1 - n1 / (2 : Int32) * (2 : Int32)) = 0 then fX8_within_b101 rc82 c_rowMany c_thrown c_aside c_now c_row n1 n2 n3 n4 n5 n6 n2 n3 (1 : Int32) else fX8_within_b101 rc82 c_rowMany c_thrown c_aside c_now c_row n1 n2 n3 n4 n5 n6 n2 n3 (0 : Int32)
def fX8_within (c_rowMany : Int32) (c_thrown : Int32) (c_aside : Nat → Int32) (c_now : Nat → Int32) (c_row : Nat → Int64) (x1 : Int32) : Option (Int32 × Int32 × Int32 × (Nat → Int32) × (Nat → Int32) × (Nat → Int64)) := (fX8_isCell c_now x1).bind fun v1 => if v1 = 0 then some ((-1 : Int32), c_rowMany, (0 : Int32), c_aside, c_now, c_row) else (ald 189 (1 : Int32) c_now).bind fun v2 => if v2 = 0 then some ((-3 : Int32), c_rowMany, (0 : Int32), c_aside, c_now, c_row) else (fX8_n c_now).bind fun v3 => if ((2 : Int32) * v3) ≤ (16 : Int32) then (fX8_cellI c_now x1).bind fun v4 => (fX8_cellJ c_now x1).bind fun v5 => (fX8_n c_now).bind fun v6 => (fX8_layAside c_now c_aside).bind fun v7 => (fX8_goGrid c_now ((2 : Int32) * v6)).bind fun v8 => lfix (fX8_within_b82) (fun _ _ _ _ _ _ _ _ _ _ _ => none) FU (0 : Int32) (0 : Int32) v7 v8 c_row x1 v4 v5 v6 (0 : Int32) (0 : Int32) else some ((-4 : Int32), c_rowMany, (0 : Int32), c_aside, c_now, c_row)
set_option maxHeartbeats 4000000 in
set_option maxRecDepth 100000 in
theorem tX8_within (l : Launch) (D : va_G) (k : Nat → ClassId) (q_this q_now q_text q_row q_read q_outerCell q_outerDoor q_walked q_onWalks q_far q_aside q_wasFull q_undos q_was q_kept q_isKept : Nat) (c_typed : Int32) (c_rowMany : Int32) (c_thrown : Int32) (c_length : Int32) (c_at : Int32) (c_wrong : Int32) (c_outerMany : Int32) (c_walkedMany : Int32) (c_cameOut : Int32) (c_undoMany : Int32) (c_drawn : Int32) (c_aside : Nat → Int32) (c_now : Nat → Int32) (c_row : Nat → Int64) (x1 : Int32) (r_ : Int32) (w_rowMany : Int32) (w_thrown : Int32) (w_aside : Nat → Int32) (w_now : Nat → Int32) (w_row : Nat → Int64) (hf : fX8_within c_rowMany c_thrown c_aside c_now c_row x1 = some (r_, w_rowMany, w_thrown, w_aside, w_now, w_row)) : MI l yX8_within cX8_within 8 .int (RM 7 163) D k [.ref q_this, .int x1] [oX8 q_this q_now q_text c_typed q_row c_rowMany c_thrown c_length c_at c_wrong q_read q_outerCell q_outerDoor c_outerMany q_walked c_walkedMany c_cameOut q_onWalks q_far q_aside q_wasFull q_undos q_was c_undoMany c_drawn q_kept q_isKept, aI k q_aside 189 c_aside, aI k q_now 189 c_now, aJ k q_row 64 c_row] r_ [oX8 q_this q_now q_text c_typed q_row w_rowMany w_thrown c_length c_at c_wrong q_read q_outerCell q_outerDoor c_outerMany q_walked c_walkedMany c_cameOut q_onWalks q_far q_aside q_wasFull q_undos q_was c_undoMany c_drawn q_kept q_isKept, aI k q_aside 189 w_aside, aI k q_now 189 w_now, aJ k q_row 64 w_row] := by
  refine mkMI' (own := "DoorWalkModel") (by decide) rfl (Nat.le_of_ble_eq_true rfl) ?_
  intro p e s m args below meth c Q A hret C
  refine ww_lv (lv' := [(0, .ref q_this), (1, .int x1)]) [0, 1] rfl ?_
  have hL82 : ∀ (n : Nat) (c_rowMany : Int32) (c_thrown : Int32) (c_aside : Nat → Int32) (c_now : Nat → Int32) (c_row : Nat → Int64) (n1 : Int32) (n2 : Int32) (n3 : Int32) (n4 : Int32) (n5 : Int32) (n6 : Int32), lfix (fX8_within_b82) (fun _ _ _ _ _ _ _ _ _ _ _ => none) n c_rowMany c_thrown c_aside c_now c_row n1 n2 n3 n4 n5 n6 = some (r_, w_rowMany, w_thrown, w_aside, w_now, w_row) → WW p l e (RM 7 163) s m args below meth c Q 8 D A 0 0 [oX8 q_this q_now q_text c_typed q_row c_rowMany c_thrown c_length c_at c_wrong q_read q_outerCell q_outerDoor c_outerMany q_walked c_walkedMany c_cameOut q_onWalks q_far q_aside q_wasFull q_undos q_was c_undoMany c_drawn q_kept q_isKept, aI k q_aside 189 c_aside, aI k q_now 189 c_now, aJ k q_row 64 c_row] [(0, .ref q_this), (1, .int n1), (2, .int n2), (3, .int n3), (4, .int n4), (5, .int n5), (6, .int n6)] 82 [] := by
    intro n
    induction n with
    | zero => intro c_rowMany c_thrown c_aside c_now c_row n1 n2 n3 n4 n5 n6 hf; cases hf
    | succ n ih82 =>
      obtain ⟨rc82, hrc82⟩ : ∃ f9, f9 = lfix (fX8_within_b82) (fun _ _ _ _ _ _ _ _ _ _ _ => none) n := ⟨_, rfl⟩
      rw [← hrc82] at ih82
      have hJ133 : ∀ (c_rowMany : Int32) (c_thrown : Int32) (c_aside : Nat → Int32) (c_now : Nat → Int32) (c_row : Nat → Int64) (n1 : Int32) (n2 : Int32) (n3 : Int32) (n4 : Int32) (n6 : Int32) (s0 : Int32) (s1 : Int32), fX8_within_b133 rc82 c_rowMany c_thrown c_aside c_now c_row n1 n2 n3 n4 n6 s0 s1 = some (r_, w_rowMany, w_thrown, w_aside, w_now, w_row) → WW p l e (RM 7 163) s m args below meth c Q 8 D A 0 0 [oX8 q_this q_now q_text c_typed q_row c_rowMany c_thrown c_length c_at c_wrong q_read q_outerCell q_outerDoor c_outerMany q_walked c_walkedMany c_cameOut q_onWalks q_far q_aside q_wasFull q_undos q_was c_undoMany c_drawn q_kept q_isKept, aI k q_aside 189 c_aside, aI k q_now 189 c_now, aJ k q_row 64 c_row] [(0, .ref q_this), (1, .int n1), (2, .int n2), (3, .int n3), (4, .int n4), (6, .int n6)] 133 [.int s1, .int s0] := by
        intro c_rowMany c_thrown c_aside c_now c_row n1 n2 n3 n4 n6 s0 s1
        intro hf
        unfold fX8_within_b133 at hf
        refine ww_iadd (pc := 133) C dX8_within_133  ?_
        obtain ⟨v1, h1, hf⟩ := bsome hf
        refine ww_nmi h1 ?_
        refine ww_istore (pc := 134) (lv' := [(5, .int v1), (0, .ref q_this), (1, .int n1), (2, .int n2), (3, .int n3), (4, .int n4), (6, .int n6)]) C dX8_within_134 (by decide) rfl ?_
        obtain ⟨v2, h2, hf⟩ := bsome hf
        refine ww_iincN (pc := 136) (lv' := [(6, .int v2), (5, .int v1), (0, .ref q_this), (1, .int n1), (2, .int n2), (3, .int n3), (4, .int n4)]) (j := 6) C dX8_within_136 kI_1 rfl h2 (by decide) rfl ?_
        refine ww_goto (pc := 139) (tgt := 82) C dX8_within_139 (by decide) ?_
        exact ww_lv [2, 3, 4, 5, 6, 1, 0] rfl (ih82 c_rowMany c_thrown c_aside c_now c_row n1 n2 n3 n4 v1 v2 hf)
      have hJ101 : ∀ (c_rowMany : Int32) (c_thrown : Int32) (c_aside : Nat → Int32) (c_now : Nat → Int32) (c_row : Nat → Int64) (n1 : Int32) (n2 : Int32) (n3 : Int32) (n4 : Int32) (n5 : Int32) (n6 : Int32) (s0 : Int32) (s1 : Int32) (s2 : Int32), fX8_within_b101 rc82 c_rowMany c_thrown c_aside c_now c_row n1 n2 n3 n4 n5 n6 s0 s1 s2 = some (r_, w_rowMany, w_thrown, w_aside, w_now, w_row) → WW p l e (RM 7 163) s m args below meth c Q 8 D A 0 0 [oX8 q_this q_now q_text c_typed q_row c_rowMany c_thrown c_length c_at c_wrong q_read q_outerCell q_outerDoor c_outerMany q_walked c_walkedMany c_cameOut q_onWalks q_far q_aside q_wasFull q_undos q_was c_undoMany c_drawn q_kept q_isKept, aI k q_aside 189 c_aside, aI k q_now 189 c_now, aJ k q_row 64 c_row] [(0, .ref q_this), (1, .int n1), (2, .int n2), (3, .int n3), (4, .int n4), (5, .int n5), (6, .int n6)] 101 [.int s2, .int s1, .int s0] := by
        intro c_rowMany c_thrown c_aside c_now c_row n1 n2 n3 n4 n5 n6 s0 s1 s2
        intro hf
        unfold fX8_within_b101 at hf
        refine ww_iload (pc := 101) C dX8_within_101 4 rfl ?_
        refine ww_iload (pc := 103) C dX8_within_103 6 rfl ?_
        obtain ⟨v1, h1, hf⟩ := bsome hf
        refine ww_callSi0 (pc := 105) (As := [.int s0, .int s1, .int s2, .int n4, .int n6]) (rest := []) C (tX8_withinOf l D k s0 s1 s2 n4 n6 v1 h1) cs_X8_290 ⟨⟨by decide, by decide⟩, rfl, rfl⟩ [] rfl rfl rfl rfl (Nat.le_of_ble_eq_true rfl) ⟨Nat.zero_le _, Nat.zero_le _⟩ dX8_within_105 (fun hb1 => ?_)
        refine ww_istore (pc := 108) (lv' := [(7, .int v1), (0, .ref q_this), (1, .int n1), (2, .int n2), (3, .int n3), (4, .int n4), (5, .int n5), (6, .int n6)]) C dX8_within_108 (by decide) rfl ?_
        refine ww_aload_n (pc := 110) C dX8_within_110 rfl 1 rfl ?_
        refine ww_iload (pc := 111) C dX8_within_111 0 rfl ?_
        refine ww_i2l (pc := 113) C dX8_within_113  ?_
        obtain ⟨v2, v3, h2, hf⟩ := bd2_some hf
        refine ww_callVv (pc := 114) (ws' := [oX8 q_this q_now q_text c_typed q_row v2 c_thrown c_length c_at c_wrong q_read q_outerCell q_outerDoor c_outerMany q_walked c_walkedMany c_cameOut q_onWalks q_far q_aside q_wasFull q_undos q_was c_undoMany c_drawn q_kept q_isKept, aI k q_aside 189 c_aside, aI k q_now 189 c_now, aJ k q_row 64 v3]) (As := [.long ((v1).toInt64)]) (rest := []) C (tX8_tell l D k q_this q_now q_text q_row q_read q_outerCell q_outerDoor q_walked q_onWalks q_far q_aside q_wasFull q_undos q_was q_kept q_isKept c_typed c_rowMany c_thrown c_length c_at c_wrong c_outerMany c_walkedMany c_cameOut c_undoMany c_drawn c_row ((v1).toInt64) v2 v3 h2) cv_X8_182 ⟨⟨by decide, by decide⟩, rfl, rfl⟩ 0 rfl rfl [0, 3] rfl rfl rfl rfl rfl rfl (Nat.le_of_ble_eq_true rfl) ⟨Nat.zero_le _, Nat.zero_le _⟩ dX8_within_114 ?_
        refine ww_iload (pc := 117) C dX8_within_117 6 rfl ?_
        refine ww_aload_n (pc := 119) C dX8_within_119 rfl 1 rfl ?_
        refine ww_iload (pc := 120) C dX8_within_120 0 rfl ?_
        obtain ⟨v4, h4, hf⟩ := bsome hf
        refine ww_callVi0 (pc := 122) (As := [.int v1]) (rest := [.int n5]) C (tX8_isFull l D k q_this q_now q_text q_row q_read q_outerCell q_outerDoor q_walked q_onWalks q_far q_aside q_wasFull q_undos q_was q_kept q_isKept c_typed v2 c_thrown c_length c_at c_wrong c_outerMany c_walkedMany c_cameOut c_undoMany c_drawn c_now v1 v4 h4) cv_X8_206 ⟨⟨by decide, by decide⟩, rfl, rfl⟩ 0 rfl rfl [0, 2] rfl rfl rfl rfl (Nat.le_of_ble_eq_true rfl) ⟨Nat.zero_le _, Nat.zero_le _⟩ dX8_within_122 (fun hb4 => ?_)
        refine ww_if_eq (pc := 125) (tgt := 132) C dX8_within_125 (by decide) (fun hc => ?_) (fun hc => ?_)
        · have hf := ifT hc hf
          refine ww_iconst (pc := 132) C dX8_within_132 kI_0 ?_
          exact ww_lv [1, 2, 3, 4, 5, 7] rfl (hJ133 v2 c_thrown c_aside c_now v3 n1 n2 n3 n4 n6 n5 (0 : Int32) hf)
        · have hf := ifF hc hf
          refine ww_iconst (pc := 128) C dX8_within_128 kI_1 ?_
          refine ww_goto (pc := 129) (tgt := 133) C dX8_within_129 (by decide) ?_
          exact ww_lv [1, 2, 3, 4, 5, 7] rfl (hJ133 v2 c_thrown c_aside c_now v3 n1 n2 n3 n4 n6 n5 (1 : Int32) hf)
      intro c_rowMany c_thrown c_aside c_now c_row n1 n2 n3 n4 n5 n6 hf
      have hf : fX8_within_b82 rc82 c_rowMany c_thrown c_aside c_now c_row n1 n2 n3 n4 n5 n6 = some (r_, w_rowMany, w_thrown, w_aside, w_now, w_row) := by rw [hrc82]; exact hf
      unfold fX8_within_b82 at hf
      refine ww_iload (pc := 82) C dX8_within_82 6 rfl ?_
      refine ww_iconst (pc := 84) C dX8_within_84 kI_4 ?_
      refine ww_icmp_ge (pc := 85) (tgt := 142) C dX8_within_85 (by decide) (fun hc => ?_) (fun hc => ?_)
      · have hf := ifT hc hf
        refine ww_aload_n (pc := 142) C dX8_within_142 rfl 0 rfl ?_
        obtain ⟨v1, h1, hf⟩ := bsome hf
        refine ww_callVv (pc := 143) (ws' := [oX8 q_this q_now q_text c_typed q_row c_rowMany c_thrown c_length c_at c_wrong q_read q_outerCell q_outerDoor c_outerMany q_walked c_walkedMany c_cameOut q_onWalks q_far q_aside q_wasFull q_undos q_was c_undoMany c_drawn q_kept q_isKept, aI k q_aside 189 c_aside, aI k q_now 189 v1, aJ k q_row 64 c_row]) (As := []) (rest := []) C (tX8_comesBack l D k q_this q_now q_text q_row q_read q_outerCell q_outerDoor q_walked q_onWalks q_far q_aside q_wasFull q_undos q_was q_kept q_isKept c_typed c_rowMany c_thrown c_length c_at c_wrong c_outerMany c_walkedMany c_cameOut c_undoMany c_drawn c_aside c_now v1 h1) cv_X8_287 ⟨⟨by decide, by decide⟩, rfl, rfl⟩ 0 rfl rfl [0, 1, 2] rfl rfl rfl rfl rfl rfl (Nat.le_of_ble_eq_true rfl) ⟨Nat.zero_le _, Nat.zero_le _⟩ dX8_within_143 ?_
        refine ww_iload (pc := 146) C dX8_within_146 5 rfl ?_
        obtain ⟨e0, e1, e2, e3, e4, e5⟩ := ij6 hf
        exact hret _ _ 148 _ dX8_within_148 rfl e0 (by rw [← e1, ← e2, ← e3, ← e4, ← e5])
      · have hf := ifF hc hf
        refine ww_iload_n (pc := 88) C dX8_within_88 rfl 2 rfl ?_
        refine ww_iload_n (pc := 89) C dX8_within_89 rfl 3 rfl ?_
        refine ww_iload_n (pc := 90) C dX8_within_90 rfl 1 rfl ?_
        refine ww_iconst (pc := 91) C dX8_within_91 kI_2 ?_
        refine ww_iremC (pc := 92) C dX8_within_92 (by decide) ?_
        refine ww_if_ne (pc := 93) (tgt := 100) C dX8_within_93 (by decide) (fun hc => ?_) (fun hc => ?_)
        · have hf := ifF hc hf
          refine ww_iconst (pc := 100) C dX8_within_100 kI_0 ?_
          exact hJ101 c_rowMany c_thrown c_aside c_now c_row n1 n2 n3 n4 n5 n6 n2 n3 (0 : Int32) hf
        · have hf := ifT hc hf
          refine ww_iconst (pc := 96) C dX8_within_96 kI_1 ?_
          refine ww_goto (pc := 97) (tgt := 101) C dX8_within_97 (by decide) ?_
          exact hJ101 c_rowMany c_thrown c_aside c_now c_row n1 n2 n3 n4 n5 n6 n2 n3 (1 : Int32) hf
  unfold fX8_within at hf
  refine ww_aload_n (pc := 0) C dX8_within_0 rfl 0 rfl ?_
  refine ww_iconst (pc := 1) C dX8_within_1 kI_0 ?_
  refine pf8_5 (pc := 2) (ws' := [oX8 q_this q_now q_text c_typed q_row c_rowMany (0 : Int32) c_length c_at c_wrong q_read q_outerCell q_outerDoor c_outerMany q_walked c_walkedMany c_cameOut q_onWalks q_far q_aside q_wasFull q_undos q_was c_undoMany c_drawn q_kept q_isKept, aI k q_aside 189 c_aside, aI k q_now 189 c_now, aJ k q_row 64 c_row]) C kf_X8_61 0 rfl (Nat.le_of_ble_eq_true rfl) rfl dX8_within_2 ?_
  refine ww_aload_n (pc := 5) C dX8_within_5 rfl 0 rfl ?_
  refine ww_iload_n (pc := 6) C dX8_within_6 rfl 1 rfl ?_
  obtain ⟨v1, h1, hf⟩ := bsome hf
  refine ww_callVi0 (pc := 7) (As := [.int x1]) (rest := []) C (tX8_isCell l D k q_this q_now q_text q_row q_read q_outerCell q_outerDoor q_walked q_onWalks q_far q_aside q_wasFull q_undos q_was q_kept q_isKept c_typed c_rowMany (0 : Int32) c_length c_at c_wrong c_outerMany c_walkedMany c_cameOut c_undoMany c_drawn c_now x1 v1 h1) cv_X8_213 ⟨⟨by decide, by decide⟩, rfl, rfl⟩ 0 rfl rfl [0, 2] rfl rfl rfl rfl (Nat.le_of_ble_eq_true rfl) ⟨Nat.zero_le _, Nat.zero_le _⟩ dX8_within_7 (fun hb1 => ?_)
  refine ww_if_ne (pc := 10) (tgt := 15) C dX8_within_10 (by decide) (fun hc => ?_) (fun hc => ?_)
  · have hf := ifF hc hf
    refine ww_aload_n (pc := 15) C dX8_within_15 rfl 0 rfl ?_
    refine gf8_0 (pc := 16) C kf_X8_9 0 rfl rfl dX8_within_16 ?_
    refine ww_iconst (pc := 19) C dX8_within_19 kI_1 ?_
    obtain ⟨v2, h2, hf⟩ := bsome hf
    refine ww_iald (pc := 20) C 2 rfl h2 dX8_within_20 ?_
    refine ww_if_ne (pc := 21) (tgt := 27) C dX8_within_21 (by decide) (fun hc => ?_) (fun hc => ?_)
    · have hf := ifF hc hf
      refine ww_iconst (pc := 27) C dX8_within_27 kI_2 ?_
      refine ww_aload_n (pc := 28) C dX8_within_28 rfl 0 rfl ?_
      obtain ⟨v3, h3, hf⟩ := bsome hf
      refine ww_callVi0 (pc := 29) (As := []) (rest := [.int (2 : Int32)]) C (tX8_n l D k q_this q_now q_text q_row q_read q_outerCell q_outerDoor q_walked q_onWalks q_far q_aside q_wasFull q_undos q_was q_kept q_isKept c_typed c_rowMany (0 : Int32) c_length c_at c_wrong c_outerMany c_walkedMany c_cameOut c_undoMany c_drawn c_now v3 h3) cv_X8_68 ⟨⟨by decide, by decide⟩, rfl, rfl⟩ 0 rfl rfl [0, 2] rfl rfl rfl rfl (Nat.le_of_ble_eq_true rfl) ⟨Nat.zero_le _, Nat.zero_le _⟩ dX8_within_29 (fun hb3 => ?_)
      refine ww_imul (pc := 32) C dX8_within_32  ?_
      refine ww_bipush (pc := 33) C dX8_within_33 kB_16 ?_
      refine ww_icmp_le (pc := 35) (tgt := 41) C dX8_within_35 (by decide) (fun hc => ?_) (fun hc => ?_)
      · have hf := ifT hc hf
        refine ww_aload_n (pc := 41) C dX8_within_41 rfl 0 rfl ?_
        refine ww_iload_n (pc := 42) C dX8_within_42 rfl 1 rfl ?_
        obtain ⟨v4, h4, hf⟩ := bsome hf
        refine ww_callVi0 (pc := 43) (As := [.int x1]) (rest := []) C (tX8_cellI l D k q_this q_now q_text q_row q_read q_outerCell q_outerDoor q_walked q_onWalks q_far q_aside q_wasFull q_undos q_was q_kept q_isKept c_typed c_rowMany (0 : Int32) c_length c_at c_wrong c_outerMany c_walkedMany c_cameOut c_undoMany c_drawn c_now x1 v4 h4) cv_X8_191 ⟨⟨by decide, by decide⟩, rfl, rfl⟩ 0 rfl rfl [0, 2] rfl rfl rfl rfl (Nat.le_of_ble_eq_true rfl) ⟨Nat.zero_le _, Nat.zero_le _⟩ dX8_within_43 (fun hb4 => ?_)
        refine ww_istore_n (pc := 46) (lv' := [(2, .int v4), (0, .ref q_this), (1, .int x1)]) C dX8_within_46 rfl (by decide) rfl ?_
        refine ww_aload_n (pc := 47) C dX8_within_47 rfl 1 rfl ?_
        refine ww_iload_n (pc := 48) C dX8_within_48 rfl 2 rfl ?_
        obtain ⟨v5, h5, hf⟩ := bsome hf
        refine ww_callVi0 (pc := 49) (As := [.int x1]) (rest := []) C (tX8_cellJ l D k q_this q_now q_text q_row q_read q_outerCell q_outerDoor q_walked q_onWalks q_far q_aside q_wasFull q_undos q_was q_kept q_isKept c_typed c_rowMany (0 : Int32) c_length c_at c_wrong c_outerMany c_walkedMany c_cameOut c_undoMany c_drawn c_now x1 v5 h5) cv_X8_194 ⟨⟨by decide, by decide⟩, rfl, rfl⟩ 0 rfl rfl [0, 2] rfl rfl rfl rfl (Nat.le_of_ble_eq_true rfl) ⟨Nat.zero_le _, Nat.zero_le _⟩ dX8_within_49 (fun hb5 => ?_)
        refine ww_istore_n (pc := 52) (lv' := [(3, .int v5), (2, .int v4), (0, .ref q_this), (1, .int x1)]) C dX8_within_52 rfl (by decide) rfl ?_
        refine ww_aload_n (pc := 53) C dX8_within_53 rfl 2 rfl ?_
        obtain ⟨v6, h6, hf⟩ := bsome hf
        refine ww_callVi0 (pc := 54) (As := []) (rest := []) C (tX8_n l D k q_this q_now q_text q_row q_read q_outerCell q_outerDoor q_walked q_onWalks q_far q_aside q_wasFull q_undos q_was q_kept q_isKept c_typed c_rowMany (0 : Int32) c_length c_at c_wrong c_outerMany c_walkedMany c_cameOut c_undoMany c_drawn c_now v6 h6) cv_X8_68 ⟨⟨by decide, by decide⟩, rfl, rfl⟩ 0 rfl rfl [0, 2] rfl rfl rfl rfl (Nat.le_of_ble_eq_true rfl) ⟨Nat.zero_le _, Nat.zero_le _⟩ dX8_within_54 (fun hb6 => ?_)
        refine ww_istore (pc := 57) (lv' := [(4, .int v6), (3, .int v5), (2, .int v4), (0, .ref q_this), (1, .int x1)]) C dX8_within_57 (by decide) rfl ?_
        refine ww_aload_n (pc := 59) C dX8_within_59 rfl 3 rfl ?_
        obtain ⟨v7, h7, hf⟩ := bsome hf
        refine ww_callVv (pc := 60) (ws' := [oX8 q_this q_now q_text c_typed q_row c_rowMany (0 : Int32) c_length c_at c_wrong q_read q_outerCell q_outerDoor c_outerMany q_walked c_walkedMany c_cameOut q_onWalks q_far q_aside q_wasFull q_undos q_was c_undoMany c_drawn q_kept q_isKept, aI k q_aside 189 v7, aI k q_now 189 c_now, aJ k q_row 64 c_row]) (As := []) (rest := []) C (tX8_layAside l D k q_this q_now q_text q_row q_read q_outerCell q_outerDoor q_walked q_onWalks q_far q_aside q_wasFull q_undos q_was q_kept q_isKept c_typed c_rowMany (0 : Int32) c_length c_at c_wrong c_outerMany c_walkedMany c_cameOut c_undoMany c_drawn c_aside c_now v7 h7) cv_X8_281 ⟨⟨by decide, by decide⟩, rfl, rfl⟩ 0 rfl rfl [0, 1, 2] rfl rfl rfl rfl rfl rfl (Nat.le_of_ble_eq_true rfl) ⟨Nat.zero_le _, Nat.zero_le _⟩ dX8_within_60 ?_
        refine ww_aload_n (pc := 63) C dX8_within_63 rfl 3 rfl ?_
        refine ww_iconst (pc := 64) C dX8_within_64 kI_2 ?_
        refine ww_iload (pc := 65) C dX8_within_65 0 rfl ?_
        refine ww_imul (pc := 67) C dX8_within_67  ?_
        obtain ⟨v8, h8, hf⟩ := bsome hf
        refine ww_callVv (pc := 68) (ws' := [oX8 q_this q_now q_text c_typed q_row c_rowMany (0 : Int32) c_length c_at c_wrong q_read q_outerCell q_outerDoor c_outerMany q_walked c_walkedMany c_cameOut q_onWalks q_far q_aside q_wasFull q_undos q_was c_undoMany c_drawn q_kept q_isKept, aI k q_aside 189 v7, aI k q_now 189 v8, aJ k q_row 64 c_row]) (As := [.int ((2 : Int32) * v6)]) (rest := []) C (tX8_goGrid l D k q_this q_now q_text q_row q_read q_outerCell q_outerDoor q_walked q_onWalks q_far q_aside q_wasFull q_undos q_was q_kept q_isKept c_typed c_rowMany (0 : Int32) c_length c_at c_wrong c_outerMany c_walkedMany c_cameOut c_undoMany c_drawn c_now ((2 : Int32) * v6) v8 h8) cv_X8_284 ⟨⟨by decide, by decide⟩, rfl, rfl⟩ 0 rfl rfl [0, 2] rfl rfl rfl rfl rfl rfl (Nat.le_of_ble_eq_true rfl) ⟨Nat.zero_le _, Nat.zero_le _⟩ dX8_within_68 ?_
        refine ww_iconst (pc := 71) C dX8_within_71 kI_0 ?_
        refine ww_istore (pc := 72) (lv' := [(5, .int (0 : Int32)), (4, .int v6), (3, .int v5), (2, .int v4), (0, .ref q_this), (1, .int x1)]) C dX8_within_72 (by decide) rfl ?_
        refine ww_aload_n (pc := 74) C dX8_within_74 rfl 4 rfl ?_
        refine ww_iconst (pc := 75) C dX8_within_75 kI_0 ?_
        refine pf8_4 (pc := 76) (ws' := [oX8 q_this q_now q_text c_typed q_row (0 : Int32) (0 : Int32) c_length c_at c_wrong q_read q_outerCell q_outerDoor c_outerMany q_walked c_walkedMany c_cameOut q_onWalks q_far q_aside q_wasFull q_undos q_was c_undoMany c_drawn q_kept q_isKept, aI k q_aside 189 v7, aI k q_now 189 v8, aJ k q_row 64 c_row]) C kf_X8_65 0 rfl (Nat.le_of_ble_eq_true rfl) rfl dX8_within_76 ?_
        refine ww_iconst (pc := 79) C dX8_within_79 kI_0 ?_
        refine ww_istore (pc := 80) (lv' := [(6, .int (0 : Int32)), (5, .int (0 : Int32)), (4, .int v6), (3, .int v5), (2, .int v4), (0, .ref q_this), (1, .int x1)]) C dX8_within_80 (by decide) rfl ?_
        exact ww_lv [5, 6, 4, 3, 2, 1, 0] rfl (hL82 FU (0 : Int32) (0 : Int32) v7 v8 c_row x1 v4 v5 v6 (0 : Int32) (0 : Int32) hf)
      · have hf := ifF hc hf
        refine ww_bipush (pc := 38) C dX8_within_38 kB_m4 ?_
        obtain ⟨e0, e1, e2, e3, e4, e5⟩ := ij6 hf
        exact hret _ _ 40 _ dX8_within_40 rfl e0 (by rw [← e1, ← e2, ← e3, ← e4, ← e5])
    · have hf := ifT hc hf
      refine ww_bipush (pc := 24) C dX8_within_24 kB_m3 ?_
      obtain ⟨e0, e1, e2, e3, e4, e5⟩ := ij6 hf
      exact hret _ _ 26 _ dX8_within_26 rfl e0 (by rw [← e1, ← e2, ← e3, ← e4, ← e5])
  · have hf := ifT hc hf
    refine ww_iconst (pc := 13) C dX8_within_13 kI_m1 ?_
    obtain ⟨e0, e1, e2, e3, e4, e5⟩ := ij6 hf
    exact hret _ _ 14 _ dX8_within_14 rfl e0 (by rw [← e1, ← e2, ← e3, ← e4, ← e5])
def fX8_touchesRim_b2 (c_now : Nat → Int32) (rc2 : Int32 → Int32 → Option Int32) (n1 : Int32) (n2 : Int32) : Option Int32 := if (3 : Int32) ≤ n2 then some ((0 : Int32)) else (fX8_corner c_now n1 n2).bind fun v1 => (fX8_iOf c_now v1).bind fun v2 => (fX8_corner c_now n1 n2).bind fun v3 => (fX8_jOf c_now v3).bind fun v4 => (fX8_isRim c_now v2 v4).bind fun v5 => if v5 = 0 then (some (n2 + (1 : Int32))).bind fun v6 => rc2 n1 v6 else some ((1 : Int32))
def fX8_touchesRim (c_now : Nat → Int32) (x1 : Int32) : Option Int32 := lfix (fX8_touchesRim_b2 c_now) (fun _ _ => none) FU x1 (0 : Int32)
set_option maxHeartbeats 4000000 in
set_option maxRecDepth 100000 in
theorem tX8_touchesRim (l : Launch) (D : va_G) (k : Nat → ClassId) (q_this q_now q_text q_row q_read q_outerCell q_outerDoor q_walked q_onWalks q_far q_aside q_wasFull q_undos q_was q_kept q_isKept : Nat) (c_typed : Int32) (c_rowMany : Int32) (c_thrown : Int32) (c_length : Int32) (c_at : Int32) (c_wrong : Int32) (c_outerMany : Int32) (c_walkedMany : Int32) (c_cameOut : Int32) (c_undoMany : Int32) (c_drawn : Int32) (c_now : Nat → Int32) (x1 : Int32) (r_ : Int32) (hf : fX8_touchesRim c_now x1 = some (r_)) : MI l yX8_touchesRim cX8_touchesRim 3 .boolean (RM 4 85) D k [.ref q_this, .int x1] [oX8 q_this q_now q_text c_typed q_row c_rowMany c_thrown c_length c_at c_wrong q_read q_outerCell q_outerDoor c_outerMany q_walked c_walkedMany c_cameOut q_onWalks q_far q_aside q_wasFull q_undos q_was c_undoMany c_drawn q_kept q_isKept, aI k q_now 189 c_now] r_ [oX8 q_this q_now q_text c_typed q_row c_rowMany c_thrown c_length c_at c_wrong q_read q_outerCell q_outerDoor c_outerMany q_walked c_walkedMany c_cameOut q_onWalks q_far q_aside q_wasFull q_undos q_was c_undoMany c_drawn q_kept q_isKept, aI k q_now 189 c_now] := by
  refine mkMI' (own := "DoorWalkModel") (by decide) rfl (Nat.le_of_ble_eq_true rfl) ?_
  intro p e s m args below meth c Q A hret C
  refine ww_lv (lv' := [(0, .ref q_this), (1, .int x1)]) [0, 1] rfl ?_
  have hL2 : ∀ (n : Nat) (n1 : Int32) (n2 : Int32), lfix (fX8_touchesRim_b2 c_now) (fun _ _ => none) n n1 n2 = some (r_) → WW p l e (RM 4 85) s m args below meth c Q 3 D A 0 0 [oX8 q_this q_now q_text c_typed q_row c_rowMany c_thrown c_length c_at c_wrong q_read q_outerCell q_outerDoor c_outerMany q_walked c_walkedMany c_cameOut q_onWalks q_far q_aside q_wasFull q_undos q_was c_undoMany c_drawn q_kept q_isKept, aI k q_now 189 c_now] [(0, .ref q_this), (1, .int n1), (2, .int n2)] 2 [] := by
    intro n
    induction n with
    | zero => intro n1 n2 hf; cases hf
    | succ n ih2 =>
      obtain ⟨rc2, hrc2⟩ : ∃ f9, f9 = lfix (fX8_touchesRim_b2 c_now) (fun _ _ => none) n := ⟨_, rfl⟩
      rw [← hrc2] at ih2
      intro n1 n2 hf
      have hf : fX8_touchesRim_b2 c_now rc2 n1 n2 = some (r_) := by rw [hrc2]; exact hf
      unfold fX8_touchesRim_b2 at hf
      refine ww_iload_n (pc := 2) C dX8_touchesRim_2 rfl 2 rfl ?_
      refine ww_iconst (pc := 3) C dX8_touchesRim_3 kI_3 ?_
      refine ww_icmp_ge (pc := 4) (tgt := 42) C dX8_touchesRim_4 (by decide) (fun hc => ?_) (fun hc => ?_)
      · have hf := ifT hc hf
        refine ww_iconst (pc := 42) C dX8_touchesRim_42 kI_0 ?_
        obtain e0 := ij1 hf
        exact hret _ _ 43 _ dX8_touchesRim_43 (by decide) e0 rfl
      · have hf := ifF hc hf
        refine ww_aload_n (pc := 7) C dX8_touchesRim_7 rfl 0 rfl ?_
        refine ww_aload_n (pc := 8) C dX8_touchesRim_8 rfl 0 rfl ?_
        refine ww_aload_n (pc := 9) C dX8_touchesRim_9 rfl 0 rfl ?_
        refine ww_iload_n (pc := 10) C dX8_touchesRim_10 rfl 1 rfl ?_
        refine ww_iload_n (pc := 11) C dX8_touchesRim_11 rfl 2 rfl ?_
        obtain ⟨v1, h1, hf⟩ := bsome hf
        refine ww_callVi0 (pc := 12) (As := [.int n1, .int n2]) (rest := [.ref q_this, .ref q_this]) C (tX8_corner l D k q_this q_now q_text q_row q_read q_outerCell q_outerDoor q_walked q_onWalks q_far q_aside q_wasFull q_undos q_was q_kept q_isKept c_typed c_rowMany c_thrown c_length c_at c_wrong c_outerMany c_walkedMany c_cameOut c_undoMany c_drawn c_now n1 n2 v1 h1) cv_X8_197 ⟨⟨by decide, by decide⟩, rfl, rfl⟩ 0 rfl rfl [0, 1] rfl rfl rfl rfl (Nat.le_of_ble_eq_true rfl) ⟨Nat.zero_le _, Nat.zero_le _⟩ dX8_touchesRim_12 (fun hb1 => ?_)
        obtain ⟨v2, h2, hf⟩ := bsome hf
        refine ww_callVi0 (pc := 15) (As := [.int v1]) (rest := [.ref q_this]) C (tX8_iOf l D k q_this q_now q_text q_row q_read q_outerCell q_outerDoor q_walked q_onWalks q_far q_aside q_wasFull q_undos q_was q_kept q_isKept c_typed c_rowMany c_thrown c_length c_at c_wrong c_outerMany c_walkedMany c_cameOut c_undoMany c_drawn c_now v1 v2 h2) cv_X8_84 ⟨⟨by decide, by decide⟩, rfl, rfl⟩ 0 rfl rfl [0, 1] rfl rfl rfl rfl (Nat.le_of_ble_eq_true rfl) ⟨Nat.zero_le _, Nat.zero_le _⟩ dX8_touchesRim_15 (fun hb2 => ?_)
        refine ww_aload_n (pc := 18) C dX8_touchesRim_18 rfl 0 rfl ?_
        refine ww_aload_n (pc := 19) C dX8_touchesRim_19 rfl 0 rfl ?_
        refine ww_iload_n (pc := 20) C dX8_touchesRim_20 rfl 1 rfl ?_
        refine ww_iload_n (pc := 21) C dX8_touchesRim_21 rfl 2 rfl ?_
        obtain ⟨v3, h3, hf⟩ := bsome hf
        refine ww_callVi0 (pc := 22) (As := [.int n1, .int n2]) (rest := [.ref q_this, .int v2, .ref q_this]) C (tX8_corner l D k q_this q_now q_text q_row q_read q_outerCell q_outerDoor q_walked q_onWalks q_far q_aside q_wasFull q_undos q_was q_kept q_isKept c_typed c_rowMany c_thrown c_length c_at c_wrong c_outerMany c_walkedMany c_cameOut c_undoMany c_drawn c_now n1 n2 v3 h3) cv_X8_197 ⟨⟨by decide, by decide⟩, rfl, rfl⟩ 0 rfl rfl [0, 1] rfl rfl rfl rfl (Nat.le_of_ble_eq_true rfl) ⟨Nat.zero_le _, Nat.zero_le _⟩ dX8_touchesRim_22 (fun hb3 => ?_)
        obtain ⟨v4, h4, hf⟩ := bsome hf
        refine ww_callVi0 (pc := 25) (As := [.int v3]) (rest := [.int v2, .ref q_this]) C (tX8_jOf l D k q_this q_now q_text q_row q_read q_outerCell q_outerDoor q_walked q_onWalks q_far q_aside q_wasFull q_undos q_was q_kept q_isKept c_typed c_rowMany c_thrown c_length c_at c_wrong c_outerMany c_walkedMany c_cameOut c_undoMany c_drawn c_now v3 v4 h4) cv_X8_179 ⟨⟨by decide, by decide⟩, rfl, rfl⟩ 0 rfl rfl [0, 1] rfl rfl rfl rfl (Nat.le_of_ble_eq_true rfl) ⟨Nat.zero_le _, Nat.zero_le _⟩ dX8_touchesRim_25 (fun hb4 => ?_)
        obtain ⟨v5, h5, hf⟩ := bsome hf
        refine ww_callVi0 (pc := 28) (As := [.int v2, .int v4]) (rest := []) C (tX8_isRim l D k q_this q_now q_text q_row q_read q_outerCell q_outerDoor q_walked q_onWalks q_far q_aside q_wasFull q_undos q_was q_kept q_isKept c_typed c_rowMany c_thrown c_length c_at c_wrong c_outerMany c_walkedMany c_cameOut c_undoMany c_drawn c_now v2 v4 v5 h5) cv_X8_235 ⟨⟨by decide, by decide⟩, rfl, rfl⟩ 0 rfl rfl [0, 1] rfl rfl rfl rfl (Nat.le_of_ble_eq_true rfl) ⟨Nat.zero_le _, Nat.zero_le _⟩ dX8_touchesRim_28 (fun hb5 => ?_)
        refine ww_if_eq (pc := 31) (tgt := 36) C dX8_touchesRim_31 (by decide) (fun hc => ?_) (fun hc => ?_)
        · have hf := ifT hc hf
          obtain ⟨v6, h6, hf⟩ := bsome hf
          refine ww_iincN (pc := 36) (lv' := [(2, .int v6), (0, .ref q_this), (1, .int n1)]) (j := 2) C dX8_touchesRim_36 kI_1 rfl h6 (by decide) rfl ?_
          refine ww_goto (pc := 39) (tgt := 2) C dX8_touchesRim_39 (by decide) ?_
          exact ww_lv [1, 2, 0] rfl (ih2 n1 v6 hf)
        · have hf := ifF hc hf
          refine ww_iconst (pc := 34) C dX8_touchesRim_34 kI_1 ?_
          obtain e0 := ij1 hf
          exact hret _ _ 35 _ dX8_touchesRim_35 (by decide) e0 rfl
  unfold fX8_touchesRim at hf
  refine ww_iconst (pc := 0) C dX8_touchesRim_0 kI_0 ?_
  refine ww_istore_n (pc := 1) (lv' := [(2, .int (0 : Int32)), (0, .ref q_this), (1, .int x1)]) C dX8_touchesRim_1 rfl (by decide) rfl ?_
  exact ww_lv [1, 2, 0] rfl (hL2 FU x1 (0 : Int32) hf)
def fX8_inner_b73 (c_rowMany : Int32) (c_thrown : Int32) (c_aside : Nat → Int32) (c_now : Nat → Int32) (c_row : Nat → Int64) (n2 : Int32) (n3 : Int32) : Option (Int32 × Int32 × Int32 × (Nat → Int32) × (Nat → Int32) × (Nat → Int64)) := (fX8_comesBack c_aside c_now).bind fun v1 => if n2 = (-1 : Int32) then some ((-2 : Int32), c_rowMany, c_thrown, c_aside, v1, c_row) else bd2 (fX8_tell (0 : Int32) c_row ((n3).toInt64)) fun v2 v3 => some (n2, v2, c_thrown, c_aside, v1, v3)
def fX8_inner_b30 (rc30 : Int32 → Int32 → (Nat → Int32) → (Nat → Int32) → (Nat → Int64) → Int32 → Int32 → Int32 → Option (Int32 × Int32 × Int32 × (Nat → Int32) × (Nat → Int32) × (Nat → Int64))) (c_rowMany : Int32) (c_thrown : Int32) (c_aside : Nat → Int32) (c_now : Nat → Int32) (c_row : Nat → Int64) (n1 : Int32) (n2 : Int32) (n3 : Int32) : Option (Int32 × Int32 × Int32 × (Nat → Int32) × (Nat → Int32) × (Nat → Int64)) := if (16 : Int32) < n1 then fX8_inner_b73 c_rowMany c_thrown c_aside c_now c_row n2 n3 else if n2 = (-1 : Int32) then (fX8_goGrid c_now n1).bind fun v1 => (fX8_nthFull v1 (0 : Int32)).bind fun v2 => if v2 = (-1 : Int32) then (some (n1 + (1 : Int32))).bind fun v3 => rc30 c_rowMany c_thrown c_aside v1 c_row v3 n2 v2 else (fX8_touchesRim v1 v2).bind fun v4 => if v4 = 0 then (some (n1 + (1 : Int32))).bind fun v6 => rc30 c_rowMany c_thrown c_aside v1 c_row v6 n1 v2 else (some (n1 + (1 : Int32))).bind fun v5 => rc30 c_rowMany c_thrown c_aside v1 c_row v5 n2 v2 else fX8_inner_b73 c_rowMany c_thrown c_aside c_now c_row n2 n3
def fX8_inner (c_rowMany : Int32) (c_thrown : Int32) (c_aside : Nat → Int32) (c_now : Nat → Int32) (c_row : Nat → Int64) : Option (Int32 × Int32 × Int32 × (Nat → Int32) × (Nat → Int32) × (Nat → Int64)) := (ald 189 (1 : Int32) c_now).bind fun v1 => if v1 = 0 then some ((-3 : Int32), c_rowMany, (0 : Int32), c_aside, c_now, c_row) else (fX8_layAside c_now c_aside).bind fun v2 => (fX8_n c_now).bind fun v3 => lfix (fX8_inner_b30) (fun _ _ _ _ _ _ _ _ => none) FU c_rowMany (0 : Int32) v2 c_now c_row v3 (-1 : Int32) (-1 : Int32)
set_option maxHeartbeats 4000000 in
set_option maxRecDepth 100000 in
theorem tX8_inner (l : Launch) (D : va_G) (k : Nat → ClassId) (q_this q_now q_text q_row q_read q_outerCell q_outerDoor q_walked q_onWalks q_far q_aside q_wasFull q_undos q_was q_kept q_isKept : Nat) (c_typed : Int32) (c_rowMany : Int32) (c_thrown : Int32) (c_length : Int32) (c_at : Int32) (c_wrong : Int32) (c_outerMany : Int32) (c_walkedMany : Int32) (c_cameOut : Int32) (c_undoMany : Int32) (c_drawn : Int32) (c_aside : Nat → Int32) (c_now : Nat → Int32) (c_row : Nat → Int64)  (r_ : Int32) (w_rowMany : Int32) (w_thrown : Int32) (w_aside : Nat → Int32) (w_now : Nat → Int32) (w_row : Nat → Int64) (hf : fX8_inner c_rowMany c_thrown c_aside c_now c_row = some (r_, w_rowMany, w_thrown, w_aside, w_now, w_row)) : MI l yX8_inner cX8_inner 4 .int (RM 7 163) D k [.ref q_this] [oX8 q_this q_now q_text c_typed q_row c_rowMany c_thrown c_length c_at c_wrong q_read q_outerCell q_outerDoor c_outerMany q_walked c_walkedMany c_cameOut q_onWalks q_far q_aside q_wasFull q_undos q_was c_undoMany c_drawn q_kept q_isKept, aI k q_aside 189 c_aside, aI k q_now 189 c_now, aJ k q_row 64 c_row] r_ [oX8 q_this q_now q_text c_typed q_row w_rowMany w_thrown c_length c_at c_wrong q_read q_outerCell q_outerDoor c_outerMany q_walked c_walkedMany c_cameOut q_onWalks q_far q_aside q_wasFull q_undos q_was c_undoMany c_drawn q_kept q_isKept, aI k q_aside 189 w_aside, aI k q_now 189 w_now, aJ k q_row 64 w_row] := by
  refine mkMI' (own := "DoorWalkModel") (by decide) rfl (Nat.le_of_ble_eq_true rfl) ?_
  intro p e s m args below meth c Q A hret C
  refine ww_lv (lv' := [(0, .ref q_this)]) [0] rfl ?_
  have hJ73 : ∀ (c_rowMany : Int32) (c_thrown : Int32) (c_aside : Nat → Int32) (c_now : Nat → Int32) (c_row : Nat → Int64) (n2 : Int32) (n3 : Int32), fX8_inner_b73 c_rowMany c_thrown c_aside c_now c_row n2 n3 = some (r_, w_rowMany, w_thrown, w_aside, w_now, w_row) → WW p l e (RM 7 163) s m args below meth c Q 4 D A 0 0 [oX8 q_this q_now q_text c_typed q_row c_rowMany c_thrown c_length c_at c_wrong q_read q_outerCell q_outerDoor c_outerMany q_walked c_walkedMany c_cameOut q_onWalks q_far q_aside q_wasFull q_undos q_was c_undoMany c_drawn q_kept q_isKept, aI k q_aside 189 c_aside, aI k q_now 189 c_now, aJ k q_row 64 c_row] [(0, .ref q_this), (2, .int n2), (3, .int n3)] 73 [] := by
    intro c_rowMany c_thrown c_aside c_now c_row n2 n3
    intro hf
    unfold fX8_inner_b73 at hf
    refine ww_aload_n (pc := 73) C dX8_inner_73 rfl 0 rfl ?_
    obtain ⟨v1, h1, hf⟩ := bsome hf
    refine ww_callVv (pc := 74) (ws' := [oX8 q_this q_now q_text c_typed q_row c_rowMany c_thrown c_length c_at c_wrong q_read q_outerCell q_outerDoor c_outerMany q_walked c_walkedMany c_cameOut q_onWalks q_far q_aside q_wasFull q_undos q_was c_undoMany c_drawn q_kept q_isKept, aI k q_aside 189 c_aside, aI k q_now 189 v1, aJ k q_row 64 c_row]) (As := []) (rest := []) C (tX8_comesBack l D k q_this q_now q_text q_row q_read q_outerCell q_outerDoor q_walked q_onWalks q_far q_aside q_wasFull q_undos q_was q_kept q_isKept c_typed c_rowMany c_thrown c_length c_at c_wrong c_outerMany c_walkedMany c_cameOut c_undoMany c_drawn c_aside c_now v1 h1) cv_X8_287 ⟨⟨by decide, by decide⟩, rfl, rfl⟩ 0 rfl rfl [0, 1, 2] rfl rfl rfl rfl rfl rfl (Nat.le_of_ble_eq_true rfl) ⟨Nat.zero_le _, Nat.zero_le _⟩ dX8_inner_74 ?_
    refine ww_iload_n (pc := 77) C dX8_inner_77 rfl 1 rfl ?_
    refine ww_iconst (pc := 78) C dX8_inner_78 kI_m1 ?_
    refine ww_icmp_ne (pc := 79) (tgt := 85) C dX8_inner_79 (by decide) (fun hc => ?_) (fun hc => ?_)
    · have hf := ifF hc hf
      refine ww_aload_n (pc := 85) C dX8_inner_85 rfl 0 rfl ?_
      refine ww_iconst (pc := 86) C dX8_inner_86 kI_0 ?_
      refine pf8_4 (pc := 87) (ws' := [oX8 q_this q_now q_text c_typed q_row (0 : Int32) c_thrown c_length c_at c_wrong q_read q_outerCell q_outerDoor c_outerMany q_walked c_walkedMany c_cameOut q_onWalks q_far q_aside q_wasFull q_undos q_was c_undoMany c_drawn q_kept q_isKept, aI k q_aside 189 c_aside, aI k q_now 189 v1, aJ k q_row 64 c_row]) C kf_X8_65 0 rfl (Nat.le_of_ble_eq_true rfl) rfl dX8_inner_87 ?_
      refine ww_aload_n (pc := 90) C dX8_inner_90 rfl 0 rfl ?_
      refine ww_iload_n (pc := 91) C dX8_inner_91 rfl 2 rfl ?_
      refine ww_i2l (pc := 92) C dX8_inner_92  ?_
      obtain ⟨v2, v3, h2, hf⟩ := bd2_some hf
      refine ww_callVv (pc := 93) (ws' := [oX8 q_this q_now q_text c_typed q_row v2 c_thrown c_length c_at c_wrong q_read q_outerCell q_outerDoor c_outerMany q_walked c_walkedMany c_cameOut q_onWalks q_far q_aside q_wasFull q_undos q_was c_undoMany c_drawn q_kept q_isKept, aI k q_aside 189 c_aside, aI k q_now 189 v1, aJ k q_row 64 v3]) (As := [.long ((n3).toInt64)]) (rest := []) C (tX8_tell l D k q_this q_now q_text q_row q_read q_outerCell q_outerDoor q_walked q_onWalks q_far q_aside q_wasFull q_undos q_was q_kept q_isKept c_typed (0 : Int32) c_thrown c_length c_at c_wrong c_outerMany c_walkedMany c_cameOut c_undoMany c_drawn c_row ((n3).toInt64) v2 v3 h2) cv_X8_182 ⟨⟨by decide, by decide⟩, rfl, rfl⟩ 0 rfl rfl [0, 3] rfl rfl rfl rfl rfl rfl (Nat.le_of_ble_eq_true rfl) ⟨Nat.zero_le _, Nat.zero_le _⟩ dX8_inner_93 ?_
      refine ww_iload_n (pc := 96) C dX8_inner_96 rfl 1 rfl ?_
      obtain ⟨e0, e1, e2, e3, e4, e5⟩ := ij6 hf
      exact hret _ _ 97 _ dX8_inner_97 rfl e0 (by rw [← e1, ← e2, ← e3, ← e4, ← e5])
    · have hf := ifT hc hf
      refine ww_bipush (pc := 82) C dX8_inner_82 kB_m2 ?_
      obtain ⟨e0, e1, e2, e3, e4, e5⟩ := ij6 hf
      exact hret _ _ 84 _ dX8_inner_84 rfl e0 (by rw [← e1, ← e2, ← e3, ← e4, ← e5])
  have hL30 : ∀ (n : Nat) (c_rowMany : Int32) (c_thrown : Int32) (c_aside : Nat → Int32) (c_now : Nat → Int32) (c_row : Nat → Int64) (n1 : Int32) (n2 : Int32) (n3 : Int32), lfix (fX8_inner_b30) (fun _ _ _ _ _ _ _ _ => none) n c_rowMany c_thrown c_aside c_now c_row n1 n2 n3 = some (r_, w_rowMany, w_thrown, w_aside, w_now, w_row) → WW p l e (RM 7 163) s m args below meth c Q 4 D A 0 0 [oX8 q_this q_now q_text c_typed q_row c_rowMany c_thrown c_length c_at c_wrong q_read q_outerCell q_outerDoor c_outerMany q_walked c_walkedMany c_cameOut q_onWalks q_far q_aside q_wasFull q_undos q_was c_undoMany c_drawn q_kept q_isKept, aI k q_aside 189 c_aside, aI k q_now 189 c_now, aJ k q_row 64 c_row] [(0, .ref q_this), (1, .int n1), (2, .int n2), (3, .int n3)] 30 [] := by
    intro n
    induction n with
    | zero => intro c_rowMany c_thrown c_aside c_now c_row n1 n2 n3 hf; cases hf
    | succ n ih30 =>
      obtain ⟨rc30, hrc30⟩ : ∃ f9, f9 = lfix (fX8_inner_b30) (fun _ _ _ _ _ _ _ _ => none) n := ⟨_, rfl⟩
      rw [← hrc30] at ih30
      intro c_rowMany c_thrown c_aside c_now c_row n1 n2 n3 hf
      have hf : fX8_inner_b30 rc30 c_rowMany c_thrown c_aside c_now c_row n1 n2 n3 = some (r_, w_rowMany, w_thrown, w_aside, w_now, w_row) := by rw [hrc30]; exact hf
      unfold fX8_inner_b30 at hf
      refine ww_iload_n (pc := 30) C dX8_inner_30 rfl 1 rfl ?_
      refine ww_bipush (pc := 31) C dX8_inner_31 kB_16 ?_
      refine ww_icmp_gt (pc := 33) (tgt := 73) C dX8_inner_33 (by decide) (fun hc => ?_) (fun hc => ?_)
      · have hf := ifT hc hf
        exact ww_lv [0, 2, 3] rfl (hJ73 c_rowMany c_thrown c_aside c_now c_row n2 n3 hf)
      · have hf := ifF hc hf
        refine ww_iload_n (pc := 36) C dX8_inner_36 rfl 2 rfl ?_
        refine ww_iconst (pc := 37) C dX8_inner_37 kI_m1 ?_
        refine ww_icmp_ne (pc := 38) (tgt := 73) C dX8_inner_38 (by decide) (fun hc => ?_) (fun hc => ?_)
        · have hf := ifF hc hf
          exact ww_lv [0, 2, 3] rfl (hJ73 c_rowMany c_thrown c_aside c_now c_row n2 n3 hf)
        · have hf := ifT hc hf
          refine ww_aload_n (pc := 41) C dX8_inner_41 rfl 0 rfl ?_
          refine ww_iload_n (pc := 42) C dX8_inner_42 rfl 1 rfl ?_
          obtain ⟨v1, h1, hf⟩ := bsome hf
          refine ww_callVv (pc := 43) (ws' := [oX8 q_this q_now q_text c_typed q_row c_rowMany c_thrown c_length c_at c_wrong q_read q_outerCell q_outerDoor c_outerMany q_walked c_walkedMany c_cameOut q_onWalks q_far q_aside q_wasFull q_undos q_was c_undoMany c_drawn q_kept q_isKept, aI k q_aside 189 c_aside, aI k q_now 189 v1, aJ k q_row 64 c_row]) (As := [.int n1]) (rest := []) C (tX8_goGrid l D k q_this q_now q_text q_row q_read q_outerCell q_outerDoor q_walked q_onWalks q_far q_aside q_wasFull q_undos q_was q_kept q_isKept c_typed c_rowMany c_thrown c_length c_at c_wrong c_outerMany c_walkedMany c_cameOut c_undoMany c_drawn c_now n1 v1 h1) cv_X8_284 ⟨⟨by decide, by decide⟩, rfl, rfl⟩ 0 rfl rfl [0, 2] rfl rfl rfl rfl rfl rfl (Nat.le_of_ble_eq_true rfl) ⟨Nat.zero_le _, Nat.zero_le _⟩ dX8_inner_43 ?_
          refine ww_aload_n (pc := 46) C dX8_inner_46 rfl 0 rfl ?_
          refine ww_iconst (pc := 47) C dX8_inner_47 kI_0 ?_
          obtain ⟨v2, h2, hf⟩ := bsome hf
          refine ww_callVi0 (pc := 48) (As := [.int (0 : Int32)]) (rest := []) C (tX8_nthFull l D k q_this q_now q_text q_row q_read q_outerCell q_outerDoor q_walked q_onWalks q_far q_aside q_wasFull q_undos q_was q_kept q_isKept c_typed c_rowMany c_thrown c_length c_at c_wrong c_outerMany c_walkedMany c_cameOut c_undoMany c_drawn v1 (0 : Int32) v2 h2) cv_X8_232 ⟨⟨by decide, by decide⟩, rfl, rfl⟩ 0 rfl rfl [0, 2] rfl rfl rfl rfl (Nat.le_of_ble_eq_true rfl) ⟨Nat.zero_le _, Nat.zero_le _⟩ dX8_inner_48 (fun hb2 => ?_)
          refine ww_istore_n (pc := 51) (lv' := [(3, .int v2), (0, .ref q_this), (1, .int n1), (2, .int n2)]) C dX8_inner_51 rfl (by decide) rfl ?_
          refine ww_iload_n (pc := 52) C dX8_inner_52 rfl 0 rfl ?_
          refine ww_iconst (pc := 53) C dX8_inner_53 kI_m1 ?_
          refine ww_icmp_eq (pc := 54) (tgt := 67) C dX8_inner_54 (by decide) (fun hc => ?_) (fun hc => ?_)
          · have hf := ifT hc hf
            obtain ⟨v3, h3, hf⟩ := bsome hf
            refine ww_iincN (pc := 67) (lv' := [(1, .int v3), (3, .int v2), (0, .ref q_this), (2, .int n2)]) (j := 2) C dX8_inner_67 kI_1 rfl h3 (by decide) rfl ?_
            refine ww_goto (pc := 70) (tgt := 30) C dX8_inner_70 (by decide) ?_
            exact ww_lv [2, 0, 3, 1] rfl (ih30 c_rowMany c_thrown c_aside v1 c_row v3 n2 v2 hf)
          · have hf := ifF hc hf
            refine ww_aload_n (pc := 57) C dX8_inner_57 rfl 1 rfl ?_
            refine ww_iload_n (pc := 58) C dX8_inner_58 rfl 0 rfl ?_
            obtain ⟨v4, h4, hf⟩ := bsome hf
            refine ww_callVi0 (pc := 59) (As := [.int v2]) (rest := []) C (tX8_touchesRim l D k q_this q_now q_text q_row q_read q_outerCell q_outerDoor q_walked q_onWalks q_far q_aside q_wasFull q_undos q_was q_kept q_isKept c_typed c_rowMany c_thrown c_length c_at c_wrong c_outerMany c_walkedMany c_cameOut c_undoMany c_drawn v1 v2 v4 h4) cv_X8_294 ⟨⟨by decide, by decide⟩, rfl, rfl⟩ 0 rfl rfl [0, 2] rfl rfl rfl rfl (Nat.le_of_ble_eq_true rfl) ⟨Nat.zero_le _, Nat.zero_le _⟩ dX8_inner_59 (fun hb4 => ?_)
            refine ww_if_ne (pc := 62) (tgt := 67) C dX8_inner_62 (by decide) (fun hc => ?_) (fun hc => ?_)
            · have hf := ifF hc hf
              obtain ⟨v5, h5, hf⟩ := bsome hf
              refine ww_iincN (pc := 67) (lv' := [(1, .int v5), (3, .int v2), (0, .ref q_this), (2, .int n2)]) (j := 2) C dX8_inner_67 kI_1 rfl h5 (by decide) rfl ?_
              refine ww_goto (pc := 70) (tgt := 30) C dX8_inner_70 (by decide) ?_
              exact ww_lv [2, 0, 3, 1] rfl (ih30 c_rowMany c_thrown c_aside v1 c_row v5 n2 v2 hf)
            · have hf := ifT hc hf
              refine ww_iload_n (pc := 65) C dX8_inner_65 rfl 2 rfl ?_
              refine ww_istore_n (pc := 66) (lv' := [(2, .int n1), (3, .int v2), (0, .ref q_this), (1, .int n1)]) C dX8_inner_66 rfl (by decide) rfl ?_
              obtain ⟨v6, h6, hf⟩ := bsome hf
              refine ww_iincN (pc := 67) (lv' := [(1, .int v6), (2, .int n1), (3, .int v2), (0, .ref q_this)]) (j := 3) C dX8_inner_67 kI_1 rfl h6 (by decide) rfl ?_
              refine ww_goto (pc := 70) (tgt := 30) C dX8_inner_70 (by decide) ?_
              exact ww_lv [3, 0, 1, 2] rfl (ih30 c_rowMany c_thrown c_aside v1 c_row v6 n1 v2 hf)
  unfold fX8_inner at hf
  refine ww_aload_n (pc := 0) C dX8_inner_0 rfl 0 rfl ?_
  refine ww_iconst (pc := 1) C dX8_inner_1 kI_0 ?_
  refine pf8_5 (pc := 2) (ws' := [oX8 q_this q_now q_text c_typed q_row c_rowMany (0 : Int32) c_length c_at c_wrong q_read q_outerCell q_outerDoor c_outerMany q_walked c_walkedMany c_cameOut q_onWalks q_far q_aside q_wasFull q_undos q_was c_undoMany c_drawn q_kept q_isKept, aI k q_aside 189 c_aside, aI k q_now 189 c_now, aJ k q_row 64 c_row]) C kf_X8_61 0 rfl (Nat.le_of_ble_eq_true rfl) rfl dX8_inner_2 ?_
  refine ww_aload_n (pc := 5) C dX8_inner_5 rfl 0 rfl ?_
  refine gf8_0 (pc := 6) C kf_X8_9 0 rfl rfl dX8_inner_6 ?_
  refine ww_iconst (pc := 9) C dX8_inner_9 kI_1 ?_
  obtain ⟨v1, h1, hf⟩ := bsome hf
  refine ww_iald (pc := 10) C 2 rfl h1 dX8_inner_10 ?_
  refine ww_if_ne (pc := 11) (tgt := 17) C dX8_inner_11 (by decide) (fun hc => ?_) (fun hc => ?_)
  · have hf := ifF hc hf
    refine ww_aload_n (pc := 17) C dX8_inner_17 rfl 0 rfl ?_
    obtain ⟨v2, h2, hf⟩ := bsome hf
    refine ww_callVv (pc := 18) (ws' := [oX8 q_this q_now q_text c_typed q_row c_rowMany (0 : Int32) c_length c_at c_wrong q_read q_outerCell q_outerDoor c_outerMany q_walked c_walkedMany c_cameOut q_onWalks q_far q_aside q_wasFull q_undos q_was c_undoMany c_drawn q_kept q_isKept, aI k q_aside 189 v2, aI k q_now 189 c_now, aJ k q_row 64 c_row]) (As := []) (rest := []) C (tX8_layAside l D k q_this q_now q_text q_row q_read q_outerCell q_outerDoor q_walked q_onWalks q_far q_aside q_wasFull q_undos q_was q_kept q_isKept c_typed c_rowMany (0 : Int32) c_length c_at c_wrong c_outerMany c_walkedMany c_cameOut c_undoMany c_drawn c_aside c_now v2 h2) cv_X8_281 ⟨⟨by decide, by decide⟩, rfl, rfl⟩ 0 rfl rfl [0, 1, 2] rfl rfl rfl rfl rfl rfl (Nat.le_of_ble_eq_true rfl) ⟨Nat.zero_le _, Nat.zero_le _⟩ dX8_inner_18 ?_
    refine ww_aload_n (pc := 21) C dX8_inner_21 rfl 0 rfl ?_
    obtain ⟨v3, h3, hf⟩ := bsome hf
    refine ww_callVi0 (pc := 22) (As := []) (rest := []) C (tX8_n l D k q_this q_now q_text q_row q_read q_outerCell q_outerDoor q_walked q_onWalks q_far q_aside q_wasFull q_undos q_was q_kept q_isKept c_typed c_rowMany (0 : Int32) c_length c_at c_wrong c_outerMany c_walkedMany c_cameOut c_undoMany c_drawn c_now v3 h3) cv_X8_68 ⟨⟨by decide, by decide⟩, rfl, rfl⟩ 0 rfl rfl [0, 2] rfl rfl rfl rfl (Nat.le_of_ble_eq_true rfl) ⟨Nat.zero_le _, Nat.zero_le _⟩ dX8_inner_22 (fun hb3 => ?_)
    refine ww_istore_n (pc := 25) (lv' := [(1, .int v3), (0, .ref q_this)]) C dX8_inner_25 rfl (by decide) rfl ?_
    refine ww_iconst (pc := 26) C dX8_inner_26 kI_m1 ?_
    refine ww_istore_n (pc := 27) (lv' := [(2, .int (-1 : Int32)), (1, .int v3), (0, .ref q_this)]) C dX8_inner_27 rfl (by decide) rfl ?_
    refine ww_iconst (pc := 28) C dX8_inner_28 kI_m1 ?_
    refine ww_istore_n (pc := 29) (lv' := [(3, .int (-1 : Int32)), (2, .int (-1 : Int32)), (1, .int v3), (0, .ref q_this)]) C dX8_inner_29 rfl (by decide) rfl ?_
    exact ww_lv [3, 2, 1, 0] rfl (hL30 FU c_rowMany (0 : Int32) v2 c_now c_row v3 (-1 : Int32) (-1 : Int32) hf)
  · have hf := ifT hc hf
    refine ww_bipush (pc := 14) C dX8_inner_14 kB_m3 ?_
    obtain ⟨e0, e1, e2, e3, e4, e5⟩ := ij6 hf
    exact hret _ _ 16 _ dX8_inner_16 rfl e0 (by rw [← e1, ← e2, ← e3, ← e4, ← e5])
def fX8_excess_b36 (c_now : Nat → Int32) (rc36 : Int32 → Int32 → (Nat → Int64) → Int32 → Int32 → Int32 → Option (Int32 × Int32 × Int32 × (Nat → Int64))) (c_rowMany : Int32) (c_thrown : Int32) (c_row : Nat → Int64) (n1 : Int32) (n2 : Int32) (n3 : Int32) : Option (Int32 × Int32 × Int32 × (Nat → Int64)) := if (3 : Int32) ≤ n3 then (fX8_off c_now n1 n2).bind fun v1 => bd2 (fX8_tell c_rowMany c_row ((v1).toInt64)) fun v2 v3 => some ((0 : Int32), v2, c_thrown, v3) else (fX8_excessOf c_now n1 n2 n3).bind fun v4 => bd2 (fX8_tell c_rowMany c_row ((v4).toInt64)) fun v5 v6 => (some (n3 + (1 : Int32))).bind fun v7 => rc36 v5 c_thrown v6 n1 n2 v7
def fX8_excess (c_now : Nat → Int32) (c_rowMany : Int32) (c_thrown : Int32) (c_row : Nat → Int64) (x1 : Int32) (x2 : Int32) : Option (Int32 × Int32 × Int32 × (Nat → Int64)) := (fX8_isPoint c_now x1 x2).bind fun v1 => if v1 = 0 then some ((-1 : Int32), c_rowMany, (0 : Int32), c_row) else (ald 189 (1 : Int32) c_now).bind fun v2 => if v2 = (1 : Int32) then lfix (fX8_excess_b36 c_now) (fun _ _ _ _ _ _ => none) FU (0 : Int32) (0 : Int32) c_row x1 x2 (0 : Int32) else some ((-3 : Int32), c_rowMany, (0 : Int32), c_row)
set_option maxHeartbeats 4000000 in
set_option maxRecDepth 100000 in
theorem tX8_excess (l : Launch) (D : va_G) (k : Nat → ClassId) (q_this q_now q_text q_row q_read q_outerCell q_outerDoor q_walked q_onWalks q_far q_aside q_wasFull q_undos q_was q_kept q_isKept : Nat) (c_typed : Int32) (c_rowMany : Int32) (c_thrown : Int32) (c_length : Int32) (c_at : Int32) (c_wrong : Int32) (c_outerMany : Int32) (c_walkedMany : Int32) (c_cameOut : Int32) (c_undoMany : Int32) (c_drawn : Int32) (c_now : Nat → Int32) (c_row : Nat → Int64) (x1 : Int32) (x2 : Int32) (r_ : Int32) (w_rowMany : Int32) (w_thrown : Int32) (w_row : Nat → Int64) (hf : fX8_excess c_now c_rowMany c_thrown c_row x1 x2 = some (r_, w_rowMany, w_thrown, w_row)) : MI l yX8_excess cX8_excess 4 .int (RM 5 119) D k [.ref q_this, .int x1, .int x2] [oX8 q_this q_now q_text c_typed q_row c_rowMany c_thrown c_length c_at c_wrong q_read q_outerCell q_outerDoor c_outerMany q_walked c_walkedMany c_cameOut q_onWalks q_far q_aside q_wasFull q_undos q_was c_undoMany c_drawn q_kept q_isKept, aI k q_now 189 c_now, aJ k q_row 64 c_row] r_ [oX8 q_this q_now q_text c_typed q_row w_rowMany w_thrown c_length c_at c_wrong q_read q_outerCell q_outerDoor c_outerMany q_walked c_walkedMany c_cameOut q_onWalks q_far q_aside q_wasFull q_undos q_was c_undoMany c_drawn q_kept q_isKept, aI k q_now 189 c_now, aJ k q_row 64 w_row] := by
  refine mkMI' (own := "DoorWalkModel") (by decide) rfl (Nat.le_of_ble_eq_true rfl) ?_
  intro p e s m args below meth c Q A hret C
  refine ww_lv (lv' := [(0, .ref q_this), (1, .int x1), (2, .int x2)]) [0, 1, 2] rfl ?_
  have hL36 : ∀ (n : Nat) (c_rowMany : Int32) (c_thrown : Int32) (c_row : Nat → Int64) (n1 : Int32) (n2 : Int32) (n3 : Int32), lfix (fX8_excess_b36 c_now) (fun _ _ _ _ _ _ => none) n c_rowMany c_thrown c_row n1 n2 n3 = some (r_, w_rowMany, w_thrown, w_row) → WW p l e (RM 5 119) s m args below meth c Q 4 D A 0 0 [oX8 q_this q_now q_text c_typed q_row c_rowMany c_thrown c_length c_at c_wrong q_read q_outerCell q_outerDoor c_outerMany q_walked c_walkedMany c_cameOut q_onWalks q_far q_aside q_wasFull q_undos q_was c_undoMany c_drawn q_kept q_isKept, aI k q_now 189 c_now, aJ k q_row 64 c_row] [(0, .ref q_this), (1, .int n1), (2, .int n2), (3, .int n3)] 36 [] := by
    intro n
    induction n with
    | zero => intro c_rowMany c_thrown c_row n1 n2 n3 hf; cases hf
    | succ n ih36 =>
      obtain ⟨rc36, hrc36⟩ : ∃ f9, f9 = lfix (fX8_excess_b36 c_now) (fun _ _ _ _ _ _ => none) n := ⟨_, rfl⟩
      rw [← hrc36] at ih36
      intro c_rowMany c_thrown c_row n1 n2 n3 hf
      have hf : fX8_excess_b36 c_now rc36 c_rowMany c_thrown c_row n1 n2 n3 = some (r_, w_rowMany, w_thrown, w_row) := by rw [hrc36]; exact hf
      unfold fX8_excess_b36 at hf
      refine ww_iload_n (pc := 36) C dX8_excess_36 rfl 3 rfl ?_
      refine ww_iconst (pc := 37) C dX8_excess_37 kI_3 ?_
      refine ww_icmp_ge (pc := 38) (tgt := 59) C dX8_excess_38 (by decide) (fun hc => ?_) (fun hc => ?_)
      · have hf := ifT hc hf
        refine ww_aload_n (pc := 59) C dX8_excess_59 rfl 0 rfl ?_
        refine ww_aload_n (pc := 60) C dX8_excess_60 rfl 0 rfl ?_
        refine ww_iload_n (pc := 61) C dX8_excess_61 rfl 1 rfl ?_
        refine ww_iload_n (pc := 62) C dX8_excess_62 rfl 2 rfl ?_
        obtain ⟨v1, h1, hf⟩ := bsome hf
        refine ww_callVi0 (pc := 63) (As := [.int n1, .int n2]) (rest := [.ref q_this]) C (tX8_off l D k q_this q_now q_text q_row q_read q_outerCell q_outerDoor q_walked q_onWalks q_far q_aside q_wasFull q_undos q_was q_kept q_isKept c_typed c_rowMany c_thrown c_length c_at c_wrong c_outerMany c_walkedMany c_cameOut c_undoMany c_drawn c_now n1 n2 v1 h1) cv_X8_297 ⟨⟨by decide, by decide⟩, rfl, rfl⟩ 0 rfl rfl [0, 1] rfl rfl rfl rfl (Nat.le_of_ble_eq_true rfl) ⟨Nat.zero_le _, Nat.zero_le _⟩ dX8_excess_63 (fun hb1 => ?_)
        refine ww_i2l (pc := 66) C dX8_excess_66  ?_
        obtain ⟨v2, v3, h2, hf⟩ := bd2_some hf
        refine ww_callVv (pc := 67) (ws' := [oX8 q_this q_now q_text c_typed q_row v2 c_thrown c_length c_at c_wrong q_read q_outerCell q_outerDoor c_outerMany q_walked c_walkedMany c_cameOut q_onWalks q_far q_aside q_wasFull q_undos q_was c_undoMany c_drawn q_kept q_isKept, aI k q_now 189 c_now, aJ k q_row 64 v3]) (As := [.long ((v1).toInt64)]) (rest := []) C (tX8_tell l D k q_this q_now q_text q_row q_read q_outerCell q_outerDoor q_walked q_onWalks q_far q_aside q_wasFull q_undos q_was q_kept q_isKept c_typed c_rowMany c_thrown c_length c_at c_wrong c_outerMany c_walkedMany c_cameOut c_undoMany c_drawn c_row ((v1).toInt64) v2 v3 h2) cv_X8_182 ⟨⟨by decide, by decide⟩, rfl, rfl⟩ 0 rfl rfl [0, 2] rfl rfl rfl rfl rfl rfl (Nat.le_of_ble_eq_true rfl) ⟨Nat.zero_le _, Nat.zero_le _⟩ dX8_excess_67 ?_
        refine ww_iconst (pc := 70) C dX8_excess_70 kI_0 ?_
        obtain ⟨e0, e1, e2, e3⟩ := ij4 hf
        exact hret _ _ 71 _ dX8_excess_71 rfl e0 (by rw [← e1, ← e2, ← e3])
      · have hf := ifF hc hf
        refine ww_aload_n (pc := 41) C dX8_excess_41 rfl 0 rfl ?_
        refine ww_aload_n (pc := 42) C dX8_excess_42 rfl 0 rfl ?_
        refine ww_iload_n (pc := 43) C dX8_excess_43 rfl 1 rfl ?_
        refine ww_iload_n (pc := 44) C dX8_excess_44 rfl 2 rfl ?_
        refine ww_iload_n (pc := 45) C dX8_excess_45 rfl 3 rfl ?_
        obtain ⟨v4, h4, hf⟩ := bsome hf
        refine ww_callVi0 (pc := 46) (As := [.int n1, .int n2, .int n3]) (rest := [.ref q_this]) C (tX8_excessOf l D k q_this q_now q_text q_row q_read q_outerCell q_outerDoor q_walked q_onWalks q_far q_aside q_wasFull q_undos q_was q_kept q_isKept c_typed c_rowMany c_thrown c_length c_at c_wrong c_outerMany c_walkedMany c_cameOut c_undoMany c_drawn c_now n1 n2 n3 v4 h4) cv_X8_100 ⟨⟨by decide, by decide⟩, rfl, rfl⟩ 0 rfl rfl [0, 1] rfl rfl rfl rfl (Nat.le_of_ble_eq_true rfl) ⟨Nat.zero_le _, Nat.zero_le _⟩ dX8_excess_46 (fun hb4 => ?_)
        refine ww_i2l (pc := 49) C dX8_excess_49  ?_
        obtain ⟨v5, v6, h5, hf⟩ := bd2_some hf
        refine ww_callVv (pc := 50) (ws' := [oX8 q_this q_now q_text c_typed q_row v5 c_thrown c_length c_at c_wrong q_read q_outerCell q_outerDoor c_outerMany q_walked c_walkedMany c_cameOut q_onWalks q_far q_aside q_wasFull q_undos q_was c_undoMany c_drawn q_kept q_isKept, aI k q_now 189 c_now, aJ k q_row 64 v6]) (As := [.long ((v4).toInt64)]) (rest := []) C (tX8_tell l D k q_this q_now q_text q_row q_read q_outerCell q_outerDoor q_walked q_onWalks q_far q_aside q_wasFull q_undos q_was q_kept q_isKept c_typed c_rowMany c_thrown c_length c_at c_wrong c_outerMany c_walkedMany c_cameOut c_undoMany c_drawn c_row ((v4).toInt64) v5 v6 h5) cv_X8_182 ⟨⟨by decide, by decide⟩, rfl, rfl⟩ 0 rfl rfl [0, 2] rfl rfl rfl rfl rfl rfl (Nat.le_of_ble_eq_true rfl) ⟨Nat.zero_le _, Nat.zero_le _⟩ dX8_excess_50 ?_
        obtain ⟨v7, h7, hf⟩ := bsome hf
        refine ww_iincN (pc := 53) (lv' := [(3, .int v7), (0, .ref q_this), (1, .int n1), (2, .int n2)]) (j := 3) C dX8_excess_53 kI_1 rfl h7 (by decide) rfl ?_
        refine ww_goto (pc := 56) (tgt := 36) C dX8_excess_56 (by decide) ?_
        exact ww_lv [1, 2, 3, 0] rfl (ih36 v5 c_thrown v6 n1 n2 v7 hf)
  unfold fX8_excess at hf
  refine ww_aload_n (pc := 0) C dX8_excess_0 rfl 0 rfl ?_
  refine ww_iconst (pc := 1) C dX8_excess_1 kI_0 ?_
  refine pf8_5 (pc := 2) (ws' := [oX8 q_this q_now q_text c_typed q_row c_rowMany (0 : Int32) c_length c_at c_wrong q_read q_outerCell q_outerDoor c_outerMany q_walked c_walkedMany c_cameOut q_onWalks q_far q_aside q_wasFull q_undos q_was c_undoMany c_drawn q_kept q_isKept, aI k q_now 189 c_now, aJ k q_row 64 c_row]) C kf_X8_61 0 rfl (Nat.le_of_ble_eq_true rfl) rfl dX8_excess_2 ?_
  refine ww_aload_n (pc := 5) C dX8_excess_5 rfl 0 rfl ?_
  refine ww_iload_n (pc := 6) C dX8_excess_6 rfl 1 rfl ?_
  refine ww_iload_n (pc := 7) C dX8_excess_7 rfl 2 rfl ?_
  obtain ⟨v1, h1, hf⟩ := bsome hf
  refine ww_callVi0 (pc := 8) (As := [.int x1, .int x2]) (rest := []) C (tX8_isPoint l D k q_this q_now q_text q_row q_read q_outerCell q_outerDoor q_walked q_onWalks q_far q_aside q_wasFull q_undos q_was q_kept q_isKept c_typed c_rowMany (0 : Int32) c_length c_at c_wrong c_outerMany c_walkedMany c_cameOut c_undoMany c_drawn c_now x1 x2 v1 h1) cv_X8_219 ⟨⟨by decide, by decide⟩, rfl, rfl⟩ 0 rfl rfl [0, 1] rfl rfl rfl rfl (Nat.le_of_ble_eq_true rfl) ⟨Nat.zero_le _, Nat.zero_le _⟩ dX8_excess_8 (fun hb1 => ?_)
  refine ww_if_ne (pc := 11) (tgt := 16) C dX8_excess_11 (by decide) (fun hc => ?_) (fun hc => ?_)
  · have hf := ifF hc hf
    refine ww_aload_n (pc := 16) C dX8_excess_16 rfl 0 rfl ?_
    refine gf8_0 (pc := 17) C kf_X8_9 0 rfl rfl dX8_excess_17 ?_
    refine ww_iconst (pc := 20) C dX8_excess_20 kI_1 ?_
    obtain ⟨v2, h2, hf⟩ := bsome hf
    refine ww_iald (pc := 21) C 1 rfl h2 dX8_excess_21 ?_
    refine ww_iconst (pc := 22) C dX8_excess_22 kI_1 ?_
    refine ww_icmp_eq (pc := 23) (tgt := 29) C dX8_excess_23 (by decide) (fun hc => ?_) (fun hc => ?_)
    · have hf := ifT hc hf
      refine ww_aload_n (pc := 29) C dX8_excess_29 rfl 0 rfl ?_
      refine ww_iconst (pc := 30) C dX8_excess_30 kI_0 ?_
      refine pf8_4 (pc := 31) (ws' := [oX8 q_this q_now q_text c_typed q_row (0 : Int32) (0 : Int32) c_length c_at c_wrong q_read q_outerCell q_outerDoor c_outerMany q_walked c_walkedMany c_cameOut q_onWalks q_far q_aside q_wasFull q_undos q_was c_undoMany c_drawn q_kept q_isKept, aI k q_now 189 c_now, aJ k q_row 64 c_row]) C kf_X8_65 0 rfl (Nat.le_of_ble_eq_true rfl) rfl dX8_excess_31 ?_
      refine ww_iconst (pc := 34) C dX8_excess_34 kI_0 ?_
      refine ww_istore_n (pc := 35) (lv' := [(3, .int (0 : Int32)), (0, .ref q_this), (1, .int x1), (2, .int x2)]) C dX8_excess_35 rfl (by decide) rfl ?_
      exact ww_lv [1, 2, 3, 0] rfl (hL36 FU (0 : Int32) (0 : Int32) c_row x1 x2 (0 : Int32) hf)
    · have hf := ifF hc hf
      refine ww_bipush (pc := 26) C dX8_excess_26 kB_m3 ?_
      obtain ⟨e0, e1, e2, e3⟩ := ij4 hf
      exact hret _ _ 28 _ dX8_excess_28 rfl e0 (by rw [← e1, ← e2, ← e3])
  · have hf := ifT hc hf
    refine ww_iconst (pc := 14) C dX8_excess_14 kI_m1 ?_
    obtain ⟨e0, e1, e2, e3⟩ := ij4 hf
    exact hret _ _ 15 _ dX8_excess_15 rfl e0 (by rw [← e1, ← e2, ← e3])
def fX8_offAt (c_now : Nat → Int32) (x1 : Int32) : Option Int32 := (fX8_iOf c_now x1).bind fun v1 => (fX8_jOf c_now x1).bind fun v2 => (fX8_off c_now v1 v2).bind fun v3 => some (v3)
set_option maxHeartbeats 4000000 in
set_option maxRecDepth 100000 in
theorem tX8_offAt (l : Launch) (D : va_G) (k : Nat → ClassId) (q_this q_now q_text q_row q_read q_outerCell q_outerDoor q_walked q_onWalks q_far q_aside q_wasFull q_undos q_was q_kept q_isKept : Nat) (c_typed : Int32) (c_rowMany : Int32) (c_thrown : Int32) (c_length : Int32) (c_at : Int32) (c_wrong : Int32) (c_outerMany : Int32) (c_walkedMany : Int32) (c_cameOut : Int32) (c_undoMany : Int32) (c_drawn : Int32) (c_now : Nat → Int32) (x1 : Int32) (r_ : Int32) (hf : fX8_offAt c_now x1 = some (r_)) : MI l yX8_offAt cX8_offAt 2 .int (RM 5 119) D k [.ref q_this, .int x1] [oX8 q_this q_now q_text c_typed q_row c_rowMany c_thrown c_length c_at c_wrong q_read q_outerCell q_outerDoor c_outerMany q_walked c_walkedMany c_cameOut q_onWalks q_far q_aside q_wasFull q_undos q_was c_undoMany c_drawn q_kept q_isKept, aI k q_now 189 c_now] r_ [oX8 q_this q_now q_text c_typed q_row c_rowMany c_thrown c_length c_at c_wrong q_read q_outerCell q_outerDoor c_outerMany q_walked c_walkedMany c_cameOut q_onWalks q_far q_aside q_wasFull q_undos q_was c_undoMany c_drawn q_kept q_isKept, aI k q_now 189 c_now] := by
  refine mkMI' (own := "DoorWalkModel") (by decide) rfl (Nat.le_of_ble_eq_true rfl) ?_
  intro p e s m args below meth c Q A hret C
  refine ww_lv (lv' := [(0, .ref q_this), (1, .int x1)]) [0, 1] rfl ?_
  unfold fX8_offAt at hf
  refine ww_aload_n (pc := 0) C dX8_offAt_0 rfl 0 rfl ?_
  refine ww_aload_n (pc := 1) C dX8_offAt_1 rfl 0 rfl ?_
  refine ww_iload_n (pc := 2) C dX8_offAt_2 rfl 1 rfl ?_
  obtain ⟨v1, h1, hf⟩ := bsome hf
  refine ww_callVi0 (pc := 3) (As := [.int x1]) (rest := [.ref q_this]) C (tX8_iOf l D k q_this q_now q_text q_row q_read q_outerCell q_outerDoor q_walked q_onWalks q_far q_aside q_wasFull q_undos q_was q_kept q_isKept c_typed c_rowMany c_thrown c_length c_at c_wrong c_outerMany c_walkedMany c_cameOut c_undoMany c_drawn c_now x1 v1 h1) cv_X8_84 ⟨⟨by decide, by decide⟩, rfl, rfl⟩ 0 rfl rfl [0, 1] rfl rfl rfl rfl (Nat.le_of_ble_eq_true rfl) ⟨Nat.zero_le _, Nat.zero_le _⟩ dX8_offAt_3 (fun hb1 => ?_)
  refine ww_aload_n (pc := 6) C dX8_offAt_6 rfl 0 rfl ?_
  refine ww_iload_n (pc := 7) C dX8_offAt_7 rfl 1 rfl ?_
  obtain ⟨v2, h2, hf⟩ := bsome hf
  refine ww_callVi0 (pc := 8) (As := [.int x1]) (rest := [.int v1, .ref q_this]) C (tX8_jOf l D k q_this q_now q_text q_row q_read q_outerCell q_outerDoor q_walked q_onWalks q_far q_aside q_wasFull q_undos q_was q_kept q_isKept c_typed c_rowMany c_thrown c_length c_at c_wrong c_outerMany c_walkedMany c_cameOut c_undoMany c_drawn c_now x1 v2 h2) cv_X8_179 ⟨⟨by decide, by decide⟩, rfl, rfl⟩ 0 rfl rfl [0, 1] rfl rfl rfl rfl (Nat.le_of_ble_eq_true rfl) ⟨Nat.zero_le _, Nat.zero_le _⟩ dX8_offAt_8 (fun hb2 => ?_)
  obtain ⟨v3, h3, hf⟩ := bsome hf
  refine ww_callVi0 (pc := 11) (As := [.int v1, .int v2]) (rest := []) C (tX8_off l D k q_this q_now q_text q_row q_read q_outerCell q_outerDoor q_walked q_onWalks q_far q_aside q_wasFull q_undos q_was q_kept q_isKept c_typed c_rowMany c_thrown c_length c_at c_wrong c_outerMany c_walkedMany c_cameOut c_undoMany c_drawn c_now v1 v2 v3 h3) cv_X8_297 ⟨⟨by decide, by decide⟩, rfl, rfl⟩ 0 rfl rfl [0, 1] rfl rfl rfl rfl (Nat.le_of_ble_eq_true rfl) ⟨Nat.zero_le _, Nat.zero_le _⟩ dX8_offAt_11 (fun hb3 => ?_)
  obtain e0 := ij1 hf
  exact hret _ _ 14 _ dX8_offAt_14 rfl e0 rfl
def fX8_best_b22 (c_now : Nat → Int32) (rc22 : Int32 → Int32 → (Nat → Int64) → Int32 → Int32 → Option (Int32 × Int32 × Int32 × (Nat → Int64))) (c_rowMany : Int32) (c_thrown : Int32) (c_row : Nat → Int64) (n1 : Int32) (n2 : Int32) : Option (Int32 × Int32 × Int32 × (Nat → Int64)) := (fX8_points c_now).bind fun v1 => if v1 ≤ n2 then (fX8_iOf c_now n1).bind fun v2 => bd2 (fX8_tell (0 : Int32) c_row ((v2).toInt64)) fun v3 v4 => (fX8_jOf c_now n1).bind fun v5 => bd2 (fX8_tell v3 v4 ((v5).toInt64)) fun v6 v7 => (fX8_offAt c_now n1).bind fun v8 => bd2 (fX8_tell v6 v7 ((v8).toInt64)) fun v9 v10 => some (n1, v9, c_thrown, v10) else (fX8_offAt c_now n2).bind fun v11 => (fX8_offAt c_now n1).bind fun v12 => if v12 ≤ v11 then (some (n2 + (1 : Int32))).bind fun v13 => rc22 c_rowMany c_thrown c_row n1 v13 else (some (n2 + (1 : Int32))).bind fun v14 => rc22 c_rowMany c_thrown c_row n2 v14
def fX8_best (c_now : Nat → Int32) (c_rowMany : Int32) (c_thrown : Int32) (c_row : Nat → Int64) : Option (Int32 × Int32 × Int32 × (Nat → Int64)) := (ald 189 (1 : Int32) c_now).bind fun v1 => if v1 = (1 : Int32) then lfix (fX8_best_b22 c_now) (fun _ _ _ _ _ => none) FU c_rowMany (0 : Int32) c_row (0 : Int32) (1 : Int32) else some ((-3 : Int32), c_rowMany, (0 : Int32), c_row)
set_option maxHeartbeats 4000000 in
set_option maxRecDepth 100000 in
theorem tX8_best (l : Launch) (D : va_G) (k : Nat → ClassId) (q_this q_now q_text q_row q_read q_outerCell q_outerDoor q_walked q_onWalks q_far q_aside q_wasFull q_undos q_was q_kept q_isKept : Nat) (c_typed : Int32) (c_rowMany : Int32) (c_thrown : Int32) (c_length : Int32) (c_at : Int32) (c_wrong : Int32) (c_outerMany : Int32) (c_walkedMany : Int32) (c_cameOut : Int32) (c_undoMany : Int32) (c_drawn : Int32) (c_now : Nat → Int32) (c_row : Nat → Int64)  (r_ : Int32) (w_rowMany : Int32) (w_thrown : Int32) (w_row : Nat → Int64) (hf : fX8_best c_now c_rowMany c_thrown c_row = some (r_, w_rowMany, w_thrown, w_row)) : MI l yX8_best cX8_best 3 .int (RM 6 140) D k [.ref q_this] [oX8 q_this q_now q_text c_typed q_row c_rowMany c_thrown c_length c_at c_wrong q_read q_outerCell q_outerDoor c_outerMany q_walked c_walkedMany c_cameOut q_onWalks q_far q_aside q_wasFull q_undos q_was c_undoMany c_drawn q_kept q_isKept, aI k q_now 189 c_now, aJ k q_row 64 c_row] r_ [oX8 q_this q_now q_text c_typed q_row w_rowMany w_thrown c_length c_at c_wrong q_read q_outerCell q_outerDoor c_outerMany q_walked c_walkedMany c_cameOut q_onWalks q_far q_aside q_wasFull q_undos q_was c_undoMany c_drawn q_kept q_isKept, aI k q_now 189 c_now, aJ k q_row 64 w_row] := by
  refine mkMI' (own := "DoorWalkModel") (by decide) rfl (Nat.le_of_ble_eq_true rfl) ?_
  intro p e s m args below meth c Q A hret C
  refine ww_lv (lv' := [(0, .ref q_this)]) [0] rfl ?_
  have hL22 : ∀ (n : Nat) (c_rowMany : Int32) (c_thrown : Int32) (c_row : Nat → Int64) (n1 : Int32) (n2 : Int32), lfix (fX8_best_b22 c_now) (fun _ _ _ _ _ => none) n c_rowMany c_thrown c_row n1 n2 = some (r_, w_rowMany, w_thrown, w_row) → WW p l e (RM 6 140) s m args below meth c Q 3 D A 0 0 [oX8 q_this q_now q_text c_typed q_row c_rowMany c_thrown c_length c_at c_wrong q_read q_outerCell q_outerDoor c_outerMany q_walked c_walkedMany c_cameOut q_onWalks q_far q_aside q_wasFull q_undos q_was c_undoMany c_drawn q_kept q_isKept, aI k q_now 189 c_now, aJ k q_row 64 c_row] [(0, .ref q_this), (1, .int n1), (2, .int n2)] 22 [] := by
    intro n
    induction n with
    | zero => intro c_rowMany c_thrown c_row n1 n2 hf; cases hf
    | succ n ih22 =>
      obtain ⟨rc22, hrc22⟩ : ∃ f9, f9 = lfix (fX8_best_b22 c_now) (fun _ _ _ _ _ => none) n := ⟨_, rfl⟩
      rw [← hrc22] at ih22
      intro c_rowMany c_thrown c_row n1 n2 hf
      have hf : fX8_best_b22 c_now rc22 c_rowMany c_thrown c_row n1 n2 = some (r_, w_rowMany, w_thrown, w_row) := by rw [hrc22]; exact hf
      unfold fX8_best_b22 at hf
      refine ww_iload_n (pc := 22) C dX8_best_22 rfl 2 rfl ?_
      refine ww_aload_n (pc := 23) C dX8_best_23 rfl 0 rfl ?_
      obtain ⟨v1, h1, hf⟩ := bsome hf
      refine ww_callVi0 (pc := 24) (As := []) (rest := [.int n2]) C (tX8_points l D k q_this q_now q_text q_row q_read q_outerCell q_outerDoor q_walked q_onWalks q_far q_aside q_wasFull q_undos q_was q_kept q_isKept c_typed c_rowMany c_thrown c_length c_at c_wrong c_outerMany c_walkedMany c_cameOut c_undoMany c_drawn c_now v1 h1) cv_X8_172 ⟨⟨by decide, by decide⟩, rfl, rfl⟩ 0 rfl rfl [0, 1] rfl rfl rfl rfl (Nat.le_of_ble_eq_true rfl) ⟨Nat.zero_le _, Nat.zero_le _⟩ dX8_best_24 (fun hb1 => ?_)
      refine ww_icmp_ge (pc := 27) (tgt := 51) C dX8_best_27 (by decide) (fun hc => ?_) (fun hc => ?_)
      · have hf := ifT hc hf
        refine ww_aload_n (pc := 51) C dX8_best_51 rfl 0 rfl ?_
        refine ww_iconst (pc := 52) C dX8_best_52 kI_0 ?_
        refine pf8_4 (pc := 53) (ws' := [oX8 q_this q_now q_text c_typed q_row (0 : Int32) c_thrown c_length c_at c_wrong q_read q_outerCell q_outerDoor c_outerMany q_walked c_walkedMany c_cameOut q_onWalks q_far q_aside q_wasFull q_undos q_was c_undoMany c_drawn q_kept q_isKept, aI k q_now 189 c_now, aJ k q_row 64 c_row]) C kf_X8_65 0 rfl (Nat.le_of_ble_eq_true rfl) rfl dX8_best_53 ?_
        refine ww_aload_n (pc := 56) C dX8_best_56 rfl 0 rfl ?_
        refine ww_aload_n (pc := 57) C dX8_best_57 rfl 0 rfl ?_
        refine ww_iload_n (pc := 58) C dX8_best_58 rfl 1 rfl ?_
        obtain ⟨v2, h2, hf⟩ := bsome hf
        refine ww_callVi0 (pc := 59) (As := [.int n1]) (rest := [.ref q_this]) C (tX8_iOf l D k q_this q_now q_text q_row q_read q_outerCell q_outerDoor q_walked q_onWalks q_far q_aside q_wasFull q_undos q_was q_kept q_isKept c_typed (0 : Int32) c_thrown c_length c_at c_wrong c_outerMany c_walkedMany c_cameOut c_undoMany c_drawn c_now n1 v2 h2) cv_X8_84 ⟨⟨by decide, by decide⟩, rfl, rfl⟩ 0 rfl rfl [0, 1] rfl rfl rfl rfl (Nat.le_of_ble_eq_true rfl) ⟨Nat.zero_le _, Nat.zero_le _⟩ dX8_best_59 (fun hb2 => ?_)
        refine ww_i2l (pc := 62) C dX8_best_62  ?_
        obtain ⟨v3, v4, h3, hf⟩ := bd2_some hf
        refine ww_callVv (pc := 63) (ws' := [oX8 q_this q_now q_text c_typed q_row v3 c_thrown c_length c_at c_wrong q_read q_outerCell q_outerDoor c_outerMany q_walked c_walkedMany c_cameOut q_onWalks q_far q_aside q_wasFull q_undos q_was c_undoMany c_drawn q_kept q_isKept, aI k q_now 189 c_now, aJ k q_row 64 v4]) (As := [.long ((v2).toInt64)]) (rest := []) C (tX8_tell l D k q_this q_now q_text q_row q_read q_outerCell q_outerDoor q_walked q_onWalks q_far q_aside q_wasFull q_undos q_was q_kept q_isKept c_typed (0 : Int32) c_thrown c_length c_at c_wrong c_outerMany c_walkedMany c_cameOut c_undoMany c_drawn c_row ((v2).toInt64) v3 v4 h3) cv_X8_182 ⟨⟨by decide, by decide⟩, rfl, rfl⟩ 0 rfl rfl [0, 2] rfl rfl rfl rfl rfl rfl (Nat.le_of_ble_eq_true rfl) ⟨Nat.zero_le _, Nat.zero_le _⟩ dX8_best_63 ?_
        refine ww_aload_n (pc := 66) C dX8_best_66 rfl 0 rfl ?_
        refine ww_aload_n (pc := 67) C dX8_best_67 rfl 0 rfl ?_
        refine ww_iload_n (pc := 68) C dX8_best_68 rfl 1 rfl ?_
        obtain ⟨v5, h5, hf⟩ := bsome hf
        refine ww_callVi0 (pc := 69) (As := [.int n1]) (rest := [.ref q_this]) C (tX8_jOf l D k q_this q_now q_text q_row q_read q_outerCell q_outerDoor q_walked q_onWalks q_far q_aside q_wasFull q_undos q_was q_kept q_isKept c_typed v3 c_thrown c_length c_at c_wrong c_outerMany c_walkedMany c_cameOut c_undoMany c_drawn c_now n1 v5 h5) cv_X8_179 ⟨⟨by decide, by decide⟩, rfl, rfl⟩ 0 rfl rfl [0, 1] rfl rfl rfl rfl (Nat.le_of_ble_eq_true rfl) ⟨Nat.zero_le _, Nat.zero_le _⟩ dX8_best_69 (fun hb5 => ?_)
        refine ww_i2l (pc := 72) C dX8_best_72  ?_
        obtain ⟨v6, v7, h6, hf⟩ := bd2_some hf
        refine ww_callVv (pc := 73) (ws' := [oX8 q_this q_now q_text c_typed q_row v6 c_thrown c_length c_at c_wrong q_read q_outerCell q_outerDoor c_outerMany q_walked c_walkedMany c_cameOut q_onWalks q_far q_aside q_wasFull q_undos q_was c_undoMany c_drawn q_kept q_isKept, aI k q_now 189 c_now, aJ k q_row 64 v7]) (As := [.long ((v5).toInt64)]) (rest := []) C (tX8_tell l D k q_this q_now q_text q_row q_read q_outerCell q_outerDoor q_walked q_onWalks q_far q_aside q_wasFull q_undos q_was q_kept q_isKept c_typed v3 c_thrown c_length c_at c_wrong c_outerMany c_walkedMany c_cameOut c_undoMany c_drawn v4 ((v5).toInt64) v6 v7 h6) cv_X8_182 ⟨⟨by decide, by decide⟩, rfl, rfl⟩ 0 rfl rfl [0, 2] rfl rfl rfl rfl rfl rfl (Nat.le_of_ble_eq_true rfl) ⟨Nat.zero_le _, Nat.zero_le _⟩ dX8_best_73 ?_
        refine ww_aload_n (pc := 76) C dX8_best_76 rfl 0 rfl ?_
        refine ww_aload_n (pc := 77) C dX8_best_77 rfl 0 rfl ?_
        refine ww_iload_n (pc := 78) C dX8_best_78 rfl 1 rfl ?_
        obtain ⟨v8, h8, hf⟩ := bsome hf
        refine ww_callVi0 (pc := 79) (As := [.int n1]) (rest := [.ref q_this]) C (tX8_offAt l D k q_this q_now q_text q_row q_read q_outerCell q_outerDoor q_walked q_onWalks q_far q_aside q_wasFull q_undos q_was q_kept q_isKept c_typed v6 c_thrown c_length c_at c_wrong c_outerMany c_walkedMany c_cameOut c_undoMany c_drawn c_now n1 v8 h8) cv_X8_300 ⟨⟨by decide, by decide⟩, rfl, rfl⟩ 0 rfl rfl [0, 1] rfl rfl rfl rfl (Nat.le_of_ble_eq_true rfl) ⟨Nat.zero_le _, Nat.zero_le _⟩ dX8_best_79 (fun hb8 => ?_)
        refine ww_i2l (pc := 82) C dX8_best_82  ?_
        obtain ⟨v9, v10, h9, hf⟩ := bd2_some hf
        refine ww_callVv (pc := 83) (ws' := [oX8 q_this q_now q_text c_typed q_row v9 c_thrown c_length c_at c_wrong q_read q_outerCell q_outerDoor c_outerMany q_walked c_walkedMany c_cameOut q_onWalks q_far q_aside q_wasFull q_undos q_was c_undoMany c_drawn q_kept q_isKept, aI k q_now 189 c_now, aJ k q_row 64 v10]) (As := [.long ((v8).toInt64)]) (rest := []) C (tX8_tell l D k q_this q_now q_text q_row q_read q_outerCell q_outerDoor q_walked q_onWalks q_far q_aside q_wasFull q_undos q_was q_kept q_isKept c_typed v6 c_thrown c_length c_at c_wrong c_outerMany c_walkedMany c_cameOut c_undoMany c_drawn v7 ((v8).toInt64) v9 v10 h9) cv_X8_182 ⟨⟨by decide, by decide⟩, rfl, rfl⟩ 0 rfl rfl [0, 2] rfl rfl rfl rfl rfl rfl (Nat.le_of_ble_eq_true rfl) ⟨Nat.zero_le _, Nat.zero_le _⟩ dX8_best_83 ?_
        refine ww_iload_n (pc := 86) C dX8_best_86 rfl 1 rfl ?_
        obtain ⟨e0, e1, e2, e3⟩ := ij4 hf
        exact hret _ _ 87 _ dX8_best_87 rfl e0 (by rw [← e1, ← e2, ← e3])
      · have hf := ifF hc hf
        refine ww_aload_n (pc := 30) C dX8_best_30 rfl 0 rfl ?_
        refine ww_iload_n (pc := 31) C dX8_best_31 rfl 2 rfl ?_
        obtain ⟨v11, h11, hf⟩ := bsome hf
        refine ww_callVi0 (pc := 32) (As := [.int n2]) (rest := []) C (tX8_offAt l D k q_this q_now q_text q_row q_read q_outerCell q_outerDoor q_walked q_onWalks q_far q_aside q_wasFull q_undos q_was q_kept q_isKept c_typed c_rowMany c_thrown c_length c_at c_wrong c_outerMany c_walkedMany c_cameOut c_undoMany c_drawn c_now n2 v11 h11) cv_X8_300 ⟨⟨by decide, by decide⟩, rfl, rfl⟩ 0 rfl rfl [0, 1] rfl rfl rfl rfl (Nat.le_of_ble_eq_true rfl) ⟨Nat.zero_le _, Nat.zero_le _⟩ dX8_best_32 (fun hb11 => ?_)
        refine ww_aload_n (pc := 35) C dX8_best_35 rfl 0 rfl ?_
        refine ww_iload_n (pc := 36) C dX8_best_36 rfl 1 rfl ?_
        obtain ⟨v12, h12, hf⟩ := bsome hf
        refine ww_callVi0 (pc := 37) (As := [.int n1]) (rest := [.int v11]) C (tX8_offAt l D k q_this q_now q_text q_row q_read q_outerCell q_outerDoor q_walked q_onWalks q_far q_aside q_wasFull q_undos q_was q_kept q_isKept c_typed c_rowMany c_thrown c_length c_at c_wrong c_outerMany c_walkedMany c_cameOut c_undoMany c_drawn c_now n1 v12 h12) cv_X8_300 ⟨⟨by decide, by decide⟩, rfl, rfl⟩ 0 rfl rfl [0, 1] rfl rfl rfl rfl (Nat.le_of_ble_eq_true rfl) ⟨Nat.zero_le _, Nat.zero_le _⟩ dX8_best_37 (fun hb12 => ?_)
        refine ww_icmp_ge (pc := 40) (tgt := 45) C dX8_best_40 (by decide) (fun hc => ?_) (fun hc => ?_)
        · have hf := ifT hc hf
          obtain ⟨v13, h13, hf⟩ := bsome hf
          refine ww_iincN (pc := 45) (lv' := [(2, .int v13), (0, .ref q_this), (1, .int n1)]) (j := 2) C dX8_best_45 kI_1 rfl h13 (by decide) rfl ?_
          refine ww_goto (pc := 48) (tgt := 22) C dX8_best_48 (by decide) ?_
          exact ww_lv [1, 2, 0] rfl (ih22 c_rowMany c_thrown c_row n1 v13 hf)
        · have hf := ifF hc hf
          refine ww_iload_n (pc := 43) C dX8_best_43 rfl 2 rfl ?_
          refine ww_istore_n (pc := 44) (lv' := [(1, .int n2), (0, .ref q_this), (2, .int n2)]) C dX8_best_44 rfl (by decide) rfl ?_
          obtain ⟨v14, h14, hf⟩ := bsome hf
          refine ww_iincN (pc := 45) (lv' := [(2, .int v14), (1, .int n2), (0, .ref q_this)]) (j := 2) C dX8_best_45 kI_1 rfl h14 (by decide) rfl ?_
          refine ww_goto (pc := 48) (tgt := 22) C dX8_best_48 (by decide) ?_
          exact ww_lv [2, 1, 0] rfl (ih22 c_rowMany c_thrown c_row n2 v14 hf)
  unfold fX8_best at hf
  refine ww_aload_n (pc := 0) C dX8_best_0 rfl 0 rfl ?_
  refine ww_iconst (pc := 1) C dX8_best_1 kI_0 ?_
  refine pf8_5 (pc := 2) (ws' := [oX8 q_this q_now q_text c_typed q_row c_rowMany (0 : Int32) c_length c_at c_wrong q_read q_outerCell q_outerDoor c_outerMany q_walked c_walkedMany c_cameOut q_onWalks q_far q_aside q_wasFull q_undos q_was c_undoMany c_drawn q_kept q_isKept, aI k q_now 189 c_now, aJ k q_row 64 c_row]) C kf_X8_61 0 rfl (Nat.le_of_ble_eq_true rfl) rfl dX8_best_2 ?_
  refine ww_aload_n (pc := 5) C dX8_best_5 rfl 0 rfl ?_
  refine gf8_0 (pc := 6) C kf_X8_9 0 rfl rfl dX8_best_6 ?_
  refine ww_iconst (pc := 9) C dX8_best_9 kI_1 ?_
  obtain ⟨v1, h1, hf⟩ := bsome hf
  refine ww_iald (pc := 10) C 1 rfl h1 dX8_best_10 ?_
  refine ww_iconst (pc := 11) C dX8_best_11 kI_1 ?_
  refine ww_icmp_eq (pc := 12) (tgt := 18) C dX8_best_12 (by decide) (fun hc => ?_) (fun hc => ?_)
  · have hf := ifT hc hf
    refine ww_iconst (pc := 18) C dX8_best_18 kI_0 ?_
    refine ww_istore_n (pc := 19) (lv' := [(1, .int (0 : Int32)), (0, .ref q_this)]) C dX8_best_19 rfl (by decide) rfl ?_
    refine ww_iconst (pc := 20) C dX8_best_20 kI_1 ?_
    refine ww_istore_n (pc := 21) (lv' := [(2, .int (1 : Int32)), (1, .int (0 : Int32)), (0, .ref q_this)]) C dX8_best_21 rfl (by decide) rfl ?_
    exact ww_lv [2, 1, 0] rfl (hL22 FU c_rowMany (0 : Int32) c_row (0 : Int32) (1 : Int32) hf)
  · have hf := ifF hc hf
    refine ww_bipush (pc := 15) C dX8_best_15 kB_m3 ?_
    obtain ⟨e0, e1, e2, e3⟩ := ij4 hf
    exact hret _ _ 17 _ dX8_best_17 rfl e0 (by rw [← e1, ← e2, ← e3])
def fX8_clears_b148 (c_now : Nat → Int32) (rc119 : Int32 → Int32 → (Nat → Int64) → Int32 → Int32 → Int32 → Int32 → Option (Int32 × Int32 × Int32 × (Nat → Int64))) (c_rowMany : Int32) (c_thrown : Int32) (c_row : Nat → Int64) (n1 : Int32) (n2 : Int32) (n4 : Int32) (s0 : Int32) (s1 : Int32) : Option (Int32 × Int32 × Int32 × (Nat → Int64)) := (some (s0 + s1)).bind fun v1 => (some (n4 + (1 : Int32))).bind fun v2 => rc119 c_rowMany c_thrown c_row n1 n2 v1 v2
def fX8_clears_b119 (c_now : Nat → Int32) (rc119 : Int32 → Int32 → (Nat → Int64) → Int32 → Int32 → Int32 → Int32 → Option (Int32 × Int32 × Int32 × (Nat → Int64))) (c_rowMany : Int32) (c_thrown : Int32) (c_row : Nat → Int64) (n1 : Int32) (n2 : Int32) (n3 : Int32) (n4 : Int32) : Option (Int32 × Int32 × Int32 × (Nat → Int64)) := (fX8_points c_now).bind fun v1 => if v1 ≤ n4 then (fX8_iOf c_now n2).bind fun v2 => bd2 (fX8_tell (0 : Int32) c_row ((v2).toInt64)) fun v3 v4 => (fX8_jOf c_now n2).bind fun v5 => bd2 (fX8_tell v3 v4 ((v5).toInt64)) fun v6 v7 => (fX8_offAt c_now n2).bind fun v8 => bd2 (fX8_tell v6 v7 ((v8).toInt64)) fun v9 v10 => bd2 (fX8_tell v9 v10 ((n3).toInt64)) fun v11 v12 => some (n1, v11, c_thrown, v12) else (fX8_offAt c_now n4).bind fun v13 => (fX8_offAt c_now n2).bind fun v14 => if v14 ≤ v13 then fX8_clears_b148 c_now rc119 c_rowMany c_thrown c_row n1 n2 n4 n3 (0 : Int32) else fX8_clears_b148 c_now rc119 c_rowMany c_thrown c_row n1 n2 n4 n3 (1 : Int32)
def fX8_clears_b84 (c_now : Nat → Int32) (rc24 : Int32 → Int32 → (Nat → Int64) → Int32 → Int32 → Int32 → Option (Int32 × Int32 × Int32 × (Nat → Int64))) (rc35 : Int32 → Int32 → (Nat → Int64) → Int32 → Int32 → Int32 → Int32 → Option (Int32 × Int32 × Int32 × (Nat → Int64))) (c_rowMany : Int32) (c_thrown : Int32) (c_row : Nat → Int64) (n3 : Int32) (n4 : Int32) : Option (Int32 × Int32 × Int32 × (Nat → Int64)) := (fX8_corner c_now n3 n4).bind fun v1 => (some (n4 + (1 : Int32))).bind fun v2 => rc35 c_rowMany c_thrown c_row n3 v1 n3 v2
def fX8_clears_b35 (c_now : Nat → Int32) (rc24 : Int32 → Int32 → (Nat → Int64) → Int32 → Int32 → Int32 → Option (Int32 × Int32 × Int32 × (Nat → Int64))) (rc35 : Int32 → Int32 → (Nat → Int64) → Int32 → Int32 → Int32 → Int32 → Option (Int32 × Int32 × Int32 × (Nat → Int64))) (c_rowMany : Int32) (c_thrown : Int32) (c_row : Nat → Int64) (n1 : Int32) (n2 : Int32) (n3 : Int32) (n4 : Int32) : Option (Int32 × Int32 × Int32 × (Nat → Int64)) := if (3 : Int32) ≤ n4 then (some (n3 + (1 : Int32))).bind fun v1 => rc24 c_rowMany c_thrown c_row n1 n2 v1 else (fX8_isCell c_now n3).bind fun v2 => if v2 = 0 then (some (n3 + (1 : Int32))).bind fun v3 => rc24 c_rowMany c_thrown c_row n1 n2 v3 else (fX8_isFull c_now n3).bind fun v4 => if v4 = 0 then (some (n3 + (1 : Int32))).bind fun v5 => rc24 c_rowMany c_thrown c_row n1 n2 v5 else if n1 = (-1 : Int32) then fX8_clears_b84 c_now rc24 rc35 c_rowMany c_thrown c_row n3 n4 else (fX8_corner c_now n3 n4).bind fun v6 => (fX8_offAt c_now v6).bind fun v7 => (fX8_offAt c_now n2).bind fun v8 => if v7 < v8 then fX8_clears_b84 c_now rc24 rc35 c_rowMany c_thrown c_row n3 n4 else (some (n4 + (1 : Int32))).bind fun v9 => rc35 c_rowMany c_thrown c_row n1 n2 n3 v9
def fX8_clears_b24 (c_now : Nat → Int32) (rc24 : Int32 → Int32 → (Nat → Int64) → Int32 → Int32 → Int32 → Option (Int32 × Int32 × Int32 × (Nat → Int64))) (c_rowMany : Int32) (c_thrown : Int32) (c_row : Nat → Int64) (n1 : Int32) (n2 : Int32) (n3 : Int32) : Option (Int32 × Int32 × Int32 × (Nat → Int64)) := (fX8_numbers c_now).bind fun v1 => if v1 ≤ n3 then if n1 = (-1 : Int32) then some ((-2 : Int32), c_rowMany, c_thrown, c_row) else lfix (fX8_clears_b119 c_now) (fun _ _ _ _ _ _ _ => none) FU c_rowMany c_thrown c_row n1 n2 (0 : Int32) (0 : Int32) else lfix (fX8_clears_b35 c_now rc24) (fun _ _ _ _ _ _ _ => none) FU c_rowMany c_thrown c_row n1 n2 n3 (0 : Int32)
def fX8_clears (c_now : Nat → Int32) (c_rowMany : Int32) (c_thrown : Int32) (c_row : Nat → Int64) : Option (Int32 × Int32 × Int32 × (Nat → Int64)) := (ald 189 (1 : Int32) c_now).bind fun v1 => if v1 = (1 : Int32) then lfix (fX8_clears_b24 c_now) (fun _ _ _ _ _ _ => none) FU c_rowMany (0 : Int32) c_row (-1 : Int32) (-1 : Int32) (0 : Int32) else some ((-3 : Int32), c_rowMany, (0 : Int32), c_row)
set_option maxHeartbeats 4000000 in
set_option maxRecDepth 100000 in
theorem tX8_clears (l : Launch) (D : va_G) (k : Nat → ClassId) (q_this q_now q_text q_row q_read q_outerCell q_outerDoor q_walked q_onWalks q_far q_aside q_wasFull q_undos q_was q_kept q_isKept : Nat) (c_typed : Int32) (c_rowMany : Int32) (c_thrown : Int32) (c_length : Int32) (c_at : Int32) (c_wrong : Int32) (c_outerMany : Int32) (c_walkedMany : Int32) (c_cameOut : Int32) (c_undoMany : Int32) (c_drawn : Int32) (c_now : Nat → Int32) (c_row : Nat → Int64)  (r_ : Int32) (w_rowMany : Int32) (w_thrown : Int32) (w_row : Nat → Int64) (hf : fX8_clears c_now c_rowMany c_thrown c_row = some (r_, w_rowMany, w_thrown, w_row)) : MI l yX8_clears cX8_clears 5 .int (RM 6 140) D k [.ref q_this] [oX8 q_this q_now q_text c_typed q_row c_rowMany c_thrown c_length c_at c_wrong q_read q_outerCell q_outerDoor c_outerMany q_walked c_walkedMany c_cameOut q_onWalks q_far q_aside q_wasFull q_undos q_was c_undoMany c_drawn q_kept q_isKept, aI k q_now 189 c_now, aJ k q_row 64 c_row] r_ [oX8 q_this q_now q_text c_typed q_row w_rowMany w_thrown c_length c_at c_wrong q_read q_outerCell q_outerDoor c_outerMany q_walked c_walkedMany c_cameOut q_onWalks q_far q_aside q_wasFull q_undos q_was c_undoMany c_drawn q_kept q_isKept, aI k q_now 189 c_now, aJ k q_row 64 w_row] := by
  refine mkMI' (own := "DoorWalkModel") (by decide) rfl (Nat.le_of_ble_eq_true rfl) ?_
  intro p e s m args below meth c Q A hret C
  refine ww_lv (lv' := [(0, .ref q_this)]) [0] rfl ?_
  have hL119 : ∀ (n : Nat) (c_rowMany : Int32) (c_thrown : Int32) (c_row : Nat → Int64) (n1 : Int32) (n2 : Int32) (n3 : Int32) (n4 : Int32), lfix (fX8_clears_b119 c_now) (fun _ _ _ _ _ _ _ => none) n c_rowMany c_thrown c_row n1 n2 n3 n4 = some (r_, w_rowMany, w_thrown, w_row) → WW p l e (RM 6 140) s m args below meth c Q 5 D A 0 0 [oX8 q_this q_now q_text c_typed q_row c_rowMany c_thrown c_length c_at c_wrong q_read q_outerCell q_outerDoor c_outerMany q_walked c_walkedMany c_cameOut q_onWalks q_far q_aside q_wasFull q_undos q_was c_undoMany c_drawn q_kept q_isKept, aI k q_now 189 c_now, aJ k q_row 64 c_row] [(0, .ref q_this), (1, .int n1), (2, .int n2), (3, .int n3), (4, .int n4)] 119 [] := by
    intro n
    induction n with
    | zero => intro c_rowMany c_thrown c_row n1 n2 n3 n4 hf; cases hf
    | succ n ih119 =>
      obtain ⟨rc119, hrc119⟩ : ∃ f9, f9 = lfix (fX8_clears_b119 c_now) (fun _ _ _ _ _ _ _ => none) n := ⟨_, rfl⟩
      rw [← hrc119] at ih119
      have hJ148 : ∀ (c_rowMany : Int32) (c_thrown : Int32) (c_row : Nat → Int64) (n1 : Int32) (n2 : Int32) (n4 : Int32) (s0 : Int32) (s1 : Int32), fX8_clears_b148 c_now rc119 c_rowMany c_thrown c_row n1 n2 n4 s0 s1 = some (r_, w_rowMany, w_thrown, w_row) → WW p l e (RM 6 140) s m args below meth c Q 5 D A 0 0 [oX8 q_this q_now q_text c_typed q_row c_rowMany c_thrown c_length c_at c_wrong q_read q_outerCell q_outerDoor c_outerMany q_walked c_walkedMany c_cameOut q_onWalks q_far q_aside q_wasFull q_undos q_was c_undoMany c_drawn q_kept q_isKept, aI k q_now 189 c_now, aJ k q_row 64 c_row] [(0, .ref q_this), (1, .int n1), (2, .int n2), (4, .int n4)] 148 [.int s1, .int s0] := by
        intro c_rowMany c_thrown c_row n1 n2 n4 s0 s1
        intro hf
        unfold fX8_clears_b148 at hf
        refine ww_iadd (pc := 148) C dX8_clears_148  ?_
        obtain ⟨v1, h1, hf⟩ := bsome hf
        refine ww_nmi h1 ?_
        refine ww_istore_n (pc := 149) (lv' := [(3, .int v1), (0, .ref q_this), (1, .int n1), (2, .int n2), (4, .int n4)]) C dX8_clears_149 rfl (by decide) rfl ?_
        obtain ⟨v2, h2, hf⟩ := bsome hf
        refine ww_iincN (pc := 150) (lv' := [(4, .int v2), (3, .int v1), (0, .ref q_this), (1, .int n1), (2, .int n2)]) (j := 4) C dX8_clears_150 kI_1 rfl h2 (by decide) rfl ?_
        refine ww_goto (pc := 153) (tgt := 119) C dX8_clears_153 (by decide) ?_
        exact ww_lv [2, 3, 4, 1, 0] rfl (ih119 c_rowMany c_thrown c_row n1 n2 v1 v2 hf)
      intro c_rowMany c_thrown c_row n1 n2 n3 n4 hf
      have hf : fX8_clears_b119 c_now rc119 c_rowMany c_thrown c_row n1 n2 n3 n4 = some (r_, w_rowMany, w_thrown, w_row) := by rw [hrc119]; exact hf
      unfold fX8_clears_b119 at hf
      refine ww_iload (pc := 119) C dX8_clears_119 4 rfl ?_
      refine ww_aload_n (pc := 121) C dX8_clears_121 rfl 0 rfl ?_
      obtain ⟨v1, h1, hf⟩ := bsome hf
      refine ww_callVi0 (pc := 122) (As := []) (rest := [.int n4]) C (tX8_points l D k q_this q_now q_text q_row q_read q_outerCell q_outerDoor q_walked q_onWalks q_far q_aside q_wasFull q_undos q_was q_kept q_isKept c_typed c_rowMany c_thrown c_length c_at c_wrong c_outerMany c_walkedMany c_cameOut c_undoMany c_drawn c_now v1 h1) cv_X8_172 ⟨⟨by decide, by decide⟩, rfl, rfl⟩ 0 rfl rfl [0, 1] rfl rfl rfl rfl (Nat.le_of_ble_eq_true rfl) ⟨Nat.zero_le _, Nat.zero_le _⟩ dX8_clears_122 (fun hb1 => ?_)
      refine ww_icmp_ge (pc := 125) (tgt := 156) C dX8_clears_125 (by decide) (fun hc => ?_) (fun hc => ?_)
      · have hf := ifT hc hf
        refine ww_aload_n (pc := 156) C dX8_clears_156 rfl 0 rfl ?_
        refine ww_iconst (pc := 157) C dX8_clears_157 kI_0 ?_
        refine pf8_4 (pc := 158) (ws' := [oX8 q_this q_now q_text c_typed q_row (0 : Int32) c_thrown c_length c_at c_wrong q_read q_outerCell q_outerDoor c_outerMany q_walked c_walkedMany c_cameOut q_onWalks q_far q_aside q_wasFull q_undos q_was c_undoMany c_drawn q_kept q_isKept, aI k q_now 189 c_now, aJ k q_row 64 c_row]) C kf_X8_65 0 rfl (Nat.le_of_ble_eq_true rfl) rfl dX8_clears_158 ?_
        refine ww_aload_n (pc := 161) C dX8_clears_161 rfl 0 rfl ?_
        refine ww_aload_n (pc := 162) C dX8_clears_162 rfl 0 rfl ?_
        refine ww_iload_n (pc := 163) C dX8_clears_163 rfl 2 rfl ?_
        obtain ⟨v2, h2, hf⟩ := bsome hf
        refine ww_callVi0 (pc := 164) (As := [.int n2]) (rest := [.ref q_this]) C (tX8_iOf l D k q_this q_now q_text q_row q_read q_outerCell q_outerDoor q_walked q_onWalks q_far q_aside q_wasFull q_undos q_was q_kept q_isKept c_typed (0 : Int32) c_thrown c_length c_at c_wrong c_outerMany c_walkedMany c_cameOut c_undoMany c_drawn c_now n2 v2 h2) cv_X8_84 ⟨⟨by decide, by decide⟩, rfl, rfl⟩ 0 rfl rfl [0, 1] rfl rfl rfl rfl (Nat.le_of_ble_eq_true rfl) ⟨Nat.zero_le _, Nat.zero_le _⟩ dX8_clears_164 (fun hb2 => ?_)
        refine ww_i2l (pc := 167) C dX8_clears_167  ?_
        obtain ⟨v3, v4, h3, hf⟩ := bd2_some hf
        refine ww_callVv (pc := 168) (ws' := [oX8 q_this q_now q_text c_typed q_row v3 c_thrown c_length c_at c_wrong q_read q_outerCell q_outerDoor c_outerMany q_walked c_walkedMany c_cameOut q_onWalks q_far q_aside q_wasFull q_undos q_was c_undoMany c_drawn q_kept q_isKept, aI k q_now 189 c_now, aJ k q_row 64 v4]) (As := [.long ((v2).toInt64)]) (rest := []) C (tX8_tell l D k q_this q_now q_text q_row q_read q_outerCell q_outerDoor q_walked q_onWalks q_far q_aside q_wasFull q_undos q_was q_kept q_isKept c_typed (0 : Int32) c_thrown c_length c_at c_wrong c_outerMany c_walkedMany c_cameOut c_undoMany c_drawn c_row ((v2).toInt64) v3 v4 h3) cv_X8_182 ⟨⟨by decide, by decide⟩, rfl, rfl⟩ 0 rfl rfl [0, 2] rfl rfl rfl rfl rfl rfl (Nat.le_of_ble_eq_true rfl) ⟨Nat.zero_le _, Nat.zero_le _⟩ dX8_clears_168 ?_
        refine ww_aload_n (pc := 171) C dX8_clears_171 rfl 0 rfl ?_
        refine ww_aload_n (pc := 172) C dX8_clears_172 rfl 0 rfl ?_
        refine ww_iload_n (pc := 173) C dX8_clears_173 rfl 2 rfl ?_
        obtain ⟨v5, h5, hf⟩ := bsome hf
        refine ww_callVi0 (pc := 174) (As := [.int n2]) (rest := [.ref q_this]) C (tX8_jOf l D k q_this q_now q_text q_row q_read q_outerCell q_outerDoor q_walked q_onWalks q_far q_aside q_wasFull q_undos q_was q_kept q_isKept c_typed v3 c_thrown c_length c_at c_wrong c_outerMany c_walkedMany c_cameOut c_undoMany c_drawn c_now n2 v5 h5) cv_X8_179 ⟨⟨by decide, by decide⟩, rfl, rfl⟩ 0 rfl rfl [0, 1] rfl rfl rfl rfl (Nat.le_of_ble_eq_true rfl) ⟨Nat.zero_le _, Nat.zero_le _⟩ dX8_clears_174 (fun hb5 => ?_)
        refine ww_i2l (pc := 177) C dX8_clears_177  ?_
        obtain ⟨v6, v7, h6, hf⟩ := bd2_some hf
        refine ww_callVv (pc := 178) (ws' := [oX8 q_this q_now q_text c_typed q_row v6 c_thrown c_length c_at c_wrong q_read q_outerCell q_outerDoor c_outerMany q_walked c_walkedMany c_cameOut q_onWalks q_far q_aside q_wasFull q_undos q_was c_undoMany c_drawn q_kept q_isKept, aI k q_now 189 c_now, aJ k q_row 64 v7]) (As := [.long ((v5).toInt64)]) (rest := []) C (tX8_tell l D k q_this q_now q_text q_row q_read q_outerCell q_outerDoor q_walked q_onWalks q_far q_aside q_wasFull q_undos q_was q_kept q_isKept c_typed v3 c_thrown c_length c_at c_wrong c_outerMany c_walkedMany c_cameOut c_undoMany c_drawn v4 ((v5).toInt64) v6 v7 h6) cv_X8_182 ⟨⟨by decide, by decide⟩, rfl, rfl⟩ 0 rfl rfl [0, 2] rfl rfl rfl rfl rfl rfl (Nat.le_of_ble_eq_true rfl) ⟨Nat.zero_le _, Nat.zero_le _⟩ dX8_clears_178 ?_
        refine ww_aload_n (pc := 181) C dX8_clears_181 rfl 0 rfl ?_
        refine ww_aload_n (pc := 182) C dX8_clears_182 rfl 0 rfl ?_
        refine ww_iload_n (pc := 183) C dX8_clears_183 rfl 2 rfl ?_
        obtain ⟨v8, h8, hf⟩ := bsome hf
        refine ww_callVi0 (pc := 184) (As := [.int n2]) (rest := [.ref q_this]) C (tX8_offAt l D k q_this q_now q_text q_row q_read q_outerCell q_outerDoor q_walked q_onWalks q_far q_aside q_wasFull q_undos q_was q_kept q_isKept c_typed v6 c_thrown c_length c_at c_wrong c_outerMany c_walkedMany c_cameOut c_undoMany c_drawn c_now n2 v8 h8) cv_X8_300 ⟨⟨by decide, by decide⟩, rfl, rfl⟩ 0 rfl rfl [0, 1] rfl rfl rfl rfl (Nat.le_of_ble_eq_true rfl) ⟨Nat.zero_le _, Nat.zero_le _⟩ dX8_clears_184 (fun hb8 => ?_)
        refine ww_i2l (pc := 187) C dX8_clears_187  ?_
        obtain ⟨v9, v10, h9, hf⟩ := bd2_some hf
        refine ww_callVv (pc := 188) (ws' := [oX8 q_this q_now q_text c_typed q_row v9 c_thrown c_length c_at c_wrong q_read q_outerCell q_outerDoor c_outerMany q_walked c_walkedMany c_cameOut q_onWalks q_far q_aside q_wasFull q_undos q_was c_undoMany c_drawn q_kept q_isKept, aI k q_now 189 c_now, aJ k q_row 64 v10]) (As := [.long ((v8).toInt64)]) (rest := []) C (tX8_tell l D k q_this q_now q_text q_row q_read q_outerCell q_outerDoor q_walked q_onWalks q_far q_aside q_wasFull q_undos q_was q_kept q_isKept c_typed v6 c_thrown c_length c_at c_wrong c_outerMany c_walkedMany c_cameOut c_undoMany c_drawn v7 ((v8).toInt64) v9 v10 h9) cv_X8_182 ⟨⟨by decide, by decide⟩, rfl, rfl⟩ 0 rfl rfl [0, 2] rfl rfl rfl rfl rfl rfl (Nat.le_of_ble_eq_true rfl) ⟨Nat.zero_le _, Nat.zero_le _⟩ dX8_clears_188 ?_
        refine ww_aload_n (pc := 191) C dX8_clears_191 rfl 0 rfl ?_
        refine ww_iload_n (pc := 192) C dX8_clears_192 rfl 3 rfl ?_
        refine ww_i2l (pc := 193) C dX8_clears_193  ?_
        obtain ⟨v11, v12, h11, hf⟩ := bd2_some hf
        refine ww_callVv (pc := 194) (ws' := [oX8 q_this q_now q_text c_typed q_row v11 c_thrown c_length c_at c_wrong q_read q_outerCell q_outerDoor c_outerMany q_walked c_walkedMany c_cameOut q_onWalks q_far q_aside q_wasFull q_undos q_was c_undoMany c_drawn q_kept q_isKept, aI k q_now 189 c_now, aJ k q_row 64 v12]) (As := [.long ((n3).toInt64)]) (rest := []) C (tX8_tell l D k q_this q_now q_text q_row q_read q_outerCell q_outerDoor q_walked q_onWalks q_far q_aside q_wasFull q_undos q_was q_kept q_isKept c_typed v9 c_thrown c_length c_at c_wrong c_outerMany c_walkedMany c_cameOut c_undoMany c_drawn v10 ((n3).toInt64) v11 v12 h11) cv_X8_182 ⟨⟨by decide, by decide⟩, rfl, rfl⟩ 0 rfl rfl [0, 2] rfl rfl rfl rfl rfl rfl (Nat.le_of_ble_eq_true rfl) ⟨Nat.zero_le _, Nat.zero_le _⟩ dX8_clears_194 ?_
        refine ww_iload_n (pc := 197) C dX8_clears_197 rfl 1 rfl ?_
        obtain ⟨e0, e1, e2, e3⟩ := ij4 hf
        exact hret _ _ 198 _ dX8_clears_198 rfl e0 (by rw [← e1, ← e2, ← e3])
      · have hf := ifF hc hf
        refine ww_iload_n (pc := 128) C dX8_clears_128 rfl 3 rfl ?_
        refine ww_aload_n (pc := 129) C dX8_clears_129 rfl 0 rfl ?_
        refine ww_iload (pc := 130) C dX8_clears_130 4 rfl ?_
        obtain ⟨v13, h13, hf⟩ := bsome hf
        refine ww_callVi0 (pc := 132) (As := [.int n4]) (rest := [.int n3]) C (tX8_offAt l D k q_this q_now q_text q_row q_read q_outerCell q_outerDoor q_walked q_onWalks q_far q_aside q_wasFull q_undos q_was q_kept q_isKept c_typed c_rowMany c_thrown c_length c_at c_wrong c_outerMany c_walkedMany c_cameOut c_undoMany c_drawn c_now n4 v13 h13) cv_X8_300 ⟨⟨by decide, by decide⟩, rfl, rfl⟩ 0 rfl rfl [0, 1] rfl rfl rfl rfl (Nat.le_of_ble_eq_true rfl) ⟨Nat.zero_le _, Nat.zero_le _⟩ dX8_clears_132 (fun hb13 => ?_)
        refine ww_aload_n (pc := 135) C dX8_clears_135 rfl 0 rfl ?_
        refine ww_iload_n (pc := 136) C dX8_clears_136 rfl 2 rfl ?_
        obtain ⟨v14, h14, hf⟩ := bsome hf
        refine ww_callVi0 (pc := 137) (As := [.int n2]) (rest := [.int v13, .int n3]) C (tX8_offAt l D k q_this q_now q_text q_row q_read q_outerCell q_outerDoor q_walked q_onWalks q_far q_aside q_wasFull q_undos q_was q_kept q_isKept c_typed c_rowMany c_thrown c_length c_at c_wrong c_outerMany c_walkedMany c_cameOut c_undoMany c_drawn c_now n2 v14 h14) cv_X8_300 ⟨⟨by decide, by decide⟩, rfl, rfl⟩ 0 rfl rfl [0, 1] rfl rfl rfl rfl (Nat.le_of_ble_eq_true rfl) ⟨Nat.zero_le _, Nat.zero_le _⟩ dX8_clears_137 (fun hb14 => ?_)
        refine ww_icmp_ge (pc := 140) (tgt := 147) C dX8_clears_140 (by decide) (fun hc => ?_) (fun hc => ?_)
        · have hf := ifT hc hf
          refine ww_iconst (pc := 147) C dX8_clears_147 kI_0 ?_
          exact ww_lv [0, 1, 2, 4] rfl (hJ148 c_rowMany c_thrown c_row n1 n2 n4 n3 (0 : Int32) hf)
        · have hf := ifF hc hf
          refine ww_iconst (pc := 143) C dX8_clears_143 kI_1 ?_
          refine ww_goto (pc := 144) (tgt := 148) C dX8_clears_144 (by decide) ?_
          exact ww_lv [0, 1, 2, 4] rfl (hJ148 c_rowMany c_thrown c_row n1 n2 n4 n3 (1 : Int32) hf)
  have hL24 : ∀ (n : Nat) (c_rowMany : Int32) (c_thrown : Int32) (c_row : Nat → Int64) (n1 : Int32) (n2 : Int32) (n3 : Int32), lfix (fX8_clears_b24 c_now) (fun _ _ _ _ _ _ => none) n c_rowMany c_thrown c_row n1 n2 n3 = some (r_, w_rowMany, w_thrown, w_row) → WW p l e (RM 6 140) s m args below meth c Q 5 D A 0 0 [oX8 q_this q_now q_text c_typed q_row c_rowMany c_thrown c_length c_at c_wrong q_read q_outerCell q_outerDoor c_outerMany q_walked c_walkedMany c_cameOut q_onWalks q_far q_aside q_wasFull q_undos q_was c_undoMany c_drawn q_kept q_isKept, aI k q_now 189 c_now, aJ k q_row 64 c_row] [(0, .ref q_this), (1, .int n1), (2, .int n2), (3, .int n3)] 24 [] := by
    intro n
    induction n with
    | zero => intro c_rowMany c_thrown c_row n1 n2 n3 hf; cases hf
    | succ n ih24 =>
      obtain ⟨rc24, hrc24⟩ : ∃ f9, f9 = lfix (fX8_clears_b24 c_now) (fun _ _ _ _ _ _ => none) n := ⟨_, rfl⟩
      rw [← hrc24] at ih24
      have hL35 : ∀ (n : Nat) (c_rowMany : Int32) (c_thrown : Int32) (c_row : Nat → Int64) (n1 : Int32) (n2 : Int32) (n3 : Int32) (n4 : Int32), lfix (fX8_clears_b35 c_now rc24) (fun _ _ _ _ _ _ _ => none) n c_rowMany c_thrown c_row n1 n2 n3 n4 = some (r_, w_rowMany, w_thrown, w_row) → WW p l e (RM 6 140) s m args below meth c Q 5 D A 0 0 [oX8 q_this q_now q_text c_typed q_row c_rowMany c_thrown c_length c_at c_wrong q_read q_outerCell q_outerDoor c_outerMany q_walked c_walkedMany c_cameOut q_onWalks q_far q_aside q_wasFull q_undos q_was c_undoMany c_drawn q_kept q_isKept, aI k q_now 189 c_now, aJ k q_row 64 c_row] [(0, .ref q_this), (1, .int n1), (2, .int n2), (3, .int n3), (4, .int n4)] 35 [] := by
        intro n
        induction n with
        | zero => intro c_rowMany c_thrown c_row n1 n2 n3 n4 hf; cases hf
        | succ n ih35 =>
          obtain ⟨rc35, hrc35⟩ : ∃ f9, f9 = lfix (fX8_clears_b35 c_now rc24) (fun _ _ _ _ _ _ _ => none) n := ⟨_, rfl⟩
          rw [← hrc35] at ih35
          have hJ84 : ∀ (c_rowMany : Int32) (c_thrown : Int32) (c_row : Nat → Int64) (n3 : Int32) (n4 : Int32), fX8_clears_b84 c_now rc24 rc35 c_rowMany c_thrown c_row n3 n4 = some (r_, w_rowMany, w_thrown, w_row) → WW p l e (RM 6 140) s m args below meth c Q 5 D A 0 0 [oX8 q_this q_now q_text c_typed q_row c_rowMany c_thrown c_length c_at c_wrong q_read q_outerCell q_outerDoor c_outerMany q_walked c_walkedMany c_cameOut q_onWalks q_far q_aside q_wasFull q_undos q_was c_undoMany c_drawn q_kept q_isKept, aI k q_now 189 c_now, aJ k q_row 64 c_row] [(0, .ref q_this), (3, .int n3), (4, .int n4)] 84 [] := by
            intro c_rowMany c_thrown c_row n3 n4
            intro hf
            unfold fX8_clears_b84 at hf
            refine ww_iload_n (pc := 84) C dX8_clears_84 rfl 1 rfl ?_
            refine ww_istore_n (pc := 85) (lv' := [(1, .int n3), (0, .ref q_this), (3, .int n3), (4, .int n4)]) C dX8_clears_85 rfl (by decide) rfl ?_
            refine ww_aload_n (pc := 86) C dX8_clears_86 rfl 1 rfl ?_
            refine ww_iload_n (pc := 87) C dX8_clears_87 rfl 2 rfl ?_
            refine ww_iload (pc := 88) C dX8_clears_88 3 rfl ?_
            obtain ⟨v1, h1, hf⟩ := bsome hf
            refine ww_callVi0 (pc := 90) (As := [.int n3, .int n4]) (rest := []) C (tX8_corner l D k q_this q_now q_text q_row q_read q_outerCell q_outerDoor q_walked q_onWalks q_far q_aside q_wasFull q_undos q_was q_kept q_isKept c_typed c_rowMany c_thrown c_length c_at c_wrong c_outerMany c_walkedMany c_cameOut c_undoMany c_drawn c_now n3 n4 v1 h1) cv_X8_197 ⟨⟨by decide, by decide⟩, rfl, rfl⟩ 0 rfl rfl [0, 1] rfl rfl rfl rfl (Nat.le_of_ble_eq_true rfl) ⟨Nat.zero_le _, Nat.zero_le _⟩ dX8_clears_90 (fun hb1 => ?_)
            refine ww_istore_n (pc := 93) (lv' := [(2, .int v1), (1, .int n3), (0, .ref q_this), (3, .int n3), (4, .int n4)]) C dX8_clears_93 rfl (by decide) rfl ?_
            obtain ⟨v2, h2, hf⟩ := bsome hf
            refine ww_iincN (pc := 94) (lv' := [(4, .int v2), (2, .int v1), (1, .int n3), (0, .ref q_this), (3, .int n3)]) (j := 4) C dX8_clears_94 kI_1 rfl h2 (by decide) rfl ?_
            refine ww_goto (pc := 97) (tgt := 35) C dX8_clears_97 (by decide) ?_
            exact ww_lv [3, 2, 1, 4, 0] rfl (ih35 c_rowMany c_thrown c_row n3 v1 n3 v2 hf)
          intro c_rowMany c_thrown c_row n1 n2 n3 n4 hf
          have hf : fX8_clears_b35 c_now rc24 rc35 c_rowMany c_thrown c_row n1 n2 n3 n4 = some (r_, w_rowMany, w_thrown, w_row) := by rw [hrc35]; exact hf
          unfold fX8_clears_b35 at hf
          refine ww_iload (pc := 35) C dX8_clears_35 4 rfl ?_
          refine ww_iconst (pc := 37) C dX8_clears_37 kI_3 ?_
          refine ww_icmp_ge (pc := 38) (tgt := 100) C dX8_clears_38 (by decide) (fun hc => ?_) (fun hc => ?_)
          · have hf := ifT hc hf
            obtain ⟨v1, h1, hf⟩ := bsome hf
            refine ww_iincN (pc := 100) (lv' := [(3, .int v1), (0, .ref q_this), (1, .int n1), (2, .int n2), (4, .int n4)]) (j := 3) C dX8_clears_100 kI_1 rfl h1 (by decide) rfl ?_
            refine ww_goto (pc := 103) (tgt := 24) C dX8_clears_103 (by decide) ?_
            exact ww_lv [1, 2, 3, 0] rfl (ih24 c_rowMany c_thrown c_row n1 n2 v1 hf)
          · have hf := ifF hc hf
            refine ww_aload_n (pc := 41) C dX8_clears_41 rfl 0 rfl ?_
            refine ww_iload_n (pc := 42) C dX8_clears_42 rfl 3 rfl ?_
            obtain ⟨v2, h2, hf⟩ := bsome hf
            refine ww_callVi0 (pc := 43) (As := [.int n3]) (rest := []) C (tX8_isCell l D k q_this q_now q_text q_row q_read q_outerCell q_outerDoor q_walked q_onWalks q_far q_aside q_wasFull q_undos q_was q_kept q_isKept c_typed c_rowMany c_thrown c_length c_at c_wrong c_outerMany c_walkedMany c_cameOut c_undoMany c_drawn c_now n3 v2 h2) cv_X8_213 ⟨⟨by decide, by decide⟩, rfl, rfl⟩ 0 rfl rfl [0, 1] rfl rfl rfl rfl (Nat.le_of_ble_eq_true rfl) ⟨Nat.zero_le _, Nat.zero_le _⟩ dX8_clears_43 (fun hb2 => ?_)
            refine ww_if_eq (pc := 46) (tgt := 100) C dX8_clears_46 (by decide) (fun hc => ?_) (fun hc => ?_)
            · have hf := ifT hc hf
              obtain ⟨v3, h3, hf⟩ := bsome hf
              refine ww_iincN (pc := 100) (lv' := [(3, .int v3), (0, .ref q_this), (1, .int n1), (2, .int n2), (4, .int n4)]) (j := 3) C dX8_clears_100 kI_1 rfl h3 (by decide) rfl ?_
              refine ww_goto (pc := 103) (tgt := 24) C dX8_clears_103 (by decide) ?_
              exact ww_lv [1, 2, 3, 0] rfl (ih24 c_rowMany c_thrown c_row n1 n2 v3 hf)
            · have hf := ifF hc hf
              refine ww_aload_n (pc := 49) C dX8_clears_49 rfl 0 rfl ?_
              refine ww_iload_n (pc := 50) C dX8_clears_50 rfl 3 rfl ?_
              obtain ⟨v4, h4, hf⟩ := bsome hf
              refine ww_callVi0 (pc := 51) (As := [.int n3]) (rest := []) C (tX8_isFull l D k q_this q_now q_text q_row q_read q_outerCell q_outerDoor q_walked q_onWalks q_far q_aside q_wasFull q_undos q_was q_kept q_isKept c_typed c_rowMany c_thrown c_length c_at c_wrong c_outerMany c_walkedMany c_cameOut c_undoMany c_drawn c_now n3 v4 h4) cv_X8_206 ⟨⟨by decide, by decide⟩, rfl, rfl⟩ 0 rfl rfl [0, 1] rfl rfl rfl rfl (Nat.le_of_ble_eq_true rfl) ⟨Nat.zero_le _, Nat.zero_le _⟩ dX8_clears_51 (fun hb4 => ?_)
              refine ww_if_eq (pc := 54) (tgt := 100) C dX8_clears_54 (by decide) (fun hc => ?_) (fun hc => ?_)
              · have hf := ifT hc hf
                obtain ⟨v5, h5, hf⟩ := bsome hf
                refine ww_iincN (pc := 100) (lv' := [(3, .int v5), (0, .ref q_this), (1, .int n1), (2, .int n2), (4, .int n4)]) (j := 3) C dX8_clears_100 kI_1 rfl h5 (by decide) rfl ?_
                refine ww_goto (pc := 103) (tgt := 24) C dX8_clears_103 (by decide) ?_
                exact ww_lv [1, 2, 3, 0] rfl (ih24 c_rowMany c_thrown c_row n1 n2 v5 hf)
              · have hf := ifF hc hf
                refine ww_iload_n (pc := 57) C dX8_clears_57 rfl 1 rfl ?_
                refine ww_iconst (pc := 58) C dX8_clears_58 kI_m1 ?_
                refine ww_icmp_eq (pc := 59) (tgt := 84) C dX8_clears_59 (by decide) (fun hc => ?_) (fun hc => ?_)
                · have hf := ifT hc hf
                  exact ww_lv [0, 3, 4] rfl (hJ84 c_rowMany c_thrown c_row n3 n4 hf)
                · have hf := ifF hc hf
                  refine ww_aload_n (pc := 62) C dX8_clears_62 rfl 0 rfl ?_
                  refine ww_aload_n (pc := 63) C dX8_clears_63 rfl 0 rfl ?_
                  refine ww_iload_n (pc := 64) C dX8_clears_64 rfl 3 rfl ?_
                  refine ww_iload (pc := 65) C dX8_clears_65 4 rfl ?_
                  obtain ⟨v6, h6, hf⟩ := bsome hf
                  refine ww_callVi0 (pc := 67) (As := [.int n3, .int n4]) (rest := [.ref q_this]) C (tX8_corner l D k q_this q_now q_text q_row q_read q_outerCell q_outerDoor q_walked q_onWalks q_far q_aside q_wasFull q_undos q_was q_kept q_isKept c_typed c_rowMany c_thrown c_length c_at c_wrong c_outerMany c_walkedMany c_cameOut c_undoMany c_drawn c_now n3 n4 v6 h6) cv_X8_197 ⟨⟨by decide, by decide⟩, rfl, rfl⟩ 0 rfl rfl [0, 1] rfl rfl rfl rfl (Nat.le_of_ble_eq_true rfl) ⟨Nat.zero_le _, Nat.zero_le _⟩ dX8_clears_67 (fun hb6 => ?_)
                  obtain ⟨v7, h7, hf⟩ := bsome hf
                  refine ww_callVi0 (pc := 70) (As := [.int v6]) (rest := []) C (tX8_offAt l D k q_this q_now q_text q_row q_read q_outerCell q_outerDoor q_walked q_onWalks q_far q_aside q_wasFull q_undos q_was q_kept q_isKept c_typed c_rowMany c_thrown c_length c_at c_wrong c_outerMany c_walkedMany c_cameOut c_undoMany c_drawn c_now v6 v7 h7) cv_X8_300 ⟨⟨by decide, by decide⟩, rfl, rfl⟩ 0 rfl rfl [0, 1] rfl rfl rfl rfl (Nat.le_of_ble_eq_true rfl) ⟨Nat.zero_le _, Nat.zero_le _⟩ dX8_clears_70 (fun hb7 => ?_)
                  refine ww_aload_n (pc := 73) C dX8_clears_73 rfl 0 rfl ?_
                  refine ww_iload_n (pc := 74) C dX8_clears_74 rfl 2 rfl ?_
                  obtain ⟨v8, h8, hf⟩ := bsome hf
                  refine ww_callVi0 (pc := 75) (As := [.int n2]) (rest := [.int v7]) C (tX8_offAt l D k q_this q_now q_text q_row q_read q_outerCell q_outerDoor q_walked q_onWalks q_far q_aside q_wasFull q_undos q_was q_kept q_isKept c_typed c_rowMany c_thrown c_length c_at c_wrong c_outerMany c_walkedMany c_cameOut c_undoMany c_drawn c_now n2 v8 h8) cv_X8_300 ⟨⟨by decide, by decide⟩, rfl, rfl⟩ 0 rfl rfl [0, 1] rfl rfl rfl rfl (Nat.le_of_ble_eq_true rfl) ⟨Nat.zero_le _, Nat.zero_le _⟩ dX8_clears_75 (fun hb8 => ?_)
                  refine ww_icmp_lt (pc := 78) (tgt := 84) C dX8_clears_78 (by decide) (fun hc => ?_) (fun hc => ?_)
                  · have hf := ifT hc hf
                    exact ww_lv [0, 3, 4] rfl (hJ84 c_rowMany c_thrown c_row n3 n4 hf)
                  · have hf := ifF hc hf
                    refine ww_goto (pc := 81) (tgt := 94) C dX8_clears_81 (by decide) ?_
                    obtain ⟨v9, h9, hf⟩ := bsome hf
                    refine ww_iincN (pc := 94) (lv' := [(4, .int v9), (0, .ref q_this), (1, .int n1), (2, .int n2), (3, .int n3)]) (j := 4) C dX8_clears_94 kI_1 rfl h9 (by decide) rfl ?_
                    refine ww_goto (pc := 97) (tgt := 35) C dX8_clears_97 (by decide) ?_
                    exact ww_lv [1, 2, 3, 4, 0] rfl (ih35 c_rowMany c_thrown c_row n1 n2 n3 v9 hf)
      intro c_rowMany c_thrown c_row n1 n2 n3 hf
      have hf : fX8_clears_b24 c_now rc24 c_rowMany c_thrown c_row n1 n2 n3 = some (r_, w_rowMany, w_thrown, w_row) := by rw [hrc24]; exact hf
      unfold fX8_clears_b24 at hf
      refine ww_iload_n (pc := 24) C dX8_clears_24 rfl 3 rfl ?_
      refine ww_aload_n (pc := 25) C dX8_clears_25 rfl 0 rfl ?_
      obtain ⟨v1, h1, hf⟩ := bsome hf
      refine ww_callVi0 (pc := 26) (As := []) (rest := [.int n3]) C (tX8_numbers l D k q_this q_now q_text q_row q_read q_outerCell q_outerDoor q_walked q_onWalks q_far q_aside q_wasFull q_undos q_was q_kept q_isKept c_typed c_rowMany c_thrown c_length c_at c_wrong c_outerMany c_walkedMany c_cameOut c_undoMany c_drawn c_now v1 h1) cv_X8_210 ⟨⟨by decide, by decide⟩, rfl, rfl⟩ 0 rfl rfl [0, 1] rfl rfl rfl rfl (Nat.le_of_ble_eq_true rfl) ⟨Nat.zero_le _, Nat.zero_le _⟩ dX8_clears_26 (fun hb1 => ?_)
      refine ww_icmp_ge (pc := 29) (tgt := 106) C dX8_clears_29 (by decide) (fun hc => ?_) (fun hc => ?_)
      · have hf := ifT hc hf
        refine ww_iload_n (pc := 106) C dX8_clears_106 rfl 1 rfl ?_
        refine ww_iconst (pc := 107) C dX8_clears_107 kI_m1 ?_
        refine ww_icmp_ne (pc := 108) (tgt := 114) C dX8_clears_108 (by decide) (fun hc => ?_) (fun hc => ?_)
        · have hf := ifF hc hf
          refine ww_iconst (pc := 114) C dX8_clears_114 kI_0 ?_
          refine ww_istore_n (pc := 115) (lv' := [(3, .int (0 : Int32)), (0, .ref q_this), (1, .int n1), (2, .int n2)]) C dX8_clears_115 rfl (by decide) rfl ?_
          refine ww_iconst (pc := 116) C dX8_clears_116 kI_0 ?_
          refine ww_istore (pc := 117) (lv' := [(4, .int (0 : Int32)), (3, .int (0 : Int32)), (0, .ref q_this), (1, .int n1), (2, .int n2)]) C dX8_clears_117 (by decide) rfl ?_
          exact ww_lv [2, 3, 4, 1, 0] rfl (hL119 FU c_rowMany c_thrown c_row n1 n2 (0 : Int32) (0 : Int32) hf)
        · have hf := ifT hc hf
          refine ww_bipush (pc := 111) C dX8_clears_111 kB_m2 ?_
          obtain ⟨e0, e1, e2, e3⟩ := ij4 hf
          exact hret _ _ 113 _ dX8_clears_113 rfl e0 (by rw [← e1, ← e2, ← e3])
      · have hf := ifF hc hf
        refine ww_iconst (pc := 32) C dX8_clears_32 kI_0 ?_
        refine ww_istore (pc := 33) (lv' := [(4, .int (0 : Int32)), (0, .ref q_this), (1, .int n1), (2, .int n2), (3, .int n3)]) C dX8_clears_33 (by decide) rfl ?_
        exact ww_lv [1, 2, 3, 4, 0] rfl (hL35 FU c_rowMany c_thrown c_row n1 n2 n3 (0 : Int32) hf)
  unfold fX8_clears at hf
  refine ww_aload_n (pc := 0) C dX8_clears_0 rfl 0 rfl ?_
  refine ww_iconst (pc := 1) C dX8_clears_1 kI_0 ?_
  refine pf8_5 (pc := 2) (ws' := [oX8 q_this q_now q_text c_typed q_row c_rowMany (0 : Int32) c_length c_at c_wrong q_read q_outerCell q_outerDoor c_outerMany q_walked c_walkedMany c_cameOut q_onWalks q_far q_aside q_wasFull q_undos q_was c_undoMany c_drawn q_kept q_isKept, aI k q_now 189 c_now, aJ k q_row 64 c_row]) C kf_X8_61 0 rfl (Nat.le_of_ble_eq_true rfl) rfl dX8_clears_2 ?_
  refine ww_aload_n (pc := 5) C dX8_clears_5 rfl 0 rfl ?_
  refine gf8_0 (pc := 6) C kf_X8_9 0 rfl rfl dX8_clears_6 ?_
  refine ww_iconst (pc := 9) C dX8_clears_9 kI_1 ?_
  obtain ⟨v1, h1, hf⟩ := bsome hf
  refine ww_iald (pc := 10) C 1 rfl h1 dX8_clears_10 ?_
  refine ww_iconst (pc := 11) C dX8_clears_11 kI_1 ?_
  refine ww_icmp_eq (pc := 12) (tgt := 18) C dX8_clears_12 (by decide) (fun hc => ?_) (fun hc => ?_)
  · have hf := ifT hc hf
    refine ww_iconst (pc := 18) C dX8_clears_18 kI_m1 ?_
    refine ww_istore_n (pc := 19) (lv' := [(1, .int (-1 : Int32)), (0, .ref q_this)]) C dX8_clears_19 rfl (by decide) rfl ?_
    refine ww_iconst (pc := 20) C dX8_clears_20 kI_m1 ?_
    refine ww_istore_n (pc := 21) (lv' := [(2, .int (-1 : Int32)), (1, .int (-1 : Int32)), (0, .ref q_this)]) C dX8_clears_21 rfl (by decide) rfl ?_
    refine ww_iconst (pc := 22) C dX8_clears_22 kI_0 ?_
    refine ww_istore_n (pc := 23) (lv' := [(3, .int (0 : Int32)), (2, .int (-1 : Int32)), (1, .int (-1 : Int32)), (0, .ref q_this)]) C dX8_clears_23 rfl (by decide) rfl ?_
    exact ww_lv [3, 2, 1, 0] rfl (hL24 FU c_rowMany (0 : Int32) c_row (-1 : Int32) (-1 : Int32) (0 : Int32) hf)
  · have hf := ifF hc hf
    refine ww_bipush (pc := 15) C dX8_clears_15 kB_m3 ?_
    obtain ⟨e0, e1, e2, e3⟩ := ij4 hf
    exact hret _ _ 17 _ dX8_clears_17 rfl e0 (by rw [← e1, ← e2, ← e3])
def fX8_sells_b47 (c_now : Nat → Int32) (rc47 : Int32 → Int32 → (Nat → Int64) → Int32 → Int32 → Int32 → Int32 → Int32 → Int32 → Option (Int32 × Int32 × Int32 × (Nat → Int64))) (c_rowMany : Int32) (c_thrown : Int32) (c_row : Nat → Int64) (n1 : Int32) (n2 : Int32) (n3 : Int32) (n4 : Int32) (n5 : Int32) (n6 : Int32) : Option (Int32 × Int32 × Int32 × (Nat → Int64)) := (ald 189 (2 : Int32) c_now).bind fun v1 => if v1 ≤ n6 then bd2 (fX8_tell (0 : Int32) c_row ((n5).toInt64)) fun v2 v3 => some (n4, v2, c_thrown, v3) else (fX8_income c_now n6 n1 n2).bind fun v4 => (fX8_wish c_now n6 n3).bind fun v5 => (fX8_price c_now n1 n2 n3).bind fun v6 => (fX8_amount c_now n6 n3).bind fun v7 => (fX8_wishes c_now n6).bind fun v8 => if (v4 * v5) ≤ ((v6 * v7) * v8) then (some (n4 ||| ((1 : Int32) <<< (n6 &&& 31)))).bind fun v9 => (some (n5 + (1 : Int32))).bind fun v10 => (some (n6 + (1 : Int32))).bind fun v11 => rc47 c_rowMany c_thrown c_row n1 n2 n3 v9 v10 v11 else (some (n6 + (1 : Int32))).bind fun v12 => rc47 c_rowMany c_thrown c_row n1 n2 n3 n4 n5 v12
def fX8_sells (c_now : Nat → Int32) (c_rowMany : Int32) (c_thrown : Int32) (c_row : Nat → Int64) (x1 : Int32) (x2 : Int32) (x3 : Int32) : Option (Int32 × Int32 × Int32 × (Nat → Int64)) := (fX8_isPoint c_now x1 x2).bind fun v1 => if v1 = 0 then some ((-1 : Int32), c_rowMany, (0 : Int32), c_row) else (fX8_in x3 (0 : Int32) (2 : Int32)).bind fun v2 => if v2 = 0 then some ((-1 : Int32), c_rowMany, (0 : Int32), c_row) else (ald 189 (1 : Int32) c_now).bind fun v3 => if v3 = (1 : Int32) then lfix (fX8_sells_b47 c_now) (fun _ _ _ _ _ _ _ _ _ => none) FU c_rowMany (0 : Int32) c_row x1 x2 x3 (0 : Int32) (0 : Int32) (0 : Int32) else some ((-3 : Int32), c_rowMany, (0 : Int32), c_row)
set_option maxHeartbeats 4000000 in
set_option maxRecDepth 100000 in
theorem tX8_sells (l : Launch) (D : va_G) (k : Nat → ClassId) (q_this q_now q_text q_row q_read q_outerCell q_outerDoor q_walked q_onWalks q_far q_aside q_wasFull q_undos q_was q_kept q_isKept : Nat) (c_typed : Int32) (c_rowMany : Int32) (c_thrown : Int32) (c_length : Int32) (c_at : Int32) (c_wrong : Int32) (c_outerMany : Int32) (c_walkedMany : Int32) (c_cameOut : Int32) (c_undoMany : Int32) (c_drawn : Int32) (c_now : Nat → Int32) (c_row : Nat → Int64) (x1 : Int32) (x2 : Int32) (x3 : Int32) (r_ : Int32) (w_rowMany : Int32) (w_thrown : Int32) (w_row : Nat → Int64) (hf : fX8_sells c_now c_rowMany c_thrown c_row x1 x2 x3 = some (r_, w_rowMany, w_thrown, w_row)) : MI l yX8_sells cX8_sells 7 .int (RM 3 68) D k [.ref q_this, .int x1, .int x2, .int x3] [oX8 q_this q_now q_text c_typed q_row c_rowMany c_thrown c_length c_at c_wrong q_read q_outerCell q_outerDoor c_outerMany q_walked c_walkedMany c_cameOut q_onWalks q_far q_aside q_wasFull q_undos q_was c_undoMany c_drawn q_kept q_isKept, aI k q_now 189 c_now, aJ k q_row 64 c_row] r_ [oX8 q_this q_now q_text c_typed q_row w_rowMany w_thrown c_length c_at c_wrong q_read q_outerCell q_outerDoor c_outerMany q_walked c_walkedMany c_cameOut q_onWalks q_far q_aside q_wasFull q_undos q_was c_undoMany c_drawn q_kept q_isKept, aI k q_now 189 c_now, aJ k q_row 64 w_row] := by
  refine mkMI' (own := "DoorWalkModel") (by decide) rfl (Nat.le_of_ble_eq_true rfl) ?_
  intro p e s m args below meth c Q A hret C
  refine ww_lv (lv' := [(0, .ref q_this), (1, .int x1), (2, .int x2), (3, .int x3)]) [0, 1, 2, 3] rfl ?_
  have hL47 : ∀ (n : Nat) (c_rowMany : Int32) (c_thrown : Int32) (c_row : Nat → Int64) (n1 : Int32) (n2 : Int32) (n3 : Int32) (n4 : Int32) (n5 : Int32) (n6 : Int32), lfix (fX8_sells_b47 c_now) (fun _ _ _ _ _ _ _ _ _ => none) n c_rowMany c_thrown c_row n1 n2 n3 n4 n5 n6 = some (r_, w_rowMany, w_thrown, w_row) → WW p l e (RM 3 68) s m args below meth c Q 7 D A 0 0 [oX8 q_this q_now q_text c_typed q_row c_rowMany c_thrown c_length c_at c_wrong q_read q_outerCell q_outerDoor c_outerMany q_walked c_walkedMany c_cameOut q_onWalks q_far q_aside q_wasFull q_undos q_was c_undoMany c_drawn q_kept q_isKept, aI k q_now 189 c_now, aJ k q_row 64 c_row] [(0, .ref q_this), (1, .int n1), (2, .int n2), (3, .int n3), (4, .int n4), (5, .int n5), (6, .int n6)] 47 [] := by
    intro n
    induction n with
    | zero => intro c_rowMany c_thrown c_row n1 n2 n3 n4 n5 n6 hf; cases hf
    | succ n ih47 =>
      obtain ⟨rc47, hrc47⟩ : ∃ f9, f9 = lfix (fX8_sells_b47 c_now) (fun _ _ _ _ _ _ _ _ _ => none) n := ⟨_, rfl⟩
      rw [← hrc47] at ih47
      intro c_rowMany c_thrown c_row n1 n2 n3 n4 n5 n6 hf
      have hf : fX8_sells_b47 c_now rc47 c_rowMany c_thrown c_row n1 n2 n3 n4 n5 n6 = some (r_, w_rowMany, w_thrown, w_row) := by rw [hrc47]; exact hf
      unfold fX8_sells_b47 at hf
      refine ww_iload (pc := 47) C dX8_sells_47 6 rfl ?_
      refine ww_aload_n (pc := 49) C dX8_sells_49 rfl 0 rfl ?_
      refine gf8_0 (pc := 50) C kf_X8_9 0 rfl rfl dX8_sells_50 ?_
      refine ww_iconst (pc := 53) C dX8_sells_53 kI_2 ?_
      obtain ⟨v1, h1, hf⟩ := bsome hf
      refine ww_iald (pc := 54) C 1 rfl h1 dX8_sells_54 ?_
      refine ww_icmp_ge (pc := 55) (tgt := 120) C dX8_sells_55 (by decide) (fun hc => ?_) (fun hc => ?_)
      · have hf := ifT hc hf
        refine ww_aload_n (pc := 120) C dX8_sells_120 rfl 0 rfl ?_
        refine ww_iconst (pc := 121) C dX8_sells_121 kI_0 ?_
        refine pf8_4 (pc := 122) (ws' := [oX8 q_this q_now q_text c_typed q_row (0 : Int32) c_thrown c_length c_at c_wrong q_read q_outerCell q_outerDoor c_outerMany q_walked c_walkedMany c_cameOut q_onWalks q_far q_aside q_wasFull q_undos q_was c_undoMany c_drawn q_kept q_isKept, aI k q_now 189 c_now, aJ k q_row 64 c_row]) C kf_X8_65 0 rfl (Nat.le_of_ble_eq_true rfl) rfl dX8_sells_122 ?_
        refine ww_aload_n (pc := 125) C dX8_sells_125 rfl 0 rfl ?_
        refine ww_iload (pc := 126) C dX8_sells_126 5 rfl ?_
        refine ww_i2l (pc := 128) C dX8_sells_128  ?_
        obtain ⟨v2, v3, h2, hf⟩ := bd2_some hf
        refine ww_callVv (pc := 129) (ws' := [oX8 q_this q_now q_text c_typed q_row v2 c_thrown c_length c_at c_wrong q_read q_outerCell q_outerDoor c_outerMany q_walked c_walkedMany c_cameOut q_onWalks q_far q_aside q_wasFull q_undos q_was c_undoMany c_drawn q_kept q_isKept, aI k q_now 189 c_now, aJ k q_row 64 v3]) (As := [.long ((n5).toInt64)]) (rest := []) C (tX8_tell l D k q_this q_now q_text q_row q_read q_outerCell q_outerDoor q_walked q_onWalks q_far q_aside q_wasFull q_undos q_was q_kept q_isKept c_typed (0 : Int32) c_thrown c_length c_at c_wrong c_outerMany c_walkedMany c_cameOut c_undoMany c_drawn c_row ((n5).toInt64) v2 v3 h2) cv_X8_182 ⟨⟨by decide, by decide⟩, rfl, rfl⟩ 0 rfl rfl [0, 2] rfl rfl rfl rfl rfl rfl (Nat.le_of_ble_eq_true rfl) ⟨Nat.zero_le _, Nat.zero_le _⟩ dX8_sells_129 ?_
        refine ww_iload (pc := 132) C dX8_sells_132 4 rfl ?_
        obtain ⟨e0, e1, e2, e3⟩ := ij4 hf
        exact hret _ _ 134 _ dX8_sells_134 rfl e0 (by rw [← e1, ← e2, ← e3])
      · have hf := ifF hc hf
        refine ww_aload_n (pc := 58) C dX8_sells_58 rfl 0 rfl ?_
        refine ww_iload (pc := 59) C dX8_sells_59 6 rfl ?_
        refine ww_iload_n (pc := 61) C dX8_sells_61 rfl 1 rfl ?_
        refine ww_iload_n (pc := 62) C dX8_sells_62 rfl 2 rfl ?_
        obtain ⟨v4, h4, hf⟩ := bsome hf
        refine ww_callVi0 (pc := 63) (As := [.int n6, .int n1, .int n2]) (rest := []) C (tX8_income l D k q_this q_now q_text q_row q_read q_outerCell q_outerDoor q_walked q_onWalks q_far q_aside q_wasFull q_undos q_was q_kept q_isKept c_typed c_rowMany c_thrown c_length c_at c_wrong c_outerMany c_walkedMany c_cameOut c_undoMany c_drawn c_now n6 n1 n2 v4 h4) cv_X8_97 ⟨⟨by decide, by decide⟩, rfl, rfl⟩ 0 rfl rfl [0, 1] rfl rfl rfl rfl (Nat.le_of_ble_eq_true rfl) ⟨Nat.zero_le _, Nat.zero_le _⟩ dX8_sells_63 (fun hb4 => ?_)
        refine ww_aload_n (pc := 66) C dX8_sells_66 rfl 0 rfl ?_
        refine ww_iload (pc := 67) C dX8_sells_67 6 rfl ?_
        refine ww_iload_n (pc := 69) C dX8_sells_69 rfl 3 rfl ?_
        obtain ⟨v5, h5, hf⟩ := bsome hf
        refine ww_callVi0 (pc := 70) (As := [.int n6, .int n3]) (rest := [.int v4]) C (tX8_wish l D k q_this q_now q_text q_row q_read q_outerCell q_outerDoor q_walked q_onWalks q_far q_aside q_wasFull q_undos q_was q_kept q_isKept c_typed c_rowMany c_thrown c_length c_at c_wrong c_outerMany c_walkedMany c_cameOut c_undoMany c_drawn c_now n6 n3 v5 h5) cv_X8_88 ⟨⟨by decide, by decide⟩, rfl, rfl⟩ 0 rfl rfl [0, 1] rfl rfl rfl rfl (Nat.le_of_ble_eq_true rfl) ⟨Nat.zero_le _, Nat.zero_le _⟩ dX8_sells_70 (fun hb5 => ?_)
        refine ww_imul (pc := 73) C dX8_sells_73  ?_
        refine ww_aload_n (pc := 74) C dX8_sells_74 rfl 0 rfl ?_
        refine ww_iload_n (pc := 75) C dX8_sells_75 rfl 1 rfl ?_
        refine ww_iload_n (pc := 76) C dX8_sells_76 rfl 2 rfl ?_
        refine ww_iload_n (pc := 77) C dX8_sells_77 rfl 3 rfl ?_
        obtain ⟨v6, h6, hf⟩ := bsome hf
        refine ww_callVi0 (pc := 78) (As := [.int n1, .int n2, .int n3]) (rest := [.int (v4 * v5)]) C (tX8_price l D k q_this q_now q_text q_row q_read q_outerCell q_outerDoor q_walked q_onWalks q_far q_aside q_wasFull q_undos q_was q_kept q_isKept c_typed c_rowMany c_thrown c_length c_at c_wrong c_outerMany c_walkedMany c_cameOut c_undoMany c_drawn c_now n1 n2 n3 v6 h6) cv_X8_76 ⟨⟨by decide, by decide⟩, rfl, rfl⟩ 0 rfl rfl [0, 1] rfl rfl rfl rfl (Nat.le_of_ble_eq_true rfl) ⟨Nat.zero_le _, Nat.zero_le _⟩ dX8_sells_78 (fun hb6 => ?_)
        refine ww_aload_n (pc := 81) C dX8_sells_81 rfl 0 rfl ?_
        refine ww_iload (pc := 82) C dX8_sells_82 6 rfl ?_
        refine ww_iload_n (pc := 84) C dX8_sells_84 rfl 3 rfl ?_
        obtain ⟨v7, h7, hf⟩ := bsome hf
        refine ww_callVi0 (pc := 85) (As := [.int n6, .int n3]) (rest := [.int v6, .int (v4 * v5)]) C (tX8_amount l D k q_this q_now q_text q_row q_read q_outerCell q_outerDoor q_walked q_onWalks q_far q_aside q_wasFull q_undos q_was q_kept q_isKept c_typed c_rowMany c_thrown c_length c_at c_wrong c_outerMany c_walkedMany c_cameOut c_undoMany c_drawn c_now n6 n3 v7 h7) cv_X8_91 ⟨⟨by decide, by decide⟩, rfl, rfl⟩ 0 rfl rfl [0, 1] rfl rfl rfl rfl (Nat.le_of_ble_eq_true rfl) ⟨Nat.zero_le _, Nat.zero_le _⟩ dX8_sells_85 (fun hb7 => ?_)
        refine ww_imul (pc := 88) C dX8_sells_88  ?_
        refine ww_aload_n (pc := 89) C dX8_sells_89 rfl 0 rfl ?_
        refine ww_iload (pc := 90) C dX8_sells_90 6 rfl ?_
        obtain ⟨v8, h8, hf⟩ := bsome hf
        refine ww_callVi0 (pc := 92) (As := [.int n6]) (rest := [.int (v6 * v7), .int (v4 * v5)]) C (tX8_wishes l D k q_this q_now q_text q_row q_read q_outerCell q_outerDoor q_walked q_onWalks q_far q_aside q_wasFull q_undos q_was q_kept q_isKept c_typed c_rowMany c_thrown c_length c_at c_wrong c_outerMany c_walkedMany c_cameOut c_undoMany c_drawn c_now n6 v8 h8) cv_X8_94 ⟨⟨by decide, by decide⟩, rfl, rfl⟩ 0 rfl rfl [0, 1] rfl rfl rfl rfl (Nat.le_of_ble_eq_true rfl) ⟨Nat.zero_le _, Nat.zero_le _⟩ dX8_sells_92 (fun hb8 => ?_)
        refine ww_imul (pc := 95) C dX8_sells_95  ?_
        refine ww_icmp_le (pc := 96) (tgt := 102) C dX8_sells_96 (by decide) (fun hc => ?_) (fun hc => ?_)
        · have hf := ifT hc hf
          refine ww_iload (pc := 102) C dX8_sells_102 4 rfl ?_
          refine ww_iconst (pc := 104) C dX8_sells_104 kI_1 ?_
          refine ww_iload (pc := 105) C dX8_sells_105 6 rfl ?_
          refine ww_ishl (pc := 107) C dX8_sells_107  ?_
          refine ww_ior (pc := 108) C dX8_sells_108  ?_
          obtain ⟨v9, h9, hf⟩ := bsome hf
          refine ww_nmi h9 ?_
          refine ww_istore (pc := 109) (lv' := [(4, .int v9), (0, .ref q_this), (1, .int n1), (2, .int n2), (3, .int n3), (5, .int n5), (6, .int n6)]) C dX8_sells_109 (by decide) rfl ?_
          obtain ⟨v10, h10, hf⟩ := bsome hf
          refine ww_iincN (pc := 111) (lv' := [(5, .int v10), (4, .int v9), (0, .ref q_this), (1, .int n1), (2, .int n2), (3, .int n3), (6, .int n6)]) (j := 5) C dX8_sells_111 kI_1 rfl h10 (by decide) rfl ?_
          obtain ⟨v11, h11, hf⟩ := bsome hf
          refine ww_iincN (pc := 114) (lv' := [(6, .int v11), (5, .int v10), (4, .int v9), (0, .ref q_this), (1, .int n1), (2, .int n2), (3, .int n3)]) (j := 6) C dX8_sells_114 kI_1 rfl h11 (by decide) rfl ?_
          refine ww_goto (pc := 117) (tgt := 47) C dX8_sells_117 (by decide) ?_
          exact ww_lv [3, 4, 5, 6, 2, 1, 0] rfl (ih47 c_rowMany c_thrown c_row n1 n2 n3 v9 v10 v11 hf)
        · have hf := ifF hc hf
          refine ww_goto (pc := 99) (tgt := 114) C dX8_sells_99 (by decide) ?_
          obtain ⟨v12, h12, hf⟩ := bsome hf
          refine ww_iincN (pc := 114) (lv' := [(6, .int v12), (0, .ref q_this), (1, .int n1), (2, .int n2), (3, .int n3), (4, .int n4), (5, .int n5)]) (j := 6) C dX8_sells_114 kI_1 rfl h12 (by decide) rfl ?_
          refine ww_goto (pc := 117) (tgt := 47) C dX8_sells_117 (by decide) ?_
          exact ww_lv [1, 2, 3, 4, 5, 6, 0] rfl (ih47 c_rowMany c_thrown c_row n1 n2 n3 n4 n5 v12 hf)
  unfold fX8_sells at hf
  refine ww_aload_n (pc := 0) C dX8_sells_0 rfl 0 rfl ?_
  refine ww_iconst (pc := 1) C dX8_sells_1 kI_0 ?_
  refine pf8_5 (pc := 2) (ws' := [oX8 q_this q_now q_text c_typed q_row c_rowMany (0 : Int32) c_length c_at c_wrong q_read q_outerCell q_outerDoor c_outerMany q_walked c_walkedMany c_cameOut q_onWalks q_far q_aside q_wasFull q_undos q_was c_undoMany c_drawn q_kept q_isKept, aI k q_now 189 c_now, aJ k q_row 64 c_row]) C kf_X8_61 0 rfl (Nat.le_of_ble_eq_true rfl) rfl dX8_sells_2 ?_
  refine ww_aload_n (pc := 5) C dX8_sells_5 rfl 0 rfl ?_
  refine ww_iload_n (pc := 6) C dX8_sells_6 rfl 1 rfl ?_
  refine ww_iload_n (pc := 7) C dX8_sells_7 rfl 2 rfl ?_
  obtain ⟨v1, h1, hf⟩ := bsome hf
  refine ww_callVi0 (pc := 8) (As := [.int x1, .int x2]) (rest := []) C (tX8_isPoint l D k q_this q_now q_text q_row q_read q_outerCell q_outerDoor q_walked q_onWalks q_far q_aside q_wasFull q_undos q_was q_kept q_isKept c_typed c_rowMany (0 : Int32) c_length c_at c_wrong c_outerMany c_walkedMany c_cameOut c_undoMany c_drawn c_now x1 x2 v1 h1) cv_X8_219 ⟨⟨by decide, by decide⟩, rfl, rfl⟩ 0 rfl rfl [0, 1] rfl rfl rfl rfl (Nat.le_of_ble_eq_true rfl) ⟨Nat.zero_le _, Nat.zero_le _⟩ dX8_sells_8 (fun hb1 => ?_)
  refine ww_if_eq (pc := 11) (tgt := 23) C dX8_sells_11 (by decide) (fun hc => ?_) (fun hc => ?_)
  · have hf := ifT hc hf
    refine ww_iconst (pc := 23) C dX8_sells_23 kI_m1 ?_
    obtain ⟨e0, e1, e2, e3⟩ := ij4 hf
    exact hret _ _ 24 _ dX8_sells_24 rfl e0 (by rw [← e1, ← e2, ← e3])
  · have hf := ifF hc hf
    refine ww_iload_n (pc := 14) C dX8_sells_14 rfl 3 rfl ?_
    refine ww_iconst (pc := 15) C dX8_sells_15 kI_0 ?_
    refine ww_iconst (pc := 16) C dX8_sells_16 kI_2 ?_
    obtain ⟨v2, h2, hf⟩ := bsome hf
    refine ww_callSi0 (pc := 17) (As := [.int x3, .int (0 : Int32), .int (2 : Int32)]) (rest := []) C (tX8_in l D k x3 (0 : Int32) (2 : Int32) v2 h2) cs_X8_72 ⟨⟨by decide, by decide⟩, rfl, rfl⟩ [] rfl rfl rfl rfl (Nat.le_of_ble_eq_true rfl) ⟨Nat.zero_le _, Nat.zero_le _⟩ dX8_sells_17 (fun hb2 => ?_)
    refine ww_if_ne (pc := 20) (tgt := 25) C dX8_sells_20 (by decide) (fun hc => ?_) (fun hc => ?_)
    · have hf := ifF hc hf
      refine ww_aload_n (pc := 25) C dX8_sells_25 rfl 0 rfl ?_
      refine gf8_0 (pc := 26) C kf_X8_9 0 rfl rfl dX8_sells_26 ?_
      refine ww_iconst (pc := 29) C dX8_sells_29 kI_1 ?_
      obtain ⟨v3, h3, hf⟩ := bsome hf
      refine ww_iald (pc := 30) C 1 rfl h3 dX8_sells_30 ?_
      refine ww_iconst (pc := 31) C dX8_sells_31 kI_1 ?_
      refine ww_icmp_eq (pc := 32) (tgt := 38) C dX8_sells_32 (by decide) (fun hc => ?_) (fun hc => ?_)
      · have hf := ifT hc hf
        refine ww_iconst (pc := 38) C dX8_sells_38 kI_0 ?_
        refine ww_istore (pc := 39) (lv' := [(4, .int (0 : Int32)), (0, .ref q_this), (1, .int x1), (2, .int x2), (3, .int x3)]) C dX8_sells_39 (by decide) rfl ?_
        refine ww_iconst (pc := 41) C dX8_sells_41 kI_0 ?_
        refine ww_istore (pc := 42) (lv' := [(5, .int (0 : Int32)), (4, .int (0 : Int32)), (0, .ref q_this), (1, .int x1), (2, .int x2), (3, .int x3)]) C dX8_sells_42 (by decide) rfl ?_
        refine ww_iconst (pc := 44) C dX8_sells_44 kI_0 ?_
        refine ww_istore (pc := 45) (lv' := [(6, .int (0 : Int32)), (5, .int (0 : Int32)), (4, .int (0 : Int32)), (0, .ref q_this), (1, .int x1), (2, .int x2), (3, .int x3)]) C dX8_sells_45 (by decide) rfl ?_
        exact ww_lv [3, 4, 5, 6, 2, 1, 0] rfl (hL47 FU c_rowMany (0 : Int32) c_row x1 x2 x3 (0 : Int32) (0 : Int32) (0 : Int32) hf)
      · have hf := ifF hc hf
        refine ww_bipush (pc := 35) C dX8_sells_35 kB_m3 ?_
        obtain ⟨e0, e1, e2, e3⟩ := ij4 hf
        exact hret _ _ 37 _ dX8_sells_37 rfl e0 (by rw [← e1, ← e2, ← e3])
    · have hf := ifT hc hf
      refine ww_iconst (pc := 23) C dX8_sells_23 kI_m1 ?_
      obtain ⟨e0, e1, e2, e3⟩ := ij4 hf
      exact hret _ _ 24 _ dX8_sells_24 rfl e0 (by rw [← e1, ← e2, ← e3])
