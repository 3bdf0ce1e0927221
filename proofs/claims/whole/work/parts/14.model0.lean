def fX8_n (c_now : Nat → Int32) : Option Int32 := (ald 189 (0 : Int32) c_now).bind fun v1 => some (v1)
set_option maxHeartbeats 4000000 in
set_option maxRecDepth 100000 in
theorem tX8_n (l : Launch) (D : va_G) (k : Nat → ClassId) (q_this q_now q_text q_row q_read q_outerCell q_outerDoor q_walked q_onWalks q_far q_aside q_wasFull q_undos q_was q_kept q_isKept : Nat) (c_typed : Int32) (c_rowMany : Int32) (c_thrown : Int32) (c_length : Int32) (c_at : Int32) (c_wrong : Int32) (c_outerMany : Int32) (c_walkedMany : Int32) (c_cameOut : Int32) (c_undoMany : Int32) (c_drawn : Int32) (c_now : Nat → Int32)  (r_ : Int32) (hf : fX8_n c_now = some (r_)) : MI l yX8_n cX8_n 1 .int (RM 0 0) D k [.ref q_this] [oX8 q_this q_now q_text c_typed q_row c_rowMany c_thrown c_length c_at c_wrong q_read q_outerCell q_outerDoor c_outerMany q_walked c_walkedMany c_cameOut q_onWalks q_far q_aside q_wasFull q_undos q_was c_undoMany c_drawn q_kept q_isKept, aI k q_now 189 c_now] r_ [oX8 q_this q_now q_text c_typed q_row c_rowMany c_thrown c_length c_at c_wrong q_read q_outerCell q_outerDoor c_outerMany q_walked c_walkedMany c_cameOut q_onWalks q_far q_aside q_wasFull q_undos q_was c_undoMany c_drawn q_kept q_isKept, aI k q_now 189 c_now] := by
  refine mkMI' (own := "DoorWalkModel") (by decide) rfl (Nat.le_of_ble_eq_true rfl) ?_
  intro p e s m args below meth c Q A hret C
  refine ww_lv (lv' := [(0, .ref q_this)]) [0] rfl ?_
  unfold fX8_n at hf
  refine ww_aload_n (pc := 0) C dX8_n_0 rfl 0 rfl ?_
  refine gf8_0 (pc := 1) C kf_X8_9 0 rfl rfl dX8_n_1 ?_
  refine ww_iconst (pc := 4) C dX8_n_4 kI_0 ?_
  obtain ⟨v1, h1, hf⟩ := bsome hf
  refine ww_iald (pc := 5) C 1 rfl h1 dX8_n_5 ?_
  obtain e0 := ij1 hf
  exact hret _ _ 6 _ dX8_n_6 rfl e0 rfl
def fX8_place (c_now : Nat → Int32) (x1 : Int32) (x2 : Int32) : Option Int32 := (fX8_n c_now).bind fun v1 => some ((((x1 * ((((2 : Int32) * v1) + (3 : Int32)) - x1)) / (2 : Int32)) + x2))
set_option maxHeartbeats 4000000 in
set_option maxRecDepth 100000 in
theorem tX8_place (l : Launch) (D : va_G) (k : Nat → ClassId) (q_this q_now q_text q_row q_read q_outerCell q_outerDoor q_walked q_onWalks q_far q_aside q_wasFull q_undos q_was q_kept q_isKept : Nat) (c_typed : Int32) (c_rowMany : Int32) (c_thrown : Int32) (c_length : Int32) (c_at : Int32) (c_wrong : Int32) (c_outerMany : Int32) (c_walkedMany : Int32) (c_cameOut : Int32) (c_undoMany : Int32) (c_drawn : Int32) (c_now : Nat → Int32) (x1 : Int32) (x2 : Int32) (r_ : Int32) (hf : fX8_place c_now x1 x2 = some (r_)) : MI l yX8_place cX8_place 3 .int (RM 1 20) D k [.ref q_this, .int x1, .int x2] [oX8 q_this q_now q_text c_typed q_row c_rowMany c_thrown c_length c_at c_wrong q_read q_outerCell q_outerDoor c_outerMany q_walked c_walkedMany c_cameOut q_onWalks q_far q_aside q_wasFull q_undos q_was c_undoMany c_drawn q_kept q_isKept, aI k q_now 189 c_now] r_ [oX8 q_this q_now q_text c_typed q_row c_rowMany c_thrown c_length c_at c_wrong q_read q_outerCell q_outerDoor c_outerMany q_walked c_walkedMany c_cameOut q_onWalks q_far q_aside q_wasFull q_undos q_was c_undoMany c_drawn q_kept q_isKept, aI k q_now 189 c_now] := by
  refine mkMI' (own := "DoorWalkModel") (by decide) rfl (Nat.le_of_ble_eq_true rfl) ?_
  intro p e s m args below meth c Q A hret C
  refine ww_lv (lv' := [(0, .ref q_this), (1, .int x1), (2, .int x2)]) [0, 1, 2] rfl ?_
  unfold fX8_place at hf
  refine ww_iload_n (pc := 0) C dX8_place_0 rfl 1 rfl ?_
  refine ww_iconst (pc := 1) C dX8_place_1 kI_2 ?_
  refine ww_aload_n (pc := 2) C dX8_place_2 rfl 0 rfl ?_
  obtain ⟨v1, h1, hf⟩ := bsome hf
  refine ww_callVi0 (pc := 3) (As := []) (rest := [.int (2 : Int32), .int x1]) C (tX8_n l D k q_this q_now q_text q_row q_read q_outerCell q_outerDoor q_walked q_onWalks q_far q_aside q_wasFull q_undos q_was q_kept q_isKept c_typed c_rowMany c_thrown c_length c_at c_wrong c_outerMany c_walkedMany c_cameOut c_undoMany c_drawn c_now v1 h1) cv_X8_68 ⟨⟨by decide, by decide⟩, rfl, rfl⟩ 0 rfl rfl [0, 1] rfl rfl rfl rfl (Nat.le_of_ble_eq_true rfl) ⟨Nat.zero_le _, Nat.zero_le _⟩ dX8_place_3 (fun hb1 => ?_)
  refine ww_imul (pc := 6) C dX8_place_6  ?_
  refine ww_iconst (pc := 7) C dX8_place_7 kI_3 ?_
  refine ww_iadd (pc := 8) C dX8_place_8  ?_
  refine ww_iload_n (pc := 9) C dX8_place_9 rfl 1 rfl ?_
  refine ww_isub (pc := 10) C dX8_place_10  ?_
  refine ww_imul (pc := 11) C dX8_place_11  ?_
  refine ww_iconst (pc := 12) C dX8_place_12 kI_2 ?_
  refine ww_idivC (pc := 13) C dX8_place_13 (by decide) ?_
  refine ww_iload_n (pc := 14) C dX8_place_14 rfl 2 rfl ?_
  refine ww_iadd (pc := 15) C dX8_place_15  ?_
  obtain e0 := ij1 hf
  exact hret _ _ 16 _ dX8_place_16 rfl e0 rfl
def fX8_layFirst_b52 (rc2 : (Nat → Int32) → Int32 → Option ((Nat → Int32))) (rc12 : (Nat → Int32) → Int32 → Int32 → Option ((Nat → Int32))) (c_now : Nat → Int32) (n1 : Int32) (n2 : Int32) (s1 : Int32) (s2 : Int32) : Option ((Nat → Int32)) := (ast 189 s1 c_now s2).bind fun v1 => (some (n2 + (1 : Int32))).bind fun v2 => rc12 v1 n1 v2
def fX8_layFirst_b12 (rc2 : (Nat → Int32) → Int32 → Option ((Nat → Int32))) (rc12 : (Nat → Int32) → Int32 → Int32 → Option ((Nat → Int32))) (c_now : Nat → Int32) (n1 : Int32) (n2 : Int32) : Option ((Nat → Int32)) := (fX8_n c_now).bind fun v1 => if (v1 - n1) < n2 then (some (n1 + (1 : Int32))).bind fun v2 => rc2 c_now v2 else (fX8_place c_now n1 n2).bind fun v3 => if n1 ≤ 0 then if n2 ≤ 0 then fX8_layFirst_b52 rc2 rc12 c_now n1 n2 ((36 : Int32) + v3) (2 : Int32) else fX8_layFirst_b52 rc2 rc12 c_now n1 n2 ((36 : Int32) + v3) (1 : Int32) else fX8_layFirst_b52 rc2 rc12 c_now n1 n2 ((36 : Int32) + v3) (0 : Int32)
def fX8_layFirst_b2 (rc2 : (Nat → Int32) → Int32 → Option ((Nat → Int32))) (c_now : Nat → Int32) (n1 : Int32) : Option ((Nat → Int32)) := (fX8_n c_now).bind fun v1 => if v1 < n1 then some (c_now) else lfix (fX8_layFirst_b12 rc2) (fun _ _ _ => none) FU c_now n1 (0 : Int32)
def fX8_layFirst (c_now : Nat → Int32) : Option ((Nat → Int32)) := lfix (fX8_layFirst_b2) (fun _ _ => none) FU c_now (0 : Int32)
set_option maxHeartbeats 4000000 in
set_option maxRecDepth 100000 in
theorem tX8_layFirst (l : Launch) (D : va_G) (k : Nat → ClassId) (q_this q_now q_text q_row q_read q_outerCell q_outerDoor q_walked q_onWalks q_far q_aside q_wasFull q_undos q_was q_kept q_isKept : Nat) (c_typed : Int32) (c_rowMany : Int32) (c_thrown : Int32) (c_length : Int32) (c_at : Int32) (c_wrong : Int32) (c_outerMany : Int32) (c_walkedMany : Int32) (c_cameOut : Int32) (c_undoMany : Int32) (c_drawn : Int32) (c_now : Nat → Int32)  (w_now : Nat → Int32) (hf : fX8_layFirst c_now = some (w_now)) : MV l yX8_layFirst cX8_layFirst 3 (RM 2 42) D k [.ref q_this] [oX8 q_this q_now q_text c_typed q_row c_rowMany c_thrown c_length c_at c_wrong q_read q_outerCell q_outerDoor c_outerMany q_walked c_walkedMany c_cameOut q_onWalks q_far q_aside q_wasFull q_undos q_was c_undoMany c_drawn q_kept q_isKept, aI k q_now 189 c_now] [oX8 q_this q_now q_text c_typed q_row c_rowMany c_thrown c_length c_at c_wrong q_read q_outerCell q_outerDoor c_outerMany q_walked c_walkedMany c_cameOut q_onWalks q_far q_aside q_wasFull q_undos q_was c_undoMany c_drawn q_kept q_isKept, aI k q_now 189 w_now] := by
  refine mkMV' (own := "DoorWalkModel") (by decide) rfl (Nat.le_of_ble_eq_true rfl) ?_
  intro p e s m args below meth c Q A hret C
  refine ww_lv (lv' := [(0, .ref q_this)]) [0] rfl ?_
  have hL2 : ∀ (n : Nat) (c_now : Nat → Int32) (n1 : Int32), lfix (fX8_layFirst_b2) (fun _ _ => none) n c_now n1 = some (w_now) → WW p l e (RM 2 42) s m args below meth c Q 3 D A 0 0 [oX8 q_this q_now q_text c_typed q_row c_rowMany c_thrown c_length c_at c_wrong q_read q_outerCell q_outerDoor c_outerMany q_walked c_walkedMany c_cameOut q_onWalks q_far q_aside q_wasFull q_undos q_was c_undoMany c_drawn q_kept q_isKept, aI k q_now 189 c_now] [(0, .ref q_this), (1, .int n1)] 2 [] := by
    intro n
    induction n with
    | zero => intro c_now n1 hf; cases hf
    | succ n ih2 =>
      obtain ⟨rc2, hrc2⟩ : ∃ f9, f9 = lfix (fX8_layFirst_b2) (fun _ _ => none) n := ⟨_, rfl⟩
      rw [← hrc2] at ih2
      have hL12 : ∀ (n : Nat) (c_now : Nat → Int32) (n1 : Int32) (n2 : Int32), lfix (fX8_layFirst_b12 rc2) (fun _ _ _ => none) n c_now n1 n2 = some (w_now) → WW p l e (RM 2 42) s m args below meth c Q 3 D A 0 0 [oX8 q_this q_now q_text c_typed q_row c_rowMany c_thrown c_length c_at c_wrong q_read q_outerCell q_outerDoor c_outerMany q_walked c_walkedMany c_cameOut q_onWalks q_far q_aside q_wasFull q_undos q_was c_undoMany c_drawn q_kept q_isKept, aI k q_now 189 c_now] [(0, .ref q_this), (1, .int n1), (2, .int n2)] 12 [] := by
        intro n
        induction n with
        | zero => intro c_now n1 n2 hf; cases hf
        | succ n ih12 =>
          obtain ⟨rc12, hrc12⟩ : ∃ f9, f9 = lfix (fX8_layFirst_b12 rc2) (fun _ _ _ => none) n := ⟨_, rfl⟩
          rw [← hrc12] at ih12
          have hJ52 : ∀ (c_now : Nat → Int32) (n1 : Int32) (n2 : Int32) (s1 : Int32) (s2 : Int32), fX8_layFirst_b52 rc2 rc12 c_now n1 n2 s1 s2 = some (w_now) → WW p l e (RM 2 42) s m args below meth c Q 3 D A 0 0 [oX8 q_this q_now q_text c_typed q_row c_rowMany c_thrown c_length c_at c_wrong q_read q_outerCell q_outerDoor c_outerMany q_walked c_walkedMany c_cameOut q_onWalks q_far q_aside q_wasFull q_undos q_was c_undoMany c_drawn q_kept q_isKept, aI k q_now 189 c_now] [(0, .ref q_this), (1, .int n1), (2, .int n2)] 52 [.int s2, .int s1, .ref q_now] := by
            intro c_now n1 n2 s1 s2
            intro hf
            unfold fX8_layFirst_b52 at hf
            obtain ⟨v1, h1, hf⟩ := bsome hf
            refine ww_iast (pc := 52) (ws' := [oX8 q_this q_now q_text c_typed q_row c_rowMany c_thrown c_length c_at c_wrong q_read q_outerCell q_outerDoor c_outerMany q_walked c_walkedMany c_cameOut q_onWalks q_far q_aside q_wasFull q_undos q_was c_undoMany c_drawn q_kept q_isKept, aI k q_now 189 v1]) C 1 rfl h1 rfl dX8_layFirst_52 ?_
            obtain ⟨v2, h2, hf⟩ := bsome hf
            refine ww_iincN (pc := 53) (lv' := [(2, .int v2), (0, .ref q_this), (1, .int n1)]) (j := 2) C dX8_layFirst_53 kI_1 rfl h2 (by decide) rfl ?_
            refine ww_goto (pc := 56) (tgt := 12) C dX8_layFirst_56 (by decide) ?_
            exact ww_lv [1, 2, 0] rfl (ih12 v1 n1 v2 hf)
          intro c_now n1 n2 hf
          have hf : fX8_layFirst_b12 rc2 rc12 c_now n1 n2 = some (w_now) := by rw [hrc12]; exact hf
          unfold fX8_layFirst_b12 at hf
          refine ww_iload_n (pc := 12) C dX8_layFirst_12 rfl 2 rfl ?_
          refine ww_aload_n (pc := 13) C dX8_layFirst_13 rfl 0 rfl ?_
          obtain ⟨v1, h1, hf⟩ := bsome hf
          refine ww_callVi0 (pc := 14) (As := []) (rest := [.int n2]) C (tX8_n l D k q_this q_now q_text q_row q_read q_outerCell q_outerDoor q_walked q_onWalks q_far q_aside q_wasFull q_undos q_was q_kept q_isKept c_typed c_rowMany c_thrown c_length c_at c_wrong c_outerMany c_walkedMany c_cameOut c_undoMany c_drawn c_now v1 h1) cv_X8_68 ⟨⟨by decide, by decide⟩, rfl, rfl⟩ 0 rfl rfl [0, 1] rfl rfl rfl rfl (Nat.le_of_ble_eq_true rfl) ⟨Nat.zero_le _, Nat.zero_le _⟩ dX8_layFirst_14 (fun hb1 => ?_)
          refine ww_iload_n (pc := 17) C dX8_layFirst_17 rfl 1 rfl ?_
          refine ww_isub (pc := 18) C dX8_layFirst_18  ?_
          refine ww_icmp_gt (pc := 19) (tgt := 59) C dX8_layFirst_19 (by decide) (fun hc => ?_) (fun hc => ?_)
          · have hf := ifT hc hf
            obtain ⟨v2, h2, hf⟩ := bsome hf
            refine ww_iincN (pc := 59) (lv' := [(1, .int v2), (0, .ref q_this), (2, .int n2)]) (j := 1) C dX8_layFirst_59 kI_1 rfl h2 (by decide) rfl ?_
            refine ww_goto (pc := 62) (tgt := 2) C dX8_layFirst_62 (by decide) ?_
            exact ww_lv [1, 0] rfl (ih2 c_now v2 hf)
          · have hf := ifF hc hf
            refine ww_aload_n (pc := 22) C dX8_layFirst_22 rfl 0 rfl ?_
            refine gf8_0 (pc := 23) C kf_X8_9 0 rfl rfl dX8_layFirst_23 ?_
            refine ww_bipush (pc := 26) C dX8_layFirst_26 kB_36 ?_
            refine ww_aload_n (pc := 28) C dX8_layFirst_28 rfl 0 rfl ?_
            refine ww_iload_n (pc := 29) C dX8_layFirst_29 rfl 1 rfl ?_
            refine ww_iload_n (pc := 30) C dX8_layFirst_30 rfl 2 rfl ?_
            obtain ⟨v3, h3, hf⟩ := bsome hf
            refine ww_callVi0 (pc := 31) (As := [.int n1, .int n2]) (rest := [.int (36 : Int32), .ref q_now]) C (tX8_place l D k q_this q_now q_text q_row q_read q_outerCell q_outerDoor q_walked q_onWalks q_far q_aside q_wasFull q_undos q_was q_kept q_isKept c_typed c_rowMany c_thrown c_length c_at c_wrong c_outerMany c_walkedMany c_cameOut c_undoMany c_drawn c_now n1 n2 v3 h3) cv_X8_80 ⟨⟨by decide, by decide⟩, rfl, rfl⟩ 0 rfl rfl [0, 1] rfl rfl rfl rfl (Nat.le_of_ble_eq_true rfl) ⟨Nat.zero_le _, Nat.zero_le _⟩ dX8_layFirst_31 (fun hb3 => ?_)
            refine ww_iadd (pc := 34) C dX8_layFirst_34  ?_
            refine ww_iload_n (pc := 35) C dX8_layFirst_35 rfl 1 rfl ?_
            refine ww_if_le (pc := 36) (tgt := 43) C dX8_layFirst_36 (by decide) (fun hc => ?_) (fun hc => ?_)
            · have hf := ifT hc hf
              refine ww_iload_n (pc := 43) C dX8_layFirst_43 rfl 2 rfl ?_
              refine ww_if_le (pc := 44) (tgt := 51) C dX8_layFirst_44 (by decide) (fun hc => ?_) (fun hc => ?_)
              · have hf := ifT hc hf
                refine ww_iconst (pc := 51) C dX8_layFirst_51 kI_2 ?_
                exact hJ52 c_now n1 n2 ((36 : Int32) + v3) (2 : Int32) hf
              · have hf := ifF hc hf
                refine ww_iconst (pc := 47) C dX8_layFirst_47 kI_1 ?_
                refine ww_goto (pc := 48) (tgt := 52) C dX8_layFirst_48 (by decide) ?_
                exact hJ52 c_now n1 n2 ((36 : Int32) + v3) (1 : Int32) hf
            · have hf := ifF hc hf
              refine ww_iconst (pc := 39) C dX8_layFirst_39 kI_0 ?_
              refine ww_goto (pc := 40) (tgt := 52) C dX8_layFirst_40 (by decide) ?_
              exact hJ52 c_now n1 n2 ((36 : Int32) + v3) (0 : Int32) hf
      intro c_now n1 hf
      have hf : fX8_layFirst_b2 rc2 c_now n1 = some (w_now) := by rw [hrc2]; exact hf
      unfold fX8_layFirst_b2 at hf
      refine ww_iload_n (pc := 2) C dX8_layFirst_2 rfl 1 rfl ?_
      refine ww_aload_n (pc := 3) C dX8_layFirst_3 rfl 0 rfl ?_
      obtain ⟨v1, h1, hf⟩ := bsome hf
      refine ww_callVi0 (pc := 4) (As := []) (rest := [.int n1]) C (tX8_n l D k q_this q_now q_text q_row q_read q_outerCell q_outerDoor q_walked q_onWalks q_far q_aside q_wasFull q_undos q_was q_kept q_isKept c_typed c_rowMany c_thrown c_length c_at c_wrong c_outerMany c_walkedMany c_cameOut c_undoMany c_drawn c_now v1 h1) cv_X8_68 ⟨⟨by decide, by decide⟩, rfl, rfl⟩ 0 rfl rfl [0, 1] rfl rfl rfl rfl (Nat.le_of_ble_eq_true rfl) ⟨Nat.zero_le _, Nat.zero_le _⟩ dX8_layFirst_4 (fun hb1 => ?_)
      refine ww_icmp_gt (pc := 7) (tgt := 65) C dX8_layFirst_7 (by decide) (fun hc => ?_) (fun hc => ?_)
      · have hf := ifT hc hf
        obtain e0 := ij1 hf
        exact hret _ _ 65 dX8_layFirst_65 (by rw [← e0])
      · have hf := ifF hc hf
        refine ww_iconst (pc := 10) C dX8_layFirst_10 kI_0 ?_
        refine ww_istore_n (pc := 11) (lv' := [(2, .int (0 : Int32)), (0, .ref q_this), (1, .int n1)]) C dX8_layFirst_11 rfl (by decide) rfl ?_
        exact ww_lv [1, 2, 0] rfl (hL12 FU c_now n1 (0 : Int32) hf)
  unfold fX8_layFirst at hf
  refine ww_iconst (pc := 0) C dX8_layFirst_0 kI_0 ?_
  refine ww_istore_n (pc := 1) (lv' := [(1, .int (0 : Int32)), (0, .ref q_this)]) C dX8_layFirst_1 rfl (by decide) rfl ?_
  exact ww_lv [1, 0] rfl (hL2 FU c_now (0 : Int32) hf)
def fX8_thrown (c_thrown : Int32) : Option Int32 := some (c_thrown)
set_option maxHeartbeats 4000000 in
set_option maxRecDepth 100000 in
theorem tX8_thrown (l : Launch) (D : va_G) (k : Nat → ClassId) (q_this q_now q_text q_row q_read q_outerCell q_outerDoor q_walked q_onWalks q_far q_aside q_wasFull q_undos q_was q_kept q_isKept : Nat) (c_typed : Int32) (c_rowMany : Int32) (c_thrown : Int32) (c_length : Int32) (c_at : Int32) (c_wrong : Int32) (c_outerMany : Int32) (c_walkedMany : Int32) (c_cameOut : Int32) (c_undoMany : Int32) (c_drawn : Int32)  (r_ : Int32) (hf : fX8_thrown c_thrown = some (r_)) : MI l yX8_thrown cX8_thrown 1 .int (RM 0 0) D k [.ref q_this] [oX8 q_this q_now q_text c_typed q_row c_rowMany c_thrown c_length c_at c_wrong q_read q_outerCell q_outerDoor c_outerMany q_walked c_walkedMany c_cameOut q_onWalks q_far q_aside q_wasFull q_undos q_was c_undoMany c_drawn q_kept q_isKept] r_ [oX8 q_this q_now q_text c_typed q_row c_rowMany c_thrown c_length c_at c_wrong q_read q_outerCell q_outerDoor c_outerMany q_walked c_walkedMany c_cameOut q_onWalks q_far q_aside q_wasFull q_undos q_was c_undoMany c_drawn q_kept q_isKept] := by
  refine mkMI' (own := "DoorWalkModel") (by decide) rfl (Nat.le_of_ble_eq_true rfl) ?_
  intro p e s m args below meth c Q A hret C
  refine ww_lv (lv' := [(0, .ref q_this)]) [0] rfl ?_
  unfold fX8_thrown at hf
  refine ww_aload_n (pc := 0) C dX8_thrown_0 rfl 0 rfl ?_
  refine gf8_5 (pc := 1) C kf_X8_61 0 rfl rfl dX8_thrown_1 ?_
  obtain e0 := ij1 hf
  exact hret _ _ 4 _ dX8_thrown_4 rfl e0 rfl
def fX8_in (x1 : Int32) (x2 : Int32) (x3 : Int32) : Option Int32 := if x1 < x2 then some ((0 : Int32)) else if x3 < x1 then some ((0 : Int32)) else some ((1 : Int32))
set_option maxHeartbeats 4000000 in
set_option maxRecDepth 100000 in
theorem tX8_in (l : Launch) (D : va_G) (k : Nat → ClassId)   (x1 : Int32) (x2 : Int32) (x3 : Int32) (r_ : Int32) (hf : fX8_in x1 x2 x3 = some (r_)) : MI l yX8_in cX8_in 3 .boolean (RM 0 0) D k [.int x1, .int x2, .int x3] [] r_ [] := by
  refine mkMI' (own := "DoorWalkModel") (by decide) rfl (Nat.le_of_ble_eq_true rfl) ?_
  intro p e s m args below meth c Q A hret C
  refine ww_lv (lv' := [(0, .int x1), (1, .int x2), (2, .int x3)]) [0, 1, 2] rfl ?_
  unfold fX8_in at hf
  refine ww_iload_n (pc := 0) C dX8_in_0 rfl 0 rfl ?_
  refine ww_iload_n (pc := 1) C dX8_in_1 rfl 1 rfl ?_
  refine ww_icmp_lt (pc := 2) (tgt := 14) C dX8_in_2 (by decide) (fun hc => ?_) (fun hc => ?_)
  · have hf := ifT hc hf
    refine ww_iconst (pc := 14) C dX8_in_14 kI_0 ?_
    obtain e0 := ij1 hf
    exact hret _ _ 15 _ dX8_in_15 (by decide) e0 rfl
  · have hf := ifF hc hf
    refine ww_iload_n (pc := 5) C dX8_in_5 rfl 0 rfl ?_
    refine ww_iload_n (pc := 6) C dX8_in_6 rfl 2 rfl ?_
    refine ww_icmp_gt (pc := 7) (tgt := 14) C dX8_in_7 (by decide) (fun hc => ?_) (fun hc => ?_)
    · have hf := ifT hc hf
      refine ww_iconst (pc := 14) C dX8_in_14 kI_0 ?_
      obtain e0 := ij1 hf
      exact hret _ _ 15 _ dX8_in_15 (by decide) e0 rfl
    · have hf := ifF hc hf
      refine ww_iconst (pc := 10) C dX8_in_10 kI_1 ?_
      refine ww_goto (pc := 11) (tgt := 15) C dX8_in_11 (by decide) ?_
      obtain e0 := ij1 hf
      exact hret _ _ 15 _ dX8_in_15 (by decide) e0 rfl
def fX8_lost (c_thrown : Int32) : Option (Int32 × Int32) := some ((0 : Int32), (1 : Int32))
set_option maxHeartbeats 4000000 in
set_option maxRecDepth 100000 in
theorem tX8_lost (l : Launch) (D : va_G) (k : Nat → ClassId) (q_this q_now q_text q_row q_read q_outerCell q_outerDoor q_walked q_onWalks q_far q_aside q_wasFull q_undos q_was q_kept q_isKept : Nat) (c_typed : Int32) (c_rowMany : Int32) (c_thrown : Int32) (c_length : Int32) (c_at : Int32) (c_wrong : Int32) (c_outerMany : Int32) (c_walkedMany : Int32) (c_cameOut : Int32) (c_undoMany : Int32) (c_drawn : Int32)  (r_ : Int32) (w_thrown : Int32) (hf : fX8_lost c_thrown = some (r_, w_thrown)) : MI l yX8_lost cX8_lost 1 .int (RM 0 0) D k [.ref q_this] [oX8 q_this q_now q_text c_typed q_row c_rowMany c_thrown c_length c_at c_wrong q_read q_outerCell q_outerDoor c_outerMany q_walked c_walkedMany c_cameOut q_onWalks q_far q_aside q_wasFull q_undos q_was c_undoMany c_drawn q_kept q_isKept] r_ [oX8 q_this q_now q_text c_typed q_row c_rowMany w_thrown c_length c_at c_wrong q_read q_outerCell q_outerDoor c_outerMany q_walked c_walkedMany c_cameOut q_onWalks q_far q_aside q_wasFull q_undos q_was c_undoMany c_drawn q_kept q_isKept] := by
  refine mkMI' (own := "DoorWalkModel") (by decide) rfl (Nat.le_of_ble_eq_true rfl) ?_
  intro p e s m args below meth c Q A hret C
  refine ww_lv (lv' := [(0, .ref q_this)]) [0] rfl ?_
  unfold fX8_lost at hf
  refine ww_aload_n (pc := 0) C dX8_lost_0 rfl 0 rfl ?_
  refine ww_iconst (pc := 1) C dX8_lost_1 kI_1 ?_
  refine pf8_5 (pc := 2) (ws' := [oX8 q_this q_now q_text c_typed q_row c_rowMany (1 : Int32) c_length c_at c_wrong q_read q_outerCell q_outerDoor c_outerMany q_walked c_walkedMany c_cameOut q_onWalks q_far q_aside q_wasFull q_undos q_was c_undoMany c_drawn q_kept q_isKept]) C kf_X8_61 0 rfl (Nat.le_of_ble_eq_true rfl) rfl dX8_lost_2 ?_
  refine ww_iconst (pc := 5) C dX8_lost_5 kI_0 ?_
  obtain ⟨e0, e1⟩ := ij2 hf
  exact hret _ _ 6 _ dX8_lost_6 rfl e0 (by rw [← e1])
def fX8_tell (c_rowMany : Int32) (c_row : Nat → Int64) (x1 : Int64) : Option (Int32 × (Nat → Int64)) := (astL 64 c_rowMany c_row x1).bind fun v1 => (some (c_rowMany + (1 : Int32))).bind fun v2 => some (v2, v1)
set_option maxHeartbeats 4000000 in
set_option maxRecDepth 100000 in
theorem tX8_tell (l : Launch) (D : va_G) (k : Nat → ClassId) (q_this q_now q_text q_row q_read q_outerCell q_outerDoor q_walked q_onWalks q_far q_aside q_wasFull q_undos q_was q_kept q_isKept : Nat) (c_typed : Int32) (c_rowMany : Int32) (c_thrown : Int32) (c_length : Int32) (c_at : Int32) (c_wrong : Int32) (c_outerMany : Int32) (c_walkedMany : Int32) (c_cameOut : Int32) (c_undoMany : Int32) (c_drawn : Int32) (c_row : Nat → Int64) (x1 : Int64) (w_rowMany : Int32) (w_row : Nat → Int64) (hf : fX8_tell c_rowMany c_row x1 = some (w_rowMany, w_row)) : MV l yX8_tell cX8_tell 3 (RM 0 0) D k [.ref q_this, .long x1] [oX8 q_this q_now q_text c_typed q_row c_rowMany c_thrown c_length c_at c_wrong q_read q_outerCell q_outerDoor c_outerMany q_walked c_walkedMany c_cameOut q_onWalks q_far q_aside q_wasFull q_undos q_was c_undoMany c_drawn q_kept q_isKept, aJ k q_row 64 c_row] [oX8 q_this q_now q_text c_typed q_row w_rowMany c_thrown c_length c_at c_wrong q_read q_outerCell q_outerDoor c_outerMany q_walked c_walkedMany c_cameOut q_onWalks q_far q_aside q_wasFull q_undos q_was c_undoMany c_drawn q_kept q_isKept, aJ k q_row 64 w_row] := by
  refine mkMV' (own := "DoorWalkModel") (by decide) rfl (Nat.le_of_ble_eq_true rfl) ?_
  intro p e s m args below meth c Q A hret C
  refine ww_lv (lv' := [(0, .ref q_this), (1, .long x1)]) [0, 1] rfl ?_
  unfold fX8_tell at hf
  refine ww_aload_n (pc := 0) C dX8_tell_0 rfl 0 rfl ?_
  refine gf8_3 (pc := 1) C kf_X8_17 0 rfl rfl dX8_tell_1 ?_
  refine ww_aload_n (pc := 4) C dX8_tell_4 rfl 0 rfl ?_
  refine gf8_4 (pc := 5) C kf_X8_65 0 rfl rfl dX8_tell_5 ?_
  refine ww_lload_n (pc := 8) C dX8_tell_8 rfl 1 rfl ?_
  obtain ⟨v1, h1, hf⟩ := bsome hf
  refine ww_last (pc := 9) (ws' := [oX8 q_this q_now q_text c_typed q_row c_rowMany c_thrown c_length c_at c_wrong q_read q_outerCell q_outerDoor c_outerMany q_walked c_walkedMany c_cameOut q_onWalks q_far q_aside q_wasFull q_undos q_was c_undoMany c_drawn q_kept q_isKept, aJ k q_row 64 v1]) C 1 rfl h1 rfl dX8_tell_9 ?_
  refine ww_aload_n (pc := 10) C dX8_tell_10 rfl 0 rfl ?_
  refine ww_dup (pc := 11) C dX8_tell_11 rfl ?_
  refine gf8_4 (pc := 12) C kf_X8_65 0 rfl rfl dX8_tell_12 ?_
  refine ww_iconst (pc := 15) C dX8_tell_15 kI_1 ?_
  refine ww_iadd (pc := 16) C dX8_tell_16  ?_
  obtain ⟨v2, h2, hf⟩ := bsome hf
  refine ww_nmi h2 ?_
  refine pf8_4 (pc := 17) (ws' := [oX8 q_this q_now q_text c_typed q_row v2 c_thrown c_length c_at c_wrong q_read q_outerCell q_outerDoor c_outerMany q_walked c_walkedMany c_cameOut q_onWalks q_far q_aside q_wasFull q_undos q_was c_undoMany c_drawn q_kept q_isKept, aJ k q_row 64 v1]) C kf_X8_65 0 rfl (Nat.le_of_ble_eq_true rfl) rfl dX8_tell_17 ?_
  obtain ⟨e0, e1⟩ := ij2 hf
  exact hret _ _ 20 dX8_tell_20 (by rw [← e0, ← e1])
def fX8_isPoint (c_now : Nat → Int32) (x1 : Int32) (x2 : Int32) : Option Int32 := (fX8_n c_now).bind fun v1 => (fX8_in x1 (0 : Int32) v1).bind fun v2 => if v2 = 0 then some ((0 : Int32)) else (fX8_n c_now).bind fun v3 => (fX8_in x2 (0 : Int32) (v3 - x1)).bind fun v4 => if v4 = 0 then some ((0 : Int32)) else some ((1 : Int32))
set_option maxHeartbeats 4000000 in
set_option maxRecDepth 100000 in
theorem tX8_isPoint (l : Launch) (D : va_G) (k : Nat → ClassId) (q_this q_now q_text q_row q_read q_outerCell q_outerDoor q_walked q_onWalks q_far q_aside q_wasFull q_undos q_was q_kept q_isKept : Nat) (c_typed : Int32) (c_rowMany : Int32) (c_thrown : Int32) (c_length : Int32) (c_at : Int32) (c_wrong : Int32) (c_outerMany : Int32) (c_walkedMany : Int32) (c_cameOut : Int32) (c_undoMany : Int32) (c_drawn : Int32) (c_now : Nat → Int32) (x1 : Int32) (x2 : Int32) (r_ : Int32) (hf : fX8_isPoint c_now x1 x2 = some (r_)) : MI l yX8_isPoint cX8_isPoint 3 .boolean (RM 1 22) D k [.ref q_this, .int x1, .int x2] [oX8 q_this q_now q_text c_typed q_row c_rowMany c_thrown c_length c_at c_wrong q_read q_outerCell q_outerDoor c_outerMany q_walked c_walkedMany c_cameOut q_onWalks q_far q_aside q_wasFull q_undos q_was c_undoMany c_drawn q_kept q_isKept, aI k q_now 189 c_now] r_ [oX8 q_this q_now q_text c_typed q_row c_rowMany c_thrown c_length c_at c_wrong q_read q_outerCell q_outerDoor c_outerMany q_walked c_walkedMany c_cameOut q_onWalks q_far q_aside q_wasFull q_undos q_was c_undoMany c_drawn q_kept q_isKept, aI k q_now 189 c_now] := by
  refine mkMI' (own := "DoorWalkModel") (by decide) rfl (Nat.le_of_ble_eq_true rfl) ?_
  intro p e s m args below meth c Q A hret C
  refine ww_lv (lv' := [(0, .ref q_this), (1, .int x1), (2, .int x2)]) [0, 1, 2] rfl ?_
  unfold fX8_isPoint at hf
  refine ww_iload_n (pc := 0) C dX8_isPoint_0 rfl 1 rfl ?_
  refine ww_iconst (pc := 1) C dX8_isPoint_1 kI_0 ?_
  refine ww_aload_n (pc := 2) C dX8_isPoint_2 rfl 0 rfl ?_
  obtain ⟨v1, h1, hf⟩ := bsome hf
  refine ww_callVi0 (pc := 3) (As := []) (rest := [.int (0 : Int32), .int x1]) C (tX8_n l D k q_this q_now q_text q_row q_read q_outerCell q_outerDoor q_walked q_onWalks q_far q_aside q_wasFull q_undos q_was q_kept q_isKept c_typed c_rowMany c_thrown c_length c_at c_wrong c_outerMany c_walkedMany c_cameOut c_undoMany c_drawn c_now v1 h1) cv_X8_68 ⟨⟨by decide, by decide⟩, rfl, rfl⟩ 0 rfl rfl [0, 1] rfl rfl rfl rfl (Nat.le_of_ble_eq_true rfl) ⟨Nat.zero_le _, Nat.zero_le _⟩ dX8_isPoint_3 (fun hb1 => ?_)
  obtain ⟨v2, h2, hf⟩ := bsome hf
  refine ww_callSi0 (pc := 6) (As := [.int x1, .int (0 : Int32), .int v1]) (rest := []) C (tX8_in l D k x1 (0 : Int32) v1 v2 h2) cs_X8_72 ⟨⟨by decide, by decide⟩, rfl, rfl⟩ [] rfl rfl rfl rfl (Nat.le_of_ble_eq_true rfl) ⟨Nat.zero_le _, Nat.zero_le _⟩ dX8_isPoint_6 (fun hb2 => ?_)
  refine ww_if_eq (pc := 9) (tgt := 30) C dX8_isPoint_9 (by decide) (fun hc => ?_) (fun hc => ?_)
  · have hf := ifT hc hf
    refine ww_iconst (pc := 30) C dX8_isPoint_30 kI_0 ?_
    obtain e0 := ij1 hf
    exact hret _ _ 31 _ dX8_isPoint_31 (by decide) e0 rfl
  · have hf := ifF hc hf
    refine ww_iload_n (pc := 12) C dX8_isPoint_12 rfl 2 rfl ?_
    refine ww_iconst (pc := 13) C dX8_isPoint_13 kI_0 ?_
    refine ww_aload_n (pc := 14) C dX8_isPoint_14 rfl 0 rfl ?_
    obtain ⟨v3, h3, hf⟩ := bsome hf
    refine ww_callVi0 (pc := 15) (As := []) (rest := [.int (0 : Int32), .int x2]) C (tX8_n l D k q_this q_now q_text q_row q_read q_outerCell q_outerDoor q_walked q_onWalks q_far q_aside q_wasFull q_undos q_was q_kept q_isKept c_typed c_rowMany c_thrown c_length c_at c_wrong c_outerMany c_walkedMany c_cameOut c_undoMany c_drawn c_now v3 h3) cv_X8_68 ⟨⟨by decide, by decide⟩, rfl, rfl⟩ 0 rfl rfl [0, 1] rfl rfl rfl rfl (Nat.le_of_ble_eq_true rfl) ⟨Nat.zero_le _, Nat.zero_le _⟩ dX8_isPoint_15 (fun hb3 => ?_)
    refine ww_iload_n (pc := 18) C dX8_isPoint_18 rfl 1 rfl ?_
    refine ww_isub (pc := 19) C dX8_isPoint_19  ?_
    obtain ⟨v4, h4, hf⟩ := bsome hf
    refine ww_callSi0 (pc := 20) (As := [.int x2, .int (0 : Int32), .int (v3 - x1)]) (rest := []) C (tX8_in l D k x2 (0 : Int32) (v3 - x1) v4 h4) cs_X8_72 ⟨⟨by decide, by decide⟩, rfl, rfl⟩ [] rfl rfl rfl rfl (Nat.le_of_ble_eq_true rfl) ⟨Nat.zero_le _, Nat.zero_le _⟩ dX8_isPoint_20 (fun hb4 => ?_)
    refine ww_if_eq (pc := 23) (tgt := 30) C dX8_isPoint_23 (by decide) (fun hc => ?_) (fun hc => ?_)
    · have hf := ifT hc hf
      refine ww_iconst (pc := 30) C dX8_isPoint_30 kI_0 ?_
      obtain e0 := ij1 hf
      exact hret _ _ 31 _ dX8_isPoint_31 (by decide) e0 rfl
    · have hf := ifF hc hf
      refine ww_iconst (pc := 26) C dX8_isPoint_26 kI_1 ?_
      refine ww_goto (pc := 27) (tgt := 31) C dX8_isPoint_27 (by decide) ?_
      obtain e0 := ij1 hf
      exact hret _ _ 31 _ dX8_isPoint_31 (by decide) e0 rfl
def fX8_points (c_now : Nat → Int32) : Option Int32 := (fX8_n c_now).bind fun v1 => (fX8_n c_now).bind fun v2 => some ((((v1 + (1 : Int32)) * (v2 + (2 : Int32))) / (2 : Int32)))
set_option maxHeartbeats 4000000 in
set_option maxRecDepth 100000 in
theorem tX8_points (l : Launch) (D : va_G) (k : Nat → ClassId) (q_this q_now q_text q_row q_read q_outerCell q_outerDoor q_walked q_onWalks q_far q_aside q_wasFull q_undos q_was q_kept q_isKept : Nat) (c_typed : Int32) (c_rowMany : Int32) (c_thrown : Int32) (c_length : Int32) (c_at : Int32) (c_wrong : Int32) (c_outerMany : Int32) (c_walkedMany : Int32) (c_cameOut : Int32) (c_undoMany : Int32) (c_drawn : Int32) (c_now : Nat → Int32)  (r_ : Int32) (hf : fX8_points c_now = some (r_)) : MI l yX8_points cX8_points 1 .int (RM 1 20) D k [.ref q_this] [oX8 q_this q_now q_text c_typed q_row c_rowMany c_thrown c_length c_at c_wrong q_read q_outerCell q_outerDoor c_outerMany q_walked c_walkedMany c_cameOut q_onWalks q_far q_aside q_wasFull q_undos q_was c_undoMany c_drawn q_kept q_isKept, aI k q_now 189 c_now] r_ [oX8 q_this q_now q_text c_typed q_row c_rowMany c_thrown c_length c_at c_wrong q_read q_outerCell q_outerDoor c_outerMany q_walked c_walkedMany c_cameOut q_onWalks q_far q_aside q_wasFull q_undos q_was c_undoMany c_drawn q_kept q_isKept, aI k q_now 189 c_now] := by
  refine mkMI' (own := "DoorWalkModel") (by decide) rfl (Nat.le_of_ble_eq_true rfl) ?_
  intro p e s m args below meth c Q A hret C
  refine ww_lv (lv' := [(0, .ref q_this)]) [0] rfl ?_
  unfold fX8_points at hf
  refine ww_aload_n (pc := 0) C dX8_points_0 rfl 0 rfl ?_
  obtain ⟨v1, h1, hf⟩ := bsome hf
  refine ww_callVi0 (pc := 1) (As := []) (rest := []) C (tX8_n l D k q_this q_now q_text q_row q_read q_outerCell q_outerDoor q_walked q_onWalks q_far q_aside q_wasFull q_undos q_was q_kept q_isKept c_typed c_rowMany c_thrown c_length c_at c_wrong c_outerMany c_walkedMany c_cameOut c_undoMany c_drawn c_now v1 h1) cv_X8_68 ⟨⟨by decide, by decide⟩, rfl, rfl⟩ 0 rfl rfl [0, 1] rfl rfl rfl rfl (Nat.le_of_ble_eq_true rfl) ⟨Nat.zero_le _, Nat.zero_le _⟩ dX8_points_1 (fun hb1 => ?_)
  refine ww_iconst (pc := 4) C dX8_points_4 kI_1 ?_
  refine ww_iadd (pc := 5) C dX8_points_5  ?_
  refine ww_aload_n (pc := 6) C dX8_points_6 rfl 0 rfl ?_
  obtain ⟨v2, h2, hf⟩ := bsome hf
  refine ww_callVi0 (pc := 7) (As := []) (rest := [.int (v1 + (1 : Int32))]) C (tX8_n l D k q_this q_now q_text q_row q_read q_outerCell q_outerDoor q_walked q_onWalks q_far q_aside q_wasFull q_undos q_was q_kept q_isKept c_typed c_rowMany c_thrown c_length c_at c_wrong c_outerMany c_walkedMany c_cameOut c_undoMany c_drawn c_now v2 h2) cv_X8_68 ⟨⟨by decide, by decide⟩, rfl, rfl⟩ 0 rfl rfl [0, 1] rfl rfl rfl rfl (Nat.le_of_ble_eq_true rfl) ⟨Nat.zero_le _, Nat.zero_le _⟩ dX8_points_7 (fun hb2 => ?_)
  refine ww_iconst (pc := 10) C dX8_points_10 kI_2 ?_
  refine ww_iadd (pc := 11) C dX8_points_11  ?_
  refine ww_imul (pc := 12) C dX8_points_12  ?_
  refine ww_iconst (pc := 13) C dX8_points_13 kI_2 ?_
  refine ww_idivC (pc := 14) C dX8_points_14 (by decide) ?_
  obtain e0 := ij1 hf
  exact hret _ _ 15 _ dX8_points_15 rfl e0 rfl
def fX8_labelAt (c_now : Nat → Int32) (x1 : Int32) : Option Int32 := (ald 189 ((36 : Int32) + x1) c_now).bind fun v1 => some (v1)
set_option maxHeartbeats 4000000 in
set_option maxRecDepth 100000 in
theorem tX8_labelAt (l : Launch) (D : va_G) (k : Nat → ClassId) (q_this q_now q_text q_row q_read q_outerCell q_outerDoor q_walked q_onWalks q_far q_aside q_wasFull q_undos q_was q_kept q_isKept : Nat) (c_typed : Int32) (c_rowMany : Int32) (c_thrown : Int32) (c_length : Int32) (c_at : Int32) (c_wrong : Int32) (c_outerMany : Int32) (c_walkedMany : Int32) (c_cameOut : Int32) (c_undoMany : Int32) (c_drawn : Int32) (c_now : Nat → Int32) (x1 : Int32) (r_ : Int32) (hf : fX8_labelAt c_now x1 = some (r_)) : MI l yX8_labelAt cX8_labelAt 2 .int (RM 0 0) D k [.ref q_this, .int x1] [oX8 q_this q_now q_text c_typed q_row c_rowMany c_thrown c_length c_at c_wrong q_read q_outerCell q_outerDoor c_outerMany q_walked c_walkedMany c_cameOut q_onWalks q_far q_aside q_wasFull q_undos q_was c_undoMany c_drawn q_kept q_isKept, aI k q_now 189 c_now] r_ [oX8 q_this q_now q_text c_typed q_row c_rowMany c_thrown c_length c_at c_wrong q_read q_outerCell q_outerDoor c_outerMany q_walked c_walkedMany c_cameOut q_onWalks q_far q_aside q_wasFull q_undos q_was c_undoMany c_drawn q_kept q_isKept, aI k q_now 189 c_now] := by
  refine mkMI' (own := "DoorWalkModel") (by decide) rfl (Nat.le_of_ble_eq_true rfl) ?_
  intro p e s m args below meth c Q A hret C
  refine ww_lv (lv' := [(0, .ref q_this), (1, .int x1)]) [0, 1] rfl ?_
  unfold fX8_labelAt at hf
  refine ww_aload_n (pc := 0) C dX8_labelAt_0 rfl 0 rfl ?_
  refine gf8_0 (pc := 1) C kf_X8_9 0 rfl rfl dX8_labelAt_1 ?_
  refine ww_bipush (pc := 4) C dX8_labelAt_4 kB_36 ?_
  refine ww_iload_n (pc := 6) C dX8_labelAt_6 rfl 1 rfl ?_
  refine ww_iadd (pc := 7) C dX8_labelAt_7  ?_
  obtain ⟨v1, h1, hf⟩ := bsome hf
  refine ww_iald (pc := 8) C 1 rfl h1 dX8_labelAt_8 ?_
  obtain e0 := ij1 hf
  exact hret _ _ 9 _ dX8_labelAt_9 rfl e0 rfl
def fX8_price (c_now : Nat → Int32) (x1 : Int32) (x2 : Int32) (x3 : Int32) : Option Int32 := if x3 = 0 then some (x1) else if x3 = (1 : Int32) then some (x2) else (fX8_n c_now).bind fun v1 => some (((v1 - x1) - x2))
set_option maxHeartbeats 4000000 in
set_option maxRecDepth 100000 in
theorem tX8_price (l : Launch) (D : va_G) (k : Nat → ClassId) (q_this q_now q_text q_row q_read q_outerCell q_outerDoor q_walked q_onWalks q_far q_aside q_wasFull q_undos q_was q_kept q_isKept : Nat) (c_typed : Int32) (c_rowMany : Int32) (c_thrown : Int32) (c_length : Int32) (c_at : Int32) (c_wrong : Int32) (c_outerMany : Int32) (c_walkedMany : Int32) (c_cameOut : Int32) (c_undoMany : Int32) (c_drawn : Int32) (c_now : Nat → Int32) (x1 : Int32) (x2 : Int32) (x3 : Int32) (r_ : Int32) (hf : fX8_price c_now x1 x2 x3 = some (r_)) : MI l yX8_price cX8_price 4 .int (RM 1 20) D k [.ref q_this, .int x1, .int x2, .int x3] [oX8 q_this q_now q_text c_typed q_row c_rowMany c_thrown c_length c_at c_wrong q_read q_outerCell q_outerDoor c_outerMany q_walked c_walkedMany c_cameOut q_onWalks q_far q_aside q_wasFull q_undos q_was c_undoMany c_drawn q_kept q_isKept, aI k q_now 189 c_now] r_ [oX8 q_this q_now q_text c_typed q_row c_rowMany c_thrown c_length c_at c_wrong q_read q_outerCell q_outerDoor c_outerMany q_walked c_walkedMany c_cameOut q_onWalks q_far q_aside q_wasFull q_undos q_was c_undoMany c_drawn q_kept q_isKept, aI k q_now 189 c_now] := by
  refine mkMI' (own := "DoorWalkModel") (by decide) rfl (Nat.le_of_ble_eq_true rfl) ?_
  intro p e s m args below meth c Q A hret C
  refine ww_lv (lv' := [(0, .ref q_this), (1, .int x1), (2, .int x2), (3, .int x3)]) [0, 1, 2, 3] rfl ?_
  unfold fX8_price at hf
  refine ww_iload_n (pc := 0) C dX8_price_0 rfl 3 rfl ?_
  refine ww_if_ne (pc := 1) (tgt := 8) C dX8_price_1 (by decide) (fun hc => ?_) (fun hc => ?_)
  · have hf := ifF hc hf
    refine ww_iload_n (pc := 8) C dX8_price_8 rfl 3 rfl ?_
    refine ww_iconst (pc := 9) C dX8_price_9 kI_1 ?_
    refine ww_icmp_ne (pc := 10) (tgt := 17) C dX8_price_10 (by decide) (fun hc => ?_) (fun hc => ?_)
    · have hf := ifF hc hf
      refine ww_aload_n (pc := 17) C dX8_price_17 rfl 0 rfl ?_
      obtain ⟨v1, h1, hf⟩ := bsome hf
      refine ww_callVi0 (pc := 18) (As := []) (rest := []) C (tX8_n l D k q_this q_now q_text q_row q_read q_outerCell q_outerDoor q_walked q_onWalks q_far q_aside q_wasFull q_undos q_was q_kept q_isKept c_typed c_rowMany c_thrown c_length c_at c_wrong c_outerMany c_walkedMany c_cameOut c_undoMany c_drawn c_now v1 h1) cv_X8_68 ⟨⟨by decide, by decide⟩, rfl, rfl⟩ 0 rfl rfl [0, 1] rfl rfl rfl rfl (Nat.le_of_ble_eq_true rfl) ⟨Nat.zero_le _, Nat.zero_le _⟩ dX8_price_18 (fun hb1 => ?_)
      refine ww_iload_n (pc := 21) C dX8_price_21 rfl 1 rfl ?_
      refine ww_isub (pc := 22) C dX8_price_22  ?_
      refine ww_iload_n (pc := 23) C dX8_price_23 rfl 2 rfl ?_
      refine ww_isub (pc := 24) C dX8_price_24  ?_
      obtain e0 := ij1 hf
      exact hret _ _ 25 _ dX8_price_25 rfl e0 rfl
    · have hf := ifT hc hf
      refine ww_iload_n (pc := 13) C dX8_price_13 rfl 2 rfl ?_
      refine ww_goto (pc := 14) (tgt := 25) C dX8_price_14 (by decide) ?_
      obtain e0 := ij1 hf
      exact hret _ _ 25 _ dX8_price_25 rfl e0 rfl
  · have hf := ifT hc hf
    refine ww_iload_n (pc := 4) C dX8_price_4 rfl 1 rfl ?_
    refine ww_goto (pc := 5) (tgt := 25) C dX8_price_5 (by decide) ?_
    obtain e0 := ij1 hf
    exact hret _ _ 25 _ dX8_price_25 rfl e0 rfl
def fX8_canHave (c_now : Nat → Int32) (x1 : Int32) (x2 : Int32) (x3 : Int32) : Option Int32 := (fX8_price c_now x1 x2 x3).bind fun v1 => if v1 ≤ 0 then some ((0 : Int32)) else some ((1 : Int32))
set_option maxHeartbeats 4000000 in
set_option maxRecDepth 100000 in
theorem tX8_canHave (l : Launch) (D : va_G) (k : Nat → ClassId) (q_this q_now q_text q_row q_read q_outerCell q_outerDoor q_walked q_onWalks q_far q_aside q_wasFull q_undos q_was q_kept q_isKept : Nat) (c_typed : Int32) (c_rowMany : Int32) (c_thrown : Int32) (c_length : Int32) (c_at : Int32) (c_wrong : Int32) (c_outerMany : Int32) (c_walkedMany : Int32) (c_cameOut : Int32) (c_undoMany : Int32) (c_drawn : Int32) (c_now : Nat → Int32) (x1 : Int32) (x2 : Int32) (x3 : Int32) (r_ : Int32) (hf : fX8_canHave c_now x1 x2 x3 = some (r_)) : MI l yX8_canHave cX8_canHave 4 .boolean (RM 2 43) D k [.ref q_this, .int x1, .int x2, .int x3] [oX8 q_this q_now q_text c_typed q_row c_rowMany c_thrown c_length c_at c_wrong q_read q_outerCell q_outerDoor c_outerMany q_walked c_walkedMany c_cameOut q_onWalks q_far q_aside q_wasFull q_undos q_was c_undoMany c_drawn q_kept q_isKept, aI k q_now 189 c_now] r_ [oX8 q_this q_now q_text c_typed q_row c_rowMany c_thrown c_length c_at c_wrong q_read q_outerCell q_outerDoor c_outerMany q_walked c_walkedMany c_cameOut q_onWalks q_far q_aside q_wasFull q_undos q_was c_undoMany c_drawn q_kept q_isKept, aI k q_now 189 c_now] := by
  refine mkMI' (own := "DoorWalkModel") (by decide) rfl (Nat.le_of_ble_eq_true rfl) ?_
  intro p e s m args below meth c Q A hret C
  refine ww_lv (lv' := [(0, .ref q_this), (1, .int x1), (2, .int x2), (3, .int x3)]) [0, 1, 2, 3] rfl ?_
  unfold fX8_canHave at hf
  refine ww_aload_n (pc := 0) C dX8_canHave_0 rfl 0 rfl ?_
  refine ww_iload_n (pc := 1) C dX8_canHave_1 rfl 1 rfl ?_
  refine ww_iload_n (pc := 2) C dX8_canHave_2 rfl 2 rfl ?_
  refine ww_iload_n (pc := 3) C dX8_canHave_3 rfl 3 rfl ?_
  obtain ⟨v1, h1, hf⟩ := bsome hf
  refine ww_callVi0 (pc := 4) (As := [.int x1, .int x2, .int x3]) (rest := []) C (tX8_price l D k q_this q_now q_text q_row q_read q_outerCell q_outerDoor q_walked q_onWalks q_far q_aside q_wasFull q_undos q_was q_kept q_isKept c_typed c_rowMany c_thrown c_length c_at c_wrong c_outerMany c_walkedMany c_cameOut c_undoMany c_drawn c_now x1 x2 x3 v1 h1) cv_X8_76 ⟨⟨by decide, by decide⟩, rfl, rfl⟩ 0 rfl rfl [0, 1] rfl rfl rfl rfl (Nat.le_of_ble_eq_true rfl) ⟨Nat.zero_le _, Nat.zero_le _⟩ dX8_canHave_4 (fun hb1 => ?_)
  refine ww_if_le (pc := 7) (tgt := 14) C dX8_canHave_7 (by decide) (fun hc => ?_) (fun hc => ?_)
  · have hf := ifT hc hf
    refine ww_iconst (pc := 14) C dX8_canHave_14 kI_0 ?_
    obtain e0 := ij1 hf
    exact hret _ _ 15 _ dX8_canHave_15 (by decide) e0 rfl
  · have hf := ifF hc hf
    refine ww_iconst (pc := 10) C dX8_canHave_10 kI_1 ?_
    refine ww_goto (pc := 11) (tgt := 15) C dX8_canHave_11 (by decide) ?_
    obtain e0 := ij1 hf
    exact hret _ _ 15 _ dX8_canHave_15 (by decide) e0 rfl
def fX8_iOf_b2 (c_now : Nat → Int32) (rc2 : Int32 → Int32 → Option Int32) (n1 : Int32) (n2 : Int32) : Option Int32 := (fX8_place c_now (n2 + (1 : Int32)) (0 : Int32)).bind fun v1 => if n1 < v1 then some (n2) else (some (n2 + (1 : Int32))).bind fun v2 => rc2 n1 v2
def fX8_iOf (c_now : Nat → Int32) (x1 : Int32) : Option Int32 := lfix (fX8_iOf_b2 c_now) (fun _ _ => none) FU x1 (0 : Int32)
set_option maxHeartbeats 4000000 in
set_option maxRecDepth 100000 in
theorem tX8_iOf (l : Launch) (D : va_G) (k : Nat → ClassId) (q_this q_now q_text q_row q_read q_outerCell q_outerDoor q_walked q_onWalks q_far q_aside q_wasFull q_undos q_was q_kept q_isKept : Nat) (c_typed : Int32) (c_rowMany : Int32) (c_thrown : Int32) (c_length : Int32) (c_at : Int32) (c_wrong : Int32) (c_outerMany : Int32) (c_walkedMany : Int32) (c_cameOut : Int32) (c_undoMany : Int32) (c_drawn : Int32) (c_now : Nat → Int32) (x1 : Int32) (r_ : Int32) (hf : fX8_iOf c_now x1 = some (r_)) : MI l yX8_iOf cX8_iOf 3 .int (RM 2 42) D k [.ref q_this, .int x1] [oX8 q_this q_now q_text c_typed q_row c_rowMany c_thrown c_length c_at c_wrong q_read q_outerCell q_outerDoor c_outerMany q_walked c_walkedMany c_cameOut q_onWalks q_far q_aside q_wasFull q_undos q_was c_undoMany c_drawn q_kept q_isKept, aI k q_now 189 c_now] r_ [oX8 q_this q_now q_text c_typed q_row c_rowMany c_thrown c_length c_at c_wrong q_read q_outerCell q_outerDoor c_outerMany q_walked c_walkedMany c_cameOut q_onWalks q_far q_aside q_wasFull q_undos q_was c_undoMany c_drawn q_kept q_isKept, aI k q_now 189 c_now] := by
  refine mkMI' (own := "DoorWalkModel") (by decide) rfl (Nat.le_of_ble_eq_true rfl) ?_
  intro p e s m args below meth c Q A hret C
  refine ww_lv (lv' := [(0, .ref q_this), (1, .int x1)]) [0, 1] rfl ?_
  have hL2 : ∀ (n : Nat) (n1 : Int32) (n2 : Int32), lfix (fX8_iOf_b2 c_now) (fun _ _ => none) n n1 n2 = some (r_) → WW p l e (RM 2 42) s m args below meth c Q 3 D A 0 0 [oX8 q_this q_now q_text c_typed q_row c_rowMany c_thrown c_length c_at c_wrong q_read q_outerCell q_outerDoor c_outerMany q_walked c_walkedMany c_cameOut q_onWalks q_far q_aside q_wasFull q_undos q_was c_undoMany c_drawn q_kept q_isKept, aI k q_now 189 c_now] [(0, .ref q_this), (1, .int n1), (2, .int n2)] 2 [] := by
    intro n
    induction n with
    | zero => intro n1 n2 hf; cases hf
    | succ n ih2 =>
      obtain ⟨rc2, hrc2⟩ : ∃ f9, f9 = lfix (fX8_iOf_b2 c_now) (fun _ _ => none) n := ⟨_, rfl⟩
      rw [← hrc2] at ih2
      intro n1 n2 hf
      have hf : fX8_iOf_b2 c_now rc2 n1 n2 = some (r_) := by rw [hrc2]; exact hf
      unfold fX8_iOf_b2 at hf
      refine ww_aload_n (pc := 2) C dX8_iOf_2 rfl 0 rfl ?_
      refine ww_iload_n (pc := 3) C dX8_iOf_3 rfl 2 rfl ?_
      refine ww_iconst (pc := 4) C dX8_iOf_4 kI_1 ?_
      refine ww_iadd (pc := 5) C dX8_iOf_5  ?_
      refine ww_iconst (pc := 6) C dX8_iOf_6 kI_0 ?_
      obtain ⟨v1, h1, hf⟩ := bsome hf
      refine ww_callVi0 (pc := 7) (As := [.int (n2 + (1 : Int32)), .int (0 : Int32)]) (rest := []) C (tX8_place l D k q_this q_now q_text q_row q_read q_outerCell q_outerDoor q_walked q_onWalks q_far q_aside q_wasFull q_undos q_was q_kept q_isKept c_typed c_rowMany c_thrown c_length c_at c_wrong c_outerMany c_walkedMany c_cameOut c_undoMany c_drawn c_now (n2 + (1 : Int32)) (0 : Int32) v1 h1) cv_X8_80 ⟨⟨by decide, by decide⟩, rfl, rfl⟩ 0 rfl rfl [0, 1] rfl rfl rfl rfl (Nat.le_of_ble_eq_true rfl) ⟨Nat.zero_le _, Nat.zero_le _⟩ dX8_iOf_7 (fun hb1 => ?_)
      refine ww_iload_n (pc := 10) C dX8_iOf_10 rfl 1 rfl ?_
      refine ww_icmp_gt (pc := 11) (tgt := 20) C dX8_iOf_11 (by decide) (fun hc => ?_) (fun hc => ?_)
      · have hf := ifT hc hf
        refine ww_iload_n (pc := 20) C dX8_iOf_20 rfl 2 rfl ?_
        obtain e0 := ij1 hf
        exact hret _ _ 21 _ dX8_iOf_21 rfl e0 rfl
      · have hf := ifF hc hf
        obtain ⟨v2, h2, hf⟩ := bsome hf
        refine ww_iincN (pc := 14) (lv' := [(2, .int v2), (0, .ref q_this), (1, .int n1)]) (j := 2) C dX8_iOf_14 kI_1 rfl h2 (by decide) rfl ?_
        refine ww_goto (pc := 17) (tgt := 2) C dX8_iOf_17 (by decide) ?_
        exact ww_lv [1, 2, 0] rfl (ih2 n1 v2 hf)
  unfold fX8_iOf at hf
  refine ww_iconst (pc := 0) C dX8_iOf_0 kI_0 ?_
  refine ww_istore_n (pc := 1) (lv' := [(2, .int (0 : Int32)), (0, .ref q_this), (1, .int x1)]) C dX8_iOf_1 rfl (by decide) rfl ?_
  exact ww_lv [1, 2, 0] rfl (hL2 FU x1 (0 : Int32) hf)
def fX8_jOf (c_now : Nat → Int32) (x1 : Int32) : Option Int32 := (fX8_iOf c_now x1).bind fun v1 => (fX8_place c_now v1 (0 : Int32)).bind fun v2 => some ((x1 - v2))
set_option maxHeartbeats 4000000 in
set_option maxRecDepth 100000 in
theorem tX8_jOf (l : Launch) (D : va_G) (k : Nat → ClassId) (q_this q_now q_text q_row q_read q_outerCell q_outerDoor q_walked q_onWalks q_far q_aside q_wasFull q_undos q_was q_kept q_isKept : Nat) (c_typed : Int32) (c_rowMany : Int32) (c_thrown : Int32) (c_length : Int32) (c_at : Int32) (c_wrong : Int32) (c_outerMany : Int32) (c_walkedMany : Int32) (c_cameOut : Int32) (c_undoMany : Int32) (c_drawn : Int32) (c_now : Nat → Int32) (x1 : Int32) (r_ : Int32) (hf : fX8_jOf c_now x1 = some (r_)) : MI l yX8_jOf cX8_jOf 2 .int (RM 3 64) D k [.ref q_this, .int x1] [oX8 q_this q_now q_text c_typed q_row c_rowMany c_thrown c_length c_at c_wrong q_read q_outerCell q_outerDoor c_outerMany q_walked c_walkedMany c_cameOut q_onWalks q_far q_aside q_wasFull q_undos q_was c_undoMany c_drawn q_kept q_isKept, aI k q_now 189 c_now] r_ [oX8 q_this q_now q_text c_typed q_row c_rowMany c_thrown c_length c_at c_wrong q_read q_outerCell q_outerDoor c_outerMany q_walked c_walkedMany c_cameOut q_onWalks q_far q_aside q_wasFull q_undos q_was c_undoMany c_drawn q_kept q_isKept, aI k q_now 189 c_now] := by
  refine mkMI' (own := "DoorWalkModel") (by decide) rfl (Nat.le_of_ble_eq_true rfl) ?_
  intro p e s m args below meth c Q A hret C
  refine ww_lv (lv' := [(0, .ref q_this), (1, .int x1)]) [0, 1] rfl ?_
  unfold fX8_jOf at hf
  refine ww_iload_n (pc := 0) C dX8_jOf_0 rfl 1 rfl ?_
  refine ww_aload_n (pc := 1) C dX8_jOf_1 rfl 0 rfl ?_
  refine ww_aload_n (pc := 2) C dX8_jOf_2 rfl 0 rfl ?_
  refine ww_iload_n (pc := 3) C dX8_jOf_3 rfl 1 rfl ?_
  obtain ⟨v1, h1, hf⟩ := bsome hf
  refine ww_callVi0 (pc := 4) (As := [.int x1]) (rest := [.ref q_this, .int x1]) C (tX8_iOf l D k q_this q_now q_text q_row q_read q_outerCell q_outerDoor q_walked q_onWalks q_far q_aside q_wasFull q_undos q_was q_kept q_isKept c_typed c_rowMany c_thrown c_length c_at c_wrong c_outerMany c_walkedMany c_cameOut c_undoMany c_drawn c_now x1 v1 h1) cv_X8_84 ⟨⟨by decide, by decide⟩, rfl, rfl⟩ 0 rfl rfl [0, 1] rfl rfl rfl rfl (Nat.le_of_ble_eq_true rfl) ⟨Nat.zero_le _, Nat.zero_le _⟩ dX8_jOf_4 (fun hb1 => ?_)
  refine ww_iconst (pc := 7) C dX8_jOf_7 kI_0 ?_
  obtain ⟨v2, h2, hf⟩ := bsome hf
  refine ww_callVi0 (pc := 8) (As := [.int v1, .int (0 : Int32)]) (rest := [.int x1]) C (tX8_place l D k q_this q_now q_text q_row q_read q_outerCell q_outerDoor q_walked q_onWalks q_far q_aside q_wasFull q_undos q_was q_kept q_isKept c_typed c_rowMany c_thrown c_length c_at c_wrong c_outerMany c_walkedMany c_cameOut c_undoMany c_drawn c_now v1 (0 : Int32) v2 h2) cv_X8_80 ⟨⟨by decide, by decide⟩, rfl, rfl⟩ 0 rfl rfl [0, 1] rfl rfl rfl rfl (Nat.le_of_ble_eq_true rfl) ⟨Nat.zero_le _, Nat.zero_le _⟩ dX8_jOf_8 (fun hb2 => ?_)
  refine ww_isub (pc := 11) C dX8_jOf_11  ?_
  obtain e0 := ij1 hf
  exact hret _ _ 12 _ dX8_jOf_12 rfl e0 rfl
def fX8_amount (c_now : Nat → Int32) (x1 : Int32) (x2 : Int32) : Option Int32 := (ald 189 (((3 : Int32) + ((3 : Int32) * x1)) + x2) c_now).bind fun v1 => some (v1)
set_option maxHeartbeats 4000000 in
set_option maxRecDepth 100000 in
theorem tX8_amount (l : Launch) (D : va_G) (k : Nat → ClassId) (q_this q_now q_text q_row q_read q_outerCell q_outerDoor q_walked q_onWalks q_far q_aside q_wasFull q_undos q_was q_kept q_isKept : Nat) (c_typed : Int32) (c_rowMany : Int32) (c_thrown : Int32) (c_length : Int32) (c_at : Int32) (c_wrong : Int32) (c_outerMany : Int32) (c_walkedMany : Int32) (c_cameOut : Int32) (c_undoMany : Int32) (c_drawn : Int32) (c_now : Nat → Int32) (x1 : Int32) (x2 : Int32) (r_ : Int32) (hf : fX8_amount c_now x1 x2 = some (r_)) : MI l yX8_amount cX8_amount 3 .int (RM 0 0) D k [.ref q_this, .int x1, .int x2] [oX8 q_this q_now q_text c_typed q_row c_rowMany c_thrown c_length c_at c_wrong q_read q_outerCell q_outerDoor c_outerMany q_walked c_walkedMany c_cameOut q_onWalks q_far q_aside q_wasFull q_undos q_was c_undoMany c_drawn q_kept q_isKept, aI k q_now 189 c_now] r_ [oX8 q_this q_now q_text c_typed q_row c_rowMany c_thrown c_length c_at c_wrong q_read q_outerCell q_outerDoor c_outerMany q_walked c_walkedMany c_cameOut q_onWalks q_far q_aside q_wasFull q_undos q_was c_undoMany c_drawn q_kept q_isKept, aI k q_now 189 c_now] := by
  refine mkMI' (own := "DoorWalkModel") (by decide) rfl (Nat.le_of_ble_eq_true rfl) ?_
  intro p e s m args below meth c Q A hret C
  refine ww_lv (lv' := [(0, .ref q_this), (1, .int x1), (2, .int x2)]) [0, 1, 2] rfl ?_
  unfold fX8_amount at hf
  refine ww_aload_n (pc := 0) C dX8_amount_0 rfl 0 rfl ?_
  refine gf8_0 (pc := 1) C kf_X8_9 0 rfl rfl dX8_amount_1 ?_
  refine ww_iconst (pc := 4) C dX8_amount_4 kI_3 ?_
  refine ww_iconst (pc := 5) C dX8_amount_5 kI_3 ?_
  refine ww_iload_n (pc := 6) C dX8_amount_6 rfl 1 rfl ?_
  refine ww_imul (pc := 7) C dX8_amount_7  ?_
  refine ww_iadd (pc := 8) C dX8_amount_8  ?_
  refine ww_iload_n (pc := 9) C dX8_amount_9 rfl 2 rfl ?_
  refine ww_iadd (pc := 10) C dX8_amount_10  ?_
  obtain ⟨v1, h1, hf⟩ := bsome hf
  refine ww_iald (pc := 11) C 1 rfl h1 dX8_amount_11 ?_
  obtain e0 := ij1 hf
  exact hret _ _ 12 _ dX8_amount_12 rfl e0 rfl
def fX8_wish (c_now : Nat → Int32) (x1 : Int32) (x2 : Int32) : Option Int32 := (ald 189 (((15 : Int32) + ((3 : Int32) * x1)) + x2) c_now).bind fun v1 => some (v1)
set_option maxHeartbeats 4000000 in
set_option maxRecDepth 100000 in
theorem tX8_wish (l : Launch) (D : va_G) (k : Nat → ClassId) (q_this q_now q_text q_row q_read q_outerCell q_outerDoor q_walked q_onWalks q_far q_aside q_wasFull q_undos q_was q_kept q_isKept : Nat) (c_typed : Int32) (c_rowMany : Int32) (c_thrown : Int32) (c_length : Int32) (c_at : Int32) (c_wrong : Int32) (c_outerMany : Int32) (c_walkedMany : Int32) (c_cameOut : Int32) (c_undoMany : Int32) (c_drawn : Int32) (c_now : Nat → Int32) (x1 : Int32) (x2 : Int32) (r_ : Int32) (hf : fX8_wish c_now x1 x2 = some (r_)) : MI l yX8_wish cX8_wish 3 .int (RM 0 0) D k [.ref q_this, .int x1, .int x2] [oX8 q_this q_now q_text c_typed q_row c_rowMany c_thrown c_length c_at c_wrong q_read q_outerCell q_outerDoor c_outerMany q_walked c_walkedMany c_cameOut q_onWalks q_far q_aside q_wasFull q_undos q_was c_undoMany c_drawn q_kept q_isKept, aI k q_now 189 c_now] r_ [oX8 q_this q_now q_text c_typed q_row c_rowMany c_thrown c_length c_at c_wrong q_read q_outerCell q_outerDoor c_outerMany q_walked c_walkedMany c_cameOut q_onWalks q_far q_aside q_wasFull q_undos q_was c_undoMany c_drawn q_kept q_isKept, aI k q_now 189 c_now] := by
  refine mkMI' (own := "DoorWalkModel") (by decide) rfl (Nat.le_of_ble_eq_true rfl) ?_
  intro p e s m args below meth c Q A hret C
  refine ww_lv (lv' := [(0, .ref q_this), (1, .int x1), (2, .int x2)]) [0, 1, 2] rfl ?_
  unfold fX8_wish at hf
  refine ww_aload_n (pc := 0) C dX8_wish_0 rfl 0 rfl ?_
  refine gf8_0 (pc := 1) C kf_X8_9 0 rfl rfl dX8_wish_1 ?_
  refine ww_bipush (pc := 4) C dX8_wish_4 kB_15 ?_
  refine ww_iconst (pc := 6) C dX8_wish_6 kI_3 ?_
  refine ww_iload_n (pc := 7) C dX8_wish_7 rfl 1 rfl ?_
  refine ww_imul (pc := 8) C dX8_wish_8  ?_
  refine ww_iadd (pc := 9) C dX8_wish_9  ?_
  refine ww_iload_n (pc := 10) C dX8_wish_10 rfl 2 rfl ?_
  refine ww_iadd (pc := 11) C dX8_wish_11  ?_
  obtain ⟨v1, h1, hf⟩ := bsome hf
  refine ww_iald (pc := 12) C 1 rfl h1 dX8_wish_12 ?_
  obtain e0 := ij1 hf
  exact hret _ _ 13 _ dX8_wish_13 rfl e0 rfl
def fX8_wishes (c_now : Nat → Int32) (x1 : Int32) : Option Int32 := (fX8_wish c_now x1 (0 : Int32)).bind fun v1 => (fX8_wish c_now x1 (1 : Int32)).bind fun v2 => (fX8_wish c_now x1 (2 : Int32)).bind fun v3 => some (((v1 + v2) + v3))
set_option maxHeartbeats 4000000 in
set_option maxRecDepth 100000 in
theorem tX8_wishes (l : Launch) (D : va_G) (k : Nat → ClassId) (q_this q_now q_text q_row q_read q_outerCell q_outerDoor q_walked q_onWalks q_far q_aside q_wasFull q_undos q_was q_kept q_isKept : Nat) (c_typed : Int32) (c_rowMany : Int32) (c_thrown : Int32) (c_length : Int32) (c_at : Int32) (c_wrong : Int32) (c_outerMany : Int32) (c_walkedMany : Int32) (c_cameOut : Int32) (c_undoMany : Int32) (c_drawn : Int32) (c_now : Nat → Int32) (x1 : Int32) (r_ : Int32) (hf : fX8_wishes c_now x1 = some (r_)) : MI l yX8_wishes cX8_wishes 2 .int (RM 1 22) D k [.ref q_this, .int x1] [oX8 q_this q_now q_text c_typed q_row c_rowMany c_thrown c_length c_at c_wrong q_read q_outerCell q_outerDoor c_outerMany q_walked c_walkedMany c_cameOut q_onWalks q_far q_aside q_wasFull q_undos q_was c_undoMany c_drawn q_kept q_isKept, aI k q_now 189 c_now] r_ [oX8 q_this q_now q_text c_typed q_row c_rowMany c_thrown c_length c_at c_wrong q_read q_outerCell q_outerDoor c_outerMany q_walked c_walkedMany c_cameOut q_onWalks q_far q_aside q_wasFull q_undos q_was c_undoMany c_drawn q_kept q_isKept, aI k q_now 189 c_now] := by
  refine mkMI' (own := "DoorWalkModel") (by decide) rfl (Nat.le_of_ble_eq_true rfl) ?_
  intro p e s m args below meth c Q A hret C
  refine ww_lv (lv' := [(0, .ref q_this), (1, .int x1)]) [0, 1] rfl ?_
  unfold fX8_wishes at hf
  refine ww_aload_n (pc := 0) C dX8_wishes_0 rfl 0 rfl ?_
  refine ww_iload_n (pc := 1) C dX8_wishes_1 rfl 1 rfl ?_
  refine ww_iconst (pc := 2) C dX8_wishes_2 kI_0 ?_
  obtain ⟨v1, h1, hf⟩ := bsome hf
  refine ww_callVi0 (pc := 3) (As := [.int x1, .int (0 : Int32)]) (rest := []) C (tX8_wish l D k q_this q_now q_text q_row q_read q_outerCell q_outerDoor q_walked q_onWalks q_far q_aside q_wasFull q_undos q_was q_kept q_isKept c_typed c_rowMany c_thrown c_length c_at c_wrong c_outerMany c_walkedMany c_cameOut c_undoMany c_drawn c_now x1 (0 : Int32) v1 h1) cv_X8_88 ⟨⟨by decide, by decide⟩, rfl, rfl⟩ 0 rfl rfl [0, 1] rfl rfl rfl rfl (Nat.le_of_ble_eq_true rfl) ⟨Nat.zero_le _, Nat.zero_le _⟩ dX8_wishes_3 (fun hb1 => ?_)
  refine ww_aload_n (pc := 6) C dX8_wishes_6 rfl 0 rfl ?_
  refine ww_iload_n (pc := 7) C dX8_wishes_7 rfl 1 rfl ?_
  refine ww_iconst (pc := 8) C dX8_wishes_8 kI_1 ?_
  obtain ⟨v2, h2, hf⟩ := bsome hf
  refine ww_callVi0 (pc := 9) (As := [.int x1, .int (1 : Int32)]) (rest := [.int v1]) C (tX8_wish l D k q_this q_now q_text q_row q_read q_outerCell q_outerDoor q_walked q_onWalks q_far q_aside q_wasFull q_undos q_was q_kept q_isKept c_typed c_rowMany c_thrown c_length c_at c_wrong c_outerMany c_walkedMany c_cameOut c_undoMany c_drawn c_now x1 (1 : Int32) v2 h2) cv_X8_88 ⟨⟨by decide, by decide⟩, rfl, rfl⟩ 0 rfl rfl [0, 1] rfl rfl rfl rfl (Nat.le_of_ble_eq_true rfl) ⟨Nat.zero_le _, Nat.zero_le _⟩ dX8_wishes_9 (fun hb2 => ?_)
  refine ww_iadd (pc := 12) C dX8_wishes_12  ?_
  refine ww_aload_n (pc := 13) C dX8_wishes_13 rfl 0 rfl ?_
  refine ww_iload_n (pc := 14) C dX8_wishes_14 rfl 1 rfl ?_
  refine ww_iconst (pc := 15) C dX8_wishes_15 kI_2 ?_
  obtain ⟨v3, h3, hf⟩ := bsome hf
  refine ww_callVi0 (pc := 16) (As := [.int x1, .int (2 : Int32)]) (rest := [.int (v1 + v2)]) C (tX8_wish l D k q_this q_now q_text q_row q_read q_outerCell q_outerDoor q_walked q_onWalks q_far q_aside q_wasFull q_undos q_was q_kept q_isKept c_typed c_rowMany c_thrown c_length c_at c_wrong c_outerMany c_walkedMany c_cameOut c_undoMany c_drawn c_now x1 (2 : Int32) v3 h3) cv_X8_88 ⟨⟨by decide, by decide⟩, rfl, rfl⟩ 0 rfl rfl [0, 1] rfl rfl rfl rfl (Nat.le_of_ble_eq_true rfl) ⟨Nat.zero_le _, Nat.zero_le _⟩ dX8_wishes_16 (fun hb3 => ?_)
  refine ww_iadd (pc := 19) C dX8_wishes_19  ?_
  obtain e0 := ij1 hf
  exact hret _ _ 20 _ dX8_wishes_20 rfl e0 rfl
def fX8_income_b6 (c_now : Nat → Int32) (rc6 : Int32 → Int32 → Int32 → Int32 → Int32 → Option Int32) (n1 : Int32) (n2 : Int32) (n3 : Int32) (n4 : Int32) (n5 : Int32) : Option Int32 := if (3 : Int32) ≤ n5 then some (n4) else (fX8_price c_now n2 n3 n5).bind fun v1 => (fX8_amount c_now n1 n5).bind fun v2 => (some (n4 + (v1 * v2))).bind fun v3 => (some (n5 + (1 : Int32))).bind fun v4 => rc6 n1 n2 n3 v3 v4
def fX8_income (c_now : Nat → Int32) (x1 : Int32) (x2 : Int32) (x3 : Int32) : Option Int32 := lfix (fX8_income_b6 c_now) (fun _ _ _ _ _ => none) FU x1 x2 x3 (0 : Int32) (0 : Int32)
set_option maxHeartbeats 4000000 in
set_option maxRecDepth 100000 in
theorem tX8_income (l : Launch) (D : va_G) (k : Nat → ClassId) (q_this q_now q_text q_row q_read q_outerCell q_outerDoor q_walked q_onWalks q_far q_aside q_wasFull q_undos q_was q_kept q_isKept : Nat) (c_typed : Int32) (c_rowMany : Int32) (c_thrown : Int32) (c_length : Int32) (c_at : Int32) (c_wrong : Int32) (c_outerMany : Int32) (c_walkedMany : Int32) (c_cameOut : Int32) (c_undoMany : Int32) (c_drawn : Int32) (c_now : Nat → Int32) (x1 : Int32) (x2 : Int32) (x3 : Int32) (r_ : Int32) (hf : fX8_income c_now x1 x2 x3 = some (r_)) : MI l yX8_income cX8_income 6 .int (RM 2 43) D k [.ref q_this, .int x1, .int x2, .int x3] [oX8 q_this q_now q_text c_typed q_row c_rowMany c_thrown c_length c_at c_wrong q_read q_outerCell q_outerDoor c_outerMany q_walked c_walkedMany c_cameOut q_onWalks q_far q_aside q_wasFull q_undos q_was c_undoMany c_drawn q_kept q_isKept, aI k q_now 189 c_now] r_ [oX8 q_this q_now q_text c_typed q_row c_rowMany c_thrown c_length c_at c_wrong q_read q_outerCell q_outerDoor c_outerMany q_walked c_walkedMany c_cameOut q_onWalks q_far q_aside q_wasFull q_undos q_was c_undoMany c_drawn q_kept q_isKept, aI k q_now 189 c_now] := by
  refine mkMI' (own := "DoorWalkModel") (by decide) rfl (Nat.le_of_ble_eq_true rfl) ?_
  intro p e s m args below meth c Q A hret C
  refine ww_lv (lv' := [(0, .ref q_this), (1, .int x1), (2, .int x2), (3, .int x3)]) [0, 1, 2, 3] rfl ?_
  have hL6 : ∀ (n : Nat) (n1 : Int32) (n2 : Int32) (n3 : Int32) (n4 : Int32) (n5 : Int32), lfix (fX8_income_b6 c_now) (fun _ _ _ _ _ => none) n n1 n2 n3 n4 n5 = some (r_) → WW p l e (RM 2 43) s m args below meth c Q 6 D A 0 0 [oX8 q_this q_now q_text c_typed q_row c_rowMany c_thrown c_length c_at c_wrong q_read q_outerCell q_outerDoor c_outerMany q_walked c_walkedMany c_cameOut q_onWalks q_far q_aside q_wasFull q_undos q_was c_undoMany c_drawn q_kept q_isKept, aI k q_now 189 c_now] [(0, .ref q_this), (1, .int n1), (2, .int n2), (3, .int n3), (4, .int n4), (5, .int n5)] 6 [] := by
    intro n
    induction n with
    | zero => intro n1 n2 n3 n4 n5 hf; cases hf
    | succ n ih6 =>
      obtain ⟨rc6, hrc6⟩ : ∃ f9, f9 = lfix (fX8_income_b6 c_now) (fun _ _ _ _ _ => none) n := ⟨_, rfl⟩
      rw [← hrc6] at ih6
      intro n1 n2 n3 n4 n5 hf
      have hf : fX8_income_b6 c_now rc6 n1 n2 n3 n4 n5 = some (r_) := by rw [hrc6]; exact hf
      unfold fX8_income_b6 at hf
      refine ww_iload (pc := 6) C dX8_income_6 5 rfl ?_
      refine ww_iconst (pc := 8) C dX8_income_8 kI_3 ?_
      refine ww_icmp_ge (pc := 9) (tgt := 39) C dX8_income_9 (by decide) (fun hc => ?_) (fun hc => ?_)
      · have hf := ifT hc hf
        refine ww_iload (pc := 39) C dX8_income_39 4 rfl ?_
        obtain e0 := ij1 hf
        exact hret _ _ 41 _ dX8_income_41 rfl e0 rfl
      · have hf := ifF hc hf
        refine ww_iload (pc := 12) C dX8_income_12 4 rfl ?_
        refine ww_aload_n (pc := 14) C dX8_income_14 rfl 0 rfl ?_
        refine ww_iload_n (pc := 15) C dX8_income_15 rfl 2 rfl ?_
        refine ww_iload_n (pc := 16) C dX8_income_16 rfl 3 rfl ?_
        refine ww_iload (pc := 17) C dX8_income_17 5 rfl ?_
        obtain ⟨v1, h1, hf⟩ := bsome hf
        refine ww_callVi0 (pc := 19) (As := [.int n2, .int n3, .int n5]) (rest := [.int n4]) C (tX8_price l D k q_this q_now q_text q_row q_read q_outerCell q_outerDoor q_walked q_onWalks q_far q_aside q_wasFull q_undos q_was q_kept q_isKept c_typed c_rowMany c_thrown c_length c_at c_wrong c_outerMany c_walkedMany c_cameOut c_undoMany c_drawn c_now n2 n3 n5 v1 h1) cv_X8_76 ⟨⟨by decide, by decide⟩, rfl, rfl⟩ 0 rfl rfl [0, 1] rfl rfl rfl rfl (Nat.le_of_ble_eq_true rfl) ⟨Nat.zero_le _, Nat.zero_le _⟩ dX8_income_19 (fun hb1 => ?_)
        refine ww_aload_n (pc := 22) C dX8_income_22 rfl 0 rfl ?_
        refine ww_iload_n (pc := 23) C dX8_income_23 rfl 1 rfl ?_
        refine ww_iload (pc := 24) C dX8_income_24 5 rfl ?_
        obtain ⟨v2, h2, hf⟩ := bsome hf
        refine ww_callVi0 (pc := 26) (As := [.int n1, .int n5]) (rest := [.int v1, .int n4]) C (tX8_amount l D k q_this q_now q_text q_row q_read q_outerCell q_outerDoor q_walked q_onWalks q_far q_aside q_wasFull q_undos q_was q_kept q_isKept c_typed c_rowMany c_thrown c_length c_at c_wrong c_outerMany c_walkedMany c_cameOut c_undoMany c_drawn c_now n1 n5 v2 h2) cv_X8_91 ⟨⟨by decide, by decide⟩, rfl, rfl⟩ 0 rfl rfl [0, 1] rfl rfl rfl rfl (Nat.le_of_ble_eq_true rfl) ⟨Nat.zero_le _, Nat.zero_le _⟩ dX8_income_26 (fun hb2 => ?_)
        refine ww_imul (pc := 29) C dX8_income_29  ?_
        refine ww_iadd (pc := 30) C dX8_income_30  ?_
        obtain ⟨v3, h3, hf⟩ := bsome hf
        refine ww_nmi h3 ?_
        refine ww_istore (pc := 31) (lv' := [(4, .int v3), (0, .ref q_this), (1, .int n1), (2, .int n2), (3, .int n3), (5, .int n5)]) C dX8_income_31 (by decide) rfl ?_
        obtain ⟨v4, h4, hf⟩ := bsome hf
        refine ww_iincN (pc := 33) (lv' := [(5, .int v4), (4, .int v3), (0, .ref q_this), (1, .int n1), (2, .int n2), (3, .int n3)]) (j := 5) C dX8_income_33 kI_1 rfl h4 (by decide) rfl ?_
        refine ww_goto (pc := 36) (tgt := 6) C dX8_income_36 (by decide) ?_
        exact ww_lv [2, 3, 4, 5, 1, 0] rfl (ih6 n1 n2 n3 v3 v4 hf)
  unfold fX8_income at hf
  refine ww_iconst (pc := 0) C dX8_income_0 kI_0 ?_
  refine ww_istore (pc := 1) (lv' := [(4, .int (0 : Int32)), (0, .ref q_this), (1, .int x1), (2, .int x2), (3, .int x3)]) C dX8_income_1 (by decide) rfl ?_
  refine ww_iconst (pc := 3) C dX8_income_3 kI_0 ?_
  refine ww_istore (pc := 4) (lv' := [(5, .int (0 : Int32)), (4, .int (0 : Int32)), (0, .ref q_this), (1, .int x1), (2, .int x2), (3, .int x3)]) C dX8_income_4 (by decide) rfl ?_
  exact ww_lv [2, 3, 4, 5, 1, 0] rfl (hL6 FU x1 x2 x3 (0 : Int32) (0 : Int32) hf)
def fX8_excessOf_b43 (c_now : Nat → Int32) (rc43 : Int32 → Int32 → Int32 → Int32 → Int32 → Int32 → Int32 → Option Int32) (n1 : Int32) (n2 : Int32) (n3 : Int32) (n4 : Int32) (n5 : Int32) (n6 : Int32) (n7 : Int32) : Option Int32 := (ald 189 (2 : Int32) c_now).bind fun v1 => if v1 ≤ n7 then (fX8_price c_now n1 n2 n3).bind fun v2 => some ((n5 - ((n4 * v2) * n6))) else (fX8_income c_now n7 n1 n2).bind fun v3 => (fX8_wish c_now n7 n3).bind fun v4 => (fX8_wishes c_now n7).bind fun v5 => (dvI n4 v5).bind fun v6 => (some (n5 + ((v3 * v4) * v6))).bind fun v7 => (fX8_amount c_now n7 n3).bind fun v8 => (some (n6 + v8)).bind fun v9 => (some (n7 + (1 : Int32))).bind fun v10 => rc43 n1 n2 n3 n4 v7 v9 v10
def fX8_excessOf_b6 (c_now : Nat → Int32) (rc6 : Int32 → Int32 → Int32 → Int32 → Int32 → Option Int32) (n1 : Int32) (n2 : Int32) (n3 : Int32) (n4 : Int32) (n5 : Int32) : Option Int32 := (ald 189 (2 : Int32) c_now).bind fun v1 => if v1 ≤ n5 then lfix (fX8_excessOf_b43 c_now) (fun _ _ _ _ _ _ _ => none) FU n1 n2 n3 n4 (0 : Int32) (0 : Int32) (0 : Int32) else (fX8_wishes c_now n5).bind fun v2 => (some (n4 * v2)).bind fun v3 => (some (n5 + (1 : Int32))).bind fun v4 => rc6 n1 n2 n3 v3 v4
def fX8_excessOf (c_now : Nat → Int32) (x1 : Int32) (x2 : Int32) (x3 : Int32) : Option Int32 := lfix (fX8_excessOf_b6 c_now) (fun _ _ _ _ _ => none) FU x1 x2 x3 (1 : Int32) (0 : Int32)
set_option maxHeartbeats 4000000 in
set_option maxRecDepth 100000 in
theorem tX8_excessOf (l : Launch) (D : va_G) (k : Nat → ClassId) (q_this q_now q_text q_row q_read q_outerCell q_outerDoor q_walked q_onWalks q_far q_aside q_wasFull q_undos q_was q_kept q_isKept : Nat) (c_typed : Int32) (c_rowMany : Int32) (c_thrown : Int32) (c_length : Int32) (c_at : Int32) (c_wrong : Int32) (c_outerMany : Int32) (c_walkedMany : Int32) (c_cameOut : Int32) (c_undoMany : Int32) (c_drawn : Int32) (c_now : Nat → Int32) (x1 : Int32) (x2 : Int32) (x3 : Int32) (r_ : Int32) (hf : fX8_excessOf c_now x1 x2 x3 = some (r_)) : MI l yX8_excessOf cX8_excessOf 8 .int (RM 3 68) D k [.ref q_this, .int x1, .int x2, .int x3] [oX8 q_this q_now q_text c_typed q_row c_rowMany c_thrown c_length c_at c_wrong q_read q_outerCell q_outerDoor c_outerMany q_walked c_walkedMany c_cameOut q_onWalks q_far q_aside q_wasFull q_undos q_was c_undoMany c_drawn q_kept q_isKept, aI k q_now 189 c_now] r_ [oX8 q_this q_now q_text c_typed q_row c_rowMany c_thrown c_length c_at c_wrong q_read q_outerCell q_outerDoor c_outerMany q_walked c_walkedMany c_cameOut q_onWalks q_far q_aside q_wasFull q_undos q_was c_undoMany c_drawn q_kept q_isKept, aI k q_now 189 c_now] := by
  refine mkMI' (own := "DoorWalkModel") (by decide) rfl (Nat.le_of_ble_eq_true rfl) ?_
  intro p e s m args below meth c Q A hret C
  refine ww_lv (lv' := [(0, .ref q_this), (1, .int x1), (2, .int x2), (3, .int x3)]) [0, 1, 2, 3] rfl ?_
  have hL43 : ∀ (n : Nat) (n1 : Int32) (n2 : Int32) (n3 : Int32) (n4 : Int32) (n5 : Int32) (n6 : Int32) (n7 : Int32), lfix (fX8_excessOf_b43 c_now) (fun _ _ _ _ _ _ _ => none) n n1 n2 n3 n4 n5 n6 n7 = some (r_) → WW p l e (RM 3 68) s m args below meth c Q 8 D A 0 0 [oX8 q_this q_now q_text c_typed q_row c_rowMany c_thrown c_length c_at c_wrong q_read q_outerCell q_outerDoor c_outerMany q_walked c_walkedMany c_cameOut q_onWalks q_far q_aside q_wasFull q_undos q_was c_undoMany c_drawn q_kept q_isKept, aI k q_now 189 c_now] [(0, .ref q_this), (1, .int n1), (2, .int n2), (3, .int n3), (4, .int n4), (5, .int n5), (6, .int n6), (7, .int n7)] 43 [] := by
    intro n
    induction n with
    | zero => intro n1 n2 n3 n4 n5 n6 n7 hf; cases hf
    | succ n ih43 =>
      obtain ⟨rc43, hrc43⟩ : ∃ f9, f9 = lfix (fX8_excessOf_b43 c_now) (fun _ _ _ _ _ _ _ => none) n := ⟨_, rfl⟩
      rw [← hrc43] at ih43
      intro n1 n2 n3 n4 n5 n6 n7 hf
      have hf : fX8_excessOf_b43 c_now rc43 n1 n2 n3 n4 n5 n6 n7 = some (r_) := by rw [hrc43]; exact hf
      unfold fX8_excessOf_b43 at hf
      refine ww_iload (pc := 43) C dX8_excessOf_43 7 rfl ?_
      refine ww_aload_n (pc := 45) C dX8_excessOf_45 rfl 0 rfl ?_
      refine gf8_0 (pc := 46) C kf_X8_9 0 rfl rfl dX8_excessOf_46 ?_
      refine ww_iconst (pc := 49) C dX8_excessOf_49 kI_2 ?_
      obtain ⟨v1, h1, hf⟩ := bsome hf
      refine ww_iald (pc := 50) C 1 rfl h1 dX8_excessOf_50 ?_
      refine ww_icmp_ge (pc := 51) (tgt := 103) C dX8_excessOf_51 (by decide) (fun hc => ?_) (fun hc => ?_)
      · have hf := ifT hc hf
        refine ww_iload (pc := 103) C dX8_excessOf_103 5 rfl ?_
        refine ww_iload (pc := 105) C dX8_excessOf_105 4 rfl ?_
        refine ww_aload_n (pc := 107) C dX8_excessOf_107 rfl 0 rfl ?_
        refine ww_iload_n (pc := 108) C dX8_excessOf_108 rfl 1 rfl ?_
        refine ww_iload_n (pc := 109) C dX8_excessOf_109 rfl 2 rfl ?_
        refine ww_iload_n (pc := 110) C dX8_excessOf_110 rfl 3 rfl ?_
        obtain ⟨v2, h2, hf⟩ := bsome hf
        refine ww_callVi0 (pc := 111) (As := [.int n1, .int n2, .int n3]) (rest := [.int n4, .int n5]) C (tX8_price l D k q_this q_now q_text q_row q_read q_outerCell q_outerDoor q_walked q_onWalks q_far q_aside q_wasFull q_undos q_was q_kept q_isKept c_typed c_rowMany c_thrown c_length c_at c_wrong c_outerMany c_walkedMany c_cameOut c_undoMany c_drawn c_now n1 n2 n3 v2 h2) cv_X8_76 ⟨⟨by decide, by decide⟩, rfl, rfl⟩ 0 rfl rfl [0, 1] rfl rfl rfl rfl (Nat.le_of_ble_eq_true rfl) ⟨Nat.zero_le _, Nat.zero_le _⟩ dX8_excessOf_111 (fun hb2 => ?_)
        refine ww_imul (pc := 114) C dX8_excessOf_114  ?_
        refine ww_iload (pc := 115) C dX8_excessOf_115 6 rfl ?_
        refine ww_imul (pc := 117) C dX8_excessOf_117  ?_
        refine ww_isub (pc := 118) C dX8_excessOf_118  ?_
        obtain e0 := ij1 hf
        exact hret _ _ 119 _ dX8_excessOf_119 rfl e0 rfl
      · have hf := ifF hc hf
        refine ww_iload (pc := 54) C dX8_excessOf_54 5 rfl ?_
        refine ww_aload_n (pc := 56) C dX8_excessOf_56 rfl 0 rfl ?_
        refine ww_iload (pc := 57) C dX8_excessOf_57 7 rfl ?_
        refine ww_iload_n (pc := 59) C dX8_excessOf_59 rfl 1 rfl ?_
        refine ww_iload_n (pc := 60) C dX8_excessOf_60 rfl 2 rfl ?_
        obtain ⟨v3, h3, hf⟩ := bsome hf
        refine ww_callVi0 (pc := 61) (As := [.int n7, .int n1, .int n2]) (rest := [.int n5]) C (tX8_income l D k q_this q_now q_text q_row q_read q_outerCell q_outerDoor q_walked q_onWalks q_far q_aside q_wasFull q_undos q_was q_kept q_isKept c_typed c_rowMany c_thrown c_length c_at c_wrong c_outerMany c_walkedMany c_cameOut c_undoMany c_drawn c_now n7 n1 n2 v3 h3) cv_X8_97 ⟨⟨by decide, by decide⟩, rfl, rfl⟩ 0 rfl rfl [0, 1] rfl rfl rfl rfl (Nat.le_of_ble_eq_true rfl) ⟨Nat.zero_le _, Nat.zero_le _⟩ dX8_excessOf_61 (fun hb3 => ?_)
        refine ww_aload_n (pc := 64) C dX8_excessOf_64 rfl 0 rfl ?_
        refine ww_iload (pc := 65) C dX8_excessOf_65 7 rfl ?_
        refine ww_iload_n (pc := 67) C dX8_excessOf_67 rfl 3 rfl ?_
        obtain ⟨v4, h4, hf⟩ := bsome hf
        refine ww_callVi0 (pc := 68) (As := [.int n7, .int n3]) (rest := [.int v3, .int n5]) C (tX8_wish l D k q_this q_now q_text q_row q_read q_outerCell q_outerDoor q_walked q_onWalks q_far q_aside q_wasFull q_undos q_was q_kept q_isKept c_typed c_rowMany c_thrown c_length c_at c_wrong c_outerMany c_walkedMany c_cameOut c_undoMany c_drawn c_now n7 n3 v4 h4) cv_X8_88 ⟨⟨by decide, by decide⟩, rfl, rfl⟩ 0 rfl rfl [0, 1] rfl rfl rfl rfl (Nat.le_of_ble_eq_true rfl) ⟨Nat.zero_le _, Nat.zero_le _⟩ dX8_excessOf_68 (fun hb4 => ?_)
        refine ww_imul (pc := 71) C dX8_excessOf_71  ?_
        refine ww_iload (pc := 72) C dX8_excessOf_72 4 rfl ?_
        refine ww_aload_n (pc := 74) C dX8_excessOf_74 rfl 0 rfl ?_
        refine ww_iload (pc := 75) C dX8_excessOf_75 7 rfl ?_
        obtain ⟨v5, h5, hf⟩ := bsome hf
        refine ww_callVi0 (pc := 77) (As := [.int n7]) (rest := [.int n4, .int (v3 * v4), .int n5]) C (tX8_wishes l D k q_this q_now q_text q_row q_read q_outerCell q_outerDoor q_walked q_onWalks q_far q_aside q_wasFull q_undos q_was q_kept q_isKept c_typed c_rowMany c_thrown c_length c_at c_wrong c_outerMany c_walkedMany c_cameOut c_undoMany c_drawn c_now n7 v5 h5) cv_X8_94 ⟨⟨by decide, by decide⟩, rfl, rfl⟩ 0 rfl rfl [0, 1] rfl rfl rfl rfl (Nat.le_of_ble_eq_true rfl) ⟨Nat.zero_le _, Nat.zero_le _⟩ dX8_excessOf_77 (fun hb5 => ?_)
        obtain ⟨v6, h6, hf⟩ := bsome hf
        refine ww_idiv (pc := 80) C dX8_excessOf_80 h6 ?_
        refine ww_imul (pc := 81) C dX8_excessOf_81  ?_
        refine ww_iadd (pc := 82) C dX8_excessOf_82  ?_
        obtain ⟨v7, h7, hf⟩ := bsome hf
        refine ww_nmi h7 ?_
        refine ww_istore (pc := 83) (lv' := [(5, .int v7), (0, .ref q_this), (1, .int n1), (2, .int n2), (3, .int n3), (4, .int n4), (6, .int n6), (7, .int n7)]) C dX8_excessOf_83 (by decide) rfl ?_
        refine ww_iload (pc := 85) C dX8_excessOf_85 6 rfl ?_
        refine ww_aload_n (pc := 87) C dX8_excessOf_87 rfl 1 rfl ?_
        refine ww_iload (pc := 88) C dX8_excessOf_88 7 rfl ?_
        refine ww_iload_n (pc := 90) C dX8_excessOf_90 rfl 4 rfl ?_
        obtain ⟨v8, h8, hf⟩ := bsome hf
        refine ww_callVi0 (pc := 91) (As := [.int n7, .int n3]) (rest := [.int n6]) C (tX8_amount l D k q_this q_now q_text q_row q_read q_outerCell q_outerDoor q_walked q_onWalks q_far q_aside q_wasFull q_undos q_was q_kept q_isKept c_typed c_rowMany c_thrown c_length c_at c_wrong c_outerMany c_walkedMany c_cameOut c_undoMany c_drawn c_now n7 n3 v8 h8) cv_X8_91 ⟨⟨by decide, by decide⟩, rfl, rfl⟩ 0 rfl rfl [0, 1] rfl rfl rfl rfl (Nat.le_of_ble_eq_true rfl) ⟨Nat.zero_le _, Nat.zero_le _⟩ dX8_excessOf_91 (fun hb8 => ?_)
        refine ww_iadd (pc := 94) C dX8_excessOf_94  ?_
        obtain ⟨v9, h9, hf⟩ := bsome hf
        refine ww_nmi h9 ?_
        refine ww_istore (pc := 95) (lv' := [(6, .int v9), (5, .int v7), (0, .ref q_this), (1, .int n1), (2, .int n2), (3, .int n3), (4, .int n4), (7, .int n7)]) C dX8_excessOf_95 (by decide) rfl ?_
        obtain ⟨v10, h10, hf⟩ := bsome hf
        refine ww_iincN (pc := 97) (lv' := [(7, .int v10), (6, .int v9), (5, .int v7), (0, .ref q_this), (1, .int n1), (2, .int n2), (3, .int n3), (4, .int n4)]) (j := 7) C dX8_excessOf_97 kI_1 rfl h10 (by decide) rfl ?_
        refine ww_goto (pc := 100) (tgt := 43) C dX8_excessOf_100 (by decide) ?_
        exact ww_lv [3, 4, 5, 6, 7, 2, 1, 0] rfl (ih43 n1 n2 n3 n4 v7 v9 v10 hf)
  have hL6 : ∀ (n : Nat) (n1 : Int32) (n2 : Int32) (n3 : Int32) (n4 : Int32) (n5 : Int32), lfix (fX8_excessOf_b6 c_now) (fun _ _ _ _ _ => none) n n1 n2 n3 n4 n5 = some (r_) → WW p l e (RM 3 68) s m args below meth c Q 8 D A 0 0 [oX8 q_this q_now q_text c_typed q_row c_rowMany c_thrown c_length c_at c_wrong q_read q_outerCell q_outerDoor c_outerMany q_walked c_walkedMany c_cameOut q_onWalks q_far q_aside q_wasFull q_undos q_was c_undoMany c_drawn q_kept q_isKept, aI k q_now 189 c_now] [(0, .ref q_this), (1, .int n1), (2, .int n2), (3, .int n3), (4, .int n4), (5, .int n5)] 6 [] := by
    intro n
    induction n with
    | zero => intro n1 n2 n3 n4 n5 hf; cases hf
    | succ n ih6 =>
      obtain ⟨rc6, hrc6⟩ : ∃ f9, f9 = lfix (fX8_excessOf_b6 c_now) (fun _ _ _ _ _ => none) n := ⟨_, rfl⟩
      rw [← hrc6] at ih6
      intro n1 n2 n3 n4 n5 hf
      have hf : fX8_excessOf_b6 c_now rc6 n1 n2 n3 n4 n5 = some (r_) := by rw [hrc6]; exact hf
      unfold fX8_excessOf_b6 at hf
      refine ww_iload (pc := 6) C dX8_excessOf_6 5 rfl ?_
      refine ww_aload_n (pc := 8) C dX8_excessOf_8 rfl 0 rfl ?_
      refine gf8_0 (pc := 9) C kf_X8_9 0 rfl rfl dX8_excessOf_9 ?_
      refine ww_iconst (pc := 12) C dX8_excessOf_12 kI_2 ?_
      obtain ⟨v1, h1, hf⟩ := bsome hf
      refine ww_iald (pc := 13) C 1 rfl h1 dX8_excessOf_13 ?_
      refine ww_icmp_ge (pc := 14) (tgt := 34) C dX8_excessOf_14 (by decide) (fun hc => ?_) (fun hc => ?_)
      · have hf := ifT hc hf
        refine ww_iconst (pc := 34) C dX8_excessOf_34 kI_0 ?_
        refine ww_istore (pc := 35) (lv' := [(5, .int (0 : Int32)), (0, .ref q_this), (1, .int n1), (2, .int n2), (3, .int n3), (4, .int n4)]) C dX8_excessOf_35 (by decide) rfl ?_
        refine ww_iconst (pc := 37) C dX8_excessOf_37 kI_0 ?_
        refine ww_istore (pc := 38) (lv' := [(6, .int (0 : Int32)), (5, .int (0 : Int32)), (0, .ref q_this), (1, .int n1), (2, .int n2), (3, .int n3), (4, .int n4)]) C dX8_excessOf_38 (by decide) rfl ?_
        refine ww_iconst (pc := 40) C dX8_excessOf_40 kI_0 ?_
        refine ww_istore (pc := 41) (lv' := [(7, .int (0 : Int32)), (6, .int (0 : Int32)), (5, .int (0 : Int32)), (0, .ref q_this), (1, .int n1), (2, .int n2), (3, .int n3), (4, .int n4)]) C dX8_excessOf_41 (by decide) rfl ?_
        exact ww_lv [3, 4, 5, 6, 7, 2, 1, 0] rfl (hL43 FU n1 n2 n3 n4 (0 : Int32) (0 : Int32) (0 : Int32) hf)
      · have hf := ifF hc hf
        refine ww_iload (pc := 17) C dX8_excessOf_17 4 rfl ?_
        refine ww_aload_n (pc := 19) C dX8_excessOf_19 rfl 0 rfl ?_
        refine ww_iload (pc := 20) C dX8_excessOf_20 5 rfl ?_
        obtain ⟨v2, h2, hf⟩ := bsome hf
        refine ww_callVi0 (pc := 22) (As := [.int n5]) (rest := [.int n4]) C (tX8_wishes l D k q_this q_now q_text q_row q_read q_outerCell q_outerDoor q_walked q_onWalks q_far q_aside q_wasFull q_undos q_was q_kept q_isKept c_typed c_rowMany c_thrown c_length c_at c_wrong c_outerMany c_walkedMany c_cameOut c_undoMany c_drawn c_now n5 v2 h2) cv_X8_94 ⟨⟨by decide, by decide⟩, rfl, rfl⟩ 0 rfl rfl [0, 1] rfl rfl rfl rfl (Nat.le_of_ble_eq_true rfl) ⟨Nat.zero_le _, Nat.zero_le _⟩ dX8_excessOf_22 (fun hb2 => ?_)
        refine ww_imul (pc := 25) C dX8_excessOf_25  ?_
        obtain ⟨v3, h3, hf⟩ := bsome hf
        refine ww_nmi h3 ?_
        refine ww_istore (pc := 26) (lv' := [(4, .int v3), (0, .ref q_this), (1, .int n1), (2, .int n2), (3, .int n3), (5, .int n5)]) C dX8_excessOf_26 (by decide) rfl ?_
        obtain ⟨v4, h4, hf⟩ := bsome hf
        refine ww_iincN (pc := 28) (lv' := [(5, .int v4), (4, .int v3), (0, .ref q_this), (1, .int n1), (2, .int n2), (3, .int n3)]) (j := 5) C dX8_excessOf_28 kI_1 rfl h4 (by decide) rfl ?_
        refine ww_goto (pc := 31) (tgt := 6) C dX8_excessOf_31 (by decide) ?_
        exact ww_lv [2, 3, 4, 5, 1, 0] rfl (ih6 n1 n2 n3 v3 v4 hf)
  unfold fX8_excessOf at hf
  refine ww_iconst (pc := 0) C dX8_excessOf_0 kI_1 ?_
  refine ww_istore (pc := 1) (lv' := [(4, .int (1 : Int32)), (0, .ref q_this), (1, .int x1), (2, .int x2), (3, .int x3)]) C dX8_excessOf_1 (by decide) rfl ?_
  refine ww_iconst (pc := 3) C dX8_excessOf_3 kI_0 ?_
  refine ww_istore (pc := 4) (lv' := [(5, .int (0 : Int32)), (4, .int (1 : Int32)), (0, .ref q_this), (1, .int x1), (2, .int x2), (3, .int x3)]) C dX8_excessOf_4 (by decide) rfl ?_
  exact ww_lv [2, 3, 4, 5, 1, 0] rfl (hL6 FU x1 x2 x3 (1 : Int32) (0 : Int32) hf)
def fX8_off_b5 (c_now : Nat → Int32) (rc5 : Int32 → Int32 → Int32 → Int32 → Option Int32) (n1 : Int32) (n2 : Int32) (n3 : Int32) (n4 : Int32) : Option Int32 := if (3 : Int32) ≤ n4 then some (n3) else (fX8_excessOf c_now n1 n2 n4).bind fun v1 => (some (mxI n3 (abI v1))).bind fun v2 => (some (n4 + (1 : Int32))).bind fun v3 => rc5 n1 n2 v2 v3
def fX8_off (c_now : Nat → Int32) (x1 : Int32) (x2 : Int32) : Option Int32 := lfix (fX8_off_b5 c_now) (fun _ _ _ _ => none) FU x1 x2 (0 : Int32) (0 : Int32)
set_option maxHeartbeats 4000000 in
set_option maxRecDepth 100000 in
theorem tX8_off (l : Launch) (D : va_G) (k : Nat → ClassId) (q_this q_now q_text q_row q_read q_outerCell q_outerDoor q_walked q_onWalks q_far q_aside q_wasFull q_undos q_was q_kept q_isKept : Nat) (c_typed : Int32) (c_rowMany : Int32) (c_thrown : Int32) (c_length : Int32) (c_at : Int32) (c_wrong : Int32) (c_outerMany : Int32) (c_walkedMany : Int32) (c_cameOut : Int32) (c_undoMany : Int32) (c_drawn : Int32) (c_now : Nat → Int32) (x1 : Int32) (x2 : Int32) (r_ : Int32) (hf : fX8_off c_now x1 x2 = some (r_)) : MI l yX8_off cX8_off 5 .int (RM 4 95) D k [.ref q_this, .int x1, .int x2] [oX8 q_this q_now q_text c_typed q_row c_rowMany c_thrown c_length c_at c_wrong q_read q_outerCell q_outerDoor c_outerMany q_walked c_walkedMany c_cameOut q_onWalks q_far q_aside q_wasFull q_undos q_was c_undoMany c_drawn q_kept q_isKept, aI k q_now 189 c_now] r_ [oX8 q_this q_now q_text c_typed q_row c_rowMany c_thrown c_length c_at c_wrong q_read q_outerCell q_outerDoor c_outerMany q_walked c_walkedMany c_cameOut q_onWalks q_far q_aside q_wasFull q_undos q_was c_undoMany c_drawn q_kept q_isKept, aI k q_now 189 c_now] := by
  refine mkMI' (own := "DoorWalkModel") (by decide) rfl (Nat.le_of_ble_eq_true rfl) ?_
  intro p e s m args below meth c Q A hret C
  refine ww_lv (lv' := [(0, .ref q_this), (1, .int x1), (2, .int x2)]) [0, 1, 2] rfl ?_
  have hL5 : ∀ (n : Nat) (n1 : Int32) (n2 : Int32) (n3 : Int32) (n4 : Int32), lfix (fX8_off_b5 c_now) (fun _ _ _ _ => none) n n1 n2 n3 n4 = some (r_) → WW p l e (RM 4 95) s m args below meth c Q 5 D A 0 0 [oX8 q_this q_now q_text c_typed q_row c_rowMany c_thrown c_length c_at c_wrong q_read q_outerCell q_outerDoor c_outerMany q_walked c_walkedMany c_cameOut q_onWalks q_far q_aside q_wasFull q_undos q_was c_undoMany c_drawn q_kept q_isKept, aI k q_now 189 c_now] [(0, .ref q_this), (1, .int n1), (2, .int n2), (3, .int n3), (4, .int n4)] 5 [] := by
    intro n
    induction n with
    | zero => intro n1 n2 n3 n4 hf; cases hf
    | succ n ih5 =>
      obtain ⟨rc5, hrc5⟩ : ∃ f9, f9 = lfix (fX8_off_b5 c_now) (fun _ _ _ _ => none) n := ⟨_, rfl⟩
      rw [← hrc5] at ih5
      intro n1 n2 n3 n4 hf
      have hf : fX8_off_b5 c_now rc5 n1 n2 n3 n4 = some (r_) := by rw [hrc5]; exact hf
      unfold fX8_off_b5 at hf
      refine ww_iload (pc := 5) C dX8_off_5 4 rfl ?_
      refine ww_iconst (pc := 7) C dX8_off_7 kI_3 ?_
      refine ww_icmp_ge (pc := 8) (tgt := 33) C dX8_off_8 (by decide) (fun hc => ?_) (fun hc => ?_)
      · have hf := ifT hc hf
        refine ww_iload_n (pc := 33) C dX8_off_33 rfl 3 rfl ?_
        obtain e0 := ij1 hf
        exact hret _ _ 34 _ dX8_off_34 rfl e0 rfl
      · have hf := ifF hc hf
        refine ww_iload_n (pc := 11) C dX8_off_11 rfl 3 rfl ?_
        refine ww_aload_n (pc := 12) C dX8_off_12 rfl 0 rfl ?_
        refine ww_iload_n (pc := 13) C dX8_off_13 rfl 1 rfl ?_
        refine ww_iload_n (pc := 14) C dX8_off_14 rfl 2 rfl ?_
        refine ww_iload (pc := 15) C dX8_off_15 4 rfl ?_
        obtain ⟨v1, h1, hf⟩ := bsome hf
        refine ww_callVi0 (pc := 17) (As := [.int n1, .int n2, .int n4]) (rest := [.int n3]) C (tX8_excessOf l D k q_this q_now q_text q_row q_read q_outerCell q_outerDoor q_walked q_onWalks q_far q_aside q_wasFull q_undos q_was q_kept q_isKept c_typed c_rowMany c_thrown c_length c_at c_wrong c_outerMany c_walkedMany c_cameOut c_undoMany c_drawn c_now n1 n2 n4 v1 h1) cv_X8_100 ⟨⟨by decide, by decide⟩, rfl, rfl⟩ 0 rfl rfl [0, 1] rfl rfl rfl rfl (Nat.le_of_ble_eq_true rfl) ⟨Nat.zero_le _, Nat.zero_le _⟩ dX8_off_17 (fun hb1 => ?_)
        refine ww_mabs (pc := 20) C cs_X8_103.1 (Nat.le_of_ble_eq_true rfl) (Nat.le_of_ble_eq_true rfl) ⟨Nat.zero_le _, Nat.zero_le _⟩ dX8_off_20 ?_
        refine ww_mmax (pc := 23) C cs_X8_108.1 (Nat.le_of_ble_eq_true rfl) (Nat.le_of_ble_eq_true rfl) ⟨Nat.zero_le _, Nat.zero_le _⟩ dX8_off_23 ?_
        obtain ⟨v2, h2, hf⟩ := bsome hf
        refine ww_nmi h2 ?_
        refine ww_istore_n (pc := 26) (lv' := [(3, .int v2), (0, .ref q_this), (1, .int n1), (2, .int n2), (4, .int n4)]) C dX8_off_26 rfl (by decide) rfl ?_
        obtain ⟨v3, h3, hf⟩ := bsome hf
        refine ww_iincN (pc := 27) (lv' := [(4, .int v3), (3, .int v2), (0, .ref q_this), (1, .int n1), (2, .int n2)]) (j := 4) C dX8_off_27 kI_1 rfl h3 (by decide) rfl ?_
        refine ww_goto (pc := 30) (tgt := 5) C dX8_off_30 (by decide) ?_
        exact ww_lv [2, 3, 4, 1, 0] rfl (ih5 n1 n2 v2 v3 hf)
  unfold fX8_off at hf
  refine ww_iconst (pc := 0) C dX8_off_0 kI_0 ?_
  refine ww_istore_n (pc := 1) (lv' := [(3, .int (0 : Int32)), (0, .ref q_this), (1, .int x1), (2, .int x2)]) C dX8_off_1 rfl (by decide) rfl ?_
  refine ww_iconst (pc := 2) C dX8_off_2 kI_0 ?_
  refine ww_istore (pc := 3) (lv' := [(4, .int (0 : Int32)), (3, .int (0 : Int32)), (0, .ref q_this), (1, .int x1), (2, .int x2)]) C dX8_off_3 (by decide) rfl ?_
  exact ww_lv [2, 3, 4, 1, 0] rfl (hL5 FU x1 x2 (0 : Int32) (0 : Int32) hf)
def fX8_byExchange_b48 (c_now : Nat → Int32) (rc5 : Int32 → Int32 → Int32 → Int32 → Option Int32) (n1 : Int32) (n2 : Int32) (n4 : Int32) : Option Int32 := (some (n4 + (1 : Int32))).bind fun v1 => rc5 n1 n2 n4 v1
def fX8_byExchange_b5 (c_now : Nat → Int32) (rc5 : Int32 → Int32 → Int32 → Int32 → Option Int32) (n1 : Int32) (n2 : Int32) (n3 : Int32) (n4 : Int32) : Option Int32 := if (3 : Int32) ≤ n4 then some (n3) else (fX8_canHave c_now n1 n2 n4).bind fun v1 => if v1 = 0 then (some (n4 + (1 : Int32))).bind fun v5 => rc5 n1 n2 n3 v5 else if n3 = (-1 : Int32) then fX8_byExchange_b48 c_now rc5 n1 n2 n4 else (fX8_excessOf c_now n1 n2 n4).bind fun v2 => (fX8_excessOf c_now n1 n2 n3).bind fun v3 => if v3 ≤ v2 then (some (n4 + (1 : Int32))).bind fun v4 => rc5 n1 n2 n3 v4 else fX8_byExchange_b48 c_now rc5 n1 n2 n4
def fX8_byExchange (c_now : Nat → Int32) (x1 : Int32) (x2 : Int32) : Option Int32 := lfix (fX8_byExchange_b5 c_now) (fun _ _ _ _ => none) FU x1 x2 (-1 : Int32) (0 : Int32)
set_option maxHeartbeats 4000000 in
set_option maxRecDepth 100000 in
theorem tX8_byExchange (l : Launch) (D : va_G) (k : Nat → ClassId) (q_this q_now q_text q_row q_read q_outerCell q_outerDoor q_walked q_onWalks q_far q_aside q_wasFull q_undos q_was q_kept q_isKept : Nat) (c_typed : Int32) (c_rowMany : Int32) (c_thrown : Int32) (c_length : Int32) (c_at : Int32) (c_wrong : Int32) (c_outerMany : Int32) (c_walkedMany : Int32) (c_cameOut : Int32) (c_undoMany : Int32) (c_drawn : Int32) (c_now : Nat → Int32) (x1 : Int32) (x2 : Int32) (r_ : Int32) (hf : fX8_byExchange c_now x1 x2 = some (r_)) : MI l yX8_byExchange cX8_byExchange 5 .int (RM 4 95) D k [.ref q_this, .int x1, .int x2] [oX8 q_this q_now q_text c_typed q_row c_rowMany c_thrown c_length c_at c_wrong q_read q_outerCell q_outerDoor c_outerMany q_walked c_walkedMany c_cameOut q_onWalks q_far q_aside q_wasFull q_undos q_was c_undoMany c_drawn q_kept q_isKept, aI k q_now 189 c_now] r_ [oX8 q_this q_now q_text c_typed q_row c_rowMany c_thrown c_length c_at c_wrong q_read q_outerCell q_outerDoor c_outerMany q_walked c_walkedMany c_cameOut q_onWalks q_far q_aside q_wasFull q_undos q_was c_undoMany c_drawn q_kept q_isKept, aI k q_now 189 c_now] := by
  refine mkMI' (own := "DoorWalkModel") (by decide) rfl (Nat.le_of_ble_eq_true rfl) ?_
  intro p e s m args below meth c Q A hret C
  refine ww_lv (lv' := [(0, .ref q_this), (1, .int x1), (2, .int x2)]) [0, 1, 2] rfl ?_
  have hL5 : ∀ (n : Nat) (n1 : Int32) (n2 : Int32) (n3 : Int32) (n4 : Int32), lfix (fX8_byExchange_b5 c_now) (fun _ _ _ _ => none) n n1 n2 n3 n4 = some (r_) → WW p l e (RM 4 95) s m args below meth c Q 5 D A 0 0 [oX8 q_this q_now q_text c_typed q_row c_rowMany c_thrown c_length c_at c_wrong q_read q_outerCell q_outerDoor c_outerMany q_walked c_walkedMany c_cameOut q_onWalks q_far q_aside q_wasFull q_undos q_was c_undoMany c_drawn q_kept q_isKept, aI k q_now 189 c_now] [(0, .ref q_this), (1, .int n1), (2, .int n2), (3, .int n3), (4, .int n4)] 5 [] := by
    intro n
    induction n with
    | zero => intro n1 n2 n3 n4 hf; cases hf
    | succ n ih5 =>
      obtain ⟨rc5, hrc5⟩ : ∃ f9, f9 = lfix (fX8_byExchange_b5 c_now) (fun _ _ _ _ => none) n := ⟨_, rfl⟩
      rw [← hrc5] at ih5
      have hJ48 : ∀ (n1 : Int32) (n2 : Int32) (n4 : Int32), fX8_byExchange_b48 c_now rc5 n1 n2 n4 = some (r_) → WW p l e (RM 4 95) s m args below meth c Q 5 D A 0 0 [oX8 q_this q_now q_text c_typed q_row c_rowMany c_thrown c_length c_at c_wrong q_read q_outerCell q_outerDoor c_outerMany q_walked c_walkedMany c_cameOut q_onWalks q_far q_aside q_wasFull q_undos q_was c_undoMany c_drawn q_kept q_isKept, aI k q_now 189 c_now] [(0, .ref q_this), (1, .int n1), (2, .int n2), (4, .int n4)] 48 [] := by
        intro n1 n2 n4
        intro hf
        unfold fX8_byExchange_b48 at hf
        refine ww_iload (pc := 48) C dX8_byExchange_48 3 rfl ?_
        refine ww_istore_n (pc := 50) (lv' := [(3, .int n4), (0, .ref q_this), (1, .int n1), (2, .int n2), (4, .int n4)]) C dX8_byExchange_50 rfl (by decide) rfl ?_
        obtain ⟨v1, h1, hf⟩ := bsome hf
        refine ww_iincN (pc := 51) (lv' := [(4, .int v1), (3, .int n4), (0, .ref q_this), (1, .int n1), (2, .int n2)]) (j := 4) C dX8_byExchange_51 kI_1 rfl h1 (by decide) rfl ?_
        refine ww_goto (pc := 54) (tgt := 5) C dX8_byExchange_54 (by decide) ?_
        exact ww_lv [2, 3, 4, 1, 0] rfl (ih5 n1 n2 n4 v1 hf)
      intro n1 n2 n3 n4 hf
      have hf : fX8_byExchange_b5 c_now rc5 n1 n2 n3 n4 = some (r_) := by rw [hrc5]; exact hf
      unfold fX8_byExchange_b5 at hf
      refine ww_iload (pc := 5) C dX8_byExchange_5 4 rfl ?_
      refine ww_iconst (pc := 7) C dX8_byExchange_7 kI_3 ?_
      refine ww_icmp_ge (pc := 8) (tgt := 57) C dX8_byExchange_8 (by decide) (fun hc => ?_) (fun hc => ?_)
      · have hf := ifT hc hf
        refine ww_iload_n (pc := 57) C dX8_byExchange_57 rfl 3 rfl ?_
        obtain e0 := ij1 hf
        exact hret _ _ 58 _ dX8_byExchange_58 rfl e0 rfl
      · have hf := ifF hc hf
        refine ww_aload_n (pc := 11) C dX8_byExchange_11 rfl 0 rfl ?_
        refine ww_iload_n (pc := 12) C dX8_byExchange_12 rfl 1 rfl ?_
        refine ww_iload_n (pc := 13) C dX8_byExchange_13 rfl 2 rfl ?_
        refine ww_iload (pc := 14) C dX8_byExchange_14 4 rfl ?_
        obtain ⟨v1, h1, hf⟩ := bsome hf
        refine ww_callVi0 (pc := 16) (As := [.int n1, .int n2, .int n4]) (rest := []) C (tX8_canHave l D k q_this q_now q_text q_row q_read q_outerCell q_outerDoor q_walked q_onWalks q_far q_aside q_wasFull q_undos q_was q_kept q_isKept c_typed c_rowMany c_thrown c_length c_at c_wrong c_outerMany c_walkedMany c_cameOut c_undoMany c_drawn c_now n1 n2 n4 v1 h1) cv_X8_111 ⟨⟨by decide, by decide⟩, rfl, rfl⟩ 0 rfl rfl [0, 1] rfl rfl rfl rfl (Nat.le_of_ble_eq_true rfl) ⟨Nat.zero_le _, Nat.zero_le _⟩ dX8_byExchange_16 (fun hb1 => ?_)
        refine ww_if_ne (pc := 19) (tgt := 25) C dX8_byExchange_19 (by decide) (fun hc => ?_) (fun hc => ?_)
        · have hf := ifF hc hf
          refine ww_iload_n (pc := 25) C dX8_byExchange_25 rfl 3 rfl ?_
          refine ww_iconst (pc := 26) C dX8_byExchange_26 kI_m1 ?_
          refine ww_icmp_eq (pc := 27) (tgt := 48) C dX8_byExchange_27 (by decide) (fun hc => ?_) (fun hc => ?_)
          · have hf := ifT hc hf
            exact ww_lv [0, 1, 2, 4] rfl (hJ48 n1 n2 n4 hf)
          · have hf := ifF hc hf
            refine ww_aload_n (pc := 30) C dX8_byExchange_30 rfl 0 rfl ?_
            refine ww_iload_n (pc := 31) C dX8_byExchange_31 rfl 1 rfl ?_
            refine ww_iload_n (pc := 32) C dX8_byExchange_32 rfl 2 rfl ?_
            refine ww_iload (pc := 33) C dX8_byExchange_33 4 rfl ?_
            obtain ⟨v2, h2, hf⟩ := bsome hf
            refine ww_callVi0 (pc := 35) (As := [.int n1, .int n2, .int n4]) (rest := []) C (tX8_excessOf l D k q_this q_now q_text q_row q_read q_outerCell q_outerDoor q_walked q_onWalks q_far q_aside q_wasFull q_undos q_was q_kept q_isKept c_typed c_rowMany c_thrown c_length c_at c_wrong c_outerMany c_walkedMany c_cameOut c_undoMany c_drawn c_now n1 n2 n4 v2 h2) cv_X8_100 ⟨⟨by decide, by decide⟩, rfl, rfl⟩ 0 rfl rfl [0, 1] rfl rfl rfl rfl (Nat.le_of_ble_eq_true rfl) ⟨Nat.zero_le _, Nat.zero_le _⟩ dX8_byExchange_35 (fun hb2 => ?_)
            refine ww_aload_n (pc := 38) C dX8_byExchange_38 rfl 0 rfl ?_
            refine ww_iload_n (pc := 39) C dX8_byExchange_39 rfl 1 rfl ?_
            refine ww_iload_n (pc := 40) C dX8_byExchange_40 rfl 2 rfl ?_
            refine ww_iload_n (pc := 41) C dX8_byExchange_41 rfl 3 rfl ?_
            obtain ⟨v3, h3, hf⟩ := bsome hf
            refine ww_callVi0 (pc := 42) (As := [.int n1, .int n2, .int n3]) (rest := [.int v2]) C (tX8_excessOf l D k q_this q_now q_text q_row q_read q_outerCell q_outerDoor q_walked q_onWalks q_far q_aside q_wasFull q_undos q_was q_kept q_isKept c_typed c_rowMany c_thrown c_length c_at c_wrong c_outerMany c_walkedMany c_cameOut c_undoMany c_drawn c_now n1 n2 n3 v3 h3) cv_X8_100 ⟨⟨by decide, by decide⟩, rfl, rfl⟩ 0 rfl rfl [0, 1] rfl rfl rfl rfl (Nat.le_of_ble_eq_true rfl) ⟨Nat.zero_le _, Nat.zero_le _⟩ dX8_byExchange_42 (fun hb3 => ?_)
            refine ww_icmp_ge (pc := 45) (tgt := 51) C dX8_byExchange_45 (by decide) (fun hc => ?_) (fun hc => ?_)
            · have hf := ifT hc hf
              obtain ⟨v4, h4, hf⟩ := bsome hf
              refine ww_iincN (pc := 51) (lv' := [(4, .int v4), (0, .ref q_this), (1, .int n1), (2, .int n2), (3, .int n3)]) (j := 4) C dX8_byExchange_51 kI_1 rfl h4 (by decide) rfl ?_
              refine ww_goto (pc := 54) (tgt := 5) C dX8_byExchange_54 (by decide) ?_
              exact ww_lv [1, 2, 3, 4, 0] rfl (ih5 n1 n2 n3 v4 hf)
            · have hf := ifF hc hf
              exact ww_lv [0, 1, 2, 4] rfl (hJ48 n1 n2 n4 hf)
        · have hf := ifT hc hf
          refine ww_goto (pc := 22) (tgt := 51) C dX8_byExchange_22 (by decide) ?_
          obtain ⟨v5, h5, hf⟩ := bsome hf
          refine ww_iincN (pc := 51) (lv' := [(4, .int v5), (0, .ref q_this), (1, .int n1), (2, .int n2), (3, .int n3)]) (j := 4) C dX8_byExchange_51 kI_1 rfl h5 (by decide) rfl ?_
          refine ww_goto (pc := 54) (tgt := 5) C dX8_byExchange_54 (by decide) ?_
          exact ww_lv [1, 2, 3, 4, 0] rfl (ih5 n1 n2 n3 v5 hf)
  unfold fX8_byExchange at hf
  refine ww_iconst (pc := 0) C dX8_byExchange_0 kI_m1 ?_
  refine ww_istore_n (pc := 1) (lv' := [(3, .int (-1 : Int32)), (0, .ref q_this), (1, .int x1), (2, .int x2)]) C dX8_byExchange_1 rfl (by decide) rfl ?_
  refine ww_iconst (pc := 2) C dX8_byExchange_2 kI_0 ?_
  refine ww_istore (pc := 3) (lv' := [(4, .int (0 : Int32)), (3, .int (-1 : Int32)), (0, .ref q_this), (1, .int x1), (2, .int x2)]) C dX8_byExchange_3 (by decide) rfl ?_
  exact ww_lv [2, 3, 4, 1, 0] rfl (hL5 FU x1 x2 (-1 : Int32) (0 : Int32) hf)
def fX8_mapSum (c_now : Nat → Int32) (x1 : Int32) : Option Int32 := (ald 189 ((27 : Int32) + x1) c_now).bind fun v1 => (ald 189 ((30 : Int32) + x1) c_now).bind fun v2 => (ald 189 ((33 : Int32) + x1) c_now).bind fun v3 => some (((v1 + v2) + v3))
set_option maxHeartbeats 4000000 in
set_option maxRecDepth 100000 in
theorem tX8_mapSum (l : Launch) (D : va_G) (k : Nat → ClassId) (q_this q_now q_text q_row q_read q_outerCell q_outerDoor q_walked q_onWalks q_far q_aside q_wasFull q_undos q_was q_kept q_isKept : Nat) (c_typed : Int32) (c_rowMany : Int32) (c_thrown : Int32) (c_length : Int32) (c_at : Int32) (c_wrong : Int32) (c_outerMany : Int32) (c_walkedMany : Int32) (c_cameOut : Int32) (c_undoMany : Int32) (c_drawn : Int32) (c_now : Nat → Int32) (x1 : Int32) (r_ : Int32) (hf : fX8_mapSum c_now x1 = some (r_)) : MI l yX8_mapSum cX8_mapSum 2 .int (RM 0 0) D k [.ref q_this, .int x1] [oX8 q_this q_now q_text c_typed q_row c_rowMany c_thrown c_length c_at c_wrong q_read q_outerCell q_outerDoor c_outerMany q_walked c_walkedMany c_cameOut q_onWalks q_far q_aside q_wasFull q_undos q_was c_undoMany c_drawn q_kept q_isKept, aI k q_now 189 c_now] r_ [oX8 q_this q_now q_text c_typed q_row c_rowMany c_thrown c_length c_at c_wrong q_read q_outerCell q_outerDoor c_outerMany q_walked c_walkedMany c_cameOut q_onWalks q_far q_aside q_wasFull q_undos q_was c_undoMany c_drawn q_kept q_isKept, aI k q_now 189 c_now] := by
  refine mkMI' (own := "DoorWalkModel") (by decide) rfl (Nat.le_of_ble_eq_true rfl) ?_
  intro p e s m args below meth c Q A hret C
  refine ww_lv (lv' := [(0, .ref q_this), (1, .int x1)]) [0, 1] rfl ?_
  unfold fX8_mapSum at hf
  refine ww_aload_n (pc := 0) C dX8_mapSum_0 rfl 0 rfl ?_
  refine gf8_0 (pc := 1) C kf_X8_9 0 rfl rfl dX8_mapSum_1 ?_
  refine ww_bipush (pc := 4) C dX8_mapSum_4 kB_27 ?_
  refine ww_iload_n (pc := 6) C dX8_mapSum_6 rfl 1 rfl ?_
  refine ww_iadd (pc := 7) C dX8_mapSum_7  ?_
  obtain ⟨v1, h1, hf⟩ := bsome hf
  refine ww_iald (pc := 8) C 1 rfl h1 dX8_mapSum_8 ?_
  refine ww_aload_n (pc := 9) C dX8_mapSum_9 rfl 0 rfl ?_
  refine gf8_0 (pc := 10) C kf_X8_9 0 rfl rfl dX8_mapSum_10 ?_
  refine ww_bipush (pc := 13) C dX8_mapSum_13 kB_30 ?_
  refine ww_iload_n (pc := 15) C dX8_mapSum_15 rfl 1 rfl ?_
  refine ww_iadd (pc := 16) C dX8_mapSum_16  ?_
  obtain ⟨v2, h2, hf⟩ := bsome hf
  refine ww_iald (pc := 17) C 1 rfl h2 dX8_mapSum_17 ?_
  refine ww_iadd (pc := 18) C dX8_mapSum_18  ?_
  refine ww_aload_n (pc := 19) C dX8_mapSum_19 rfl 0 rfl ?_
  refine gf8_0 (pc := 20) C kf_X8_9 0 rfl rfl dX8_mapSum_20 ?_
  refine ww_bipush (pc := 23) C dX8_mapSum_23 kB_33 ?_
  refine ww_iload_n (pc := 25) C dX8_mapSum_25 rfl 1 rfl ?_
  refine ww_iadd (pc := 26) C dX8_mapSum_26  ?_
  obtain ⟨v3, h3, hf⟩ := bsome hf
  refine ww_iald (pc := 27) C 1 rfl h3 dX8_mapSum_27 ?_
  refine ww_iadd (pc := 28) C dX8_mapSum_28  ?_
  obtain e0 := ij1 hf
  exact hret _ _ 29 _ dX8_mapSum_29 rfl e0 rfl
def fX8_mapped_b6 (c_now : Nat → Int32) (rc6 : Int32 → Int32 → Int32 → Int32 → Int32 → Option Int32) (n1 : Int32) (n2 : Int32) (n3 : Int32) (n4 : Int32) (n5 : Int32) : Option Int32 := if (3 : Int32) ≤ n5 then some (n4) else (ald 189 (((27 : Int32) + ((3 : Int32) * n3)) + n5) c_now).bind fun v1 => (fX8_price c_now n1 n2 n5).bind fun v2 => (some (n4 + (v1 * v2))).bind fun v3 => (some (n5 + (1 : Int32))).bind fun v4 => rc6 n1 n2 n3 v3 v4
def fX8_mapped (c_now : Nat → Int32) (x1 : Int32) (x2 : Int32) (x3 : Int32) : Option Int32 := lfix (fX8_mapped_b6 c_now) (fun _ _ _ _ _ => none) FU x1 x2 x3 (0 : Int32) (0 : Int32)
set_option maxHeartbeats 4000000 in
set_option maxRecDepth 100000 in
theorem tX8_mapped (l : Launch) (D : va_G) (k : Nat → ClassId) (q_this q_now q_text q_row q_read q_outerCell q_outerDoor q_walked q_onWalks q_far q_aside q_wasFull q_undos q_was q_kept q_isKept : Nat) (c_typed : Int32) (c_rowMany : Int32) (c_thrown : Int32) (c_length : Int32) (c_at : Int32) (c_wrong : Int32) (c_outerMany : Int32) (c_walkedMany : Int32) (c_cameOut : Int32) (c_undoMany : Int32) (c_drawn : Int32) (c_now : Nat → Int32) (x1 : Int32) (x2 : Int32) (x3 : Int32) (r_ : Int32) (hf : fX8_mapped c_now x1 x2 x3 = some (r_)) : MI l yX8_mapped cX8_mapped 6 .int (RM 2 43) D k [.ref q_this, .int x1, .int x2, .int x3] [oX8 q_this q_now q_text c_typed q_row c_rowMany c_thrown c_length c_at c_wrong q_read q_outerCell q_outerDoor c_outerMany q_walked c_walkedMany c_cameOut q_onWalks q_far q_aside q_wasFull q_undos q_was c_undoMany c_drawn q_kept q_isKept, aI k q_now 189 c_now] r_ [oX8 q_this q_now q_text c_typed q_row c_rowMany c_thrown c_length c_at c_wrong q_read q_outerCell q_outerDoor c_outerMany q_walked c_walkedMany c_cameOut q_onWalks q_far q_aside q_wasFull q_undos q_was c_undoMany c_drawn q_kept q_isKept, aI k q_now 189 c_now] := by
  refine mkMI' (own := "DoorWalkModel") (by decide) rfl (Nat.le_of_ble_eq_true rfl) ?_
  intro p e s m args below meth c Q A hret C
  refine ww_lv (lv' := [(0, .ref q_this), (1, .int x1), (2, .int x2), (3, .int x3)]) [0, 1, 2, 3] rfl ?_
  have hL6 : ∀ (n : Nat) (n1 : Int32) (n2 : Int32) (n3 : Int32) (n4 : Int32) (n5 : Int32), lfix (fX8_mapped_b6 c_now) (fun _ _ _ _ _ => none) n n1 n2 n3 n4 n5 = some (r_) → WW p l e (RM 2 43) s m args below meth c Q 6 D A 0 0 [oX8 q_this q_now q_text c_typed q_row c_rowMany c_thrown c_length c_at c_wrong q_read q_outerCell q_outerDoor c_outerMany q_walked c_walkedMany c_cameOut q_onWalks q_far q_aside q_wasFull q_undos q_was c_undoMany c_drawn q_kept q_isKept, aI k q_now 189 c_now] [(0, .ref q_this), (1, .int n1), (2, .int n2), (3, .int n3), (4, .int n4), (5, .int n5)] 6 [] := by
    intro n
    induction n with
    | zero => intro n1 n2 n3 n4 n5 hf; cases hf
    | succ n ih6 =>
      obtain ⟨rc6, hrc6⟩ : ∃ f9, f9 = lfix (fX8_mapped_b6 c_now) (fun _ _ _ _ _ => none) n := ⟨_, rfl⟩
      rw [← hrc6] at ih6
      intro n1 n2 n3 n4 n5 hf
      have hf : fX8_mapped_b6 c_now rc6 n1 n2 n3 n4 n5 = some (r_) := by rw [hrc6]; exact hf
      unfold fX8_mapped_b6 at hf
      refine ww_iload (pc := 6) C dX8_mapped_6 5 rfl ?_
      refine ww_iconst (pc := 8) C dX8_mapped_8 kI_3 ?_
      refine ww_icmp_ge (pc := 9) (tgt := 46) C dX8_mapped_9 (by decide) (fun hc => ?_) (fun hc => ?_)
      · have hf := ifT hc hf
        refine ww_iload (pc := 46) C dX8_mapped_46 4 rfl ?_
        obtain e0 := ij1 hf
        exact hret _ _ 48 _ dX8_mapped_48 rfl e0 rfl
      · have hf := ifF hc hf
        refine ww_iload (pc := 12) C dX8_mapped_12 4 rfl ?_
        refine ww_aload_n (pc := 14) C dX8_mapped_14 rfl 0 rfl ?_
        refine gf8_0 (pc := 15) C kf_X8_9 0 rfl rfl dX8_mapped_15 ?_
        refine ww_bipush (pc := 18) C dX8_mapped_18 kB_27 ?_
        refine ww_iconst (pc := 20) C dX8_mapped_20 kI_3 ?_
        refine ww_iload_n (pc := 21) C dX8_mapped_21 rfl 3 rfl ?_
        refine ww_imul (pc := 22) C dX8_mapped_22  ?_
        refine ww_iadd (pc := 23) C dX8_mapped_23  ?_
        refine ww_iload (pc := 24) C dX8_mapped_24 5 rfl ?_
        refine ww_iadd (pc := 26) C dX8_mapped_26  ?_
        obtain ⟨v1, h1, hf⟩ := bsome hf
        refine ww_iald (pc := 27) C 1 rfl h1 dX8_mapped_27 ?_
        refine ww_aload_n (pc := 28) C dX8_mapped_28 rfl 0 rfl ?_
        refine ww_iload_n (pc := 29) C dX8_mapped_29 rfl 1 rfl ?_
        refine ww_iload_n (pc := 30) C dX8_mapped_30 rfl 2 rfl ?_
        refine ww_iload (pc := 31) C dX8_mapped_31 5 rfl ?_
        obtain ⟨v2, h2, hf⟩ := bsome hf
        refine ww_callVi0 (pc := 33) (As := [.int n1, .int n2, .int n5]) (rest := [.int v1, .int n4]) C (tX8_price l D k q_this q_now q_text q_row q_read q_outerCell q_outerDoor q_walked q_onWalks q_far q_aside q_wasFull q_undos q_was q_kept q_isKept c_typed c_rowMany c_thrown c_length c_at c_wrong c_outerMany c_walkedMany c_cameOut c_undoMany c_drawn c_now n1 n2 n5 v2 h2) cv_X8_76 ⟨⟨by decide, by decide⟩, rfl, rfl⟩ 0 rfl rfl [0, 1] rfl rfl rfl rfl (Nat.le_of_ble_eq_true rfl) ⟨Nat.zero_le _, Nat.zero_le _⟩ dX8_mapped_33 (fun hb2 => ?_)
        refine ww_imul (pc := 36) C dX8_mapped_36  ?_
        refine ww_iadd (pc := 37) C dX8_mapped_37  ?_
        obtain ⟨v3, h3, hf⟩ := bsome hf
        refine ww_nmi h3 ?_
        refine ww_istore (pc := 38) (lv' := [(4, .int v3), (0, .ref q_this), (1, .int n1), (2, .int n2), (3, .int n3), (5, .int n5)]) C dX8_mapped_38 (by decide) rfl ?_
        obtain ⟨v4, h4, hf⟩ := bsome hf
        refine ww_iincN (pc := 40) (lv' := [(5, .int v4), (4, .int v3), (0, .ref q_this), (1, .int n1), (2, .int n2), (3, .int n3)]) (j := 5) C dX8_mapped_40 kI_1 rfl h4 (by decide) rfl ?_
        refine ww_goto (pc := 43) (tgt := 6) C dX8_mapped_43 (by decide) ?_
        exact ww_lv [2, 3, 4, 5, 1, 0] rfl (ih6 n1 n2 n3 v3 v4 hf)
  unfold fX8_mapped at hf
  refine ww_iconst (pc := 0) C dX8_mapped_0 kI_0 ?_
  refine ww_istore (pc := 1) (lv' := [(4, .int (0 : Int32)), (0, .ref q_this), (1, .int x1), (2, .int x2), (3, .int x3)]) C dX8_mapped_1 (by decide) rfl ?_
  refine ww_iconst (pc := 3) C dX8_mapped_3 kI_0 ?_
  refine ww_istore (pc := 4) (lv' := [(5, .int (0 : Int32)), (4, .int (0 : Int32)), (0, .ref q_this), (1, .int x1), (2, .int x2), (3, .int x3)]) C dX8_mapped_4 (by decide) rfl ?_
  exact ww_lv [2, 3, 4, 5, 1, 0] rfl (hL6 FU x1 x2 x3 (0 : Int32) (0 : Int32) hf)
def fX8_byMap_b2 (c_now : Nat → Int32) (rc2 : Int32 → Int32 → Int32 → Option Int32) (n1 : Int32) (n2 : Int32) (n3 : Int32) : Option Int32 := (fX8_canHave c_now n1 n2 n3).bind fun v1 => if v1 = 0 then (some (n3 + (1 : Int32))).bind fun v2 => rc2 n1 n2 v2 else (fX8_mapped c_now n1 n2 n3).bind fun v3 => (fX8_mapSum c_now (0 : Int32)).bind fun v4 => (fX8_price c_now n1 n2 n3).bind fun v5 => if v3 ≤ (v4 * v5) then some (n3) else (some (n3 + (1 : Int32))).bind fun v6 => rc2 n1 n2 v6
def fX8_byMap (c_now : Nat → Int32) (x1 : Int32) (x2 : Int32) : Option Int32 := lfix (fX8_byMap_b2 c_now) (fun _ _ _ => none) FU x1 x2 (0 : Int32)
set_option maxHeartbeats 4000000 in
set_option maxRecDepth 100000 in
theorem tX8_byMap (l : Launch) (D : va_G) (k : Nat → ClassId) (q_this q_now q_text q_row q_read q_outerCell q_outerDoor q_walked q_onWalks q_far q_aside q_wasFull q_undos q_was q_kept q_isKept : Nat) (c_typed : Int32) (c_rowMany : Int32) (c_thrown : Int32) (c_length : Int32) (c_at : Int32) (c_wrong : Int32) (c_outerMany : Int32) (c_walkedMany : Int32) (c_cameOut : Int32) (c_undoMany : Int32) (c_drawn : Int32) (c_now : Nat → Int32) (x1 : Int32) (x2 : Int32) (r_ : Int32) (hf : fX8_byMap c_now x1 x2 = some (r_)) : MI l yX8_byMap cX8_byMap 4 .int (RM 3 68) D k [.ref q_this, .int x1, .int x2] [oX8 q_this q_now q_text c_typed q_row c_rowMany c_thrown c_length c_at c_wrong q_read q_outerCell q_outerDoor c_outerMany q_walked c_walkedMany c_cameOut q_onWalks q_far q_aside q_wasFull q_undos q_was c_undoMany c_drawn q_kept q_isKept, aI k q_now 189 c_now] r_ [oX8 q_this q_now q_text c_typed q_row c_rowMany c_thrown c_length c_at c_wrong q_read q_outerCell q_outerDoor c_outerMany q_walked c_walkedMany c_cameOut q_onWalks q_far q_aside q_wasFull q_undos q_was c_undoMany c_drawn q_kept q_isKept, aI k q_now 189 c_now] := by
  refine mkMI' (own := "DoorWalkModel") (by decide) rfl (Nat.le_of_ble_eq_true rfl) ?_
  intro p e s m args below meth c Q A hret C
  refine ww_lv (lv' := [(0, .ref q_this), (1, .int x1), (2, .int x2)]) [0, 1, 2] rfl ?_
  have hL2 : ∀ (n : Nat) (n1 : Int32) (n2 : Int32) (n3 : Int32), lfix (fX8_byMap_b2 c_now) (fun _ _ _ => none) n n1 n2 n3 = some (r_) → WW p l e (RM 3 68) s m args below meth c Q 4 D A 0 0 [oX8 q_this q_now q_text c_typed q_row c_rowMany c_thrown c_length c_at c_wrong q_read q_outerCell q_outerDoor c_outerMany q_walked c_walkedMany c_cameOut q_onWalks q_far q_aside q_wasFull q_undos q_was c_undoMany c_drawn q_kept q_isKept, aI k q_now 189 c_now] [(0, .ref q_this), (1, .int n1), (2, .int n2), (3, .int n3)] 2 [] := by
    intro n
    induction n with
    | zero => intro n1 n2 n3 hf; cases hf
    | succ n ih2 =>
      obtain ⟨rc2, hrc2⟩ : ∃ f9, f9 = lfix (fX8_byMap_b2 c_now) (fun _ _ _ => none) n := ⟨_, rfl⟩
      rw [← hrc2] at ih2
      intro n1 n2 n3 hf
      have hf : fX8_byMap_b2 c_now rc2 n1 n2 n3 = some (r_) := by rw [hrc2]; exact hf
      unfold fX8_byMap_b2 at hf
      refine ww_aload_n (pc := 2) C dX8_byMap_2 rfl 0 rfl ?_
      refine ww_iload_n (pc := 3) C dX8_byMap_3 rfl 1 rfl ?_
      refine ww_iload_n (pc := 4) C dX8_byMap_4 rfl 2 rfl ?_
      refine ww_iload_n (pc := 5) C dX8_byMap_5 rfl 3 rfl ?_
      obtain ⟨v1, h1, hf⟩ := bsome hf
      refine ww_callVi0 (pc := 6) (As := [.int n1, .int n2, .int n3]) (rest := []) C (tX8_canHave l D k q_this q_now q_text q_row q_read q_outerCell q_outerDoor q_walked q_onWalks q_far q_aside q_wasFull q_undos q_was q_kept q_isKept c_typed c_rowMany c_thrown c_length c_at c_wrong c_outerMany c_walkedMany c_cameOut c_undoMany c_drawn c_now n1 n2 n3 v1 h1) cv_X8_111 ⟨⟨by decide, by decide⟩, rfl, rfl⟩ 0 rfl rfl [0, 1] rfl rfl rfl rfl (Nat.le_of_ble_eq_true rfl) ⟨Nat.zero_le _, Nat.zero_le _⟩ dX8_byMap_6 (fun hb1 => ?_)
      refine ww_if_eq (pc := 9) (tgt := 35) C dX8_byMap_9 (by decide) (fun hc => ?_) (fun hc => ?_)
      · have hf := ifT hc hf
        obtain ⟨v2, h2, hf⟩ := bsome hf
        refine ww_iincN (pc := 35) (lv' := [(3, .int v2), (0, .ref q_this), (1, .int n1), (2, .int n2)]) (j := 3) C dX8_byMap_35 kI_1 rfl h2 (by decide) rfl ?_
        refine ww_goto (pc := 38) (tgt := 2) C dX8_byMap_38 (by decide) ?_
        exact ww_lv [1, 2, 3, 0] rfl (ih2 n1 n2 v2 hf)
      · have hf := ifF hc hf
        refine ww_aload_n (pc := 12) C dX8_byMap_12 rfl 0 rfl ?_
        refine ww_iload_n (pc := 13) C dX8_byMap_13 rfl 1 rfl ?_
        refine ww_iload_n (pc := 14) C dX8_byMap_14 rfl 2 rfl ?_
        refine ww_iload_n (pc := 15) C dX8_byMap_15 rfl 3 rfl ?_
        obtain ⟨v3, h3, hf⟩ := bsome hf
        refine ww_callVi0 (pc := 16) (As := [.int n1, .int n2, .int n3]) (rest := []) C (tX8_mapped l D k q_this q_now q_text q_row q_read q_outerCell q_outerDoor q_walked q_onWalks q_far q_aside q_wasFull q_undos q_was q_kept q_isKept c_typed c_rowMany c_thrown c_length c_at c_wrong c_outerMany c_walkedMany c_cameOut c_undoMany c_drawn c_now n1 n2 n3 v3 h3) cv_X8_114 ⟨⟨by decide, by decide⟩, rfl, rfl⟩ 0 rfl rfl [0, 1] rfl rfl rfl rfl (Nat.le_of_ble_eq_true rfl) ⟨Nat.zero_le _, Nat.zero_le _⟩ dX8_byMap_16 (fun hb3 => ?_)
        refine ww_aload_n (pc := 19) C dX8_byMap_19 rfl 0 rfl ?_
        refine ww_iconst (pc := 20) C dX8_byMap_20 kI_0 ?_
        obtain ⟨v4, h4, hf⟩ := bsome hf
        refine ww_callVi0 (pc := 21) (As := [.int (0 : Int32)]) (rest := [.int v3]) C (tX8_mapSum l D k q_this q_now q_text q_row q_read q_outerCell q_outerDoor q_walked q_onWalks q_far q_aside q_wasFull q_undos q_was q_kept q_isKept c_typed c_rowMany c_thrown c_length c_at c_wrong c_outerMany c_walkedMany c_cameOut c_undoMany c_drawn c_now (0 : Int32) v4 h4) cv_X8_117 ⟨⟨by decide, by decide⟩, rfl, rfl⟩ 0 rfl rfl [0, 1] rfl rfl rfl rfl (Nat.le_of_ble_eq_true rfl) ⟨Nat.zero_le _, Nat.zero_le _⟩ dX8_byMap_21 (fun hb4 => ?_)
        refine ww_aload_n (pc := 24) C dX8_byMap_24 rfl 0 rfl ?_
        refine ww_iload_n (pc := 25) C dX8_byMap_25 rfl 1 rfl ?_
        refine ww_iload_n (pc := 26) C dX8_byMap_26 rfl 2 rfl ?_
        refine ww_iload_n (pc := 27) C dX8_byMap_27 rfl 3 rfl ?_
        obtain ⟨v5, h5, hf⟩ := bsome hf
        refine ww_callVi0 (pc := 28) (As := [.int n1, .int n2, .int n3]) (rest := [.int v4, .int v3]) C (tX8_price l D k q_this q_now q_text q_row q_read q_outerCell q_outerDoor q_walked q_onWalks q_far q_aside q_wasFull q_undos q_was q_kept q_isKept c_typed c_rowMany c_thrown c_length c_at c_wrong c_outerMany c_walkedMany c_cameOut c_undoMany c_drawn c_now n1 n2 n3 v5 h5) cv_X8_76 ⟨⟨by decide, by decide⟩, rfl, rfl⟩ 0 rfl rfl [0, 1] rfl rfl rfl rfl (Nat.le_of_ble_eq_true rfl) ⟨Nat.zero_le _, Nat.zero_le _⟩ dX8_byMap_28 (fun hb5 => ?_)
        refine ww_imul (pc := 31) C dX8_byMap_31  ?_
        refine ww_icmp_le (pc := 32) (tgt := 41) C dX8_byMap_32 (by decide) (fun hc => ?_) (fun hc => ?_)
        · have hf := ifT hc hf
          refine ww_iload_n (pc := 41) C dX8_byMap_41 rfl 3 rfl ?_
          obtain e0 := ij1 hf
          exact hret _ _ 42 _ dX8_byMap_42 rfl e0 rfl
        · have hf := ifF hc hf
          obtain ⟨v6, h6, hf⟩ := bsome hf
          refine ww_iincN (pc := 35) (lv' := [(3, .int v6), (0, .ref q_this), (1, .int n1), (2, .int n2)]) (j := 3) C dX8_byMap_35 kI_1 rfl h6 (by decide) rfl ?_
          refine ww_goto (pc := 38) (tgt := 2) C dX8_byMap_38 (by decide) ?_
          exact ww_lv [1, 2, 3, 0] rfl (ih2 n1 n2 v6 hf)
  unfold fX8_byMap at hf
  refine ww_iconst (pc := 0) C dX8_byMap_0 kI_0 ?_
  refine ww_istore_n (pc := 1) (lv' := [(3, .int (0 : Int32)), (0, .ref q_this), (1, .int x1), (2, .int x2)]) C dX8_byMap_1 rfl (by decide) rfl ?_
  exact ww_lv [1, 2, 3, 0] rfl (hL2 FU x1 x2 (0 : Int32) hf)
