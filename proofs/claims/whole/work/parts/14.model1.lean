def fX8_layRule_b60 (rc2 : (Nat → Int32) → Int32 → Option ((Nat → Int32))) (rc12 : (Nat → Int32) → Int32 → Int32 → Option ((Nat → Int32))) (c_now : Nat → Int32) (n1 : Int32) (n2 : Int32) (s1 : Int32) (s2 : Int32) : Option ((Nat → Int32)) := (ast 189 s1 c_now s2).bind fun v1 => (some (n2 + (1 : Int32))).bind fun v2 => rc12 v1 n1 v2
def fX8_layRule_b12 (rc2 : (Nat → Int32) → Int32 → Option ((Nat → Int32))) (rc12 : (Nat → Int32) → Int32 → Int32 → Option ((Nat → Int32))) (c_now : Nat → Int32) (n1 : Int32) (n2 : Int32) : Option ((Nat → Int32)) := (fX8_n c_now).bind fun v1 => if (v1 - n1) < n2 then (some (n1 + (1 : Int32))).bind fun v2 => rc2 c_now v2 else (fX8_place c_now n1 n2).bind fun v3 => (ald 189 (1 : Int32) c_now).bind fun v4 => if v4 = (1 : Int32) then (fX8_byExchange c_now n1 n2).bind fun v6 => fX8_layRule_b60 rc2 rc12 c_now n1 n2 ((36 : Int32) + v3) v6 else (fX8_byMap c_now n1 n2).bind fun v5 => fX8_layRule_b60 rc2 rc12 c_now n1 n2 ((36 : Int32) + v3) v5
def fX8_layRule_b2 (rc2 : (Nat → Int32) → Int32 → Option ((Nat → Int32))) (c_now : Nat → Int32) (n1 : Int32) : Option ((Nat → Int32)) := (fX8_n c_now).bind fun v1 => if v1 < n1 then some (c_now) else lfix (fX8_layRule_b12 rc2) (fun _ _ _ => none) FU c_now n1 (0 : Int32)
def fX8_layRule (c_now : Nat → Int32) : Option ((Nat → Int32)) := lfix (fX8_layRule_b2) (fun _ _ => none) FU c_now (0 : Int32)
set_option maxHeartbeats 4000000 in
set_option maxRecDepth 100000 in
theorem tX8_layRule (l : Launch) (D : va_G) (k : Nat → ClassId) (q_this q_now q_text q_row q_read q_outerCell q_outerDoor q_walked q_onWalks q_far q_aside q_wasFull q_undos q_was q_kept q_isKept : Nat) (c_typed : Int32) (c_rowMany : Int32) (c_thrown : Int32) (c_length : Int32) (c_at : Int32) (c_wrong : Int32) (c_outerMany : Int32) (c_walkedMany : Int32) (c_cameOut : Int32) (c_undoMany : Int32) (c_drawn : Int32) (c_now : Nat → Int32)  (w_now : Nat → Int32) (hf : fX8_layRule c_now = some (w_now)) : MV l yX8_layRule cX8_layRule 3 (RM 5 119) D k [.ref q_this] [oX8 q_this q_now q_text c_typed q_row c_rowMany c_thrown c_length c_at c_wrong q_read q_outerCell q_outerDoor c_outerMany q_walked c_walkedMany c_cameOut q_onWalks q_far q_aside q_wasFull q_undos q_was c_undoMany c_drawn q_kept q_isKept, aI k q_now 189 c_now] [oX8 q_this q_now q_text c_typed q_row c_rowMany c_thrown c_length c_at c_wrong q_read q_outerCell q_outerDoor c_outerMany q_walked c_walkedMany c_cameOut q_onWalks q_far q_aside q_wasFull q_undos q_was c_undoMany c_drawn q_kept q_isKept, aI k q_now 189 w_now] := by
  refine mkMV' (own := "DoorWalkModel") (by decide) rfl (Nat.le_of_ble_eq_true rfl) ?_
  intro p e s m args below meth c Q A hret C
  refine ww_lv (lv' := [(0, .ref q_this)]) [0] rfl ?_
  have hL2 : ∀ (n : Nat) (c_now : Nat → Int32) (n1 : Int32), lfix (fX8_layRule_b2) (fun _ _ => none) n c_now n1 = some (w_now) → WW p l e (RM 5 119) s m args below meth c Q 3 D A 0 0 [oX8 q_this q_now q_text c_typed q_row c_rowMany c_thrown c_length c_at c_wrong q_read q_outerCell q_outerDoor c_outerMany q_walked c_walkedMany c_cameOut q_onWalks q_far q_aside q_wasFull q_undos q_was c_undoMany c_drawn q_kept q_isKept, aI k q_now 189 c_now] [(0, .ref q_this), (1, .int n1)] 2 [] := by
    intro n
    induction n with
    | zero => intro c_now n1 hf; cases hf
    | succ n ih2 =>
      obtain ⟨rc2, hrc2⟩ : ∃ f9, f9 = lfix (fX8_layRule_b2) (fun _ _ => none) n := ⟨_, rfl⟩
      rw [← hrc2] at ih2
      have hL12 : ∀ (n : Nat) (c_now : Nat → Int32) (n1 : Int32) (n2 : Int32), lfix (fX8_layRule_b12 rc2) (fun _ _ _ => none) n c_now n1 n2 = some (w_now) → WW p l e (RM 5 119) s m args below meth c Q 3 D A 0 0 [oX8 q_this q_now q_text c_typed q_row c_rowMany c_thrown c_length c_at c_wrong q_read q_outerCell q_outerDoor c_outerMany q_walked c_walkedMany c_cameOut q_onWalks q_far q_aside q_wasFull q_undos q_was c_undoMany c_drawn q_kept q_isKept, aI k q_now 189 c_now] [(0, .ref q_this), (1, .int n1), (2, .int n2)] 12 [] := by
        intro n
        induction n with
        | zero => intro c_now n1 n2 hf; cases hf
        | succ n ih12 =>
          obtain ⟨rc12, hrc12⟩ : ∃ f9, f9 = lfix (fX8_layRule_b12 rc2) (fun _ _ _ => none) n := ⟨_, rfl⟩
          rw [← hrc12] at ih12
          have hJ60 : ∀ (c_now : Nat → Int32) (n1 : Int32) (n2 : Int32) (s1 : Int32) (s2 : Int32), fX8_layRule_b60 rc2 rc12 c_now n1 n2 s1 s2 = some (w_now) → WW p l e (RM 5 119) s m args below meth c Q 3 D A 0 0 [oX8 q_this q_now q_text c_typed q_row c_rowMany c_thrown c_length c_at c_wrong q_read q_outerCell q_outerDoor c_outerMany q_walked c_walkedMany c_cameOut q_onWalks q_far q_aside q_wasFull q_undos q_was c_undoMany c_drawn q_kept q_isKept, aI k q_now 189 c_now] [(0, .ref q_this), (1, .int n1), (2, .int n2)] 60 [.int s2, .int s1, .ref q_now] := by
            intro c_now n1 n2 s1 s2
            intro hf
            unfold fX8_layRule_b60 at hf
            obtain ⟨v1, h1, hf⟩ := bsome hf
            refine ww_iast (pc := 60) (ws' := [oX8 q_this q_now q_text c_typed q_row c_rowMany c_thrown c_length c_at c_wrong q_read q_outerCell q_outerDoor c_outerMany q_walked c_walkedMany c_cameOut q_onWalks q_far q_aside q_wasFull q_undos q_was c_undoMany c_drawn q_kept q_isKept, aI k q_now 189 v1]) C 1 rfl h1 rfl dX8_layRule_60 ?_
            obtain ⟨v2, h2, hf⟩ := bsome hf
            refine ww_iincN (pc := 61) (lv' := [(2, .int v2), (0, .ref q_this), (1, .int n1)]) (j := 2) C dX8_layRule_61 kI_1 rfl h2 (by decide) rfl ?_
            refine ww_goto (pc := 64) (tgt := 12) C dX8_layRule_64 (by decide) ?_
            exact ww_lv [1, 2, 0] rfl (ih12 v1 n1 v2 hf)
          intro c_now n1 n2 hf
          have hf : fX8_layRule_b12 rc2 rc12 c_now n1 n2 = some (w_now) := by rw [hrc12]; exact hf
          unfold fX8_layRule_b12 at hf
          refine ww_iload_n (pc := 12) C dX8_layRule_12 rfl 2 rfl ?_
          refine ww_aload_n (pc := 13) C dX8_layRule_13 rfl 0 rfl ?_
          obtain ⟨v1, h1, hf⟩ := bsome hf
          refine ww_callVi0 (pc := 14) (As := []) (rest := [.int n2]) C (tX8_n l D k q_this q_now q_text q_row q_read q_outerCell q_outerDoor q_walked q_onWalks q_far q_aside q_wasFull q_undos q_was q_kept q_isKept c_typed c_rowMany c_thrown c_length c_at c_wrong c_outerMany c_walkedMany c_cameOut c_undoMany c_drawn c_now v1 h1) cv_X8_68 ⟨⟨by decide, by decide⟩, rfl, rfl⟩ 0 rfl rfl [0, 1] rfl rfl rfl rfl (Nat.le_of_ble_eq_true rfl) ⟨Nat.zero_le _, Nat.zero_le _⟩ dX8_layRule_14 (fun hb1 => ?_)
          refine ww_iload_n (pc := 17) C dX8_layRule_17 rfl 1 rfl ?_
          refine ww_isub (pc := 18) C dX8_layRule_18  ?_
          refine ww_icmp_gt (pc := 19) (tgt := 67) C dX8_layRule_19 (by decide) (fun hc => ?_) (fun hc => ?_)
          · have hf := ifT hc hf
            obtain ⟨v2, h2, hf⟩ := bsome hf
            refine ww_iincN (pc := 67) (lv' := [(1, .int v2), (0, .ref q_this), (2, .int n2)]) (j := 1) C dX8_layRule_67 kI_1 rfl h2 (by decide) rfl ?_
            refine ww_goto (pc := 70) (tgt := 2) C dX8_layRule_70 (by decide) ?_
            exact ww_lv [1, 0] rfl (ih2 c_now v2 hf)
          · have hf := ifF hc hf
            refine ww_aload_n (pc := 22) C dX8_layRule_22 rfl 0 rfl ?_
            refine gf8_0 (pc := 23) C kf_X8_9 0 rfl rfl dX8_layRule_23 ?_
            refine ww_bipush (pc := 26) C dX8_layRule_26 kB_36 ?_
            refine ww_aload_n (pc := 28) C dX8_layRule_28 rfl 0 rfl ?_
            refine ww_iload_n (pc := 29) C dX8_layRule_29 rfl 1 rfl ?_
            refine ww_iload_n (pc := 30) C dX8_layRule_30 rfl 2 rfl ?_
            obtain ⟨v3, h3, hf⟩ := bsome hf
            refine ww_callVi0 (pc := 31) (As := [.int n1, .int n2]) (rest := [.int (36 : Int32), .ref q_now]) C (tX8_place l D k q_this q_now q_text q_row q_read q_outerCell q_outerDoor q_walked q_onWalks q_far q_aside q_wasFull q_undos q_was q_kept q_isKept c_typed c_rowMany c_thrown c_length c_at c_wrong c_outerMany c_walkedMany c_cameOut c_undoMany c_drawn c_now n1 n2 v3 h3) cv_X8_80 ⟨⟨by decide, by decide⟩, rfl, rfl⟩ 0 rfl rfl [0, 1] rfl rfl rfl rfl (Nat.le_of_ble_eq_true rfl) ⟨Nat.zero_le _, Nat.zero_le _⟩ dX8_layRule_31 (fun hb3 => ?_)
            refine ww_iadd (pc := 34) C dX8_layRule_34  ?_
            refine ww_aload_n (pc := 35) C dX8_layRule_35 rfl 0 rfl ?_
            refine gf8_0 (pc := 36) C kf_X8_9 0 rfl rfl dX8_layRule_36 ?_
            refine ww_iconst (pc := 39) C dX8_layRule_39 kI_1 ?_
            obtain ⟨v4, h4, hf⟩ := bsome hf
            refine ww_iald (pc := 40) C 1 rfl h4 dX8_layRule_40 ?_
            refine ww_iconst (pc := 41) C dX8_layRule_41 kI_1 ?_
            refine ww_icmp_ne (pc := 42) (tgt := 54) C dX8_layRule_42 (by decide) (fun hc => ?_) (fun hc => ?_)
            · have hf := ifF hc hf
              refine ww_aload_n (pc := 54) C dX8_layRule_54 rfl 0 rfl ?_
              refine ww_iload_n (pc := 55) C dX8_layRule_55 rfl 1 rfl ?_
              refine ww_iload_n (pc := 56) C dX8_layRule_56 rfl 2 rfl ?_
              obtain ⟨v5, h5, hf⟩ := bsome hf
              refine ww_callVi0 (pc := 57) (As := [.int n1, .int n2]) (rest := [.int ((36 : Int32) + v3), .ref q_now]) C (tX8_byMap l D k q_this q_now q_text q_row q_read q_outerCell q_outerDoor q_walked q_onWalks q_far q_aside q_wasFull q_undos q_was q_kept q_isKept c_typed c_rowMany c_thrown c_length c_at c_wrong c_outerMany c_walkedMany c_cameOut c_undoMany c_drawn c_now n1 n2 v5 h5) cv_X8_123 ⟨⟨by decide, by decide⟩, rfl, rfl⟩ 0 rfl rfl [0, 1] rfl rfl rfl rfl (Nat.le_of_ble_eq_true rfl) ⟨Nat.zero_le _, Nat.zero_le _⟩ dX8_layRule_57 (fun hb5 => ?_)
              exact hJ60 c_now n1 n2 ((36 : Int32) + v3) v5 hf
            · have hf := ifT hc hf
              refine ww_aload_n (pc := 45) C dX8_layRule_45 rfl 0 rfl ?_
              refine ww_iload_n (pc := 46) C dX8_layRule_46 rfl 1 rfl ?_
              refine ww_iload_n (pc := 47) C dX8_layRule_47 rfl 2 rfl ?_
              obtain ⟨v6, h6, hf⟩ := bsome hf
              refine ww_callVi0 (pc := 48) (As := [.int n1, .int n2]) (rest := [.int ((36 : Int32) + v3), .ref q_now]) C (tX8_byExchange l D k q_this q_now q_text q_row q_read q_outerCell q_outerDoor q_walked q_onWalks q_far q_aside q_wasFull q_undos q_was q_kept q_isKept c_typed c_rowMany c_thrown c_length c_at c_wrong c_outerMany c_walkedMany c_cameOut c_undoMany c_drawn c_now n1 n2 v6 h6) cv_X8_120 ⟨⟨by decide, by decide⟩, rfl, rfl⟩ 0 rfl rfl [0, 1] rfl rfl rfl rfl (Nat.le_of_ble_eq_true rfl) ⟨Nat.zero_le _, Nat.zero_le _⟩ dX8_layRule_48 (fun hb6 => ?_)
              refine ww_goto (pc := 51) (tgt := 60) C dX8_layRule_51 (by decide) ?_
              exact hJ60 c_now n1 n2 ((36 : Int32) + v3) v6 hf
      intro c_now n1 hf
      have hf : fX8_layRule_b2 rc2 c_now n1 = some (w_now) := by rw [hrc2]; exact hf
      unfold fX8_layRule_b2 at hf
      refine ww_iload_n (pc := 2) C dX8_layRule_2 rfl 1 rfl ?_
      refine ww_aload_n (pc := 3) C dX8_layRule_3 rfl 0 rfl ?_
      obtain ⟨v1, h1, hf⟩ := bsome hf
      refine ww_callVi0 (pc := 4) (As := []) (rest := [.int n1]) C (tX8_n l D k q_this q_now q_text q_row q_read q_outerCell q_outerDoor q_walked q_onWalks q_far q_aside q_wasFull q_undos q_was q_kept q_isKept c_typed c_rowMany c_thrown c_length c_at c_wrong c_outerMany c_walkedMany c_cameOut c_undoMany c_drawn c_now v1 h1) cv_X8_68 ⟨⟨by decide, by decide⟩, rfl, rfl⟩ 0 rfl rfl [0, 1] rfl rfl rfl rfl (Nat.le_of_ble_eq_true rfl) ⟨Nat.zero_le _, Nat.zero_le _⟩ dX8_layRule_4 (fun hb1 => ?_)
      refine ww_icmp_gt (pc := 7) (tgt := 73) C dX8_layRule_7 (by decide) (fun hc => ?_) (fun hc => ?_)
      · have hf := ifT hc hf
        obtain e0 := ij1 hf
        exact hret _ _ 73 dX8_layRule_73 (by rw [← e0])
      · have hf := ifF hc hf
        refine ww_iconst (pc := 10) C dX8_layRule_10 kI_0 ?_
        refine ww_istore_n (pc := 11) (lv' := [(2, .int (0 : Int32)), (0, .ref q_this), (1, .int n1)]) C dX8_layRule_11 rfl (by decide) rfl ?_
        exact ww_lv [1, 2, 0] rfl (hL12 FU c_now n1 (0 : Int32) hf)
  unfold fX8_layRule at hf
  refine ww_iconst (pc := 0) C dX8_layRule_0 kI_0 ?_
  refine ww_istore_n (pc := 1) (lv' := [(1, .int (0 : Int32)), (0, .ref q_this)]) C dX8_layRule_1 rfl (by decide) rfl ?_
  exact ww_lv [1, 0] rfl (hL2 FU c_now (0 : Int32) hf)
def fX8_sign_b20 (rc20 : Int32 → Int32 → (Nat → Int32) → Int32 → Int32 → Option (Int32 × Int32 × Int32 × (Nat → Int32))) (c_thrown : Int32) (c_typed : Int32) (c_text : Nat → Int32) (n1 : Int32) (n2 : Int32) : Option (Int32 × Int32 × Int32 × (Nat → Int32)) := if n2 < 0 then some (c_typed, c_thrown, c_typed, c_text) else (some (c_typed + (1 : Int32))).bind fun v1 => (astB 80 c_typed c_text (((n1 >>> (((8 : Int32) * n2) &&& 31))).toInt8.toInt32)).bind fun v2 => (some (n2 + (-1 : Int32))).bind fun v3 => rc20 c_thrown v1 v2 n1 v3
def fX8_sign (c_thrown : Int32) (c_typed : Int32) (c_text : Nat → Int32) (x1 : Int32) : Option (Int32 × Int32 × Int32 × (Nat → Int32)) := if (c_typed + (4 : Int32)) ≤ (80 : Int32) then lfix (fX8_sign_b20) (fun _ _ _ _ _ => none) FU (0 : Int32) c_typed c_text x1 (3 : Int32) else some ((-1 : Int32), (0 : Int32), c_typed, c_text)
set_option maxHeartbeats 4000000 in
set_option maxRecDepth 100000 in
theorem tX8_sign (l : Launch) (D : va_G) (k : Nat → ClassId) (q_this q_now q_text q_row q_read q_outerCell q_outerDoor q_walked q_onWalks q_far q_aside q_wasFull q_undos q_was q_kept q_isKept : Nat) (c_typed : Int32) (c_rowMany : Int32) (c_thrown : Int32) (c_length : Int32) (c_at : Int32) (c_wrong : Int32) (c_outerMany : Int32) (c_walkedMany : Int32) (c_cameOut : Int32) (c_undoMany : Int32) (c_drawn : Int32) (c_text : Nat → Int32) (x1 : Int32) (r_ : Int32) (w_thrown : Int32) (w_typed : Int32) (w_text : Nat → Int32) (hf : fX8_sign c_thrown c_typed c_text x1 = some (r_, w_thrown, w_typed, w_text)) : MI l yX8_sign cX8_sign 3 .int (RM 0 0) D k [.ref q_this, .int x1] [oX8 q_this q_now q_text c_typed q_row c_rowMany c_thrown c_length c_at c_wrong q_read q_outerCell q_outerDoor c_outerMany q_walked c_walkedMany c_cameOut q_onWalks q_far q_aside q_wasFull q_undos q_was c_undoMany c_drawn q_kept q_isKept, aB k q_text 80 c_text] r_ [oX8 q_this q_now q_text w_typed q_row c_rowMany w_thrown c_length c_at c_wrong q_read q_outerCell q_outerDoor c_outerMany q_walked c_walkedMany c_cameOut q_onWalks q_far q_aside q_wasFull q_undos q_was c_undoMany c_drawn q_kept q_isKept, aB k q_text 80 w_text] := by
  refine mkMI' (own := "DoorWalkModel") (by decide) rfl (Nat.le_of_ble_eq_true rfl) ?_
  intro p e s m args below meth c Q A hret C
  refine ww_lv (lv' := [(0, .ref q_this), (1, .int x1)]) [0, 1] rfl ?_
  have hL20 : ∀ (n : Nat) (c_thrown : Int32) (c_typed : Int32) (c_text : Nat → Int32) (n1 : Int32) (n2 : Int32), lfix (fX8_sign_b20) (fun _ _ _ _ _ => none) n c_thrown c_typed c_text n1 n2 = some (r_, w_thrown, w_typed, w_text) → WW p l e (RM 0 0) s m args below meth c Q 3 D A 0 0 [oX8 q_this q_now q_text c_typed q_row c_rowMany c_thrown c_length c_at c_wrong q_read q_outerCell q_outerDoor c_outerMany q_walked c_walkedMany c_cameOut q_onWalks q_far q_aside q_wasFull q_undos q_was c_undoMany c_drawn q_kept q_isKept, aB k q_text 80 c_text] [(0, .ref q_this), (1, .int n1), (2, .int n2)] 20 [] := by
    intro n
    induction n with
    | zero => intro c_thrown c_typed c_text n1 n2 hf; cases hf
    | succ n ih20 =>
      obtain ⟨rc20, hrc20⟩ : ∃ f9, f9 = lfix (fX8_sign_b20) (fun _ _ _ _ _ => none) n := ⟨_, rfl⟩
      rw [← hrc20] at ih20
      intro c_thrown c_typed c_text n1 n2 hf
      have hf : fX8_sign_b20 rc20 c_thrown c_typed c_text n1 n2 = some (r_, w_thrown, w_typed, w_text) := by rw [hrc20]; exact hf
      unfold fX8_sign_b20 at hf
      refine ww_iload_n (pc := 20) C dX8_sign_20 rfl 2 rfl ?_
      refine ww_if_lt (pc := 21) (tgt := 53) C dX8_sign_21 (by decide) (fun hc => ?_) (fun hc => ?_)
      · have hf := ifT hc hf
        refine ww_aload_n (pc := 53) C dX8_sign_53 rfl 0 rfl ?_
        refine gf8_2 (pc := 54) C kf_X8_126 0 rfl rfl dX8_sign_54 ?_
        obtain ⟨e0, e1, e2, e3⟩ := ij4 hf
        exact hret _ _ 57 _ dX8_sign_57 rfl e0 (by rw [← e1, ← e2, ← e3])
      · have hf := ifF hc hf
        refine ww_aload_n (pc := 24) C dX8_sign_24 rfl 0 rfl ?_
        refine gf8_1 (pc := 25) C kf_X8_13 0 rfl rfl dX8_sign_25 ?_
        refine ww_aload_n (pc := 28) C dX8_sign_28 rfl 0 rfl ?_
        refine ww_dup (pc := 29) C dX8_sign_29 rfl ?_
        refine gf8_2 (pc := 30) C kf_X8_126 0 rfl rfl dX8_sign_30 ?_
        refine ww_dup_x1 (pc := 33) C dX8_sign_33 rfl rfl ?_
        refine ww_iconst (pc := 34) C dX8_sign_34 kI_1 ?_
        refine ww_iadd (pc := 35) C dX8_sign_35  ?_
        obtain ⟨v1, h1, hf⟩ := bsome hf
        refine ww_nmi h1 ?_
        refine pf8_2 (pc := 36) (ws' := [oX8 q_this q_now q_text v1 q_row c_rowMany c_thrown c_length c_at c_wrong q_read q_outerCell q_outerDoor c_outerMany q_walked c_walkedMany c_cameOut q_onWalks q_far q_aside q_wasFull q_undos q_was c_undoMany c_drawn q_kept q_isKept, aB k q_text 80 c_text]) C kf_X8_126 0 rfl (Nat.le_of_ble_eq_true rfl) rfl dX8_sign_36 ?_
        refine ww_iload_n (pc := 39) C dX8_sign_39 rfl 1 rfl ?_
        refine ww_bipush (pc := 40) C dX8_sign_40 kB_8 ?_
        refine ww_iload_n (pc := 42) C dX8_sign_42 rfl 2 rfl ?_
        refine ww_imul (pc := 43) C dX8_sign_43  ?_
        refine ww_ishr (pc := 44) C dX8_sign_44  ?_
        refine ww_i2b (pc := 45) C dX8_sign_45  ?_
        obtain ⟨v2, h2, hf⟩ := bsome hf
        refine ww_bast (pc := 46) (ws' := [oX8 q_this q_now q_text v1 q_row c_rowMany c_thrown c_length c_at c_wrong q_read q_outerCell q_outerDoor c_outerMany q_walked c_walkedMany c_cameOut q_onWalks q_far q_aside q_wasFull q_undos q_was c_undoMany c_drawn q_kept q_isKept, aB k q_text 80 v2]) C 1 rfl h2 rfl dX8_sign_46 ?_
        obtain ⟨v3, h3, hf⟩ := bsome hf
        refine ww_iincN (pc := 47) (lv' := [(2, .int v3), (0, .ref q_this), (1, .int n1)]) (j := 2) C dX8_sign_47 kI_m1 rfl h3 (by decide) rfl ?_
        refine ww_goto (pc := 50) (tgt := 20) C dX8_sign_50 (by decide) ?_
        exact ww_lv [1, 2, 0] rfl (ih20 c_thrown v1 v2 n1 v3 hf)
  unfold fX8_sign at hf
  refine ww_aload_n (pc := 0) C dX8_sign_0 rfl 0 rfl ?_
  refine ww_iconst (pc := 1) C dX8_sign_1 kI_0 ?_
  refine pf8_5 (pc := 2) (ws' := [oX8 q_this q_now q_text c_typed q_row c_rowMany (0 : Int32) c_length c_at c_wrong q_read q_outerCell q_outerDoor c_outerMany q_walked c_walkedMany c_cameOut q_onWalks q_far q_aside q_wasFull q_undos q_was c_undoMany c_drawn q_kept q_isKept, aB k q_text 80 c_text]) C kf_X8_61 0 rfl (Nat.le_of_ble_eq_true rfl) rfl dX8_sign_2 ?_
  refine ww_aload_n (pc := 5) C dX8_sign_5 rfl 0 rfl ?_
  refine gf8_2 (pc := 6) C kf_X8_126 0 rfl rfl dX8_sign_6 ?_
  refine ww_iconst (pc := 9) C dX8_sign_9 kI_4 ?_
  refine ww_iadd (pc := 10) C dX8_sign_10  ?_
  refine ww_bipush (pc := 11) C dX8_sign_11 kB_80 ?_
  refine ww_icmp_le (pc := 13) (tgt := 18) C dX8_sign_13 (by decide) (fun hc => ?_) (fun hc => ?_)
  · have hf := ifT hc hf
    refine ww_iconst (pc := 18) C dX8_sign_18 kI_3 ?_
    refine ww_istore_n (pc := 19) (lv' := [(2, .int (3 : Int32)), (0, .ref q_this), (1, .int x1)]) C dX8_sign_19 rfl (by decide) rfl ?_
    exact ww_lv [1, 2, 0] rfl (hL20 FU (0 : Int32) c_typed c_text x1 (3 : Int32) hf)
  · have hf := ifF hc hf
    refine ww_iconst (pc := 16) C dX8_sign_16 kI_m1 ?_
    obtain ⟨e0, e1, e2, e3⟩ := ij4 hf
    exact hret _ _ 17 _ dX8_sign_17 rfl e0 (by rw [← e1, ← e2, ← e3])
def fX8_end (c_thrown : Int32) (c_typed : Int32) (x1 : Int32) : Option (Int32 × Int32 × Int32) := (fX8_in x1 (0 : Int32) c_typed).bind fun v1 => if v1 = 0 then some ((0 : Int32), (0 : Int32), c_typed) else some ((1 : Int32), (0 : Int32), x1)
set_option maxHeartbeats 4000000 in
set_option maxRecDepth 100000 in
theorem tX8_end (l : Launch) (D : va_G) (k : Nat → ClassId) (q_this q_now q_text q_row q_read q_outerCell q_outerDoor q_walked q_onWalks q_far q_aside q_wasFull q_undos q_was q_kept q_isKept : Nat) (c_typed : Int32) (c_rowMany : Int32) (c_thrown : Int32) (c_length : Int32) (c_at : Int32) (c_wrong : Int32) (c_outerMany : Int32) (c_walkedMany : Int32) (c_cameOut : Int32) (c_undoMany : Int32) (c_drawn : Int32) (x1 : Int32) (r_ : Int32) (w_thrown : Int32) (w_typed : Int32) (hf : fX8_end c_thrown c_typed x1 = some (r_, w_thrown, w_typed)) : MI l yX8_end cX8_end 2 .boolean (RM 1 22) D k [.ref q_this, .int x1] [oX8 q_this q_now q_text c_typed q_row c_rowMany c_thrown c_length c_at c_wrong q_read q_outerCell q_outerDoor c_outerMany q_walked c_walkedMany c_cameOut q_onWalks q_far q_aside q_wasFull q_undos q_was c_undoMany c_drawn q_kept q_isKept] r_ [oX8 q_this q_now q_text w_typed q_row c_rowMany w_thrown c_length c_at c_wrong q_read q_outerCell q_outerDoor c_outerMany q_walked c_walkedMany c_cameOut q_onWalks q_far q_aside q_wasFull q_undos q_was c_undoMany c_drawn q_kept q_isKept] := by
  refine mkMI' (own := "DoorWalkModel") (by decide) rfl (Nat.le_of_ble_eq_true rfl) ?_
  intro p e s m args below meth c Q A hret C
  refine ww_lv (lv' := [(0, .ref q_this), (1, .int x1)]) [0, 1] rfl ?_
  unfold fX8_end at hf
  refine ww_aload_n (pc := 0) C dX8_end_0 rfl 0 rfl ?_
  refine ww_iconst (pc := 1) C dX8_end_1 kI_0 ?_
  refine pf8_5 (pc := 2) (ws' := [oX8 q_this q_now q_text c_typed q_row c_rowMany (0 : Int32) c_length c_at c_wrong q_read q_outerCell q_outerDoor c_outerMany q_walked c_walkedMany c_cameOut q_onWalks q_far q_aside q_wasFull q_undos q_was c_undoMany c_drawn q_kept q_isKept]) C kf_X8_61 0 rfl (Nat.le_of_ble_eq_true rfl) rfl dX8_end_2 ?_
  refine ww_iload_n (pc := 5) C dX8_end_5 rfl 1 rfl ?_
  refine ww_iconst (pc := 6) C dX8_end_6 kI_0 ?_
  refine ww_aload_n (pc := 7) C dX8_end_7 rfl 0 rfl ?_
  refine gf8_2 (pc := 8) C kf_X8_126 0 rfl rfl dX8_end_8 ?_
  obtain ⟨v1, h1, hf⟩ := bsome hf
  refine ww_callSi0 (pc := 11) (As := [.int x1, .int (0 : Int32), .int c_typed]) (rest := []) C (tX8_in l D k x1 (0 : Int32) c_typed v1 h1) cs_X8_72 ⟨⟨by decide, by decide⟩, rfl, rfl⟩ [] rfl rfl rfl rfl (Nat.le_of_ble_eq_true rfl) ⟨Nat.zero_le _, Nat.zero_le _⟩ dX8_end_11 (fun hb1 => ?_)
  refine ww_if_ne (pc := 14) (tgt := 19) C dX8_end_14 (by decide) (fun hc => ?_) (fun hc => ?_)
  · have hf := ifF hc hf
    refine ww_aload_n (pc := 19) C dX8_end_19 rfl 0 rfl ?_
    refine ww_iload_n (pc := 20) C dX8_end_20 rfl 1 rfl ?_
    refine pf8_2 (pc := 21) (ws' := [oX8 q_this q_now q_text x1 q_row c_rowMany (0 : Int32) c_length c_at c_wrong q_read q_outerCell q_outerDoor c_outerMany q_walked c_walkedMany c_cameOut q_onWalks q_far q_aside q_wasFull q_undos q_was c_undoMany c_drawn q_kept q_isKept]) C kf_X8_126 0 rfl (Nat.le_of_ble_eq_true rfl) rfl dX8_end_21 ?_
    refine ww_iconst (pc := 24) C dX8_end_24 kI_1 ?_
    obtain ⟨e0, e1, e2⟩ := ij3 hf
    exact hret _ _ 25 _ dX8_end_25 (by decide) e0 (by rw [← e1, ← e2])
  · have hf := ifT hc hf
    refine ww_iconst (pc := 17) C dX8_end_17 kI_0 ?_
    obtain ⟨e0, e1, e2⟩ := ij3 hf
    exact hret _ _ 18 _ dX8_end_18 (by decide) e0 (by rw [← e1, ← e2])
def fX8_begin (c_at : Int32) (c_length : Int32) (c_typed : Int32) (c_wrong : Int32) : Option (Int32 × Int32 × Int32 × Int32) := some ((0 : Int32), c_typed, (0 : Int32), (-1 : Int32))
set_option maxHeartbeats 4000000 in
set_option maxRecDepth 100000 in
theorem tX8_begin (l : Launch) (D : va_G) (k : Nat → ClassId) (q_this q_now q_text q_row q_read q_outerCell q_outerDoor q_walked q_onWalks q_far q_aside q_wasFull q_undos q_was q_kept q_isKept : Nat) (c_typed : Int32) (c_rowMany : Int32) (c_thrown : Int32) (c_length : Int32) (c_at : Int32) (c_wrong : Int32) (c_outerMany : Int32) (c_walkedMany : Int32) (c_cameOut : Int32) (c_undoMany : Int32) (c_drawn : Int32)  (w_at : Int32) (w_length : Int32) (w_typed : Int32) (w_wrong : Int32) (hf : fX8_begin c_at c_length c_typed c_wrong = some (w_at, w_length, w_typed, w_wrong)) : MV l yX8_begin cX8_begin 1 (RM 0 0) D k [.ref q_this] [oX8 q_this q_now q_text c_typed q_row c_rowMany c_thrown c_length c_at c_wrong q_read q_outerCell q_outerDoor c_outerMany q_walked c_walkedMany c_cameOut q_onWalks q_far q_aside q_wasFull q_undos q_was c_undoMany c_drawn q_kept q_isKept] [oX8 q_this q_now q_text w_typed q_row c_rowMany c_thrown w_length w_at w_wrong q_read q_outerCell q_outerDoor c_outerMany q_walked c_walkedMany c_cameOut q_onWalks q_far q_aside q_wasFull q_undos q_was c_undoMany c_drawn q_kept q_isKept] := by
  refine mkMV' (own := "DoorWalkModel") (by decide) rfl (Nat.le_of_ble_eq_true rfl) ?_
  intro p e s m args below meth c Q A hret C
  refine ww_lv (lv' := [(0, .ref q_this)]) [0] rfl ?_
  unfold fX8_begin at hf
  refine ww_aload_n (pc := 0) C dX8_begin_0 rfl 0 rfl ?_
  refine ww_aload_n (pc := 1) C dX8_begin_1 rfl 0 rfl ?_
  refine gf8_2 (pc := 2) C kf_X8_126 0 rfl rfl dX8_begin_2 ?_
  refine pf8_6 (pc := 5) (ws' := [oX8 q_this q_now q_text c_typed q_row c_rowMany c_thrown c_typed c_at c_wrong q_read q_outerCell q_outerDoor c_outerMany q_walked c_walkedMany c_cameOut q_onWalks q_far q_aside q_wasFull q_undos q_was c_undoMany c_drawn q_kept q_isKept]) C kf_X8_129 0 rfl (Nat.le_of_ble_eq_true rfl) rfl dX8_begin_5 ?_
  refine ww_aload_n (pc := 8) C dX8_begin_8 rfl 0 rfl ?_
  refine ww_iconst (pc := 9) C dX8_begin_9 kI_0 ?_
  refine pf8_7 (pc := 10) (ws' := [oX8 q_this q_now q_text c_typed q_row c_rowMany c_thrown c_typed (0 : Int32) c_wrong q_read q_outerCell q_outerDoor c_outerMany q_walked c_walkedMany c_cameOut q_onWalks q_far q_aside q_wasFull q_undos q_was c_undoMany c_drawn q_kept q_isKept]) C kf_X8_132 0 rfl (Nat.le_of_ble_eq_true rfl) rfl dX8_begin_10 ?_
  refine ww_aload_n (pc := 13) C dX8_begin_13 rfl 0 rfl ?_
  refine ww_iconst (pc := 14) C dX8_begin_14 kI_m1 ?_
  refine pf8_8 (pc := 15) (ws' := [oX8 q_this q_now q_text c_typed q_row c_rowMany c_thrown c_typed (0 : Int32) (-1 : Int32) q_read q_outerCell q_outerDoor c_outerMany q_walked c_walkedMany c_cameOut q_onWalks q_far q_aside q_wasFull q_undos q_was c_undoMany c_drawn q_kept q_isKept]) C kf_X8_135 0 rfl (Nat.le_of_ble_eq_true rfl) rfl dX8_begin_15 ?_
  refine ww_aload_n (pc := 18) C dX8_begin_18 rfl 0 rfl ?_
  refine ww_iconst (pc := 19) C dX8_begin_19 kI_0 ?_
  refine pf8_2 (pc := 20) (ws' := [oX8 q_this q_now q_text (0 : Int32) q_row c_rowMany c_thrown c_typed (0 : Int32) (-1 : Int32) q_read q_outerCell q_outerDoor c_outerMany q_walked c_walkedMany c_cameOut q_onWalks q_far q_aside q_wasFull q_undos q_was c_undoMany c_drawn q_kept q_isKept]) C kf_X8_126 0 rfl (Nat.le_of_ble_eq_true rfl) rfl dX8_begin_20 ?_
  obtain ⟨e0, e1, e2, e3⟩ := ij4 hf
  exact hret _ _ 23 dX8_begin_23 (by rw [← e0, ← e1, ← e2, ← e3])
def fX8_here (c_at : Int32) (c_length : Int32) (c_text : Nat → Int32) : Option Int32 := if c_length ≤ c_at then some ((-1 : Int32)) else (ald 80 c_at c_text).bind fun v1 => some ((v1 &&& (255 : Int32)))
set_option maxHeartbeats 4000000 in
set_option maxRecDepth 100000 in
theorem tX8_here (l : Launch) (D : va_G) (k : Nat → ClassId) (q_this q_now q_text q_row q_read q_outerCell q_outerDoor q_walked q_onWalks q_far q_aside q_wasFull q_undos q_was q_kept q_isKept : Nat) (c_typed : Int32) (c_rowMany : Int32) (c_thrown : Int32) (c_length : Int32) (c_at : Int32) (c_wrong : Int32) (c_outerMany : Int32) (c_walkedMany : Int32) (c_cameOut : Int32) (c_undoMany : Int32) (c_drawn : Int32) (c_text : Nat → Int32)  (r_ : Int32) (hf : fX8_here c_at c_length c_text = some (r_)) : MI l yX8_here cX8_here 1 .int (RM 0 0) D k [.ref q_this] [oX8 q_this q_now q_text c_typed q_row c_rowMany c_thrown c_length c_at c_wrong q_read q_outerCell q_outerDoor c_outerMany q_walked c_walkedMany c_cameOut q_onWalks q_far q_aside q_wasFull q_undos q_was c_undoMany c_drawn q_kept q_isKept, aB k q_text 80 c_text] r_ [oX8 q_this q_now q_text c_typed q_row c_rowMany c_thrown c_length c_at c_wrong q_read q_outerCell q_outerDoor c_outerMany q_walked c_walkedMany c_cameOut q_onWalks q_far q_aside q_wasFull q_undos q_was c_undoMany c_drawn q_kept q_isKept, aB k q_text 80 c_text] := by
  refine mkMI' (own := "DoorWalkModel") (by decide) rfl (Nat.le_of_ble_eq_true rfl) ?_
  intro p e s m args below meth c Q A hret C
  refine ww_lv (lv' := [(0, .ref q_this)]) [0] rfl ?_
  unfold fX8_here at hf
  refine ww_aload_n (pc := 0) C dX8_here_0 rfl 0 rfl ?_
  refine gf8_7 (pc := 1) C kf_X8_132 0 rfl rfl dX8_here_1 ?_
  refine ww_aload_n (pc := 4) C dX8_here_4 rfl 0 rfl ?_
  refine gf8_6 (pc := 5) C kf_X8_129 0 rfl rfl dX8_here_5 ?_
  refine ww_icmp_ge (pc := 8) (tgt := 27) C dX8_here_8 (by decide) (fun hc => ?_) (fun hc => ?_)
  · have hf := ifT hc hf
    refine ww_iconst (pc := 27) C dX8_here_27 kI_m1 ?_
    obtain e0 := ij1 hf
    exact hret _ _ 28 _ dX8_here_28 rfl e0 rfl
  · have hf := ifF hc hf
    refine ww_aload_n (pc := 11) C dX8_here_11 rfl 0 rfl ?_
    refine gf8_1 (pc := 12) C kf_X8_13 0 rfl rfl dX8_here_12 ?_
    refine ww_aload_n (pc := 15) C dX8_here_15 rfl 0 rfl ?_
    refine gf8_7 (pc := 16) C kf_X8_132 0 rfl rfl dX8_here_16 ?_
    obtain ⟨v1, h1, hf⟩ := bsome hf
    refine ww_bald (pc := 19) C 1 rfl h1 dX8_here_19 ?_
    refine ww_sipush (pc := 20) C dX8_here_20 kS_255 ?_
    refine ww_iand (pc := 23) C dX8_here_23  ?_
    refine ww_goto (pc := 24) (tgt := 28) C dX8_here_24 (by decide) ?_
    obtain e0 := ij1 hf
    exact hret _ _ 28 _ dX8_here_28 rfl e0 rfl
def fX8_fine (c_wrong : Int32) : Option Int32 := if c_wrong = (-1 : Int32) then some ((1 : Int32)) else some ((0 : Int32))
set_option maxHeartbeats 4000000 in
set_option maxRecDepth 100000 in
theorem tX8_fine (l : Launch) (D : va_G) (k : Nat → ClassId) (q_this q_now q_text q_row q_read q_outerCell q_outerDoor q_walked q_onWalks q_far q_aside q_wasFull q_undos q_was q_kept q_isKept : Nat) (c_typed : Int32) (c_rowMany : Int32) (c_thrown : Int32) (c_length : Int32) (c_at : Int32) (c_wrong : Int32) (c_outerMany : Int32) (c_walkedMany : Int32) (c_cameOut : Int32) (c_undoMany : Int32) (c_drawn : Int32)  (r_ : Int32) (hf : fX8_fine c_wrong = some (r_)) : MI l yX8_fine cX8_fine 1 .boolean (RM 0 0) D k [.ref q_this] [oX8 q_this q_now q_text c_typed q_row c_rowMany c_thrown c_length c_at c_wrong q_read q_outerCell q_outerDoor c_outerMany q_walked c_walkedMany c_cameOut q_onWalks q_far q_aside q_wasFull q_undos q_was c_undoMany c_drawn q_kept q_isKept] r_ [oX8 q_this q_now q_text c_typed q_row c_rowMany c_thrown c_length c_at c_wrong q_read q_outerCell q_outerDoor c_outerMany q_walked c_walkedMany c_cameOut q_onWalks q_far q_aside q_wasFull q_undos q_was c_undoMany c_drawn q_kept q_isKept] := by
  refine mkMI' (own := "DoorWalkModel") (by decide) rfl (Nat.le_of_ble_eq_true rfl) ?_
  intro p e s m args below meth c Q A hret C
  refine ww_lv (lv' := [(0, .ref q_this)]) [0] rfl ?_
  unfold fX8_fine at hf
  refine ww_aload_n (pc := 0) C dX8_fine_0 rfl 0 rfl ?_
  refine gf8_8 (pc := 1) C kf_X8_135 0 rfl rfl dX8_fine_1 ?_
  refine ww_iconst (pc := 4) C dX8_fine_4 kI_m1 ?_
  refine ww_icmp_ne (pc := 5) (tgt := 12) C dX8_fine_5 (by decide) (fun hc => ?_) (fun hc => ?_)
  · have hf := ifF hc hf
    refine ww_iconst (pc := 12) C dX8_fine_12 kI_0 ?_
    obtain e0 := ij1 hf
    exact hret _ _ 13 _ dX8_fine_13 (by decide) e0 rfl
  · have hf := ifT hc hf
    refine ww_iconst (pc := 8) C dX8_fine_8 kI_1 ?_
    refine ww_goto (pc := 9) (tgt := 13) C dX8_fine_9 (by decide) ?_
    obtain e0 := ij1 hf
    exact hret _ _ 13 _ dX8_fine_13 (by decide) e0 rfl
def fX8_fault (c_wrong : Int32) (x1 : Int32) : Option Int32 := (fX8_fine c_wrong).bind fun v1 => if v1 = 0 then some (c_wrong) else some (x1)
set_option maxHeartbeats 4000000 in
set_option maxRecDepth 100000 in
theorem tX8_fault (l : Launch) (D : va_G) (k : Nat → ClassId) (q_this q_now q_text q_row q_read q_outerCell q_outerDoor q_walked q_onWalks q_far q_aside q_wasFull q_undos q_was q_kept q_isKept : Nat) (c_typed : Int32) (c_rowMany : Int32) (c_thrown : Int32) (c_length : Int32) (c_at : Int32) (c_wrong : Int32) (c_outerMany : Int32) (c_walkedMany : Int32) (c_cameOut : Int32) (c_undoMany : Int32) (c_drawn : Int32) (x1 : Int32) (w_wrong : Int32) (hf : fX8_fault c_wrong x1 = some (w_wrong)) : MV l yX8_fault cX8_fault 2 (RM 1 20) D k [.ref q_this, .int x1] [oX8 q_this q_now q_text c_typed q_row c_rowMany c_thrown c_length c_at c_wrong q_read q_outerCell q_outerDoor c_outerMany q_walked c_walkedMany c_cameOut q_onWalks q_far q_aside q_wasFull q_undos q_was c_undoMany c_drawn q_kept q_isKept] [oX8 q_this q_now q_text c_typed q_row c_rowMany c_thrown c_length c_at w_wrong q_read q_outerCell q_outerDoor c_outerMany q_walked c_walkedMany c_cameOut q_onWalks q_far q_aside q_wasFull q_undos q_was c_undoMany c_drawn q_kept q_isKept] := by
  refine mkMV' (own := "DoorWalkModel") (by decide) rfl (Nat.le_of_ble_eq_true rfl) ?_
  intro p e s m args below meth c Q A hret C
  refine ww_lv (lv' := [(0, .ref q_this), (1, .int x1)]) [0, 1] rfl ?_
  unfold fX8_fault at hf
  refine ww_aload_n (pc := 0) C dX8_fault_0 rfl 0 rfl ?_
  obtain ⟨v1, h1, hf⟩ := bsome hf
  refine ww_callVi0 (pc := 1) (As := []) (rest := []) C (tX8_fine l D k q_this q_now q_text q_row q_read q_outerCell q_outerDoor q_walked q_onWalks q_far q_aside q_wasFull q_undos q_was q_kept q_isKept c_typed c_rowMany c_thrown c_length c_at c_wrong c_outerMany c_walkedMany c_cameOut c_undoMany c_drawn v1 h1) cv_X8_138 ⟨⟨by decide, by decide⟩, rfl, rfl⟩ 0 rfl rfl [0] rfl rfl rfl rfl (Nat.le_of_ble_eq_true rfl) ⟨Nat.zero_le _, Nat.zero_le _⟩ dX8_fault_1 (fun hb1 => ?_)
  refine ww_if_eq (pc := 4) (tgt := 12) C dX8_fault_4 (by decide) (fun hc => ?_) (fun hc => ?_)
  · have hf := ifT hc hf
    obtain e0 := ij1 hf
    exact hret _ _ 12 dX8_fault_12 (by rw [← e0])
  · have hf := ifF hc hf
    refine ww_aload_n (pc := 7) C dX8_fault_7 rfl 0 rfl ?_
    refine ww_iload_n (pc := 8) C dX8_fault_8 rfl 1 rfl ?_
    refine pf8_8 (pc := 9) (ws' := [oX8 q_this q_now q_text c_typed q_row c_rowMany c_thrown c_length c_at x1 q_read q_outerCell q_outerDoor c_outerMany q_walked c_walkedMany c_cameOut q_onWalks q_far q_aside q_wasFull q_undos q_was c_undoMany c_drawn q_kept q_isKept]) C kf_X8_135 0 rfl (Nat.le_of_ble_eq_true rfl) rfl dX8_fault_9 ?_
    obtain e0 := ij1 hf
    exact hret _ _ 12 dX8_fault_12 (by rw [← e0])
def fX8_oneOf (c_length : Int32) (c_text : Nat → Int32) (c_at : Int32) (c_wrong : Int32) (x1 : Int32) (x2 : Int32) : Option (Int32 × Int32 × Int32) := (fX8_fine c_wrong).bind fun v1 => if v1 = 0 then some ((0 : Int32), c_at, c_wrong) else (fX8_here c_at c_length c_text).bind fun v2 => (fX8_in v2 x1 ((x1 + x2) - (1 : Int32))).bind fun v3 => if v3 = 0 then (fX8_fault c_wrong c_at).bind fun v6 => some ((0 : Int32), c_at, v6) else (some (c_at + (1 : Int32))).bind fun v4 => (ald 80 (v4 - (1 : Int32)) c_text).bind fun v5 => some ((v5 - x1), v4, c_wrong)
set_option maxHeartbeats 4000000 in
set_option maxRecDepth 100000 in
theorem tX8_oneOf (l : Launch) (D : va_G) (k : Nat → ClassId) (q_this q_now q_text q_row q_read q_outerCell q_outerDoor q_walked q_onWalks q_far q_aside q_wasFull q_undos q_was q_kept q_isKept : Nat) (c_typed : Int32) (c_rowMany : Int32) (c_thrown : Int32) (c_length : Int32) (c_at : Int32) (c_wrong : Int32) (c_outerMany : Int32) (c_walkedMany : Int32) (c_cameOut : Int32) (c_undoMany : Int32) (c_drawn : Int32) (c_text : Nat → Int32) (x1 : Int32) (x2 : Int32) (r_ : Int32) (w_at : Int32) (w_wrong : Int32) (hf : fX8_oneOf c_length c_text c_at c_wrong x1 x2 = some (r_, w_at, w_wrong)) : MI l yX8_oneOf cX8_oneOf 3 .int (RM 2 41) D k [.ref q_this, .int x1, .int x2] [oX8 q_this q_now q_text c_typed q_row c_rowMany c_thrown c_length c_at c_wrong q_read q_outerCell q_outerDoor c_outerMany q_walked c_walkedMany c_cameOut q_onWalks q_far q_aside q_wasFull q_undos q_was c_undoMany c_drawn q_kept q_isKept, aB k q_text 80 c_text] r_ [oX8 q_this q_now q_text c_typed q_row c_rowMany c_thrown c_length w_at w_wrong q_read q_outerCell q_outerDoor c_outerMany q_walked c_walkedMany c_cameOut q_onWalks q_far q_aside q_wasFull q_undos q_was c_undoMany c_drawn q_kept q_isKept, aB k q_text 80 c_text] := by
  refine mkMI' (own := "DoorWalkModel") (by decide) rfl (Nat.le_of_ble_eq_true rfl) ?_
  intro p e s m args below meth c Q A hret C
  refine ww_lv (lv' := [(0, .ref q_this), (1, .int x1), (2, .int x2)]) [0, 1, 2] rfl ?_
  unfold fX8_oneOf at hf
  refine ww_aload_n (pc := 0) C dX8_oneOf_0 rfl 0 rfl ?_
  obtain ⟨v1, h1, hf⟩ := bsome hf
  refine ww_callVi0 (pc := 1) (As := []) (rest := []) C (tX8_fine l D k q_this q_now q_text q_row q_read q_outerCell q_outerDoor q_walked q_onWalks q_far q_aside q_wasFull q_undos q_was q_kept q_isKept c_typed c_rowMany c_thrown c_length c_at c_wrong c_outerMany c_walkedMany c_cameOut c_undoMany c_drawn v1 h1) cv_X8_138 ⟨⟨by decide, by decide⟩, rfl, rfl⟩ 0 rfl rfl [0] rfl rfl rfl rfl (Nat.le_of_ble_eq_true rfl) ⟨Nat.zero_le _, Nat.zero_le _⟩ dX8_oneOf_1 (fun hb1 => ?_)
  refine ww_if_ne (pc := 4) (tgt := 9) C dX8_oneOf_4 (by decide) (fun hc => ?_) (fun hc => ?_)
  · have hf := ifF hc hf
    refine ww_aload_n (pc := 9) C dX8_oneOf_9 rfl 0 rfl ?_
    obtain ⟨v2, h2, hf⟩ := bsome hf
    refine ww_callVi0 (pc := 10) (As := []) (rest := []) C (tX8_here l D k q_this q_now q_text q_row q_read q_outerCell q_outerDoor q_walked q_onWalks q_far q_aside q_wasFull q_undos q_was q_kept q_isKept c_typed c_rowMany c_thrown c_length c_at c_wrong c_outerMany c_walkedMany c_cameOut c_undoMany c_drawn c_text v2 h2) cv_X8_142 ⟨⟨by decide, by decide⟩, rfl, rfl⟩ 0 rfl rfl [0, 1] rfl rfl rfl rfl (Nat.le_of_ble_eq_true rfl) ⟨Nat.zero_le _, Nat.zero_le _⟩ dX8_oneOf_10 (fun hb2 => ?_)
    refine ww_iload_n (pc := 13) C dX8_oneOf_13 rfl 1 rfl ?_
    refine ww_iload_n (pc := 14) C dX8_oneOf_14 rfl 1 rfl ?_
    refine ww_iload_n (pc := 15) C dX8_oneOf_15 rfl 2 rfl ?_
    refine ww_iadd (pc := 16) C dX8_oneOf_16  ?_
    refine ww_iconst (pc := 17) C dX8_oneOf_17 kI_1 ?_
    refine ww_isub (pc := 18) C dX8_oneOf_18  ?_
    obtain ⟨v3, h3, hf⟩ := bsome hf
    refine ww_callSi0 (pc := 19) (As := [.int v2, .int x1, .int ((x1 + x2) - (1 : Int32))]) (rest := []) C (tX8_in l D k v2 x1 ((x1 + x2) - (1 : Int32)) v3 h3) cs_X8_72 ⟨⟨by decide, by decide⟩, rfl, rfl⟩ [] rfl rfl rfl rfl (Nat.le_of_ble_eq_true rfl) ⟨Nat.zero_le _, Nat.zero_le _⟩ dX8_oneOf_19 (fun hb3 => ?_)
    refine ww_if_ne (pc := 22) (tgt := 35) C dX8_oneOf_22 (by decide) (fun hc => ?_) (fun hc => ?_)
    · have hf := ifF hc hf
      refine ww_aload_n (pc := 35) C dX8_oneOf_35 rfl 0 rfl ?_
      refine ww_dup (pc := 36) C dX8_oneOf_36 rfl ?_
      refine gf8_7 (pc := 37) C kf_X8_132 0 rfl rfl dX8_oneOf_37 ?_
      refine ww_iconst (pc := 40) C dX8_oneOf_40 kI_1 ?_
      refine ww_iadd (pc := 41) C dX8_oneOf_41  ?_
      obtain ⟨v4, h4, hf⟩ := bsome hf
      refine ww_nmi h4 ?_
      refine pf8_7 (pc := 42) (ws' := [oX8 q_this q_now q_text c_typed q_row c_rowMany c_thrown c_length v4 c_wrong q_read q_outerCell q_outerDoor c_outerMany q_walked c_walkedMany c_cameOut q_onWalks q_far q_aside q_wasFull q_undos q_was c_undoMany c_drawn q_kept q_isKept, aB k q_text 80 c_text]) C kf_X8_132 0 rfl (Nat.le_of_ble_eq_true rfl) rfl dX8_oneOf_42 ?_
      refine ww_aload_n (pc := 45) C dX8_oneOf_45 rfl 0 rfl ?_
      refine gf8_1 (pc := 46) C kf_X8_13 0 rfl rfl dX8_oneOf_46 ?_
      refine ww_aload_n (pc := 49) C dX8_oneOf_49 rfl 0 rfl ?_
      refine gf8_7 (pc := 50) C kf_X8_132 0 rfl rfl dX8_oneOf_50 ?_
      refine ww_iconst (pc := 53) C dX8_oneOf_53 kI_1 ?_
      refine ww_isub (pc := 54) C dX8_oneOf_54  ?_
      obtain ⟨v5, h5, hf⟩ := bsome hf
      refine ww_bald (pc := 55) C 1 rfl h5 dX8_oneOf_55 ?_
      refine ww_iload_n (pc := 56) C dX8_oneOf_56 rfl 1 rfl ?_
      refine ww_isub (pc := 57) C dX8_oneOf_57  ?_
      obtain ⟨e0, e1, e2⟩ := ij3 hf
      exact hret _ _ 58 _ dX8_oneOf_58 rfl e0 (by rw [← e1, ← e2])
    · have hf := ifT hc hf
      refine ww_aload_n (pc := 25) C dX8_oneOf_25 rfl 0 rfl ?_
      refine ww_aload_n (pc := 26) C dX8_oneOf_26 rfl 0 rfl ?_
      refine gf8_7 (pc := 27) C kf_X8_132 0 rfl rfl dX8_oneOf_27 ?_
      obtain ⟨v6, h6, hf⟩ := bsome hf
      refine ww_callVv (pc := 30) (ws' := [oX8 q_this q_now q_text c_typed q_row c_rowMany c_thrown c_length c_at v6 q_read q_outerCell q_outerDoor c_outerMany q_walked c_walkedMany c_cameOut q_onWalks q_far q_aside q_wasFull q_undos q_was c_undoMany c_drawn q_kept q_isKept, aB k q_text 80 c_text]) (As := [.int c_at]) (rest := []) C (tX8_fault l D k q_this q_now q_text q_row q_read q_outerCell q_outerDoor q_walked q_onWalks q_far q_aside q_wasFull q_undos q_was q_kept q_isKept c_typed c_rowMany c_thrown c_length c_at c_wrong c_outerMany c_walkedMany c_cameOut c_undoMany c_drawn c_at v6 h6) cv_X8_145 ⟨⟨by decide, by decide⟩, rfl, rfl⟩ 0 rfl rfl [0] rfl rfl rfl rfl rfl rfl (Nat.le_of_ble_eq_true rfl) ⟨Nat.zero_le _, Nat.zero_le _⟩ dX8_oneOf_30 ?_
      refine ww_iconst (pc := 33) C dX8_oneOf_33 kI_0 ?_
      obtain ⟨e0, e1, e2⟩ := ij3 hf
      exact hret _ _ 34 _ dX8_oneOf_34 rfl e0 (by rw [← e1, ← e2])
  · have hf := ifT hc hf
    refine ww_iconst (pc := 7) C dX8_oneOf_7 kI_0 ?_
    obtain ⟨e0, e1, e2⟩ := ij3 hf
    exact hret _ _ 8 _ dX8_oneOf_8 rfl e0 (by rw [← e1, ← e2])
def fX8_digits_b4 (c_length : Int32) (c_text : Nat → Int32) (rc4 : Int32 → Int32 → Int32 → Int32 → Int32 → Option (Int32 × Int32 × Int32)) (c_at : Int32) (c_wrong : Int32) (n1 : Int32) (n2 : Int32) (n3 : Int32) : Option (Int32 × Int32 × Int32) := if n1 ≤ n3 then some (n2, c_at, c_wrong) else bd3 (fX8_oneOf c_length c_text c_at c_wrong (48 : Int32) (10 : Int32)) fun v1 v2 v3 => (some (((10 : Int32) * n2) + v1)).bind fun v4 => (some (n3 + (1 : Int32))).bind fun v5 => rc4 v2 v3 n1 v4 v5
def fX8_digits (c_length : Int32) (c_text : Nat → Int32) (c_at : Int32) (c_wrong : Int32) (x1 : Int32) : Option (Int32 × Int32 × Int32) := lfix (fX8_digits_b4 c_length c_text) (fun _ _ _ _ _ => none) FU c_at c_wrong x1 (0 : Int32) (0 : Int32)
set_option maxHeartbeats 4000000 in
set_option maxRecDepth 100000 in
theorem tX8_digits (l : Launch) (D : va_G) (k : Nat → ClassId) (q_this q_now q_text q_row q_read q_outerCell q_outerDoor q_walked q_onWalks q_far q_aside q_wasFull q_undos q_was q_kept q_isKept : Nat) (c_typed : Int32) (c_rowMany : Int32) (c_thrown : Int32) (c_length : Int32) (c_at : Int32) (c_wrong : Int32) (c_outerMany : Int32) (c_walkedMany : Int32) (c_cameOut : Int32) (c_undoMany : Int32) (c_drawn : Int32) (c_text : Nat → Int32) (x1 : Int32) (r_ : Int32) (w_at : Int32) (w_wrong : Int32) (hf : fX8_digits c_length c_text c_at c_wrong x1 = some (r_, w_at, w_wrong)) : MI l yX8_digits cX8_digits 4 .int (RM 3 63) D k [.ref q_this, .int x1] [oX8 q_this q_now q_text c_typed q_row c_rowMany c_thrown c_length c_at c_wrong q_read q_outerCell q_outerDoor c_outerMany q_walked c_walkedMany c_cameOut q_onWalks q_far q_aside q_wasFull q_undos q_was c_undoMany c_drawn q_kept q_isKept, aB k q_text 80 c_text] r_ [oX8 q_this q_now q_text c_typed q_row c_rowMany c_thrown c_length w_at w_wrong q_read q_outerCell q_outerDoor c_outerMany q_walked c_walkedMany c_cameOut q_onWalks q_far q_aside q_wasFull q_undos q_was c_undoMany c_drawn q_kept q_isKept, aB k q_text 80 c_text] := by
  refine mkMI' (own := "DoorWalkModel") (by decide) rfl (Nat.le_of_ble_eq_true rfl) ?_
  intro p e s m args below meth c Q A hret C
  refine ww_lv (lv' := [(0, .ref q_this), (1, .int x1)]) [0, 1] rfl ?_
  have hL4 : ∀ (n : Nat) (c_at : Int32) (c_wrong : Int32) (n1 : Int32) (n2 : Int32) (n3 : Int32), lfix (fX8_digits_b4 c_length c_text) (fun _ _ _ _ _ => none) n c_at c_wrong n1 n2 n3 = some (r_, w_at, w_wrong) → WW p l e (RM 3 63) s m args below meth c Q 4 D A 0 0 [oX8 q_this q_now q_text c_typed q_row c_rowMany c_thrown c_length c_at c_wrong q_read q_outerCell q_outerDoor c_outerMany q_walked c_walkedMany c_cameOut q_onWalks q_far q_aside q_wasFull q_undos q_was c_undoMany c_drawn q_kept q_isKept, aB k q_text 80 c_text] [(0, .ref q_this), (1, .int n1), (2, .int n2), (3, .int n3)] 4 [] := by
    intro n
    induction n with
    | zero => intro c_at c_wrong n1 n2 n3 hf; cases hf
    | succ n ih4 =>
      obtain ⟨rc4, hrc4⟩ : ∃ f9, f9 = lfix (fX8_digits_b4 c_length c_text) (fun _ _ _ _ _ => none) n := ⟨_, rfl⟩
      rw [← hrc4] at ih4
      intro c_at c_wrong n1 n2 n3 hf
      have hf : fX8_digits_b4 c_length c_text rc4 c_at c_wrong n1 n2 n3 = some (r_, w_at, w_wrong) := by rw [hrc4]; exact hf
      unfold fX8_digits_b4 at hf
      refine ww_iload_n (pc := 4) C dX8_digits_4 rfl 3 rfl ?_
      refine ww_iload_n (pc := 5) C dX8_digits_5 rfl 1 rfl ?_
      refine ww_icmp_ge (pc := 6) (tgt := 29) C dX8_digits_6 (by decide) (fun hc => ?_) (fun hc => ?_)
      · have hf := ifT hc hf
        refine ww_iload_n (pc := 29) C dX8_digits_29 rfl 2 rfl ?_
        obtain ⟨e0, e1, e2⟩ := ij3 hf
        exact hret _ _ 30 _ dX8_digits_30 rfl e0 (by rw [← e1, ← e2])
      · have hf := ifF hc hf
        refine ww_bipush (pc := 9) C dX8_digits_9 kB_10 ?_
        refine ww_iload_n (pc := 11) C dX8_digits_11 rfl 2 rfl ?_
        refine ww_imul (pc := 12) C dX8_digits_12  ?_
        refine ww_aload_n (pc := 13) C dX8_digits_13 rfl 0 rfl ?_
        refine ww_bipush (pc := 14) C dX8_digits_14 kB_48 ?_
        refine ww_bipush (pc := 16) C dX8_digits_16 kB_10 ?_
        obtain ⟨v1, v2, v3, h1, hf⟩ := bd3_some hf
        refine ww_callVi (pc := 18) (ws' := [oX8 q_this q_now q_text c_typed q_row c_rowMany c_thrown c_length v2 v3 q_read q_outerCell q_outerDoor c_outerMany q_walked c_walkedMany c_cameOut q_onWalks q_far q_aside q_wasFull q_undos q_was c_undoMany c_drawn q_kept q_isKept, aB k q_text 80 c_text]) (As := [.int (48 : Int32), .int (10 : Int32)]) (rest := [.int ((10 : Int32) * n2)]) C (tX8_oneOf l D k q_this q_now q_text q_row q_read q_outerCell q_outerDoor q_walked q_onWalks q_far q_aside q_wasFull q_undos q_was q_kept q_isKept c_typed c_rowMany c_thrown c_length c_at c_wrong c_outerMany c_walkedMany c_cameOut c_undoMany c_drawn c_text (48 : Int32) (10 : Int32) v1 v2 v3 h1) cv_X8_149 ⟨⟨by decide, by decide⟩, rfl, rfl⟩ 0 rfl rfl [0, 1] rfl rfl rfl rfl rfl rfl (Nat.le_of_ble_eq_true rfl) ⟨Nat.zero_le _, Nat.zero_le _⟩ dX8_digits_18 (fun hb1 => ?_)
        refine ww_iadd (pc := 21) C dX8_digits_21  ?_
        obtain ⟨v4, h4, hf⟩ := bsome hf
        refine ww_nmi h4 ?_
        refine ww_istore_n (pc := 22) (lv' := [(2, .int v4), (0, .ref q_this), (1, .int n1), (3, .int n3)]) C dX8_digits_22 rfl (by decide) rfl ?_
        obtain ⟨v5, h5, hf⟩ := bsome hf
        refine ww_iincN (pc := 23) (lv' := [(3, .int v5), (2, .int v4), (0, .ref q_this), (1, .int n1)]) (j := 3) C dX8_digits_23 kI_1 rfl h5 (by decide) rfl ?_
        refine ww_goto (pc := 26) (tgt := 4) C dX8_digits_26 (by decide) ?_
        exact ww_lv [2, 3, 1, 0] rfl (ih4 v2 v3 n1 v4 v5 hf)
  unfold fX8_digits at hf
  refine ww_iconst (pc := 0) C dX8_digits_0 kI_0 ?_
  refine ww_istore_n (pc := 1) (lv' := [(2, .int (0 : Int32)), (0, .ref q_this), (1, .int x1)]) C dX8_digits_1 rfl (by decide) rfl ?_
  refine ww_iconst (pc := 2) C dX8_digits_2 kI_0 ?_
  refine ww_istore_n (pc := 3) (lv' := [(3, .int (0 : Int32)), (2, .int (0 : Int32)), (0, .ref q_this), (1, .int x1)]) C dX8_digits_3 rfl (by decide) rfl ?_
  exact ww_lv [2, 3, 1, 0] rfl (hL4 FU c_at c_wrong x1 (0 : Int32) (0 : Int32) hf)
def fX8_passes (c_length : Int32) (c_wrong : Int32) (c_text : Nat → Int32) (c_at : Int32) (x1 : Int32) : Option (Int32 × Int32) := (fX8_fine c_wrong).bind fun v1 => if v1 = 0 then some ((0 : Int32), c_at) else (fX8_here c_at c_length c_text).bind fun v2 => if v2 = x1 then (some (c_at + (1 : Int32))).bind fun v3 => some ((1 : Int32), v3) else some ((0 : Int32), c_at)
set_option maxHeartbeats 4000000 in
set_option maxRecDepth 100000 in
theorem tX8_passes (l : Launch) (D : va_G) (k : Nat → ClassId) (q_this q_now q_text q_row q_read q_outerCell q_outerDoor q_walked q_onWalks q_far q_aside q_wasFull q_undos q_was q_kept q_isKept : Nat) (c_typed : Int32) (c_rowMany : Int32) (c_thrown : Int32) (c_length : Int32) (c_at : Int32) (c_wrong : Int32) (c_outerMany : Int32) (c_walkedMany : Int32) (c_cameOut : Int32) (c_undoMany : Int32) (c_drawn : Int32) (c_text : Nat → Int32) (x1 : Int32) (r_ : Int32) (w_at : Int32) (hf : fX8_passes c_length c_wrong c_text c_at x1 = some (r_, w_at)) : MI l yX8_passes cX8_passes 2 .boolean (RM 1 20) D k [.ref q_this, .int x1] [oX8 q_this q_now q_text c_typed q_row c_rowMany c_thrown c_length c_at c_wrong q_read q_outerCell q_outerDoor c_outerMany q_walked c_walkedMany c_cameOut q_onWalks q_far q_aside q_wasFull q_undos q_was c_undoMany c_drawn q_kept q_isKept, aB k q_text 80 c_text] r_ [oX8 q_this q_now q_text c_typed q_row c_rowMany c_thrown c_length w_at c_wrong q_read q_outerCell q_outerDoor c_outerMany q_walked c_walkedMany c_cameOut q_onWalks q_far q_aside q_wasFull q_undos q_was c_undoMany c_drawn q_kept q_isKept, aB k q_text 80 c_text] := by
  refine mkMI' (own := "DoorWalkModel") (by decide) rfl (Nat.le_of_ble_eq_true rfl) ?_
  intro p e s m args below meth c Q A hret C
  refine ww_lv (lv' := [(0, .ref q_this), (1, .int x1)]) [0, 1] rfl ?_
  unfold fX8_passes at hf
  refine ww_aload_n (pc := 0) C dX8_passes_0 rfl 0 rfl ?_
  obtain ⟨v1, h1, hf⟩ := bsome hf
  refine ww_callVi0 (pc := 1) (As := []) (rest := []) C (tX8_fine l D k q_this q_now q_text q_row q_read q_outerCell q_outerDoor q_walked q_onWalks q_far q_aside q_wasFull q_undos q_was q_kept q_isKept c_typed c_rowMany c_thrown c_length c_at c_wrong c_outerMany c_walkedMany c_cameOut c_undoMany c_drawn v1 h1) cv_X8_138 ⟨⟨by decide, by decide⟩, rfl, rfl⟩ 0 rfl rfl [0] rfl rfl rfl rfl (Nat.le_of_ble_eq_true rfl) ⟨Nat.zero_le _, Nat.zero_le _⟩ dX8_passes_1 (fun hb1 => ?_)
  refine ww_if_eq (pc := 4) (tgt := 15) C dX8_passes_4 (by decide) (fun hc => ?_) (fun hc => ?_)
  · have hf := ifT hc hf
    refine ww_iconst (pc := 15) C dX8_passes_15 kI_0 ?_
    obtain ⟨e0, e1⟩ := ij2 hf
    exact hret _ _ 16 _ dX8_passes_16 (by decide) e0 (by rw [← e1])
  · have hf := ifF hc hf
    refine ww_aload_n (pc := 7) C dX8_passes_7 rfl 0 rfl ?_
    obtain ⟨v2, h2, hf⟩ := bsome hf
    refine ww_callVi0 (pc := 8) (As := []) (rest := []) C (tX8_here l D k q_this q_now q_text q_row q_read q_outerCell q_outerDoor q_walked q_onWalks q_far q_aside q_wasFull q_undos q_was q_kept q_isKept c_typed c_rowMany c_thrown c_length c_at c_wrong c_outerMany c_walkedMany c_cameOut c_undoMany c_drawn c_text v2 h2) cv_X8_142 ⟨⟨by decide, by decide⟩, rfl, rfl⟩ 0 rfl rfl [0, 1] rfl rfl rfl rfl (Nat.le_of_ble_eq_true rfl) ⟨Nat.zero_le _, Nat.zero_le _⟩ dX8_passes_8 (fun hb2 => ?_)
    refine ww_iload_n (pc := 11) C dX8_passes_11 rfl 1 rfl ?_
    refine ww_icmp_eq (pc := 12) (tgt := 17) C dX8_passes_12 (by decide) (fun hc => ?_) (fun hc => ?_)
    · have hf := ifT hc hf
      refine ww_aload_n (pc := 17) C dX8_passes_17 rfl 0 rfl ?_
      refine ww_dup (pc := 18) C dX8_passes_18 rfl ?_
      refine gf8_7 (pc := 19) C kf_X8_132 0 rfl rfl dX8_passes_19 ?_
      refine ww_iconst (pc := 22) C dX8_passes_22 kI_1 ?_
      refine ww_iadd (pc := 23) C dX8_passes_23  ?_
      obtain ⟨v3, h3, hf⟩ := bsome hf
      refine ww_nmi h3 ?_
      refine pf8_7 (pc := 24) (ws' := [oX8 q_this q_now q_text c_typed q_row c_rowMany c_thrown c_length v3 c_wrong q_read q_outerCell q_outerDoor c_outerMany q_walked c_walkedMany c_cameOut q_onWalks q_far q_aside q_wasFull q_undos q_was c_undoMany c_drawn q_kept q_isKept, aB k q_text 80 c_text]) C kf_X8_132 0 rfl (Nat.le_of_ble_eq_true rfl) rfl dX8_passes_24 ?_
      refine ww_iconst (pc := 27) C dX8_passes_27 kI_1 ?_
      obtain ⟨e0, e1⟩ := ij2 hf
      exact hret _ _ 28 _ dX8_passes_28 (by decide) e0 (by rw [← e1])
    · have hf := ifF hc hf
      refine ww_iconst (pc := 15) C dX8_passes_15 kI_0 ?_
      obtain ⟨e0, e1⟩ := ij2 hf
      exact hret _ _ 16 _ dX8_passes_16 (by decide) e0 (by rw [← e1])
def fX8_wasRight_b19 (c_at : Int32) (c_length : Int32) (c_wrong : Int32) : Option (Int32 × Int32) := (fX8_fine c_wrong).bind fun v1 => some (v1, c_wrong)
def fX8_wasRight (c_at : Int32) (c_length : Int32) (c_wrong : Int32) : Option (Int32 × Int32) := if c_length ≤ c_at then fX8_wasRight_b19 c_at c_length c_wrong else (fX8_fault c_wrong c_at).bind fun v1 => fX8_wasRight_b19 c_at c_length v1
set_option maxHeartbeats 4000000 in
set_option maxRecDepth 100000 in
theorem tX8_wasRight (l : Launch) (D : va_G) (k : Nat → ClassId) (q_this q_now q_text q_row q_read q_outerCell q_outerDoor q_walked q_onWalks q_far q_aside q_wasFull q_undos q_was q_kept q_isKept : Nat) (c_typed : Int32) (c_rowMany : Int32) (c_thrown : Int32) (c_length : Int32) (c_at : Int32) (c_wrong : Int32) (c_outerMany : Int32) (c_walkedMany : Int32) (c_cameOut : Int32) (c_undoMany : Int32) (c_drawn : Int32)  (r_ : Int32) (w_wrong : Int32) (hf : fX8_wasRight c_at c_length c_wrong = some (r_, w_wrong)) : MI l yX8_wasRight cX8_wasRight 1 .boolean (RM 2 41) D k [.ref q_this] [oX8 q_this q_now q_text c_typed q_row c_rowMany c_thrown c_length c_at c_wrong q_read q_outerCell q_outerDoor c_outerMany q_walked c_walkedMany c_cameOut q_onWalks q_far q_aside q_wasFull q_undos q_was c_undoMany c_drawn q_kept q_isKept] r_ [oX8 q_this q_now q_text c_typed q_row c_rowMany c_thrown c_length c_at w_wrong q_read q_outerCell q_outerDoor c_outerMany q_walked c_walkedMany c_cameOut q_onWalks q_far q_aside q_wasFull q_undos q_was c_undoMany c_drawn q_kept q_isKept] := by
  refine mkMI' (own := "DoorWalkModel") (by decide) rfl (Nat.le_of_ble_eq_true rfl) ?_
  intro p e s m args below meth c Q A hret C
  refine ww_lv (lv' := [(0, .ref q_this)]) [0] rfl ?_
  have hJ19 : ∀ (c_wrong : Int32), fX8_wasRight_b19 c_at c_length c_wrong = some (r_, w_wrong) → WW p l e (RM 2 41) s m args below meth c Q 1 D A 0 0 [oX8 q_this q_now q_text c_typed q_row c_rowMany c_thrown c_length c_at c_wrong q_read q_outerCell q_outerDoor c_outerMany q_walked c_walkedMany c_cameOut q_onWalks q_far q_aside q_wasFull q_undos q_was c_undoMany c_drawn q_kept q_isKept] [(0, .ref q_this)] 19 [] := by
    intro c_wrong
    intro hf
    unfold fX8_wasRight_b19 at hf
    refine ww_aload_n (pc := 19) C dX8_wasRight_19 rfl 0 rfl ?_
    obtain ⟨v1, h1, hf⟩ := bsome hf
    refine ww_callVi0 (pc := 20) (As := []) (rest := []) C (tX8_fine l D k q_this q_now q_text q_row q_read q_outerCell q_outerDoor q_walked q_onWalks q_far q_aside q_wasFull q_undos q_was q_kept q_isKept c_typed c_rowMany c_thrown c_length c_at c_wrong c_outerMany c_walkedMany c_cameOut c_undoMany c_drawn v1 h1) cv_X8_138 ⟨⟨by decide, by decide⟩, rfl, rfl⟩ 0 rfl rfl [0] rfl rfl rfl rfl (Nat.le_of_ble_eq_true rfl) ⟨Nat.zero_le _, Nat.zero_le _⟩ dX8_wasRight_20 (fun hb1 => ?_)
    obtain ⟨e0, e1⟩ := ij2 hf
    exact hret _ _ 23 _ dX8_wasRight_23 hb1 e0 (by rw [← e1])
  unfold fX8_wasRight at hf
  refine ww_aload_n (pc := 0) C dX8_wasRight_0 rfl 0 rfl ?_
  refine gf8_7 (pc := 1) C kf_X8_132 0 rfl rfl dX8_wasRight_1 ?_
  refine ww_aload_n (pc := 4) C dX8_wasRight_4 rfl 0 rfl ?_
  refine gf8_6 (pc := 5) C kf_X8_129 0 rfl rfl dX8_wasRight_5 ?_
  refine ww_icmp_ge (pc := 8) (tgt := 19) C dX8_wasRight_8 (by decide) (fun hc => ?_) (fun hc => ?_)
  · have hf := ifT hc hf
    exact hJ19 c_wrong hf
  · have hf := ifF hc hf
    refine ww_aload_n (pc := 11) C dX8_wasRight_11 rfl 0 rfl ?_
    refine ww_aload_n (pc := 12) C dX8_wasRight_12 rfl 0 rfl ?_
    refine gf8_7 (pc := 13) C kf_X8_132 0 rfl rfl dX8_wasRight_13 ?_
    obtain ⟨v1, h1, hf⟩ := bsome hf
    refine ww_callVv (pc := 16) (ws' := [oX8 q_this q_now q_text c_typed q_row c_rowMany c_thrown c_length c_at v1 q_read q_outerCell q_outerDoor c_outerMany q_walked c_walkedMany c_cameOut q_onWalks q_far q_aside q_wasFull q_undos q_was c_undoMany c_drawn q_kept q_isKept]) (As := [.int c_at]) (rest := []) C (tX8_fault l D k q_this q_now q_text q_row q_read q_outerCell q_outerDoor q_walked q_onWalks q_far q_aside q_wasFull q_undos q_was q_kept q_isKept c_typed c_rowMany c_thrown c_length c_at c_wrong c_outerMany c_walkedMany c_cameOut c_undoMany c_drawn c_at v1 h1) cv_X8_145 ⟨⟨by decide, by decide⟩, rfl, rfl⟩ 0 rfl rfl [0] rfl rfl rfl rfl rfl rfl (Nat.le_of_ble_eq_true rfl) ⟨Nat.zero_le _, Nat.zero_le _⟩ dX8_wasRight_16 ?_
    exact hJ19 v1 hf
def fX8_lay_b2 (c_now : Nat → Int32) (rc2 : (Nat → Int32) → Int32 → Option ((Nat → Int32))) (c_was : Nat → Int32) (n1 : Int32) : Option ((Nat → Int32)) := if (189 : Int32) ≤ n1 then some (c_was) else (ald 189 n1 c_now).bind fun v1 => (ast 189 n1 c_was v1).bind fun v2 => (some (n1 + (1 : Int32))).bind fun v3 => rc2 v2 v3
def fX8_lay (c_now : Nat → Int32) (c_was : Nat → Int32) : Option ((Nat → Int32)) := lfix (fX8_lay_b2 c_now) (fun _ _ => none) FU c_was (0 : Int32)
set_option maxHeartbeats 4000000 in
set_option maxRecDepth 100000 in
theorem tX8_lay (l : Launch) (D : va_G) (k : Nat → ClassId) (q_this q_now q_text q_row q_read q_outerCell q_outerDoor q_walked q_onWalks q_far q_aside q_wasFull q_undos q_was q_kept q_isKept : Nat) (c_typed : Int32) (c_rowMany : Int32) (c_thrown : Int32) (c_length : Int32) (c_at : Int32) (c_wrong : Int32) (c_outerMany : Int32) (c_walkedMany : Int32) (c_cameOut : Int32) (c_undoMany : Int32) (c_drawn : Int32) (c_now : Nat → Int32) (c_was : Nat → Int32)  (w_was : Nat → Int32) (hf : fX8_lay c_now c_was = some (w_was)) : MV l yX8_lay cX8_lay 2 (RM 0 0) D k [.ref q_this] [oX8 q_this q_now q_text c_typed q_row c_rowMany c_thrown c_length c_at c_wrong q_read q_outerCell q_outerDoor c_outerMany q_walked c_walkedMany c_cameOut q_onWalks q_far q_aside q_wasFull q_undos q_was c_undoMany c_drawn q_kept q_isKept, aI k q_now 189 c_now, aI k q_was 189 c_was] [oX8 q_this q_now q_text c_typed q_row c_rowMany c_thrown c_length c_at c_wrong q_read q_outerCell q_outerDoor c_outerMany q_walked c_walkedMany c_cameOut q_onWalks q_far q_aside q_wasFull q_undos q_was c_undoMany c_drawn q_kept q_isKept, aI k q_now 189 c_now, aI k q_was 189 w_was] := by
  refine mkMV' (own := "DoorWalkModel") (by decide) rfl (Nat.le_of_ble_eq_true rfl) ?_
  intro p e s m args below meth c Q A hret C
  refine ww_lv (lv' := [(0, .ref q_this)]) [0] rfl ?_
  have hL2 : ∀ (n : Nat) (c_was : Nat → Int32) (n1 : Int32), lfix (fX8_lay_b2 c_now) (fun _ _ => none) n c_was n1 = some (w_was) → WW p l e (RM 0 0) s m args below meth c Q 2 D A 0 0 [oX8 q_this q_now q_text c_typed q_row c_rowMany c_thrown c_length c_at c_wrong q_read q_outerCell q_outerDoor c_outerMany q_walked c_walkedMany c_cameOut q_onWalks q_far q_aside q_wasFull q_undos q_was c_undoMany c_drawn q_kept q_isKept, aI k q_now 189 c_now, aI k q_was 189 c_was] [(0, .ref q_this), (1, .int n1)] 2 [] := by
    intro n
    induction n with
    | zero => intro c_was n1 hf; cases hf
    | succ n ih2 =>
      obtain ⟨rc2, hrc2⟩ : ∃ f9, f9 = lfix (fX8_lay_b2 c_now) (fun _ _ => none) n := ⟨_, rfl⟩
      rw [← hrc2] at ih2
      intro c_was n1 hf
      have hf : fX8_lay_b2 c_now rc2 c_was n1 = some (w_was) := by rw [hrc2]; exact hf
      unfold fX8_lay_b2 at hf
      refine ww_iload_n (pc := 2) C dX8_lay_2 rfl 1 rfl ?_
      refine ww_sipush (pc := 3) C dX8_lay_3 kS_189 ?_
      refine ww_icmp_ge (pc := 6) (tgt := 27) C dX8_lay_6 (by decide) (fun hc => ?_) (fun hc => ?_)
      · have hf := ifT hc hf
        obtain e0 := ij1 hf
        exact hret _ _ 27 dX8_lay_27 (by rw [← e0])
      · have hf := ifF hc hf
        refine ww_aload_n (pc := 9) C dX8_lay_9 rfl 0 rfl ?_
        refine gf8_21 (pc := 10) C kf_X8_49 0 rfl rfl dX8_lay_10 ?_
        refine ww_iload_n (pc := 13) C dX8_lay_13 rfl 1 rfl ?_
        refine ww_aload_n (pc := 14) C dX8_lay_14 rfl 0 rfl ?_
        refine gf8_0 (pc := 15) C kf_X8_9 0 rfl rfl dX8_lay_15 ?_
        refine ww_iload_n (pc := 18) C dX8_lay_18 rfl 1 rfl ?_
        obtain ⟨v1, h1, hf⟩ := bsome hf
        refine ww_iald (pc := 19) C 1 rfl h1 dX8_lay_19 ?_
        obtain ⟨v2, h2, hf⟩ := bsome hf
        refine ww_iast (pc := 20) (ws' := [oX8 q_this q_now q_text c_typed q_row c_rowMany c_thrown c_length c_at c_wrong q_read q_outerCell q_outerDoor c_outerMany q_walked c_walkedMany c_cameOut q_onWalks q_far q_aside q_wasFull q_undos q_was c_undoMany c_drawn q_kept q_isKept, aI k q_now 189 c_now, aI k q_was 189 v2]) C 2 rfl h2 rfl dX8_lay_20 ?_
        obtain ⟨v3, h3, hf⟩ := bsome hf
        refine ww_iincN (pc := 21) (lv' := [(1, .int v3), (0, .ref q_this)]) (j := 1) C dX8_lay_21 kI_1 rfl h3 (by decide) rfl ?_
        refine ww_goto (pc := 24) (tgt := 2) C dX8_lay_24 (by decide) ?_
        exact ww_lv [1, 0] rfl (ih2 v2 v3 hf)
  unfold fX8_lay at hf
  refine ww_iconst (pc := 0) C dX8_lay_0 kI_0 ?_
  refine ww_istore_n (pc := 1) (lv' := [(1, .int (0 : Int32)), (0, .ref q_this)]) C dX8_lay_1 rfl (by decide) rfl ?_
  exact ww_lv [1, 0] rfl (hL2 FU c_was (0 : Int32) hf)
def fX8_note_b52 (c_was : Nat → Int32) (rc52 : Int32 → (Nat → Int32) → Int32 → Option (Int32 × (Nat → Int32))) (c_undoMany : Int32) (c_undos : Nat → Int32) (n1 : Int32) : Option (Int32 × (Nat → Int32)) := if (189 : Int32) ≤ n1 then (some (c_undoMany + (1 : Int32))).bind fun v1 => some (v1, c_undos) else (ald 189 n1 c_was).bind fun v2 => (ast 1512 (((189 : Int32) * c_undoMany) + n1) c_undos v2).bind fun v3 => (some (n1 + (1 : Int32))).bind fun v4 => rc52 c_undoMany v3 v4
def fX8_note_b11 (c_was : Nat → Int32) (rc11 : Int32 → (Nat → Int32) → Int32 → Option (Int32 × (Nat → Int32))) (c_undoMany : Int32) (c_undos : Nat → Int32) (n1 : Int32) : Option (Int32 × (Nat → Int32)) := if (1323 : Int32) ≤ n1 then (some (c_undoMany - (1 : Int32))).bind fun v1 => lfix (fX8_note_b52 c_was) (fun _ _ _ => none) FU v1 c_undos (0 : Int32) else (ald 1512 (n1 + (189 : Int32)) c_undos).bind fun v2 => (ast 1512 n1 c_undos v2).bind fun v3 => (some (n1 + (1 : Int32))).bind fun v4 => rc11 c_undoMany v3 v4
def fX8_note (c_was : Nat → Int32) (c_undoMany : Int32) (c_undos : Nat → Int32) : Option (Int32 × (Nat → Int32)) := if c_undoMany = (8 : Int32) then lfix (fX8_note_b11 c_was) (fun _ _ _ => none) FU c_undoMany c_undos (0 : Int32) else lfix (fX8_note_b52 c_was) (fun _ _ _ => none) FU c_undoMany c_undos (0 : Int32)
set_option maxHeartbeats 4000000 in
set_option maxRecDepth 100000 in
theorem tX8_note (l : Launch) (D : va_G) (k : Nat → ClassId) (q_this q_now q_text q_row q_read q_outerCell q_outerDoor q_walked q_onWalks q_far q_aside q_wasFull q_undos q_was q_kept q_isKept : Nat) (c_typed : Int32) (c_rowMany : Int32) (c_thrown : Int32) (c_length : Int32) (c_at : Int32) (c_wrong : Int32) (c_outerMany : Int32) (c_walkedMany : Int32) (c_cameOut : Int32) (c_undoMany : Int32) (c_drawn : Int32) (c_undos : Nat → Int32) (c_was : Nat → Int32)  (w_undoMany : Int32) (w_undos : Nat → Int32) (hf : fX8_note c_was c_undoMany c_undos = some (w_undoMany, w_undos)) : MV l yX8_note cX8_note 2 (RM 0 0) D k [.ref q_this] [oX8 q_this q_now q_text c_typed q_row c_rowMany c_thrown c_length c_at c_wrong q_read q_outerCell q_outerDoor c_outerMany q_walked c_walkedMany c_cameOut q_onWalks q_far q_aside q_wasFull q_undos q_was c_undoMany c_drawn q_kept q_isKept, aI k q_undos 1512 c_undos, aI k q_was 189 c_was] [oX8 q_this q_now q_text c_typed q_row c_rowMany c_thrown c_length c_at c_wrong q_read q_outerCell q_outerDoor c_outerMany q_walked c_walkedMany c_cameOut q_onWalks q_far q_aside q_wasFull q_undos q_was w_undoMany c_drawn q_kept q_isKept, aI k q_undos 1512 w_undos, aI k q_was 189 c_was] := by
  refine mkMV' (own := "DoorWalkModel") (by decide) rfl (Nat.le_of_ble_eq_true rfl) ?_
  intro p e s m args below meth c Q A hret C
  refine ww_lv (lv' := [(0, .ref q_this)]) [0] rfl ?_
  have hL52 : ∀ (n : Nat) (c_undoMany : Int32) (c_undos : Nat → Int32) (n1 : Int32), lfix (fX8_note_b52 c_was) (fun _ _ _ => none) n c_undoMany c_undos n1 = some (w_undoMany, w_undos) → WW p l e (RM 0 0) s m args below meth c Q 2 D A 0 0 [oX8 q_this q_now q_text c_typed q_row c_rowMany c_thrown c_length c_at c_wrong q_read q_outerCell q_outerDoor c_outerMany q_walked c_walkedMany c_cameOut q_onWalks q_far q_aside q_wasFull q_undos q_was c_undoMany c_drawn q_kept q_isKept, aI k q_undos 1512 c_undos, aI k q_was 189 c_was] [(0, .ref q_this), (1, .int n1)] 52 [] := by
    intro n
    induction n with
    | zero => intro c_undoMany c_undos n1 hf; cases hf
    | succ n ih52 =>
      obtain ⟨rc52, hrc52⟩ : ∃ f9, f9 = lfix (fX8_note_b52 c_was) (fun _ _ _ => none) n := ⟨_, rfl⟩
      rw [← hrc52] at ih52
      intro c_undoMany c_undos n1 hf
      have hf : fX8_note_b52 c_was rc52 c_undoMany c_undos n1 = some (w_undoMany, w_undos) := by rw [hrc52]; exact hf
      unfold fX8_note_b52 at hf
      refine ww_iload_n (pc := 52) C dX8_note_52 rfl 1 rfl ?_
      refine ww_sipush (pc := 53) C dX8_note_53 kS_189 ?_
      refine ww_icmp_ge (pc := 56) (tgt := 86) C dX8_note_56 (by decide) (fun hc => ?_) (fun hc => ?_)
      · have hf := ifT hc hf
        refine ww_aload_n (pc := 86) C dX8_note_86 rfl 0 rfl ?_
        refine ww_dup (pc := 87) C dX8_note_87 rfl ?_
        refine gf8_22 (pc := 88) C kf_X8_306 0 rfl rfl dX8_note_88 ?_
        refine ww_iconst (pc := 91) C dX8_note_91 kI_1 ?_
        refine ww_iadd (pc := 92) C dX8_note_92  ?_
        obtain ⟨v1, h1, hf⟩ := bsome hf
        refine ww_nmi h1 ?_
        refine pf8_22 (pc := 93) (ws' := [oX8 q_this q_now q_text c_typed q_row c_rowMany c_thrown c_length c_at c_wrong q_read q_outerCell q_outerDoor c_outerMany q_walked c_walkedMany c_cameOut q_onWalks q_far q_aside q_wasFull q_undos q_was v1 c_drawn q_kept q_isKept, aI k q_undos 1512 c_undos, aI k q_was 189 c_was]) C kf_X8_306 0 rfl (Nat.le_of_ble_eq_true rfl) rfl dX8_note_93 ?_
        obtain ⟨e0, e1⟩ := ij2 hf
        exact hret _ _ 96 dX8_note_96 (by rw [← e0, ← e1])
      · have hf := ifF hc hf
        refine ww_aload_n (pc := 59) C dX8_note_59 rfl 0 rfl ?_
        refine gf8_20 (pc := 60) C kf_X8_46 0 rfl rfl dX8_note_60 ?_
        refine ww_sipush (pc := 63) C dX8_note_63 kS_189 ?_
        refine ww_aload_n (pc := 66) C dX8_note_66 rfl 0 rfl ?_
        refine gf8_22 (pc := 67) C kf_X8_306 0 rfl rfl dX8_note_67 ?_
        refine ww_imul (pc := 70) C dX8_note_70  ?_
        refine ww_iload_n (pc := 71) C dX8_note_71 rfl 1 rfl ?_
        refine ww_iadd (pc := 72) C dX8_note_72  ?_
        refine ww_aload_n (pc := 73) C dX8_note_73 rfl 0 rfl ?_
        refine gf8_21 (pc := 74) C kf_X8_49 0 rfl rfl dX8_note_74 ?_
        refine ww_iload_n (pc := 77) C dX8_note_77 rfl 1 rfl ?_
        obtain ⟨v2, h2, hf⟩ := bsome hf
        refine ww_iald (pc := 78) C 2 rfl h2 dX8_note_78 ?_
        obtain ⟨v3, h3, hf⟩ := bsome hf
        refine ww_iast (pc := 79) (ws' := [oX8 q_this q_now q_text c_typed q_row c_rowMany c_thrown c_length c_at c_wrong q_read q_outerCell q_outerDoor c_outerMany q_walked c_walkedMany c_cameOut q_onWalks q_far q_aside q_wasFull q_undos q_was c_undoMany c_drawn q_kept q_isKept, aI k q_undos 1512 v3, aI k q_was 189 c_was]) C 1 rfl h3 rfl dX8_note_79 ?_
        obtain ⟨v4, h4, hf⟩ := bsome hf
        refine ww_iincN (pc := 80) (lv' := [(1, .int v4), (0, .ref q_this)]) (j := 1) C dX8_note_80 kI_1 rfl h4 (by decide) rfl ?_
        refine ww_goto (pc := 83) (tgt := 52) C dX8_note_83 (by decide) ?_
        exact ww_lv [1, 0] rfl (ih52 c_undoMany v3 v4 hf)
  have hL11 : ∀ (n : Nat) (c_undoMany : Int32) (c_undos : Nat → Int32) (n1 : Int32), lfix (fX8_note_b11 c_was) (fun _ _ _ => none) n c_undoMany c_undos n1 = some (w_undoMany, w_undos) → WW p l e (RM 0 0) s m args below meth c Q 2 D A 0 0 [oX8 q_this q_now q_text c_typed q_row c_rowMany c_thrown c_length c_at c_wrong q_read q_outerCell q_outerDoor c_outerMany q_walked c_walkedMany c_cameOut q_onWalks q_far q_aside q_wasFull q_undos q_was c_undoMany c_drawn q_kept q_isKept, aI k q_undos 1512 c_undos, aI k q_was 189 c_was] [(0, .ref q_this), (1, .int n1)] 11 [] := by
    intro n
    induction n with
    | zero => intro c_undoMany c_undos n1 hf; cases hf
    | succ n ih11 =>
      obtain ⟨rc11, hrc11⟩ : ∃ f9, f9 = lfix (fX8_note_b11 c_was) (fun _ _ _ => none) n := ⟨_, rfl⟩
      rw [← hrc11] at ih11
      intro c_undoMany c_undos n1 hf
      have hf : fX8_note_b11 c_was rc11 c_undoMany c_undos n1 = some (w_undoMany, w_undos) := by rw [hrc11]; exact hf
      unfold fX8_note_b11 at hf
      refine ww_iload_n (pc := 11) C dX8_note_11 rfl 1 rfl ?_
      refine ww_sipush (pc := 12) C dX8_note_12 kS_1323 ?_
      refine ww_icmp_ge (pc := 15) (tgt := 40) C dX8_note_15 (by decide) (fun hc => ?_) (fun hc => ?_)
      · have hf := ifT hc hf
        refine ww_aload_n (pc := 40) C dX8_note_40 rfl 0 rfl ?_
        refine ww_dup (pc := 41) C dX8_note_41 rfl ?_
        refine gf8_22 (pc := 42) C kf_X8_306 0 rfl rfl dX8_note_42 ?_
        refine ww_iconst (pc := 45) C dX8_note_45 kI_1 ?_
        refine ww_isub (pc := 46) C dX8_note_46  ?_
        obtain ⟨v1, h1, hf⟩ := bsome hf
        refine ww_nmi h1 ?_
        refine pf8_22 (pc := 47) (ws' := [oX8 q_this q_now q_text c_typed q_row c_rowMany c_thrown c_length c_at c_wrong q_read q_outerCell q_outerDoor c_outerMany q_walked c_walkedMany c_cameOut q_onWalks q_far q_aside q_wasFull q_undos q_was v1 c_drawn q_kept q_isKept, aI k q_undos 1512 c_undos, aI k q_was 189 c_was]) C kf_X8_306 0 rfl (Nat.le_of_ble_eq_true rfl) rfl dX8_note_47 ?_
        refine ww_iconst (pc := 50) C dX8_note_50 kI_0 ?_
        refine ww_istore_n (pc := 51) (lv' := [(1, .int (0 : Int32)), (0, .ref q_this)]) C dX8_note_51 rfl (by decide) rfl ?_
        exact ww_lv [1, 0] rfl (hL52 FU v1 c_undos (0 : Int32) hf)
      · have hf := ifF hc hf
        refine ww_aload_n (pc := 18) C dX8_note_18 rfl 0 rfl ?_
        refine gf8_20 (pc := 19) C kf_X8_46 0 rfl rfl dX8_note_19 ?_
        refine ww_iload_n (pc := 22) C dX8_note_22 rfl 1 rfl ?_
        refine ww_aload_n (pc := 23) C dX8_note_23 rfl 0 rfl ?_
        refine gf8_20 (pc := 24) C kf_X8_46 0 rfl rfl dX8_note_24 ?_
        refine ww_iload_n (pc := 27) C dX8_note_27 rfl 1 rfl ?_
        refine ww_sipush (pc := 28) C dX8_note_28 kS_189 ?_
        refine ww_iadd (pc := 31) C dX8_note_31  ?_
        obtain ⟨v2, h2, hf⟩ := bsome hf
        refine ww_iald (pc := 32) C 1 rfl h2 dX8_note_32 ?_
        obtain ⟨v3, h3, hf⟩ := bsome hf
        refine ww_iast (pc := 33) (ws' := [oX8 q_this q_now q_text c_typed q_row c_rowMany c_thrown c_length c_at c_wrong q_read q_outerCell q_outerDoor c_outerMany q_walked c_walkedMany c_cameOut q_onWalks q_far q_aside q_wasFull q_undos q_was c_undoMany c_drawn q_kept q_isKept, aI k q_undos 1512 v3, aI k q_was 189 c_was]) C 1 rfl h3 rfl dX8_note_33 ?_
        obtain ⟨v4, h4, hf⟩ := bsome hf
        refine ww_iincN (pc := 34) (lv' := [(1, .int v4), (0, .ref q_this)]) (j := 1) C dX8_note_34 kI_1 rfl h4 (by decide) rfl ?_
        refine ww_goto (pc := 37) (tgt := 11) C dX8_note_37 (by decide) ?_
        exact ww_lv [1, 0] rfl (ih11 c_undoMany v3 v4 hf)
  unfold fX8_note at hf
  refine ww_aload_n (pc := 0) C dX8_note_0 rfl 0 rfl ?_
  refine gf8_22 (pc := 1) C kf_X8_306 0 rfl rfl dX8_note_1 ?_
  refine ww_bipush (pc := 4) C dX8_note_4 kB_8 ?_
  refine ww_icmp_ne (pc := 6) (tgt := 50) C dX8_note_6 (by decide) (fun hc => ?_) (fun hc => ?_)
  · have hf := ifF hc hf
    refine ww_iconst (pc := 50) C dX8_note_50 kI_0 ?_
    refine ww_istore_n (pc := 51) (lv' := [(1, .int (0 : Int32)), (0, .ref q_this)]) C dX8_note_51 rfl (by decide) rfl ?_
    exact ww_lv [1, 0] rfl (hL52 FU c_undoMany c_undos (0 : Int32) hf)
  · have hf := ifT hc hf
    refine ww_iconst (pc := 9) C dX8_note_9 kI_0 ?_
    refine ww_istore_n (pc := 10) (lv' := [(1, .int (0 : Int32)), (0, .ref q_this)]) C dX8_note_10 rfl (by decide) rfl ?_
    exact ww_lv [1, 0] rfl (hL11 FU c_undoMany c_undos (0 : Int32) hf)
def fX8_change (c_now : Nat → Int32) (c_undoMany : Int32) (c_undos : Nat → Int32) (c_was : Nat → Int32) : Option (Int32 × (Nat → Int32) × (Nat → Int32)) := (fX8_lay c_now c_was).bind fun v1 => bd2 (fX8_note v1 c_undoMany c_undos) fun v2 v3 => some (v2, v3, v1)
set_option maxHeartbeats 4000000 in
set_option maxRecDepth 100000 in
theorem tX8_change (l : Launch) (D : va_G) (k : Nat → ClassId) (q_this q_now q_text q_row q_read q_outerCell q_outerDoor q_walked q_onWalks q_far q_aside q_wasFull q_undos q_was q_kept q_isKept : Nat) (c_typed : Int32) (c_rowMany : Int32) (c_thrown : Int32) (c_length : Int32) (c_at : Int32) (c_wrong : Int32) (c_outerMany : Int32) (c_walkedMany : Int32) (c_cameOut : Int32) (c_undoMany : Int32) (c_drawn : Int32) (c_now : Nat → Int32) (c_undos : Nat → Int32) (c_was : Nat → Int32)  (w_undoMany : Int32) (w_undos : Nat → Int32) (w_was : Nat → Int32) (hf : fX8_change c_now c_undoMany c_undos c_was = some (w_undoMany, w_undos, w_was)) : MV l yX8_change cX8_change 1 (RM 1 21) D k [.ref q_this] [oX8 q_this q_now q_text c_typed q_row c_rowMany c_thrown c_length c_at c_wrong q_read q_outerCell q_outerDoor c_outerMany q_walked c_walkedMany c_cameOut q_onWalks q_far q_aside q_wasFull q_undos q_was c_undoMany c_drawn q_kept q_isKept, aI k q_now 189 c_now, aI k q_undos 1512 c_undos, aI k q_was 189 c_was] [oX8 q_this q_now q_text c_typed q_row c_rowMany c_thrown c_length c_at c_wrong q_read q_outerCell q_outerDoor c_outerMany q_walked c_walkedMany c_cameOut q_onWalks q_far q_aside q_wasFull q_undos q_was w_undoMany c_drawn q_kept q_isKept, aI k q_now 189 c_now, aI k q_undos 1512 w_undos, aI k q_was 189 w_was] := by
  refine mkMV' (own := "DoorWalkModel") (by decide) rfl (Nat.le_of_ble_eq_true rfl) ?_
  intro p e s m args below meth c Q A hret C
  refine ww_lv (lv' := [(0, .ref q_this)]) [0] rfl ?_
  unfold fX8_change at hf
  refine ww_aload_n (pc := 0) C dX8_change_0 rfl 0 rfl ?_
  obtain ⟨v1, h1, hf⟩ := bsome hf
  refine ww_callVv (pc := 1) (ws' := [oX8 q_this q_now q_text c_typed q_row c_rowMany c_thrown c_length c_at c_wrong q_read q_outerCell q_outerDoor c_outerMany q_walked c_walkedMany c_cameOut q_onWalks q_far q_aside q_wasFull q_undos q_was c_undoMany c_drawn q_kept q_isKept, aI k q_now 189 c_now, aI k q_undos 1512 c_undos, aI k q_was 189 v1]) (As := []) (rest := []) C (tX8_lay l D k q_this q_now q_text q_row q_read q_outerCell q_outerDoor q_walked q_onWalks q_far q_aside q_wasFull q_undos q_was q_kept q_isKept c_typed c_rowMany c_thrown c_length c_at c_wrong c_outerMany c_walkedMany c_cameOut c_undoMany c_drawn c_now c_was v1 h1) cv_X8_309 ⟨⟨by decide, by decide⟩, rfl, rfl⟩ 0 rfl rfl [0, 1, 3] rfl rfl rfl rfl rfl rfl (Nat.le_of_ble_eq_true rfl) ⟨Nat.zero_le _, Nat.zero_le _⟩ dX8_change_1 ?_
  refine ww_aload_n (pc := 4) C dX8_change_4 rfl 0 rfl ?_
  obtain ⟨v2, v3, h2, hf⟩ := bd2_some hf
  refine ww_callVv (pc := 5) (ws' := [oX8 q_this q_now q_text c_typed q_row c_rowMany c_thrown c_length c_at c_wrong q_read q_outerCell q_outerDoor c_outerMany q_walked c_walkedMany c_cameOut q_onWalks q_far q_aside q_wasFull q_undos q_was v2 c_drawn q_kept q_isKept, aI k q_now 189 c_now, aI k q_undos 1512 v3, aI k q_was 189 v1]) (As := []) (rest := []) C (tX8_note l D k q_this q_now q_text q_row q_read q_outerCell q_outerDoor q_walked q_onWalks q_far q_aside q_wasFull q_undos q_was q_kept q_isKept c_typed c_rowMany c_thrown c_length c_at c_wrong c_outerMany c_walkedMany c_cameOut c_undoMany c_drawn c_undos v1 v2 v3 h2) cv_X8_312 ⟨⟨by decide, by decide⟩, rfl, rfl⟩ 0 rfl rfl [0, 2, 3] rfl rfl rfl rfl rfl rfl (Nat.le_of_ble_eq_true rfl) ⟨Nat.zero_le _, Nat.zero_le _⟩ dX8_change_5 ?_
  obtain ⟨e0, e1, e2⟩ := ij3 hf
  exact hret _ _ 8 dX8_change_8 (by rw [← e0, ← e1, ← e2])
def fX8_labels_b222 (c_text : Nat → Int32) (rc192 : Int32 → Int32 → Int32 → Int32 → Int32 → Int32 → (Nat → Int32) → (Nat → Int32) → (Nat → Int32) → (Nat → Int32) → Int32 → Int32 → Option (Int32 × Int32 × Int32 × Int32 × Int32 × Int32 × Int32 × (Nat → Int32) × (Nat → Int32) × (Nat → Int32) × (Nat → Int32))) (c_at : Int32) (c_length : Int32) (c_thrown : Int32) (c_typed : Int32) (c_undoMany : Int32) (c_wrong : Int32) (c_now : Nat → Int32) (c_read : Nat → Int32) (c_undos : Nat → Int32) (c_was : Nat → Int32) (n2 : Int32) (n3 : Int32) (s1 : Int32) (s2 : Int32) : Option (Int32 × Int32 × Int32 × Int32 × Int32 × Int32 × Int32 × (Nat → Int32) × (Nat → Int32) × (Nat → Int32) × (Nat → Int32)) := (ast 189 s1 c_now s2).bind fun v1 => (some (n3 + (1 : Int32))).bind fun v2 => rc192 c_at c_length c_thrown c_typed c_undoMany c_wrong v1 c_read c_undos c_was n2 v2
def fX8_labels_b192 (c_text : Nat → Int32) (rc192 : Int32 → Int32 → Int32 → Int32 → Int32 → Int32 → (Nat → Int32) → (Nat → Int32) → (Nat → Int32) → (Nat → Int32) → Int32 → Int32 → Option (Int32 × Int32 × Int32 × Int32 × Int32 × Int32 × Int32 × (Nat → Int32) × (Nat → Int32) × (Nat → Int32) × (Nat → Int32))) (c_at : Int32) (c_length : Int32) (c_thrown : Int32) (c_typed : Int32) (c_undoMany : Int32) (c_wrong : Int32) (c_now : Nat → Int32) (c_read : Nat → Int32) (c_undos : Nat → Int32) (c_was : Nat → Int32) (n2 : Int32) (n3 : Int32) : Option (Int32 × Int32 × Int32 × Int32 × Int32 × Int32 × Int32 × (Nat → Int32) × (Nat → Int32) × (Nat → Int32) × (Nat → Int32)) := if (153 : Int32) ≤ n3 then some (n2, c_at, c_length, c_thrown, c_typed, c_undoMany, c_wrong, c_now, c_read, c_undos, c_was) else if n2 ≤ n3 then fX8_labels_b222 c_text rc192 c_at c_length c_thrown c_typed c_undoMany c_wrong c_now c_read c_undos c_was n2 n3 ((36 : Int32) + n3) (0 : Int32) else (ald 720 n3 c_read).bind fun v1 => fX8_labels_b222 c_text rc192 c_at c_length c_thrown c_typed c_undoMany c_wrong c_now c_read c_undos c_was n2 n3 ((36 : Int32) + n3) v1
def fX8_labels_b158 (c_text : Nat → Int32) (c_at : Int32) (c_length : Int32) (c_thrown : Int32) (c_typed : Int32) (c_undoMany : Int32) (c_wrong : Int32) (c_now : Nat → Int32) (c_read : Nat → Int32) (c_undos : Nat → Int32) (c_was : Nat → Int32) (n1 : Int32) (n2 : Int32) : Option (Int32 × Int32 × Int32 × Int32 × Int32 × Int32 × Int32 × (Nat → Int32) × (Nat → Int32) × (Nat → Int32) × (Nat → Int32)) := bd2 (fX8_wasRight c_at c_length c_wrong) fun v1 v2 => if v1 = 0 then some (((-1 : Int32) - v2), c_at, c_length, c_thrown, c_typed, c_undoMany, v2, c_now, c_read, c_undos, c_was) else bd3 (fX8_change c_now c_undoMany c_undos c_was) fun v3 v4 v5 => (ast 189 (0 : Int32) c_now n1).bind fun v6 => (ast 189 (1 : Int32) v6 (0 : Int32)).bind fun v7 => lfix (fX8_labels_b192 c_text) (fun _ _ _ _ _ _ _ _ _ _ _ _ => none) FU c_at c_length c_thrown c_typed v3 v2 v7 c_read v4 v5 n2 (0 : Int32)
def fX8_labels_b135 (c_text : Nat → Int32) (rc46 : Int32 → Int32 → Int32 → Int32 → Int32 → Int32 → (Nat → Int32) → (Nat → Int32) → (Nat → Int32) → (Nat → Int32) → Int32 → Int32 → Int32 → Option (Int32 × Int32 × Int32 × Int32 × Int32 × Int32 × Int32 × (Nat → Int32) × (Nat → Int32) × (Nat → Int32) × (Nat → Int32))) (rc61 : Int32 → Int32 → Int32 → Int32 → Int32 → Int32 → (Nat → Int32) → (Nat → Int32) → (Nat → Int32) → (Nat → Int32) → Int32 → Int32 → Int32 → Int32 → Option (Int32 × Int32 × Int32 × Int32 × Int32 × Int32 × Int32 × (Nat → Int32) × (Nat → Int32) × (Nat → Int32) × (Nat → Int32))) (c_at : Int32) (c_length : Int32) (c_thrown : Int32) (c_typed : Int32) (c_undoMany : Int32) (c_wrong : Int32) (c_now : Nat → Int32) (c_read : Nat → Int32) (c_undos : Nat → Int32) (c_was : Nat → Int32) (n1 : Int32) (n2 : Int32) (n3 : Int32) (n4 : Int32) (n5 : Int32) : Option (Int32 × Int32 × Int32 × Int32 × Int32 × Int32 × Int32 × (Nat → Int32) × (Nat → Int32) × (Nat → Int32) × (Nat → Int32)) := (ast 720 n2 c_read n5).bind fun v1 => (some (n2 + (1 : Int32))).bind fun v2 => (some (n4 + (1 : Int32))).bind fun v3 => rc61 c_at c_length c_thrown c_typed c_undoMany c_wrong c_now v1 c_undos c_was n1 v2 n3 v3
def fX8_labels_b111 (c_text : Nat → Int32) (rc46 : Int32 → Int32 → Int32 → Int32 → Int32 → Int32 → (Nat → Int32) → (Nat → Int32) → (Nat → Int32) → (Nat → Int32) → Int32 → Int32 → Int32 → Option (Int32 × Int32 × Int32 × Int32 × Int32 × Int32 × Int32 × (Nat → Int32) × (Nat → Int32) × (Nat → Int32) × (Nat → Int32))) (rc61 : Int32 → Int32 → Int32 → Int32 → Int32 → Int32 → (Nat → Int32) → (Nat → Int32) → (Nat → Int32) → (Nat → Int32) → Int32 → Int32 → Int32 → Int32 → Option (Int32 × Int32 × Int32 × Int32 × Int32 × Int32 × Int32 × (Nat → Int32) × (Nat → Int32) × (Nat → Int32) × (Nat → Int32))) (c_at : Int32) (c_length : Int32) (c_thrown : Int32) (c_typed : Int32) (c_undoMany : Int32) (c_wrong : Int32) (c_now : Nat → Int32) (c_read : Nat → Int32) (c_undos : Nat → Int32) (c_was : Nat → Int32) (n1 : Int32) (n2 : Int32) (n3 : Int32) (n4 : Int32) (n5 : Int32) (s0 : Int32) : Option (Int32 × Int32 × Int32 × Int32 × Int32 × Int32 × Int32 × (Nat → Int32) × (Nat → Int32) × (Nat → Int32) × (Nat → Int32)) := (fX8_fine c_wrong).bind fun v1 => if v1 = 0 then fX8_labels_b135 c_text rc46 rc61 c_at c_length c_thrown c_typed c_undoMany c_wrong c_now c_read c_undos c_was n1 n2 n3 n4 n5 else if s0 = 0 then (fX8_fault c_wrong (c_at - (1 : Int32))).bind fun v2 => fX8_labels_b135 c_text rc46 rc61 c_at c_length c_thrown c_typed c_undoMany v2 c_now c_read c_undos c_was n1 n2 n3 n4 n5 else fX8_labels_b135 c_text rc46 rc61 c_at c_length c_thrown c_typed c_undoMany c_wrong c_now c_read c_undos c_was n1 n2 n3 n4 n5
def fX8_labels_b61 (c_text : Nat → Int32) (rc46 : Int32 → Int32 → Int32 → Int32 → Int32 → Int32 → (Nat → Int32) → (Nat → Int32) → (Nat → Int32) → (Nat → Int32) → Int32 → Int32 → Int32 → Option (Int32 × Int32 × Int32 × Int32 × Int32 × Int32 × Int32 × (Nat → Int32) × (Nat → Int32) × (Nat → Int32) × (Nat → Int32))) (rc61 : Int32 → Int32 → Int32 → Int32 → Int32 → Int32 → (Nat → Int32) → (Nat → Int32) → (Nat → Int32) → (Nat → Int32) → Int32 → Int32 → Int32 → Int32 → Option (Int32 × Int32 × Int32 × Int32 × Int32 × Int32 × Int32 × (Nat → Int32) × (Nat → Int32) × (Nat → Int32) × (Nat → Int32))) (c_at : Int32) (c_length : Int32) (c_thrown : Int32) (c_typed : Int32) (c_undoMany : Int32) (c_wrong : Int32) (c_now : Nat → Int32) (c_read : Nat → Int32) (c_undos : Nat → Int32) (c_was : Nat → Int32) (n1 : Int32) (n2 : Int32) (n3 : Int32) (n4 : Int32) : Option (Int32 × Int32 × Int32 × Int32 × Int32 × Int32 × Int32 × (Nat → Int32) × (Nat → Int32) × (Nat → Int32) × (Nat → Int32)) := if (n1 - n3) < n4 then (some (n3 + (1 : Int32))).bind fun v1 => rc46 c_at c_length c_thrown c_typed c_undoMany c_wrong c_now c_read c_undos c_was n1 n2 v1 else (fX8_fine c_wrong).bind fun v2 => if v2 = 0 then (some (n3 + (1 : Int32))).bind fun v3 => rc46 c_at c_length c_thrown c_typed c_undoMany c_wrong c_now c_read c_undos c_was n1 n2 v3 else bd3 (fX8_oneOf c_length c_text c_at c_wrong (48 : Int32) (3 : Int32)) fun v4 v5 v6 => if v4 = 0 then fX8_labels_b111 c_text rc46 rc61 v5 c_length c_thrown c_typed c_undoMany v6 c_now c_read c_undos c_was n1 n2 n3 n4 v4 n3 else if v4 = (1 : Int32) then fX8_labels_b111 c_text rc46 rc61 v5 c_length c_thrown c_typed c_undoMany v6 c_now c_read c_undos c_was n1 n2 n3 n4 v4 n4 else fX8_labels_b111 c_text rc46 rc61 v5 c_length c_thrown c_typed c_undoMany v6 c_now c_read c_undos c_was n1 n2 n3 n4 v4 ((n1 - n3) - n4)
def fX8_labels_b46 (c_text : Nat → Int32) (rc46 : Int32 → Int32 → Int32 → Int32 → Int32 → Int32 → (Nat → Int32) → (Nat → Int32) → (Nat → Int32) → (Nat → Int32) → Int32 → Int32 → Int32 → Option (Int32 × Int32 × Int32 × Int32 × Int32 × Int32 × Int32 × (Nat → Int32) × (Nat → Int32) × (Nat → Int32) × (Nat → Int32))) (c_at : Int32) (c_length : Int32) (c_thrown : Int32) (c_typed : Int32) (c_undoMany : Int32) (c_wrong : Int32) (c_now : Nat → Int32) (c_read : Nat → Int32) (c_undos : Nat → Int32) (c_was : Nat → Int32) (n1 : Int32) (n2 : Int32) (n3 : Int32) : Option (Int32 × Int32 × Int32 × Int32 × Int32 × Int32 × Int32 × (Nat → Int32) × (Nat → Int32) × (Nat → Int32) × (Nat → Int32)) := if n1 < n3 then fX8_labels_b158 c_text c_at c_length c_thrown c_typed c_undoMany c_wrong c_now c_read c_undos c_was n1 n2 else (fX8_fine c_wrong).bind fun v1 => if v1 = 0 then fX8_labels_b158 c_text c_at c_length c_thrown c_typed c_undoMany c_wrong c_now c_read c_undos c_was n1 n2 else lfix (fX8_labels_b61 c_text rc46) (fun _ _ _ _ _ _ _ _ _ _ _ _ _ _ => none) FU c_at c_length c_thrown c_typed c_undoMany c_wrong c_now c_read c_undos c_was n1 n2 n3 (0 : Int32)
def fX8_labels_b42 (c_text : Nat → Int32) (c_at : Int32) (c_length : Int32) (c_thrown : Int32) (c_typed : Int32) (c_undoMany : Int32) (c_wrong : Int32) (c_now : Nat → Int32) (c_read : Nat → Int32) (c_undos : Nat → Int32) (c_was : Nat → Int32) (n1 : Int32) : Option (Int32 × Int32 × Int32 × Int32 × Int32 × Int32 × Int32 × (Nat → Int32) × (Nat → Int32) × (Nat → Int32) × (Nat → Int32)) := lfix (fX8_labels_b46 c_text) (fun _ _ _ _ _ _ _ _ _ _ _ _ _ => none) FU c_at c_length c_thrown c_typed c_undoMany c_wrong c_now c_read c_undos c_was n1 (0 : Int32) (0 : Int32)
def fX8_labels (c_text : Nat → Int32) (c_at : Int32) (c_length : Int32) (c_thrown : Int32) (c_typed : Int32) (c_undoMany : Int32) (c_wrong : Int32) (c_now : Nat → Int32) (c_read : Nat → Int32) (c_undos : Nat → Int32) (c_was : Nat → Int32) : Option (Int32 × Int32 × Int32 × Int32 × Int32 × Int32 × Int32 × (Nat → Int32) × (Nat → Int32) × (Nat → Int32) × (Nat → Int32)) := bd4 (fX8_begin c_at c_length c_typed c_wrong) fun v1 v2 v3 v4 => bd3 (fX8_digits v2 c_text v1 v4 (2 : Int32)) fun v5 v6 v7 => (fX8_fine v7).bind fun v8 => if v8 = 0 then fX8_labels_b42 c_text v6 v2 (0 : Int32) v3 c_undoMany v7 c_now c_read c_undos c_was v5 else (fX8_in v5 (1 : Int32) (10 : Int32)).bind fun v9 => if v9 = 0 then (fX8_fault v7 (v6 - (1 : Int32))).bind fun v10 => fX8_labels_b42 c_text v6 v2 (0 : Int32) v3 c_undoMany v10 c_now c_read c_undos c_was v5 else fX8_labels_b42 c_text v6 v2 (0 : Int32) v3 c_undoMany v7 c_now c_read c_undos c_was v5
set_option maxHeartbeats 4000000 in
set_option maxRecDepth 100000 in
theorem tX8_labels (l : Launch) (D : va_G) (k : Nat → ClassId) (q_this q_now q_text q_row q_read q_outerCell q_outerDoor q_walked q_onWalks q_far q_aside q_wasFull q_undos q_was q_kept q_isKept : Nat) (c_typed : Int32) (c_rowMany : Int32) (c_thrown : Int32) (c_length : Int32) (c_at : Int32) (c_wrong : Int32) (c_outerMany : Int32) (c_walkedMany : Int32) (c_cameOut : Int32) (c_undoMany : Int32) (c_drawn : Int32) (c_now : Nat → Int32) (c_read : Nat → Int32) (c_text : Nat → Int32) (c_undos : Nat → Int32) (c_was : Nat → Int32)  (r_ : Int32) (w_at : Int32) (w_length : Int32) (w_thrown : Int32) (w_typed : Int32) (w_undoMany : Int32) (w_wrong : Int32) (w_now : Nat → Int32) (w_read : Nat → Int32) (w_undos : Nat → Int32) (w_was : Nat → Int32) (hf : fX8_labels c_text c_at c_length c_thrown c_typed c_undoMany c_wrong c_now c_read c_undos c_was = some (r_, w_at, w_length, w_thrown, w_typed, w_undoMany, w_wrong, w_now, w_read, w_undos, w_was)) : MI l yX8_labels cX8_labels 7 .int (RM 4 86) D k [.ref q_this] [oX8 q_this q_now q_text c_typed q_row c_rowMany c_thrown c_length c_at c_wrong q_read q_outerCell q_outerDoor c_outerMany q_walked c_walkedMany c_cameOut q_onWalks q_far q_aside q_wasFull q_undos q_was c_undoMany c_drawn q_kept q_isKept, aI k q_now 189 c_now, aI k q_read 720 c_read, aB k q_text 80 c_text, aI k q_undos 1512 c_undos, aI k q_was 189 c_was] r_ [oX8 q_this q_now q_text w_typed q_row c_rowMany w_thrown w_length w_at w_wrong q_read q_outerCell q_outerDoor c_outerMany q_walked c_walkedMany c_cameOut q_onWalks q_far q_aside q_wasFull q_undos q_was w_undoMany c_drawn q_kept q_isKept, aI k q_now 189 w_now, aI k q_read 720 w_read, aB k q_text 80 c_text, aI k q_undos 1512 w_undos, aI k q_was 189 w_was] := by
  refine mkMI' (own := "DoorWalkModel") (by decide) rfl (Nat.le_of_ble_eq_true rfl) ?_
  intro p e s m args below meth c Q A hret C
  refine ww_lv (lv' := [(0, .ref q_this)]) [0] rfl ?_
  have hL192 : ∀ (n : Nat) (c_at : Int32) (c_length : Int32) (c_thrown : Int32) (c_typed : Int32) (c_undoMany : Int32) (c_wrong : Int32) (c_now : Nat → Int32) (c_read : Nat → Int32) (c_undos : Nat → Int32) (c_was : Nat → Int32) (n2 : Int32) (n3 : Int32), lfix (fX8_labels_b192 c_text) (fun _ _ _ _ _ _ _ _ _ _ _ _ => none) n c_at c_length c_thrown c_typed c_undoMany c_wrong c_now c_read c_undos c_was n2 n3 = some (r_, w_at, w_length, w_thrown, w_typed, w_undoMany, w_wrong, w_now, w_read, w_undos, w_was) → WW p l e (RM 4 86) s m args below meth c Q 7 D A 0 0 [oX8 q_this q_now q_text c_typed q_row c_rowMany c_thrown c_length c_at c_wrong q_read q_outerCell q_outerDoor c_outerMany q_walked c_walkedMany c_cameOut q_onWalks q_far q_aside q_wasFull q_undos q_was c_undoMany c_drawn q_kept q_isKept, aI k q_now 189 c_now, aI k q_read 720 c_read, aB k q_text 80 c_text, aI k q_undos 1512 c_undos, aI k q_was 189 c_was] [(0, .ref q_this), (2, .int n2), (3, .int n3)] 192 [] := by
    intro n
    induction n with
    | zero => intro c_at c_length c_thrown c_typed c_undoMany c_wrong c_now c_read c_undos c_was n2 n3 hf; cases hf
    | succ n ih192 =>
      obtain ⟨rc192, hrc192⟩ : ∃ f9, f9 = lfix (fX8_labels_b192 c_text) (fun _ _ _ _ _ _ _ _ _ _ _ _ => none) n := ⟨_, rfl⟩
      rw [← hrc192] at ih192
      have hJ222 : ∀ (c_at : Int32) (c_length : Int32) (c_thrown : Int32) (c_typed : Int32) (c_undoMany : Int32) (c_wrong : Int32) (c_now : Nat → Int32) (c_read : Nat → Int32) (c_undos : Nat → Int32) (c_was : Nat → Int32) (n2 : Int32) (n3 : Int32) (s1 : Int32) (s2 : Int32), fX8_labels_b222 c_text rc192 c_at c_length c_thrown c_typed c_undoMany c_wrong c_now c_read c_undos c_was n2 n3 s1 s2 = some (r_, w_at, w_length, w_thrown, w_typed, w_undoMany, w_wrong, w_now, w_read, w_undos, w_was) → WW p l e (RM 4 86) s m args below meth c Q 7 D A 0 0 [oX8 q_this q_now q_text c_typed q_row c_rowMany c_thrown c_length c_at c_wrong q_read q_outerCell q_outerDoor c_outerMany q_walked c_walkedMany c_cameOut q_onWalks q_far q_aside q_wasFull q_undos q_was c_undoMany c_drawn q_kept q_isKept, aI k q_now 189 c_now, aI k q_read 720 c_read, aB k q_text 80 c_text, aI k q_undos 1512 c_undos, aI k q_was 189 c_was] [(0, .ref q_this), (2, .int n2), (3, .int n3)] 222 [.int s2, .int s1, .ref q_now] := by
        intro c_at c_length c_thrown c_typed c_undoMany c_wrong c_now c_read c_undos c_was n2 n3 s1 s2
        intro hf
        unfold fX8_labels_b222 at hf
        obtain ⟨v1, h1, hf⟩ := bsome hf
        refine ww_iast (pc := 222) (ws' := [oX8 q_this q_now q_text c_typed q_row c_rowMany c_thrown c_length c_at c_wrong q_read q_outerCell q_outerDoor c_outerMany q_walked c_walkedMany c_cameOut q_onWalks q_far q_aside q_wasFull q_undos q_was c_undoMany c_drawn q_kept q_isKept, aI k q_now 189 v1, aI k q_read 720 c_read, aB k q_text 80 c_text, aI k q_undos 1512 c_undos, aI k q_was 189 c_was]) C 1 rfl h1 rfl dX8_labels_222 ?_
        obtain ⟨v2, h2, hf⟩ := bsome hf
        refine ww_iincN (pc := 223) (lv' := [(3, .int v2), (0, .ref q_this), (2, .int n2)]) (j := 2) C dX8_labels_223 kI_1 rfl h2 (by decide) rfl ?_
        refine ww_goto (pc := 226) (tgt := 192) C dX8_labels_226 (by decide) ?_
        exact ww_lv [1, 2, 0] rfl (ih192 c_at c_length c_thrown c_typed c_undoMany c_wrong v1 c_read c_undos c_was n2 v2 hf)
      intro c_at c_length c_thrown c_typed c_undoMany c_wrong c_now c_read c_undos c_was n2 n3 hf
      have hf : fX8_labels_b192 c_text rc192 c_at c_length c_thrown c_typed c_undoMany c_wrong c_now c_read c_undos c_was n2 n3 = some (r_, w_at, w_length, w_thrown, w_typed, w_undoMany, w_wrong, w_now, w_read, w_undos, w_was) := by rw [hrc192]; exact hf
      unfold fX8_labels_b192 at hf
      refine ww_iload_n (pc := 192) C dX8_labels_192 rfl 2 rfl ?_
      refine ww_sipush (pc := 193) C dX8_labels_193 kS_153 ?_
      refine ww_icmp_ge (pc := 196) (tgt := 229) C dX8_labels_196 (by decide) (fun hc => ?_) (fun hc => ?_)
      · have hf := ifT hc hf
        refine ww_iload_n (pc := 229) C dX8_labels_229 rfl 1 rfl ?_
        obtain ⟨e0, e1, e2, e3, e4, e5, e6, e7, e8, e9, e10⟩ := ij11 hf
        exact hret _ _ 230 _ dX8_labels_230 rfl e0 (by rw [← e1, ← e2, ← e3, ← e4, ← e5, ← e6, ← e7, ← e8, ← e9, ← e10])
      · have hf := ifF hc hf
        refine ww_aload_n (pc := 199) C dX8_labels_199 rfl 0 rfl ?_
        refine gf8_0 (pc := 200) C kf_X8_9 0 rfl rfl dX8_labels_200 ?_
        refine ww_bipush (pc := 203) C dX8_labels_203 kB_36 ?_
        refine ww_iload_n (pc := 205) C dX8_labels_205 rfl 2 rfl ?_
        refine ww_iadd (pc := 206) C dX8_labels_206  ?_
        refine ww_iload_n (pc := 207) C dX8_labels_207 rfl 2 rfl ?_
        refine ww_iload_n (pc := 208) C dX8_labels_208 rfl 1 rfl ?_
        refine ww_icmp_ge (pc := 209) (tgt := 221) C dX8_labels_209 (by decide) (fun hc => ?_) (fun hc => ?_)
        · have hf := ifT hc hf
          refine ww_iconst (pc := 221) C dX8_labels_221 kI_0 ?_
          exact hJ222 c_at c_length c_thrown c_typed c_undoMany c_wrong c_now c_read c_undos c_was n2 n3 ((36 : Int32) + n3) (0 : Int32) hf
        · have hf := ifF hc hf
          refine ww_aload_n (pc := 212) C dX8_labels_212 rfl 0 rfl ?_
          refine gf8_9 (pc := 213) C kf_X8_21 0 rfl rfl dX8_labels_213 ?_
          refine ww_iload_n (pc := 216) C dX8_labels_216 rfl 2 rfl ?_
          obtain ⟨v1, h1, hf⟩ := bsome hf
          refine ww_iald (pc := 217) C 2 rfl h1 dX8_labels_217 ?_
          refine ww_goto (pc := 218) (tgt := 222) C dX8_labels_218 (by decide) ?_
          exact hJ222 c_at c_length c_thrown c_typed c_undoMany c_wrong c_now c_read c_undos c_was n2 n3 ((36 : Int32) + n3) v1 hf
  have hJ158 : ∀ (c_at : Int32) (c_length : Int32) (c_thrown : Int32) (c_typed : Int32) (c_undoMany : Int32) (c_wrong : Int32) (c_now : Nat → Int32) (c_read : Nat → Int32) (c_undos : Nat → Int32) (c_was : Nat → Int32) (n1 : Int32) (n2 : Int32), fX8_labels_b158 c_text c_at c_length c_thrown c_typed c_undoMany c_wrong c_now c_read c_undos c_was n1 n2 = some (r_, w_at, w_length, w_thrown, w_typed, w_undoMany, w_wrong, w_now, w_read, w_undos, w_was) → WW p l e (RM 4 86) s m args below meth c Q 7 D A 0 0 [oX8 q_this q_now q_text c_typed q_row c_rowMany c_thrown c_length c_at c_wrong q_read q_outerCell q_outerDoor c_outerMany q_walked c_walkedMany c_cameOut q_onWalks q_far q_aside q_wasFull q_undos q_was c_undoMany c_drawn q_kept q_isKept, aI k q_now 189 c_now, aI k q_read 720 c_read, aB k q_text 80 c_text, aI k q_undos 1512 c_undos, aI k q_was 189 c_was] [(0, .ref q_this), (1, .int n1), (2, .int n2)] 158 [] := by
    intro c_at c_length c_thrown c_typed c_undoMany c_wrong c_now c_read c_undos c_was n1 n2
    intro hf
    unfold fX8_labels_b158 at hf
    refine ww_aload_n (pc := 158) C dX8_labels_158 rfl 0 rfl ?_
    obtain ⟨v1, v2, h1, hf⟩ := bd2_some hf
    refine ww_callVi (pc := 159) (ws' := [oX8 q_this q_now q_text c_typed q_row c_rowMany c_thrown c_length c_at v2 q_read q_outerCell q_outerDoor c_outerMany q_walked c_walkedMany c_cameOut q_onWalks q_far q_aside q_wasFull q_undos q_was c_undoMany c_drawn q_kept q_isKept, aI k q_now 189 c_now, aI k q_read 720 c_read, aB k q_text 80 c_text, aI k q_undos 1512 c_undos, aI k q_was 189 c_was]) (As := []) (rest := []) C (tX8_wasRight l D k q_this q_now q_text q_row q_read q_outerCell q_outerDoor q_walked q_onWalks q_far q_aside q_wasFull q_undos q_was q_kept q_isKept c_typed c_rowMany c_thrown c_length c_at c_wrong c_outerMany c_walkedMany c_cameOut c_undoMany c_drawn v1 v2 h1) cv_X8_159 ⟨⟨by decide, by decide⟩, rfl, rfl⟩ 0 rfl rfl [0] rfl rfl rfl rfl rfl rfl (Nat.le_of_ble_eq_true rfl) ⟨Nat.zero_le _, Nat.zero_le _⟩ dX8_labels_159 (fun hb1 => ?_)
    refine ww_if_ne (pc := 162) (tgt := 172) C dX8_labels_162 (by decide) (fun hc => ?_) (fun hc => ?_)
    · have hf := ifF hc hf
      refine ww_aload_n (pc := 172) C dX8_labels_172 rfl 0 rfl ?_
      obtain ⟨v3, v4, v5, h3, hf⟩ := bd3_some hf
      refine ww_callVv (pc := 173) (ws' := [oX8 q_this q_now q_text c_typed q_row c_rowMany c_thrown c_length c_at v2 q_read q_outerCell q_outerDoor c_outerMany q_walked c_walkedMany c_cameOut q_onWalks q_far q_aside q_wasFull q_undos q_was v3 c_drawn q_kept q_isKept, aI k q_now 189 c_now, aI k q_read 720 c_read, aB k q_text 80 c_text, aI k q_undos 1512 v4, aI k q_was 189 v5]) (As := []) (rest := []) C (tX8_change l D k q_this q_now q_text q_row q_read q_outerCell q_outerDoor q_walked q_onWalks q_far q_aside q_wasFull q_undos q_was q_kept q_isKept c_typed c_rowMany c_thrown c_length c_at v2 c_outerMany c_walkedMany c_cameOut c_undoMany c_drawn c_now c_undos c_was v3 v4 v5 h3) cv_X8_162 ⟨⟨by decide, by decide⟩, rfl, rfl⟩ 0 rfl rfl [0, 1, 4, 5] rfl rfl rfl rfl rfl rfl (Nat.le_of_ble_eq_true rfl) ⟨Nat.zero_le _, Nat.zero_le _⟩ dX8_labels_173 ?_
      refine ww_aload_n (pc := 176) C dX8_labels_176 rfl 0 rfl ?_
      refine gf8_0 (pc := 177) C kf_X8_9 0 rfl rfl dX8_labels_177 ?_
      refine ww_iconst (pc := 180) C dX8_labels_180 kI_0 ?_
      refine ww_iload_n (pc := 181) C dX8_labels_181 rfl 1 rfl ?_
      obtain ⟨v6, h6, hf⟩ := bsome hf
      refine ww_iast (pc := 182) (ws' := [oX8 q_this q_now q_text c_typed q_row c_rowMany c_thrown c_length c_at v2 q_read q_outerCell q_outerDoor c_outerMany q_walked c_walkedMany c_cameOut q_onWalks q_far q_aside q_wasFull q_undos q_was v3 c_drawn q_kept q_isKept, aI k q_now 189 v6, aI k q_read 720 c_read, aB k q_text 80 c_text, aI k q_undos 1512 v4, aI k q_was 189 v5]) C 1 rfl h6 rfl dX8_labels_182 ?_
      refine ww_aload_n (pc := 183) C dX8_labels_183 rfl 0 rfl ?_
      refine gf8_0 (pc := 184) C kf_X8_9 0 rfl rfl dX8_labels_184 ?_
      refine ww_iconst (pc := 187) C dX8_labels_187 kI_1 ?_
      refine ww_iconst (pc := 188) C dX8_labels_188 kI_0 ?_
      obtain ⟨v7, h7, hf⟩ := bsome hf
      refine ww_iast (pc := 189) (ws' := [oX8 q_this q_now q_text c_typed q_row c_rowMany c_thrown c_length c_at v2 q_read q_outerCell q_outerDoor c_outerMany q_walked c_walkedMany c_cameOut q_onWalks q_far q_aside q_wasFull q_undos q_was v3 c_drawn q_kept q_isKept, aI k q_now 189 v7, aI k q_read 720 c_read, aB k q_text 80 c_text, aI k q_undos 1512 v4, aI k q_was 189 v5]) C 1 rfl h7 rfl dX8_labels_189 ?_
      refine ww_iconst (pc := 190) C dX8_labels_190 kI_0 ?_
      refine ww_istore_n (pc := 191) (lv' := [(3, .int (0 : Int32)), (0, .ref q_this), (1, .int n1), (2, .int n2)]) C dX8_labels_191 rfl (by decide) rfl ?_
      exact ww_lv [1, 3, 0] rfl (hL192 FU c_at c_length c_thrown c_typed v3 v2 v7 c_read v4 v5 n2 (0 : Int32) hf)
    · have hf := ifT hc hf
      refine ww_iconst (pc := 165) C dX8_labels_165 kI_m1 ?_
      refine ww_aload_n (pc := 166) C dX8_labels_166 rfl 0 rfl ?_
      refine gf8_8 (pc := 167) C kf_X8_135 0 rfl rfl dX8_labels_167 ?_
      refine ww_isub (pc := 170) C dX8_labels_170  ?_
      obtain ⟨e0, e1, e2, e3, e4, e5, e6, e7, e8, e9, e10⟩ := ij11 hf
      exact hret _ _ 171 _ dX8_labels_171 rfl e0 (by rw [← e1, ← e2, ← e3, ← e4, ← e5, ← e6, ← e7, ← e8, ← e9, ← e10])
  have hL46 : ∀ (n : Nat) (c_at : Int32) (c_length : Int32) (c_thrown : Int32) (c_typed : Int32) (c_undoMany : Int32) (c_wrong : Int32) (c_now : Nat → Int32) (c_read : Nat → Int32) (c_undos : Nat → Int32) (c_was : Nat → Int32) (n1 : Int32) (n2 : Int32) (n3 : Int32), lfix (fX8_labels_b46 c_text) (fun _ _ _ _ _ _ _ _ _ _ _ _ _ => none) n c_at c_length c_thrown c_typed c_undoMany c_wrong c_now c_read c_undos c_was n1 n2 n3 = some (r_, w_at, w_length, w_thrown, w_typed, w_undoMany, w_wrong, w_now, w_read, w_undos, w_was) → WW p l e (RM 4 86) s m args below meth c Q 7 D A 0 0 [oX8 q_this q_now q_text c_typed q_row c_rowMany c_thrown c_length c_at c_wrong q_read q_outerCell q_outerDoor c_outerMany q_walked c_walkedMany c_cameOut q_onWalks q_far q_aside q_wasFull q_undos q_was c_undoMany c_drawn q_kept q_isKept, aI k q_now 189 c_now, aI k q_read 720 c_read, aB k q_text 80 c_text, aI k q_undos 1512 c_undos, aI k q_was 189 c_was] [(0, .ref q_this), (1, .int n1), (2, .int n2), (3, .int n3)] 46 [] := by
    intro n
    induction n with
    | zero => intro c_at c_length c_thrown c_typed c_undoMany c_wrong c_now c_read c_undos c_was n1 n2 n3 hf; cases hf
    | succ n ih46 =>
      obtain ⟨rc46, hrc46⟩ : ∃ f9, f9 = lfix (fX8_labels_b46 c_text) (fun _ _ _ _ _ _ _ _ _ _ _ _ _ => none) n := ⟨_, rfl⟩
      rw [← hrc46] at ih46
      have hL61 : ∀ (n : Nat) (c_at : Int32) (c_length : Int32) (c_thrown : Int32) (c_typed : Int32) (c_undoMany : Int32) (c_wrong : Int32) (c_now : Nat → Int32) (c_read : Nat → Int32) (c_undos : Nat → Int32) (c_was : Nat → Int32) (n1 : Int32) (n2 : Int32) (n3 : Int32) (n4 : Int32), lfix (fX8_labels_b61 c_text rc46) (fun _ _ _ _ _ _ _ _ _ _ _ _ _ _ => none) n c_at c_length c_thrown c_typed c_undoMany c_wrong c_now c_read c_undos c_was n1 n2 n3 n4 = some (r_, w_at, w_length, w_thrown, w_typed, w_undoMany, w_wrong, w_now, w_read, w_undos, w_was) → WW p l e (RM 4 86) s m args below meth c Q 7 D A 0 0 [oX8 q_this q_now q_text c_typed q_row c_rowMany c_thrown c_length c_at c_wrong q_read q_outerCell q_outerDoor c_outerMany q_walked c_walkedMany c_cameOut q_onWalks q_far q_aside q_wasFull q_undos q_was c_undoMany c_drawn q_kept q_isKept, aI k q_now 189 c_now, aI k q_read 720 c_read, aB k q_text 80 c_text, aI k q_undos 1512 c_undos, aI k q_was 189 c_was] [(0, .ref q_this), (1, .int n1), (2, .int n2), (3, .int n3), (4, .int n4)] 61 [] := by
        intro n
        induction n with
        | zero => intro c_at c_length c_thrown c_typed c_undoMany c_wrong c_now c_read c_undos c_was n1 n2 n3 n4 hf; cases hf
        | succ n ih61 =>
          obtain ⟨rc61, hrc61⟩ : ∃ f9, f9 = lfix (fX8_labels_b61 c_text rc46) (fun _ _ _ _ _ _ _ _ _ _ _ _ _ _ => none) n := ⟨_, rfl⟩
          rw [← hrc61] at ih61
          have hJ135 : ∀ (c_at : Int32) (c_length : Int32) (c_thrown : Int32) (c_typed : Int32) (c_undoMany : Int32) (c_wrong : Int32) (c_now : Nat → Int32) (c_read : Nat → Int32) (c_undos : Nat → Int32) (c_was : Nat → Int32) (n1 : Int32) (n2 : Int32) (n3 : Int32) (n4 : Int32) (n5 : Int32), fX8_labels_b135 c_text rc46 rc61 c_at c_length c_thrown c_typed c_undoMany c_wrong c_now c_read c_undos c_was n1 n2 n3 n4 n5 = some (r_, w_at, w_length, w_thrown, w_typed, w_undoMany, w_wrong, w_now, w_read, w_undos, w_was) → WW p l e (RM 4 86) s m args below meth c Q 7 D A 0 0 [oX8 q_this q_now q_text c_typed q_row c_rowMany c_thrown c_length c_at c_wrong q_read q_outerCell q_outerDoor c_outerMany q_walked c_walkedMany c_cameOut q_onWalks q_far q_aside q_wasFull q_undos q_was c_undoMany c_drawn q_kept q_isKept, aI k q_now 189 c_now, aI k q_read 720 c_read, aB k q_text 80 c_text, aI k q_undos 1512 c_undos, aI k q_was 189 c_was] [(0, .ref q_this), (1, .int n1), (2, .int n2), (3, .int n3), (4, .int n4), (5, .int n5)] 135 [] := by
            intro c_at c_length c_thrown c_typed c_undoMany c_wrong c_now c_read c_undos c_was n1 n2 n3 n4 n5
            intro hf
            unfold fX8_labels_b135 at hf
            refine ww_aload_n (pc := 135) C dX8_labels_135 rfl 0 rfl ?_
            refine gf8_9 (pc := 136) C kf_X8_21 0 rfl rfl dX8_labels_136 ?_
            refine ww_iload_n (pc := 139) C dX8_labels_139 rfl 2 rfl ?_
            refine ww_iload (pc := 140) C dX8_labels_140 5 rfl ?_
            obtain ⟨v1, h1, hf⟩ := bsome hf
            refine ww_iast (pc := 142) (ws' := [oX8 q_this q_now q_text c_typed q_row c_rowMany c_thrown c_length c_at c_wrong q_read q_outerCell q_outerDoor c_outerMany q_walked c_walkedMany c_cameOut q_onWalks q_far q_aside q_wasFull q_undos q_was c_undoMany c_drawn q_kept q_isKept, aI k q_now 189 c_now, aI k q_read 720 v1, aB k q_text 80 c_text, aI k q_undos 1512 c_undos, aI k q_was 189 c_was]) C 2 rfl h1 rfl dX8_labels_142 ?_
            obtain ⟨v2, h2, hf⟩ := bsome hf
            refine ww_iincN (pc := 143) (lv' := [(2, .int v2), (0, .ref q_this), (1, .int n1), (3, .int n3), (4, .int n4), (5, .int n5)]) (j := 2) C dX8_labels_143 kI_1 rfl h2 (by decide) rfl ?_
            obtain ⟨v3, h3, hf⟩ := bsome hf
            refine ww_iincN (pc := 146) (lv' := [(4, .int v3), (2, .int v2), (0, .ref q_this), (1, .int n1), (3, .int n3), (5, .int n5)]) (j := 4) C dX8_labels_146 kI_1 rfl h3 (by decide) rfl ?_
            refine ww_goto (pc := 149) (tgt := 61) C dX8_labels_149 (by decide) ?_
            exact ww_lv [2, 3, 1, 4, 0] rfl (ih61 c_at c_length c_thrown c_typed c_undoMany c_wrong c_now v1 c_undos c_was n1 v2 n3 v3 hf)
          have hJ111 : ∀ (c_at : Int32) (c_length : Int32) (c_thrown : Int32) (c_typed : Int32) (c_undoMany : Int32) (c_wrong : Int32) (c_now : Nat → Int32) (c_read : Nat → Int32) (c_undos : Nat → Int32) (c_was : Nat → Int32) (n1 : Int32) (n2 : Int32) (n3 : Int32) (n4 : Int32) (n5 : Int32) (s0 : Int32), fX8_labels_b111 c_text rc46 rc61 c_at c_length c_thrown c_typed c_undoMany c_wrong c_now c_read c_undos c_was n1 n2 n3 n4 n5 s0 = some (r_, w_at, w_length, w_thrown, w_typed, w_undoMany, w_wrong, w_now, w_read, w_undos, w_was) → WW p l e (RM 4 86) s m args below meth c Q 7 D A 0 0 [oX8 q_this q_now q_text c_typed q_row c_rowMany c_thrown c_length c_at c_wrong q_read q_outerCell q_outerDoor c_outerMany q_walked c_walkedMany c_cameOut q_onWalks q_far q_aside q_wasFull q_undos q_was c_undoMany c_drawn q_kept q_isKept, aI k q_now 189 c_now, aI k q_read 720 c_read, aB k q_text 80 c_text, aI k q_undos 1512 c_undos, aI k q_was 189 c_was] [(0, .ref q_this), (1, .int n1), (2, .int n2), (3, .int n3), (4, .int n4), (5, .int n5)] 111 [.int s0] := by
            intro c_at c_length c_thrown c_typed c_undoMany c_wrong c_now c_read c_undos c_was n1 n2 n3 n4 n5 s0
            intro hf
            unfold fX8_labels_b111 at hf
            refine ww_istore (pc := 111) (lv' := [(6, .int s0), (0, .ref q_this), (1, .int n1), (2, .int n2), (3, .int n3), (4, .int n4), (5, .int n5)]) C dX8_labels_111 (by decide) rfl ?_
            refine ww_aload_n (pc := 113) C dX8_labels_113 rfl 1 rfl ?_
            obtain ⟨v1, h1, hf⟩ := bsome hf
            refine ww_callVi0 (pc := 114) (As := []) (rest := []) C (tX8_fine l D k q_this q_now q_text q_row q_read q_outerCell q_outerDoor q_walked q_onWalks q_far q_aside q_wasFull q_undos q_was q_kept q_isKept c_typed c_rowMany c_thrown c_length c_at c_wrong c_outerMany c_walkedMany c_cameOut c_undoMany c_drawn v1 h1) cv_X8_138 ⟨⟨by decide, by decide⟩, rfl, rfl⟩ 0 rfl rfl [0] rfl rfl rfl rfl (Nat.le_of_ble_eq_true rfl) ⟨Nat.zero_le _, Nat.zero_le _⟩ dX8_labels_114 (fun hb1 => ?_)
            refine ww_if_eq (pc := 117) (tgt := 135) C dX8_labels_117 (by decide) (fun hc => ?_) (fun hc => ?_)
            · have hf := ifT hc hf
              exact ww_lv [1, 2, 3, 4, 5, 6] rfl (hJ135 c_at c_length c_thrown c_typed c_undoMany c_wrong c_now c_read c_undos c_was n1 n2 n3 n4 n5 hf)
            · have hf := ifF hc hf
              refine ww_iload (pc := 120) C dX8_labels_120 0 rfl ?_
              refine ww_if_ne (pc := 122) (tgt := 135) C dX8_labels_122 (by decide) (fun hc => ?_) (fun hc => ?_)
              · have hf := ifF hc hf
                exact ww_lv [1, 2, 3, 4, 5, 6] rfl (hJ135 c_at c_length c_thrown c_typed c_undoMany c_wrong c_now c_read c_undos c_was n1 n2 n3 n4 n5 hf)
              · have hf := ifT hc hf
                refine ww_aload_n (pc := 125) C dX8_labels_125 rfl 1 rfl ?_
                refine ww_aload_n (pc := 126) C dX8_labels_126 rfl 1 rfl ?_
                refine gf8_7 (pc := 127) C kf_X8_132 0 rfl rfl dX8_labels_127 ?_
                refine ww_iconst (pc := 130) C dX8_labels_130 kI_1 ?_
                refine ww_isub (pc := 131) C dX8_labels_131  ?_
                obtain ⟨v2, h2, hf⟩ := bsome hf
                refine ww_callVv (pc := 132) (ws' := [oX8 q_this q_now q_text c_typed q_row c_rowMany c_thrown c_length c_at v2 q_read q_outerCell q_outerDoor c_outerMany q_walked c_walkedMany c_cameOut q_onWalks q_far q_aside q_wasFull q_undos q_was c_undoMany c_drawn q_kept q_isKept, aI k q_now 189 c_now, aI k q_read 720 c_read, aB k q_text 80 c_text, aI k q_undos 1512 c_undos, aI k q_was 189 c_was]) (As := [.int (c_at - (1 : Int32))]) (rest := []) C (tX8_fault l D k q_this q_now q_text q_row q_read q_outerCell q_outerDoor q_walked q_onWalks q_far q_aside q_wasFull q_undos q_was q_kept q_isKept c_typed c_rowMany c_thrown c_length c_at c_wrong c_outerMany c_walkedMany c_cameOut c_undoMany c_drawn (c_at - (1 : Int32)) v2 h2) cv_X8_145 ⟨⟨by decide, by decide⟩, rfl, rfl⟩ 0 rfl rfl [0] rfl rfl rfl rfl rfl rfl (Nat.le_of_ble_eq_true rfl) ⟨Nat.zero_le _, Nat.zero_le _⟩ dX8_labels_132 ?_
                exact ww_lv [1, 2, 3, 4, 5, 6] rfl (hJ135 c_at c_length c_thrown c_typed c_undoMany v2 c_now c_read c_undos c_was n1 n2 n3 n4 n5 hf)
          intro c_at c_length c_thrown c_typed c_undoMany c_wrong c_now c_read c_undos c_was n1 n2 n3 n4 hf
          have hf : fX8_labels_b61 c_text rc46 rc61 c_at c_length c_thrown c_typed c_undoMany c_wrong c_now c_read c_undos c_was n1 n2 n3 n4 = some (r_, w_at, w_length, w_thrown, w_typed, w_undoMany, w_wrong, w_now, w_read, w_undos, w_was) := by rw [hrc61]; exact hf
          unfold fX8_labels_b61 at hf
          refine ww_iload (pc := 61) C dX8_labels_61 4 rfl ?_
          refine ww_iload_n (pc := 63) C dX8_labels_63 rfl 1 rfl ?_
          refine ww_iload_n (pc := 64) C dX8_labels_64 rfl 3 rfl ?_
          refine ww_isub (pc := 65) C dX8_labels_65  ?_
          refine ww_icmp_gt (pc := 66) (tgt := 152) C dX8_labels_66 (by decide) (fun hc => ?_) (fun hc => ?_)
          · have hf := ifT hc hf
            obtain ⟨v1, h1, hf⟩ := bsome hf
            refine ww_iincN (pc := 152) (lv' := [(3, .int v1), (0, .ref q_this), (1, .int n1), (2, .int n2), (4, .int n4)]) (j := 3) C dX8_labels_152 kI_1 rfl h1 (by decide) rfl ?_
            refine ww_goto (pc := 155) (tgt := 46) C dX8_labels_155 (by decide) ?_
            exact ww_lv [1, 2, 3, 0] rfl (ih46 c_at c_length c_thrown c_typed c_undoMany c_wrong c_now c_read c_undos c_was n1 n2 v1 hf)
          · have hf := ifF hc hf
            refine ww_aload_n (pc := 69) C dX8_labels_69 rfl 0 rfl ?_
            obtain ⟨v2, h2, hf⟩ := bsome hf
            refine ww_callVi0 (pc := 70) (As := []) (rest := []) C (tX8_fine l D k q_this q_now q_text q_row q_read q_outerCell q_outerDoor q_walked q_onWalks q_far q_aside q_wasFull q_undos q_was q_kept q_isKept c_typed c_rowMany c_thrown c_length c_at c_wrong c_outerMany c_walkedMany c_cameOut c_undoMany c_drawn v2 h2) cv_X8_138 ⟨⟨by decide, by decide⟩, rfl, rfl⟩ 0 rfl rfl [0] rfl rfl rfl rfl (Nat.le_of_ble_eq_true rfl) ⟨Nat.zero_le _, Nat.zero_le _⟩ dX8_labels_70 (fun hb2 => ?_)
            refine ww_if_eq (pc := 73) (tgt := 152) C dX8_labels_73 (by decide) (fun hc => ?_) (fun hc => ?_)
            · have hf := ifT hc hf
              obtain ⟨v3, h3, hf⟩ := bsome hf
              refine ww_iincN (pc := 152) (lv' := [(3, .int v3), (0, .ref q_this), (1, .int n1), (2, .int n2), (4, .int n4)]) (j := 3) C dX8_labels_152 kI_1 rfl h3 (by decide) rfl ?_
              refine ww_goto (pc := 155) (tgt := 46) C dX8_labels_155 (by decide) ?_
              exact ww_lv [1, 2, 3, 0] rfl (ih46 c_at c_length c_thrown c_typed c_undoMany c_wrong c_now c_read c_undos c_was n1 n2 v3 hf)
            · have hf := ifF hc hf
              refine ww_aload_n (pc := 76) C dX8_labels_76 rfl 0 rfl ?_
              refine ww_bipush (pc := 77) C dX8_labels_77 kB_48 ?_
              refine ww_iconst (pc := 79) C dX8_labels_79 kI_3 ?_
              obtain ⟨v4, v5, v6, h4, hf⟩ := bd3_some hf
              refine ww_callVi (pc := 80) (ws' := [oX8 q_this q_now q_text c_typed q_row c_rowMany c_thrown c_length v5 v6 q_read q_outerCell q_outerDoor c_outerMany q_walked c_walkedMany c_cameOut q_onWalks q_far q_aside q_wasFull q_undos q_was c_undoMany c_drawn q_kept q_isKept, aI k q_now 189 c_now, aI k q_read 720 c_read, aB k q_text 80 c_text, aI k q_undos 1512 c_undos, aI k q_was 189 c_was]) (As := [.int (48 : Int32), .int (3 : Int32)]) (rest := []) C (tX8_oneOf l D k q_this q_now q_text q_row q_read q_outerCell q_outerDoor q_walked q_onWalks q_far q_aside q_wasFull q_undos q_was q_kept q_isKept c_typed c_rowMany c_thrown c_length c_at c_wrong c_outerMany c_walkedMany c_cameOut c_undoMany c_drawn c_text (48 : Int32) (3 : Int32) v4 v5 v6 h4) cv_X8_149 ⟨⟨by decide, by decide⟩, rfl, rfl⟩ 0 rfl rfl [0, 3] rfl rfl rfl rfl rfl rfl (Nat.le_of_ble_eq_true rfl) ⟨Nat.zero_le _, Nat.zero_le _⟩ dX8_labels_80 (fun hb4 => ?_)
              refine ww_istore (pc := 83) (lv' := [(5, .int v4), (0, .ref q_this), (1, .int n1), (2, .int n2), (3, .int n3), (4, .int n4)]) C dX8_labels_83 (by decide) rfl ?_
              refine ww_iload (pc := 85) C dX8_labels_85 0 rfl ?_
              refine ww_if_ne (pc := 87) (tgt := 94) C dX8_labels_87 (by decide) (fun hc => ?_) (fun hc => ?_)
              · have hf := ifF hc hf
                refine ww_iload (pc := 94) C dX8_labels_94 0 rfl ?_
                refine ww_iconst (pc := 96) C dX8_labels_96 kI_1 ?_
                refine ww_icmp_ne (pc := 97) (tgt := 105) C dX8_labels_97 (by decide) (fun hc => ?_) (fun hc => ?_)
                · have hf := ifF hc hf
                  refine ww_iload_n (pc := 105) C dX8_labels_105 rfl 2 rfl ?_
                  refine ww_iload_n (pc := 106) C dX8_labels_106 rfl 4 rfl ?_
                  refine ww_isub (pc := 107) C dX8_labels_107  ?_
                  refine ww_iload (pc := 108) C dX8_labels_108 5 rfl ?_
                  refine ww_isub (pc := 110) C dX8_labels_110  ?_
                  exact ww_lv [1, 2, 3, 4, 5, 0] rfl (hJ111 v5 c_length c_thrown c_typed c_undoMany v6 c_now c_read c_undos c_was n1 n2 n3 n4 v4 ((n1 - n3) - n4) hf)
                · have hf := ifT hc hf
                  refine ww_iload (pc := 100) C dX8_labels_100 5 rfl ?_
                  refine ww_goto (pc := 102) (tgt := 111) C dX8_labels_102 (by decide) ?_
                  exact ww_lv [1, 2, 3, 4, 5, 0] rfl (hJ111 v5 c_length c_thrown c_typed c_undoMany v6 c_now c_read c_undos c_was n1 n2 n3 n4 v4 n4 hf)
              · have hf := ifT hc hf
                refine ww_iload_n (pc := 90) C dX8_labels_90 rfl 4 rfl ?_
                refine ww_goto (pc := 91) (tgt := 111) C dX8_labels_91 (by decide) ?_
                exact ww_lv [1, 2, 3, 4, 5, 0] rfl (hJ111 v5 c_length c_thrown c_typed c_undoMany v6 c_now c_read c_undos c_was n1 n2 n3 n4 v4 n3 hf)
      intro c_at c_length c_thrown c_typed c_undoMany c_wrong c_now c_read c_undos c_was n1 n2 n3 hf
      have hf : fX8_labels_b46 c_text rc46 c_at c_length c_thrown c_typed c_undoMany c_wrong c_now c_read c_undos c_was n1 n2 n3 = some (r_, w_at, w_length, w_thrown, w_typed, w_undoMany, w_wrong, w_now, w_read, w_undos, w_was) := by rw [hrc46]; exact hf
      unfold fX8_labels_b46 at hf
      refine ww_iload_n (pc := 46) C dX8_labels_46 rfl 3 rfl ?_
      refine ww_iload_n (pc := 47) C dX8_labels_47 rfl 1 rfl ?_
      refine ww_icmp_gt (pc := 48) (tgt := 158) C dX8_labels_48 (by decide) (fun hc => ?_) (fun hc => ?_)
      · have hf := ifT hc hf
        exact ww_lv [0, 1, 2] rfl (hJ158 c_at c_length c_thrown c_typed c_undoMany c_wrong c_now c_read c_undos c_was n1 n2 hf)
      · have hf := ifF hc hf
        refine ww_aload_n (pc := 51) C dX8_labels_51 rfl 0 rfl ?_
        obtain ⟨v1, h1, hf⟩ := bsome hf
        refine ww_callVi0 (pc := 52) (As := []) (rest := []) C (tX8_fine l D k q_this q_now q_text q_row q_read q_outerCell q_outerDoor q_walked q_onWalks q_far q_aside q_wasFull q_undos q_was q_kept q_isKept c_typed c_rowMany c_thrown c_length c_at c_wrong c_outerMany c_walkedMany c_cameOut c_undoMany c_drawn v1 h1) cv_X8_138 ⟨⟨by decide, by decide⟩, rfl, rfl⟩ 0 rfl rfl [0] rfl rfl rfl rfl (Nat.le_of_ble_eq_true rfl) ⟨Nat.zero_le _, Nat.zero_le _⟩ dX8_labels_52 (fun hb1 => ?_)
        refine ww_if_eq (pc := 55) (tgt := 158) C dX8_labels_55 (by decide) (fun hc => ?_) (fun hc => ?_)
        · have hf := ifT hc hf
          exact ww_lv [0, 1, 2] rfl (hJ158 c_at c_length c_thrown c_typed c_undoMany c_wrong c_now c_read c_undos c_was n1 n2 hf)
        · have hf := ifF hc hf
          refine ww_iconst (pc := 58) C dX8_labels_58 kI_0 ?_
          refine ww_istore (pc := 59) (lv' := [(4, .int (0 : Int32)), (0, .ref q_this), (1, .int n1), (2, .int n2), (3, .int n3)]) C dX8_labels_59 (by decide) rfl ?_
          exact ww_lv [1, 2, 3, 4, 0] rfl (hL61 FU c_at c_length c_thrown c_typed c_undoMany c_wrong c_now c_read c_undos c_was n1 n2 n3 (0 : Int32) hf)
  have hJ42 : ∀ (c_at : Int32) (c_length : Int32) (c_thrown : Int32) (c_typed : Int32) (c_undoMany : Int32) (c_wrong : Int32) (c_now : Nat → Int32) (c_read : Nat → Int32) (c_undos : Nat → Int32) (c_was : Nat → Int32) (n1 : Int32), fX8_labels_b42 c_text c_at c_length c_thrown c_typed c_undoMany c_wrong c_now c_read c_undos c_was n1 = some (r_, w_at, w_length, w_thrown, w_typed, w_undoMany, w_wrong, w_now, w_read, w_undos, w_was) → WW p l e (RM 4 86) s m args below meth c Q 7 D A 0 0 [oX8 q_this q_now q_text c_typed q_row c_rowMany c_thrown c_length c_at c_wrong q_read q_outerCell q_outerDoor c_outerMany q_walked c_walkedMany c_cameOut q_onWalks q_far q_aside q_wasFull q_undos q_was c_undoMany c_drawn q_kept q_isKept, aI k q_now 189 c_now, aI k q_read 720 c_read, aB k q_text 80 c_text, aI k q_undos 1512 c_undos, aI k q_was 189 c_was] [(0, .ref q_this), (1, .int n1)] 42 [] := by
    intro c_at c_length c_thrown c_typed c_undoMany c_wrong c_now c_read c_undos c_was n1
    intro hf
    unfold fX8_labels_b42 at hf
    refine ww_iconst (pc := 42) C dX8_labels_42 kI_0 ?_
    refine ww_istore_n (pc := 43) (lv' := [(2, .int (0 : Int32)), (0, .ref q_this), (1, .int n1)]) C dX8_labels_43 rfl (by decide) rfl ?_
    refine ww_iconst (pc := 44) C dX8_labels_44 kI_0 ?_
    refine ww_istore_n (pc := 45) (lv' := [(3, .int (0 : Int32)), (2, .int (0 : Int32)), (0, .ref q_this), (1, .int n1)]) C dX8_labels_45 rfl (by decide) rfl ?_
    exact ww_lv [2, 3, 1, 0] rfl (hL46 FU c_at c_length c_thrown c_typed c_undoMany c_wrong c_now c_read c_undos c_was n1 (0 : Int32) (0 : Int32) hf)
  unfold fX8_labels at hf
  refine ww_aload_n (pc := 0) C dX8_labels_0 rfl 0 rfl ?_
  refine ww_iconst (pc := 1) C dX8_labels_1 kI_0 ?_
  refine pf8_5 (pc := 2) (ws' := [oX8 q_this q_now q_text c_typed q_row c_rowMany (0 : Int32) c_length c_at c_wrong q_read q_outerCell q_outerDoor c_outerMany q_walked c_walkedMany c_cameOut q_onWalks q_far q_aside q_wasFull q_undos q_was c_undoMany c_drawn q_kept q_isKept, aI k q_now 189 c_now, aI k q_read 720 c_read, aB k q_text 80 c_text, aI k q_undos 1512 c_undos, aI k q_was 189 c_was]) C kf_X8_61 0 rfl (Nat.le_of_ble_eq_true rfl) rfl dX8_labels_2 ?_
  refine ww_aload_n (pc := 5) C dX8_labels_5 rfl 0 rfl ?_
  obtain ⟨v1, v2, v3, v4, h1, hf⟩ := bd4_some hf
  refine ww_callVv (pc := 6) (ws' := [oX8 q_this q_now q_text v3 q_row c_rowMany (0 : Int32) v2 v1 v4 q_read q_outerCell q_outerDoor c_outerMany q_walked c_walkedMany c_cameOut q_onWalks q_far q_aside q_wasFull q_undos q_was c_undoMany c_drawn q_kept q_isKept, aI k q_now 189 c_now, aI k q_read 720 c_read, aB k q_text 80 c_text, aI k q_undos 1512 c_undos, aI k q_was 189 c_was]) (As := []) (rest := []) C (tX8_begin l D k q_this q_now q_text q_row q_read q_outerCell q_outerDoor q_walked q_onWalks q_far q_aside q_wasFull q_undos q_was q_kept q_isKept c_typed c_rowMany (0 : Int32) c_length c_at c_wrong c_outerMany c_walkedMany c_cameOut c_undoMany c_drawn v1 v2 v3 v4 h1) cv_X8_153 ⟨⟨by decide, by decide⟩, rfl, rfl⟩ 0 rfl rfl [0] rfl rfl rfl rfl rfl rfl (Nat.le_of_ble_eq_true rfl) ⟨Nat.zero_le _, Nat.zero_le _⟩ dX8_labels_6 ?_
  refine ww_aload_n (pc := 9) C dX8_labels_9 rfl 0 rfl ?_
  refine ww_iconst (pc := 10) C dX8_labels_10 kI_2 ?_
  obtain ⟨v5, v6, v7, h5, hf⟩ := bd3_some hf
  refine ww_callVi (pc := 11) (ws' := [oX8 q_this q_now q_text v3 q_row c_rowMany (0 : Int32) v2 v6 v7 q_read q_outerCell q_outerDoor c_outerMany q_walked c_walkedMany c_cameOut q_onWalks q_far q_aside q_wasFull q_undos q_was c_undoMany c_drawn q_kept q_isKept, aI k q_now 189 c_now, aI k q_read 720 c_read, aB k q_text 80 c_text, aI k q_undos 1512 c_undos, aI k q_was 189 c_was]) (As := [.int (2 : Int32)]) (rest := []) C (tX8_digits l D k q_this q_now q_text q_row q_read q_outerCell q_outerDoor q_walked q_onWalks q_far q_aside q_wasFull q_undos q_was q_kept q_isKept v3 c_rowMany (0 : Int32) v2 v1 v4 c_outerMany c_walkedMany c_cameOut c_undoMany c_drawn c_text (2 : Int32) v5 v6 v7 h5) cv_X8_156 ⟨⟨by decide, by decide⟩, rfl, rfl⟩ 0 rfl rfl [0, 3] rfl rfl rfl rfl rfl rfl (Nat.le_of_ble_eq_true rfl) ⟨Nat.zero_le _, Nat.zero_le _⟩ dX8_labels_11 (fun hb5 => ?_)
  refine ww_istore_n (pc := 14) (lv' := [(1, .int v5), (0, .ref q_this)]) C dX8_labels_14 rfl (by decide) rfl ?_
  refine ww_aload_n (pc := 15) C dX8_labels_15 rfl 1 rfl ?_
  obtain ⟨v8, h8, hf⟩ := bsome hf
  refine ww_callVi0 (pc := 16) (As := []) (rest := []) C (tX8_fine l D k q_this q_now q_text q_row q_read q_outerCell q_outerDoor q_walked q_onWalks q_far q_aside q_wasFull q_undos q_was q_kept q_isKept v3 c_rowMany (0 : Int32) v2 v6 v7 c_outerMany c_walkedMany c_cameOut c_undoMany c_drawn v8 h8) cv_X8_138 ⟨⟨by decide, by decide⟩, rfl, rfl⟩ 0 rfl rfl [0] rfl rfl rfl rfl (Nat.le_of_ble_eq_true rfl) ⟨Nat.zero_le _, Nat.zero_le _⟩ dX8_labels_16 (fun hb8 => ?_)
  refine ww_if_eq (pc := 19) (tgt := 42) C dX8_labels_19 (by decide) (fun hc => ?_) (fun hc => ?_)
  · have hf := ifT hc hf
    exact ww_lv [1, 0] rfl (hJ42 v6 v2 (0 : Int32) v3 c_undoMany v7 c_now c_read c_undos c_was v5 hf)
  · have hf := ifF hc hf
    refine ww_iload_n (pc := 22) C dX8_labels_22 rfl 0 rfl ?_
    refine ww_iconst (pc := 23) C dX8_labels_23 kI_1 ?_
    refine ww_bipush (pc := 24) C dX8_labels_24 kB_10 ?_
    obtain ⟨v9, h9, hf⟩ := bsome hf
    refine ww_callSi0 (pc := 26) (As := [.int v5, .int (1 : Int32), .int (10 : Int32)]) (rest := []) C (tX8_in l D k v5 (1 : Int32) (10 : Int32) v9 h9) cs_X8_72 ⟨⟨by decide, by decide⟩, rfl, rfl⟩ [] rfl rfl rfl rfl (Nat.le_of_ble_eq_true rfl) ⟨Nat.zero_le _, Nat.zero_le _⟩ dX8_labels_26 (fun hb9 => ?_)
    refine ww_if_ne (pc := 29) (tgt := 42) C dX8_labels_29 (by decide) (fun hc => ?_) (fun hc => ?_)
    · have hf := ifF hc hf
      exact ww_lv [1, 0] rfl (hJ42 v6 v2 (0 : Int32) v3 c_undoMany v7 c_now c_read c_undos c_was v5 hf)
    · have hf := ifT hc hf
      refine ww_aload_n (pc := 32) C dX8_labels_32 rfl 1 rfl ?_
      refine ww_aload_n (pc := 33) C dX8_labels_33 rfl 1 rfl ?_
      refine gf8_7 (pc := 34) C kf_X8_132 0 rfl rfl dX8_labels_34 ?_
      refine ww_iconst (pc := 37) C dX8_labels_37 kI_1 ?_
      refine ww_isub (pc := 38) C dX8_labels_38  ?_
      obtain ⟨v10, h10, hf⟩ := bsome hf
      refine ww_callVv (pc := 39) (ws' := [oX8 q_this q_now q_text v3 q_row c_rowMany (0 : Int32) v2 v6 v10 q_read q_outerCell q_outerDoor c_outerMany q_walked c_walkedMany c_cameOut q_onWalks q_far q_aside q_wasFull q_undos q_was c_undoMany c_drawn q_kept q_isKept, aI k q_now 189 c_now, aI k q_read 720 c_read, aB k q_text 80 c_text, aI k q_undos 1512 c_undos, aI k q_was 189 c_was]) (As := [.int (v6 - (1 : Int32))]) (rest := []) C (tX8_fault l D k q_this q_now q_text q_row q_read q_outerCell q_outerDoor q_walked q_onWalks q_far q_aside q_wasFull q_undos q_was q_kept q_isKept v3 c_rowMany (0 : Int32) v2 v6 v7 c_outerMany c_walkedMany c_cameOut c_undoMany c_drawn (v6 - (1 : Int32)) v10 h10) cv_X8_145 ⟨⟨by decide, by decide⟩, rfl, rfl⟩ 0 rfl rfl [0] rfl rfl rfl rfl rfl rfl (Nat.le_of_ble_eq_true rfl) ⟨Nat.zero_le _, Nat.zero_le _⟩ dX8_labels_39 ?_
      exact ww_lv [1, 0] rfl (hJ42 v6 v2 (0 : Int32) v3 c_undoMany v10 c_now c_read c_undos c_was v5 hf)
def fX8_exchange_b238 (c_text : Nat → Int32) (rc154 : Int32 → Int32 → Int32 → Int32 → Int32 → Int32 → (Nat → Int32) → (Nat → Int32) → (Nat → Int32) → (Nat → Int32) → Int32 → Int32 → Option (Int32 × Int32 × Int32 × Int32 × Int32 × Int32 × Int32 × (Nat → Int32) × (Nat → Int32) × (Nat → Int32) × (Nat → Int32))) (rc162 : Int32 → Int32 → Int32 → Int32 → Int32 → Int32 → (Nat → Int32) → (Nat → Int32) → (Nat → Int32) → (Nat → Int32) → Int32 → Int32 → Int32 → Option (Int32 × Int32 × Int32 × Int32 × Int32 × Int32 × Int32 × (Nat → Int32) × (Nat → Int32) × (Nat → Int32) × (Nat → Int32))) (c_at : Int32) (c_length : Int32) (c_thrown : Int32) (c_typed : Int32) (c_undoMany : Int32) (c_wrong : Int32) (c_now : Nat → Int32) (c_read : Nat → Int32) (c_undos : Nat → Int32) (c_was : Nat → Int32) (n1 : Int32) (n3 : Int32) (n4 : Int32) (s1 : Int32) (s2 : Int32) : Option (Int32 × Int32 × Int32 × Int32 × Int32 × Int32 × Int32 × (Nat → Int32) × (Nat → Int32) × (Nat → Int32) × (Nat → Int32)) := (ast 189 s1 c_now s2).bind fun v1 => (some (n4 + (1 : Int32))).bind fun v2 => rc162 c_at c_length c_thrown c_typed c_undoMany c_wrong v1 c_read c_undos c_was n1 n3 v2
def fX8_exchange_b201 (c_text : Nat → Int32) (rc154 : Int32 → Int32 → Int32 → Int32 → Int32 → Int32 → (Nat → Int32) → (Nat → Int32) → (Nat → Int32) → (Nat → Int32) → Int32 → Int32 → Option (Int32 × Int32 × Int32 × Int32 × Int32 × Int32 × Int32 × (Nat → Int32) × (Nat → Int32) × (Nat → Int32) × (Nat → Int32))) (rc162 : Int32 → Int32 → Int32 → Int32 → Int32 → Int32 → (Nat → Int32) → (Nat → Int32) → (Nat → Int32) → (Nat → Int32) → Int32 → Int32 → Int32 → Option (Int32 × Int32 × Int32 × Int32 × Int32 × Int32 × Int32 × (Nat → Int32) × (Nat → Int32) × (Nat → Int32) × (Nat → Int32))) (c_at : Int32) (c_length : Int32) (c_thrown : Int32) (c_typed : Int32) (c_undoMany : Int32) (c_wrong : Int32) (c_now : Nat → Int32) (c_read : Nat → Int32) (c_undos : Nat → Int32) (c_was : Nat → Int32) (n1 : Int32) (n3 : Int32) (n4 : Int32) (s1 : Int32) (s2 : Int32) : Option (Int32 × Int32 × Int32 × Int32 × Int32 × Int32 × Int32 × (Nat → Int32) × (Nat → Int32) × (Nat → Int32) × (Nat → Int32)) := (ast 189 s1 c_now s2).bind fun v1 => if n1 ≤ n3 then fX8_exchange_b238 c_text rc154 rc162 c_at c_length c_thrown c_typed c_undoMany c_wrong v1 c_read c_undos c_was n1 n3 n4 (((15 : Int32) + ((3 : Int32) * n3)) + n4) (0 : Int32) else (ald 720 ((((6 : Int32) * n3) + (3 : Int32)) + n4) c_read).bind fun v2 => fX8_exchange_b238 c_text rc154 rc162 c_at c_length c_thrown c_typed c_undoMany c_wrong v1 c_read c_undos c_was n1 n3 n4 (((15 : Int32) + ((3 : Int32) * n3)) + n4) v2
def fX8_exchange_b162 (c_text : Nat → Int32) (rc154 : Int32 → Int32 → Int32 → Int32 → Int32 → Int32 → (Nat → Int32) → (Nat → Int32) → (Nat → Int32) → (Nat → Int32) → Int32 → Int32 → Option (Int32 × Int32 × Int32 × Int32 × Int32 × Int32 × Int32 × (Nat → Int32) × (Nat → Int32) × (Nat → Int32) × (Nat → Int32))) (rc162 : Int32 → Int32 → Int32 → Int32 → Int32 → Int32 → (Nat → Int32) → (Nat → Int32) → (Nat → Int32) → (Nat → Int32) → Int32 → Int32 → Int32 → Option (Int32 × Int32 × Int32 × Int32 × Int32 × Int32 × Int32 × (Nat → Int32) × (Nat → Int32) × (Nat → Int32) × (Nat → Int32))) (c_at : Int32) (c_length : Int32) (c_thrown : Int32) (c_typed : Int32) (c_undoMany : Int32) (c_wrong : Int32) (c_now : Nat → Int32) (c_read : Nat → Int32) (c_undos : Nat → Int32) (c_was : Nat → Int32) (n1 : Int32) (n3 : Int32) (n4 : Int32) : Option (Int32 × Int32 × Int32 × Int32 × Int32 × Int32 × Int32 × (Nat → Int32) × (Nat → Int32) × (Nat → Int32) × (Nat → Int32)) := if (3 : Int32) ≤ n4 then (some (n3 + (1 : Int32))).bind fun v1 => rc154 c_at c_length c_thrown c_typed c_undoMany c_wrong c_now c_read c_undos c_was n1 v1 else if n1 ≤ n3 then fX8_exchange_b201 c_text rc154 rc162 c_at c_length c_thrown c_typed c_undoMany c_wrong c_now c_read c_undos c_was n1 n3 n4 (((3 : Int32) + ((3 : Int32) * n3)) + n4) (0 : Int32) else (ald 720 (((6 : Int32) * n3) + n4) c_read).bind fun v2 => fX8_exchange_b201 c_text rc154 rc162 c_at c_length c_thrown c_typed c_undoMany c_wrong c_now c_read c_undos c_was n1 n3 n4 (((3 : Int32) + ((3 : Int32) * n3)) + n4) v2
def fX8_exchange_b154 (c_text : Nat → Int32) (rc154 : Int32 → Int32 → Int32 → Int32 → Int32 → Int32 → (Nat → Int32) → (Nat → Int32) → (Nat → Int32) → (Nat → Int32) → Int32 → Int32 → Option (Int32 × Int32 × Int32 × Int32 × Int32 × Int32 × Int32 × (Nat → Int32) × (Nat → Int32) × (Nat → Int32) × (Nat → Int32))) (c_at : Int32) (c_length : Int32) (c_thrown : Int32) (c_typed : Int32) (c_undoMany : Int32) (c_wrong : Int32) (c_now : Nat → Int32) (c_read : Nat → Int32) (c_undos : Nat → Int32) (c_was : Nat → Int32) (n1 : Int32) (n3 : Int32) : Option (Int32 × Int32 × Int32 × Int32 × Int32 × Int32 × Int32 × (Nat → Int32) × (Nat → Int32) × (Nat → Int32) × (Nat → Int32)) := if (4 : Int32) ≤ n3 then (ast 189 (1 : Int32) c_now (1 : Int32)).bind fun v1 => (fX8_layRule v1).bind fun v2 => some (n1, c_at, c_length, c_thrown, c_typed, c_undoMany, c_wrong, v2, c_read, c_undos, c_was) else lfix (fX8_exchange_b162 c_text rc154) (fun _ _ _ _ _ _ _ _ _ _ _ _ _ => none) FU c_at c_length c_thrown c_typed c_undoMany c_wrong c_now c_read c_undos c_was n1 n3 (0 : Int32)
def fX8_exchange_b114 (c_text : Nat → Int32) (rc13 : Int32 → Int32 → Int32 → Int32 → Int32 → Int32 → (Nat → Int32) → (Nat → Int32) → (Nat → Int32) → (Nat → Int32) → Int32 → Int32 → Option (Int32 × Int32 × Int32 × Int32 × Int32 × Int32 × Int32 × (Nat → Int32) × (Nat → Int32) × (Nat → Int32) × (Nat → Int32))) (c_at : Int32) (c_length : Int32) (c_thrown : Int32) (c_typed : Int32) (c_undoMany : Int32) (c_wrong : Int32) (c_now : Nat → Int32) (c_read : Nat → Int32) (c_undos : Nat → Int32) (c_was : Nat → Int32) (n1 : Int32) : Option (Int32 × Int32 × Int32 × Int32 × Int32 × Int32 × Int32 × (Nat → Int32) × (Nat → Int32) × (Nat → Int32) × (Nat → Int32)) := (some (n1 + (1 : Int32))).bind fun v1 => bd2 (fX8_passes c_length c_wrong c_text c_at (59 : Int32)) fun v2 v3 => rc13 v3 c_length c_thrown c_typed c_undoMany c_wrong c_now c_read c_undos c_was v1 v2
def fX8_exchange_b73 (c_text : Nat → Int32) (rc13 : Int32 → Int32 → Int32 → Int32 → Int32 → Int32 → (Nat → Int32) → (Nat → Int32) → (Nat → Int32) → (Nat → Int32) → Int32 → Int32 → Option (Int32 × Int32 × Int32 × Int32 × Int32 × Int32 × Int32 × (Nat → Int32) × (Nat → Int32) × (Nat → Int32) × (Nat → Int32))) (rc73 : Int32 → Int32 → Int32 → Int32 → Int32 → Int32 → (Nat → Int32) → (Nat → Int32) → (Nat → Int32) → (Nat → Int32) → Int32 → Int32 → Option (Int32 × Int32 × Int32 × Int32 × Int32 × Int32 × Int32 × (Nat → Int32) × (Nat → Int32) × (Nat → Int32) × (Nat → Int32))) (c_at : Int32) (c_length : Int32) (c_thrown : Int32) (c_typed : Int32) (c_undoMany : Int32) (c_wrong : Int32) (c_now : Nat → Int32) (c_read : Nat → Int32) (c_undos : Nat → Int32) (c_was : Nat → Int32) (n1 : Int32) (n3 : Int32) : Option (Int32 × Int32 × Int32 × Int32 × Int32 × Int32 × Int32 × (Nat → Int32) × (Nat → Int32) × (Nat → Int32) × (Nat → Int32)) := if (3 : Int32) ≤ n3 then fX8_exchange_b114 c_text rc13 c_at c_length c_thrown c_typed c_undoMany c_wrong c_now c_read c_undos c_was n1 else (fX8_fine c_wrong).bind fun v1 => if v1 = 0 then fX8_exchange_b114 c_text rc13 c_at c_length c_thrown c_typed c_undoMany c_wrong c_now c_read c_undos c_was n1 else bd3 (fX8_oneOf c_length c_text c_at c_wrong (49 : Int32) (9 : Int32)) fun v2 v3 v4 => (ast 720 ((((6 : Int32) * n1) + (3 : Int32)) + n3) c_read (v2 + (1 : Int32))).bind fun v5 => (some (n3 + (1 : Int32))).bind fun v6 => rc73 v3 c_length c_thrown c_typed c_undoMany v4 c_now v5 c_undos c_was n1 v6
def fX8_exchange_b34 (c_text : Nat → Int32) (rc13 : Int32 → Int32 → Int32 → Int32 → Int32 → Int32 → (Nat → Int32) → (Nat → Int32) → (Nat → Int32) → (Nat → Int32) → Int32 → Int32 → Option (Int32 × Int32 × Int32 × Int32 × Int32 × Int32 × Int32 × (Nat → Int32) × (Nat → Int32) × (Nat → Int32) × (Nat → Int32))) (rc34 : Int32 → Int32 → Int32 → Int32 → Int32 → Int32 → (Nat → Int32) → (Nat → Int32) → (Nat → Int32) → (Nat → Int32) → Int32 → Int32 → Option (Int32 × Int32 × Int32 × Int32 × Int32 × Int32 × Int32 × (Nat → Int32) × (Nat → Int32) × (Nat → Int32) × (Nat → Int32))) (c_at : Int32) (c_length : Int32) (c_thrown : Int32) (c_typed : Int32) (c_undoMany : Int32) (c_wrong : Int32) (c_now : Nat → Int32) (c_read : Nat → Int32) (c_undos : Nat → Int32) (c_was : Nat → Int32) (n1 : Int32) (n3 : Int32) : Option (Int32 × Int32 × Int32 × Int32 × Int32 × Int32 × Int32 × (Nat → Int32) × (Nat → Int32) × (Nat → Int32) × (Nat → Int32)) := if (3 : Int32) ≤ n3 then lfix (fX8_exchange_b73 c_text rc13) (fun _ _ _ _ _ _ _ _ _ _ _ _ => none) FU c_at c_length c_thrown c_typed c_undoMany c_wrong c_now c_read c_undos c_was n1 (0 : Int32) else (fX8_fine c_wrong).bind fun v1 => if v1 = 0 then lfix (fX8_exchange_b73 c_text rc13) (fun _ _ _ _ _ _ _ _ _ _ _ _ => none) FU c_at c_length c_thrown c_typed c_undoMany c_wrong c_now c_read c_undos c_was n1 (0 : Int32) else bd3 (fX8_oneOf c_length c_text c_at c_wrong (48 : Int32) (10 : Int32)) fun v2 v3 v4 => (ast 720 (((6 : Int32) * n1) + n3) c_read v2).bind fun v5 => (some (n3 + (1 : Int32))).bind fun v6 => rc34 v3 c_length c_thrown c_typed c_undoMany v4 c_now v5 c_undos c_was n1 v6
def fX8_exchange_b13 (c_text : Nat → Int32) (rc13 : Int32 → Int32 → Int32 → Int32 → Int32 → Int32 → (Nat → Int32) → (Nat → Int32) → (Nat → Int32) → (Nat → Int32) → Int32 → Int32 → Option (Int32 × Int32 × Int32 × Int32 × Int32 × Int32 × Int32 × (Nat → Int32) × (Nat → Int32) × (Nat → Int32) × (Nat → Int32))) (c_at : Int32) (c_length : Int32) (c_thrown : Int32) (c_typed : Int32) (c_undoMany : Int32) (c_wrong : Int32) (c_now : Nat → Int32) (c_read : Nat → Int32) (c_undos : Nat → Int32) (c_was : Nat → Int32) (n1 : Int32) (n2 : Int32) : Option (Int32 × Int32 × Int32 × Int32 × Int32 × Int32 × Int32 × (Nat → Int32) × (Nat → Int32) × (Nat → Int32) × (Nat → Int32)) := if n2 = 0 then bd2 (fX8_wasRight c_at c_length c_wrong) fun v1 v2 => if v1 = 0 then some (((-1 : Int32) - v2), c_at, c_length, c_thrown, c_typed, c_undoMany, v2, c_now, c_read, c_undos, c_was) else bd3 (fX8_change c_now c_undoMany c_undos c_was) fun v3 v4 v5 => (ast 189 (2 : Int32) c_now n1).bind fun v6 => lfix (fX8_exchange_b154 c_text) (fun _ _ _ _ _ _ _ _ _ _ _ _ => none) FU c_at c_length c_thrown c_typed v3 v2 v6 c_read v4 v5 n1 (0 : Int32) else if n1 = (4 : Int32) then (fX8_fault c_wrong (c_at - (1 : Int32))).bind fun v7 => lfix (fX8_exchange_b34 c_text rc13) (fun _ _ _ _ _ _ _ _ _ _ _ _ => none) FU c_at c_length c_thrown c_typed c_undoMany v7 c_now c_read c_undos c_was n1 (0 : Int32) else lfix (fX8_exchange_b34 c_text rc13) (fun _ _ _ _ _ _ _ _ _ _ _ _ => none) FU c_at c_length c_thrown c_typed c_undoMany c_wrong c_now c_read c_undos c_was n1 (0 : Int32)
def fX8_exchange (c_text : Nat → Int32) (c_at : Int32) (c_length : Int32) (c_thrown : Int32) (c_typed : Int32) (c_undoMany : Int32) (c_wrong : Int32) (c_now : Nat → Int32) (c_read : Nat → Int32) (c_undos : Nat → Int32) (c_was : Nat → Int32) : Option (Int32 × Int32 × Int32 × Int32 × Int32 × Int32 × Int32 × (Nat → Int32) × (Nat → Int32) × (Nat → Int32) × (Nat → Int32)) := bd4 (fX8_begin c_at c_length c_typed c_wrong) fun v1 v2 v3 v4 => lfix (fX8_exchange_b13 c_text) (fun _ _ _ _ _ _ _ _ _ _ _ _ => none) FU v1 v2 (0 : Int32) v3 c_undoMany v4 c_now c_read c_undos c_was (0 : Int32) (1 : Int32)
set_option maxHeartbeats 4000000 in
set_option maxRecDepth 100000 in
theorem tX8_exchange (l : Launch) (D : va_G) (k : Nat → ClassId) (q_this q_now q_text q_row q_read q_outerCell q_outerDoor q_walked q_onWalks q_far q_aside q_wasFull q_undos q_was q_kept q_isKept : Nat) (c_typed : Int32) (c_rowMany : Int32) (c_thrown : Int32) (c_length : Int32) (c_at : Int32) (c_wrong : Int32) (c_outerMany : Int32) (c_walkedMany : Int32) (c_cameOut : Int32) (c_undoMany : Int32) (c_drawn : Int32) (c_now : Nat → Int32) (c_read : Nat → Int32) (c_text : Nat → Int32) (c_undos : Nat → Int32) (c_was : Nat → Int32)  (r_ : Int32) (w_at : Int32) (w_length : Int32) (w_thrown : Int32) (w_typed : Int32) (w_undoMany : Int32) (w_wrong : Int32) (w_now : Nat → Int32) (w_read : Nat → Int32) (w_undos : Nat → Int32) (w_was : Nat → Int32) (hf : fX8_exchange c_text c_at c_length c_thrown c_typed c_undoMany c_wrong c_now c_read c_undos c_was = some (r_, w_at, w_length, w_thrown, w_typed, w_undoMany, w_wrong, w_now, w_read, w_undos, w_was)) : MI l yX8_exchange cX8_exchange 5 .int (RM 6 141) D k [.ref q_this] [oX8 q_this q_now q_text c_typed q_row c_rowMany c_thrown c_length c_at c_wrong q_read q_outerCell q_outerDoor c_outerMany q_walked c_walkedMany c_cameOut q_onWalks q_far q_aside q_wasFull q_undos q_was c_undoMany c_drawn q_kept q_isKept, aI k q_now 189 c_now, aI k q_read 720 c_read, aB k q_text 80 c_text, aI k q_undos 1512 c_undos, aI k q_was 189 c_was] r_ [oX8 q_this q_now q_text w_typed q_row c_rowMany w_thrown w_length w_at w_wrong q_read q_outerCell q_outerDoor c_outerMany q_walked c_walkedMany c_cameOut q_onWalks q_far q_aside q_wasFull q_undos q_was w_undoMany c_drawn q_kept q_isKept, aI k q_now 189 w_now, aI k q_read 720 w_read, aB k q_text 80 c_text, aI k q_undos 1512 w_undos, aI k q_was 189 w_was] := by
  refine mkMI' (own := "DoorWalkModel") (by decide) rfl (Nat.le_of_ble_eq_true rfl) ?_
  intro p e s m args below meth c Q A hret C
  refine ww_lv (lv' := [(0, .ref q_this)]) [0] rfl ?_
  have hL154 : ∀ (n : Nat) (c_at : Int32) (c_length : Int32) (c_thrown : Int32) (c_typed : Int32) (c_undoMany : Int32) (c_wrong : Int32) (c_now : Nat → Int32) (c_read : Nat → Int32) (c_undos : Nat → Int32) (c_was : Nat → Int32) (n1 : Int32) (n3 : Int32), lfix (fX8_exchange_b154 c_text) (fun _ _ _ _ _ _ _ _ _ _ _ _ => none) n c_at c_length c_thrown c_typed c_undoMany c_wrong c_now c_read c_undos c_was n1 n3 = some (r_, w_at, w_length, w_thrown, w_typed, w_undoMany, w_wrong, w_now, w_read, w_undos, w_was) → WW p l e (RM 6 141) s m args below meth c Q 5 D A 0 0 [oX8 q_this q_now q_text c_typed q_row c_rowMany c_thrown c_length c_at c_wrong q_read q_outerCell q_outerDoor c_outerMany q_walked c_walkedMany c_cameOut q_onWalks q_far q_aside q_wasFull q_undos q_was c_undoMany c_drawn q_kept q_isKept, aI k q_now 189 c_now, aI k q_read 720 c_read, aB k q_text 80 c_text, aI k q_undos 1512 c_undos, aI k q_was 189 c_was] [(0, .ref q_this), (1, .int n1), (3, .int n3)] 154 [] := by
    intro n
    induction n with
    | zero => intro c_at c_length c_thrown c_typed c_undoMany c_wrong c_now c_read c_undos c_was n1 n3 hf; cases hf
    | succ n ih154 =>
      obtain ⟨rc154, hrc154⟩ : ∃ f9, f9 = lfix (fX8_exchange_b154 c_text) (fun _ _ _ _ _ _ _ _ _ _ _ _ => none) n := ⟨_, rfl⟩
      rw [← hrc154] at ih154
      have hL162 : ∀ (n : Nat) (c_at : Int32) (c_length : Int32) (c_thrown : Int32) (c_typed : Int32) (c_undoMany : Int32) (c_wrong : Int32) (c_now : Nat → Int32) (c_read : Nat → Int32) (c_undos : Nat → Int32) (c_was : Nat → Int32) (n1 : Int32) (n3 : Int32) (n4 : Int32), lfix (fX8_exchange_b162 c_text rc154) (fun _ _ _ _ _ _ _ _ _ _ _ _ _ => none) n c_at c_length c_thrown c_typed c_undoMany c_wrong c_now c_read c_undos c_was n1 n3 n4 = some (r_, w_at, w_length, w_thrown, w_typed, w_undoMany, w_wrong, w_now, w_read, w_undos, w_was) → WW p l e (RM 6 141) s m args below meth c Q 5 D A 0 0 [oX8 q_this q_now q_text c_typed q_row c_rowMany c_thrown c_length c_at c_wrong q_read q_outerCell q_outerDoor c_outerMany q_walked c_walkedMany c_cameOut q_onWalks q_far q_aside q_wasFull q_undos q_was c_undoMany c_drawn q_kept q_isKept, aI k q_now 189 c_now, aI k q_read 720 c_read, aB k q_text 80 c_text, aI k q_undos 1512 c_undos, aI k q_was 189 c_was] [(0, .ref q_this), (1, .int n1), (3, .int n3), (4, .int n4)] 162 [] := by
        intro n
        induction n with
        | zero => intro c_at c_length c_thrown c_typed c_undoMany c_wrong c_now c_read c_undos c_was n1 n3 n4 hf; cases hf
        | succ n ih162 =>
          obtain ⟨rc162, hrc162⟩ : ∃ f9, f9 = lfix (fX8_exchange_b162 c_text rc154) (fun _ _ _ _ _ _ _ _ _ _ _ _ _ => none) n := ⟨_, rfl⟩
          rw [← hrc162] at ih162
          have hJ238 : ∀ (c_at : Int32) (c_length : Int32) (c_thrown : Int32) (c_typed : Int32) (c_undoMany : Int32) (c_wrong : Int32) (c_now : Nat → Int32) (c_read : Nat → Int32) (c_undos : Nat → Int32) (c_was : Nat → Int32) (n1 : Int32) (n3 : Int32) (n4 : Int32) (s1 : Int32) (s2 : Int32), fX8_exchange_b238 c_text rc154 rc162 c_at c_length c_thrown c_typed c_undoMany c_wrong c_now c_read c_undos c_was n1 n3 n4 s1 s2 = some (r_, w_at, w_length, w_thrown, w_typed, w_undoMany, w_wrong, w_now, w_read, w_undos, w_was) → WW p l e (RM 6 141) s m args below meth c Q 5 D A 0 0 [oX8 q_this q_now q_text c_typed q_row c_rowMany c_thrown c_length c_at c_wrong q_read q_outerCell q_outerDoor c_outerMany q_walked c_walkedMany c_cameOut q_onWalks q_far q_aside q_wasFull q_undos q_was c_undoMany c_drawn q_kept q_isKept, aI k q_now 189 c_now, aI k q_read 720 c_read, aB k q_text 80 c_text, aI k q_undos 1512 c_undos, aI k q_was 189 c_was] [(0, .ref q_this), (1, .int n1), (3, .int n3), (4, .int n4)] 238 [.int s2, .int s1, .ref q_now] := by
            intro c_at c_length c_thrown c_typed c_undoMany c_wrong c_now c_read c_undos c_was n1 n3 n4 s1 s2
            intro hf
            unfold fX8_exchange_b238 at hf
            obtain ⟨v1, h1, hf⟩ := bsome hf
            refine ww_iast (pc := 238) (ws' := [oX8 q_this q_now q_text c_typed q_row c_rowMany c_thrown c_length c_at c_wrong q_read q_outerCell q_outerDoor c_outerMany q_walked c_walkedMany c_cameOut q_onWalks q_far q_aside q_wasFull q_undos q_was c_undoMany c_drawn q_kept q_isKept, aI k q_now 189 v1, aI k q_read 720 c_read, aB k q_text 80 c_text, aI k q_undos 1512 c_undos, aI k q_was 189 c_was]) C 1 rfl h1 rfl dX8_exchange_238 ?_
            obtain ⟨v2, h2, hf⟩ := bsome hf
            refine ww_iincN (pc := 239) (lv' := [(4, .int v2), (0, .ref q_this), (1, .int n1), (3, .int n3)]) (j := 3) C dX8_exchange_239 kI_1 rfl h2 (by decide) rfl ?_
            refine ww_goto (pc := 242) (tgt := 162) C dX8_exchange_242 (by decide) ?_
            exact ww_lv [1, 2, 3, 0] rfl (ih162 c_at c_length c_thrown c_typed c_undoMany c_wrong v1 c_read c_undos c_was n1 n3 v2 hf)
          have hJ201 : ∀ (c_at : Int32) (c_length : Int32) (c_thrown : Int32) (c_typed : Int32) (c_undoMany : Int32) (c_wrong : Int32) (c_now : Nat → Int32) (c_read : Nat → Int32) (c_undos : Nat → Int32) (c_was : Nat → Int32) (n1 : Int32) (n3 : Int32) (n4 : Int32) (s1 : Int32) (s2 : Int32), fX8_exchange_b201 c_text rc154 rc162 c_at c_length c_thrown c_typed c_undoMany c_wrong c_now c_read c_undos c_was n1 n3 n4 s1 s2 = some (r_, w_at, w_length, w_thrown, w_typed, w_undoMany, w_wrong, w_now, w_read, w_undos, w_was) → WW p l e (RM 6 141) s m args below meth c Q 5 D A 0 0 [oX8 q_this q_now q_text c_typed q_row c_rowMany c_thrown c_length c_at c_wrong q_read q_outerCell q_outerDoor c_outerMany q_walked c_walkedMany c_cameOut q_onWalks q_far q_aside q_wasFull q_undos q_was c_undoMany c_drawn q_kept q_isKept, aI k q_now 189 c_now, aI k q_read 720 c_read, aB k q_text 80 c_text, aI k q_undos 1512 c_undos, aI k q_was 189 c_was] [(0, .ref q_this), (1, .int n1), (3, .int n3), (4, .int n4)] 201 [.int s2, .int s1, .ref q_now] := by
            intro c_at c_length c_thrown c_typed c_undoMany c_wrong c_now c_read c_undos c_was n1 n3 n4 s1 s2
            intro hf
            unfold fX8_exchange_b201 at hf
            obtain ⟨v1, h1, hf⟩ := bsome hf
            refine ww_iast (pc := 201) (ws' := [oX8 q_this q_now q_text c_typed q_row c_rowMany c_thrown c_length c_at c_wrong q_read q_outerCell q_outerDoor c_outerMany q_walked c_walkedMany c_cameOut q_onWalks q_far q_aside q_wasFull q_undos q_was c_undoMany c_drawn q_kept q_isKept, aI k q_now 189 v1, aI k q_read 720 c_read, aB k q_text 80 c_text, aI k q_undos 1512 c_undos, aI k q_was 189 c_was]) C 1 rfl h1 rfl dX8_exchange_201 ?_
            refine ww_aload_n (pc := 202) C dX8_exchange_202 rfl 0 rfl ?_
            refine gf8_0 (pc := 203) C kf_X8_9 0 rfl rfl dX8_exchange_203 ?_
            refine ww_bipush (pc := 206) C dX8_exchange_206 kB_15 ?_
            refine ww_iconst (pc := 208) C dX8_exchange_208 kI_3 ?_
            refine ww_iload_n (pc := 209) C dX8_exchange_209 rfl 2 rfl ?_
            refine ww_imul (pc := 210) C dX8_exchange_210  ?_
            refine ww_iadd (pc := 211) C dX8_exchange_211  ?_
            refine ww_iload (pc := 212) C dX8_exchange_212 3 rfl ?_
            refine ww_iadd (pc := 214) C dX8_exchange_214  ?_
            refine ww_iload_n (pc := 215) C dX8_exchange_215 rfl 2 rfl ?_
            refine ww_iload_n (pc := 216) C dX8_exchange_216 rfl 1 rfl ?_
            refine ww_icmp_ge (pc := 217) (tgt := 237) C dX8_exchange_217 (by decide) (fun hc => ?_) (fun hc => ?_)
            · have hf := ifT hc hf
              refine ww_iconst (pc := 237) C dX8_exchange_237 kI_0 ?_
              exact hJ238 c_at c_length c_thrown c_typed c_undoMany c_wrong v1 c_read c_undos c_was n1 n3 n4 (((15 : Int32) + ((3 : Int32) * n3)) + n4) (0 : Int32) hf
            · have hf := ifF hc hf
              refine ww_aload_n (pc := 220) C dX8_exchange_220 rfl 0 rfl ?_
              refine gf8_9 (pc := 221) C kf_X8_21 0 rfl rfl dX8_exchange_221 ?_
              refine ww_bipush (pc := 224) C dX8_exchange_224 kB_6 ?_
              refine ww_iload_n (pc := 226) C dX8_exchange_226 rfl 2 rfl ?_
              refine ww_imul (pc := 227) C dX8_exchange_227  ?_
              refine ww_iconst (pc := 228) C dX8_exchange_228 kI_3 ?_
              refine ww_iadd (pc := 229) C dX8_exchange_229  ?_
              refine ww_iload (pc := 230) C dX8_exchange_230 3 rfl ?_
              refine ww_iadd (pc := 232) C dX8_exchange_232  ?_
              obtain ⟨v2, h2, hf⟩ := bsome hf
              refine ww_iald (pc := 233) C 2 rfl h2 dX8_exchange_233 ?_
              refine ww_goto (pc := 234) (tgt := 238) C dX8_exchange_234 (by decide) ?_
              exact hJ238 c_at c_length c_thrown c_typed c_undoMany c_wrong v1 c_read c_undos c_was n1 n3 n4 (((15 : Int32) + ((3 : Int32) * n3)) + n4) v2 hf
          intro c_at c_length c_thrown c_typed c_undoMany c_wrong c_now c_read c_undos c_was n1 n3 n4 hf
          have hf : fX8_exchange_b162 c_text rc154 rc162 c_at c_length c_thrown c_typed c_undoMany c_wrong c_now c_read c_undos c_was n1 n3 n4 = some (r_, w_at, w_length, w_thrown, w_typed, w_undoMany, w_wrong, w_now, w_read, w_undos, w_was) := by rw [hrc162]; exact hf
          unfold fX8_exchange_b162 at hf
          refine ww_iload (pc := 162) C dX8_exchange_162 3 rfl ?_
          refine ww_iconst (pc := 164) C dX8_exchange_164 kI_3 ?_
          refine ww_icmp_ge (pc := 165) (tgt := 245) C dX8_exchange_165 (by decide) (fun hc => ?_) (fun hc => ?_)
          · have hf := ifT hc hf
            obtain ⟨v1, h1, hf⟩ := bsome hf
            refine ww_iincN (pc := 245) (lv' := [(3, .int v1), (0, .ref q_this), (1, .int n1), (4, .int n4)]) (j := 2) C dX8_exchange_245 kI_1 rfl h1 (by decide) rfl ?_
            refine ww_goto (pc := 248) (tgt := 154) C dX8_exchange_248 (by decide) ?_
            exact ww_lv [1, 2, 0] rfl (ih154 c_at c_length c_thrown c_typed c_undoMany c_wrong c_now c_read c_undos c_was n1 v1 hf)
          · have hf := ifF hc hf
            refine ww_aload_n (pc := 168) C dX8_exchange_168 rfl 0 rfl ?_
            refine gf8_0 (pc := 169) C kf_X8_9 0 rfl rfl dX8_exchange_169 ?_
            refine ww_iconst (pc := 172) C dX8_exchange_172 kI_3 ?_
            refine ww_iconst (pc := 173) C dX8_exchange_173 kI_3 ?_
            refine ww_iload_n (pc := 174) C dX8_exchange_174 rfl 2 rfl ?_
            refine ww_imul (pc := 175) C dX8_exchange_175  ?_
            refine ww_iadd (pc := 176) C dX8_exchange_176  ?_
            refine ww_iload (pc := 177) C dX8_exchange_177 3 rfl ?_
            refine ww_iadd (pc := 179) C dX8_exchange_179  ?_
            refine ww_iload_n (pc := 180) C dX8_exchange_180 rfl 2 rfl ?_
            refine ww_iload_n (pc := 181) C dX8_exchange_181 rfl 1 rfl ?_
            refine ww_icmp_ge (pc := 182) (tgt := 200) C dX8_exchange_182 (by decide) (fun hc => ?_) (fun hc => ?_)
            · have hf := ifT hc hf
              refine ww_iconst (pc := 200) C dX8_exchange_200 kI_0 ?_
              exact hJ201 c_at c_length c_thrown c_typed c_undoMany c_wrong c_now c_read c_undos c_was n1 n3 n4 (((3 : Int32) + ((3 : Int32) * n3)) + n4) (0 : Int32) hf
            · have hf := ifF hc hf
              refine ww_aload_n (pc := 185) C dX8_exchange_185 rfl 0 rfl ?_
              refine gf8_9 (pc := 186) C kf_X8_21 0 rfl rfl dX8_exchange_186 ?_
              refine ww_bipush (pc := 189) C dX8_exchange_189 kB_6 ?_
              refine ww_iload_n (pc := 191) C dX8_exchange_191 rfl 2 rfl ?_
              refine ww_imul (pc := 192) C dX8_exchange_192  ?_
              refine ww_iload (pc := 193) C dX8_exchange_193 3 rfl ?_
              refine ww_iadd (pc := 195) C dX8_exchange_195  ?_
              obtain ⟨v2, h2, hf⟩ := bsome hf
              refine ww_iald (pc := 196) C 2 rfl h2 dX8_exchange_196 ?_
              refine ww_goto (pc := 197) (tgt := 201) C dX8_exchange_197 (by decide) ?_
              exact hJ201 c_at c_length c_thrown c_typed c_undoMany c_wrong c_now c_read c_undos c_was n1 n3 n4 (((3 : Int32) + ((3 : Int32) * n3)) + n4) v2 hf
      intro c_at c_length c_thrown c_typed c_undoMany c_wrong c_now c_read c_undos c_was n1 n3 hf
      have hf : fX8_exchange_b154 c_text rc154 c_at c_length c_thrown c_typed c_undoMany c_wrong c_now c_read c_undos c_was n1 n3 = some (r_, w_at, w_length, w_thrown, w_typed, w_undoMany, w_wrong, w_now, w_read, w_undos, w_was) := by rw [hrc154]; exact hf
      unfold fX8_exchange_b154 at hf
      refine ww_iload_n (pc := 154) C dX8_exchange_154 rfl 2 rfl ?_
      refine ww_iconst (pc := 155) C dX8_exchange_155 kI_4 ?_
      refine ww_icmp_ge (pc := 156) (tgt := 251) C dX8_exchange_156 (by decide) (fun hc => ?_) (fun hc => ?_)
      · have hf := ifT hc hf
        refine ww_aload_n (pc := 251) C dX8_exchange_251 rfl 0 rfl ?_
        refine gf8_0 (pc := 252) C kf_X8_9 0 rfl rfl dX8_exchange_252 ?_
        refine ww_iconst (pc := 255) C dX8_exchange_255 kI_1 ?_
        refine ww_iconst (pc := 256) C dX8_exchange_256 kI_1 ?_
        obtain ⟨v1, h1, hf⟩ := bsome hf
        refine ww_iast (pc := 257) (ws' := [oX8 q_this q_now q_text c_typed q_row c_rowMany c_thrown c_length c_at c_wrong q_read q_outerCell q_outerDoor c_outerMany q_walked c_walkedMany c_cameOut q_onWalks q_far q_aside q_wasFull q_undos q_was c_undoMany c_drawn q_kept q_isKept, aI k q_now 189 v1, aI k q_read 720 c_read, aB k q_text 80 c_text, aI k q_undos 1512 c_undos, aI k q_was 189 c_was]) C 1 rfl h1 rfl dX8_exchange_257 ?_
        refine ww_aload_n (pc := 258) C dX8_exchange_258 rfl 0 rfl ?_
        obtain ⟨v2, h2, hf⟩ := bsome hf
        refine ww_callVv (pc := 259) (ws' := [oX8 q_this q_now q_text c_typed q_row c_rowMany c_thrown c_length c_at c_wrong q_read q_outerCell q_outerDoor c_outerMany q_walked c_walkedMany c_cameOut q_onWalks q_far q_aside q_wasFull q_undos q_was c_undoMany c_drawn q_kept q_isKept, aI k q_now 189 v2, aI k q_read 720 c_read, aB k q_text 80 c_text, aI k q_undos 1512 c_undos, aI k q_was 189 c_was]) (As := []) (rest := []) C (tX8_layRule l D k q_this q_now q_text q_row q_read q_outerCell q_outerDoor q_walked q_onWalks q_far q_aside q_wasFull q_undos q_was q_kept q_isKept c_typed c_rowMany c_thrown c_length c_at c_wrong c_outerMany c_walkedMany c_cameOut c_undoMany c_drawn v1 v2 h2) cv_X8_169 ⟨⟨by decide, by decide⟩, rfl, rfl⟩ 0 rfl rfl [0, 1] rfl rfl rfl rfl rfl rfl (Nat.le_of_ble_eq_true rfl) ⟨Nat.zero_le _, Nat.zero_le _⟩ dX8_exchange_259 ?_
        refine ww_iload_n (pc := 262) C dX8_exchange_262 rfl 1 rfl ?_
        obtain ⟨e0, e1, e2, e3, e4, e5, e6, e7, e8, e9, e10⟩ := ij11 hf
        exact hret _ _ 263 _ dX8_exchange_263 rfl e0 (by rw [← e1, ← e2, ← e3, ← e4, ← e5, ← e6, ← e7, ← e8, ← e9, ← e10])
      · have hf := ifF hc hf
        refine ww_iconst (pc := 159) C dX8_exchange_159 kI_0 ?_
        refine ww_istore (pc := 160) (lv' := [(4, .int (0 : Int32)), (0, .ref q_this), (1, .int n1), (3, .int n3)]) C dX8_exchange_160 (by decide) rfl ?_
        exact ww_lv [1, 2, 3, 0] rfl (hL162 FU c_at c_length c_thrown c_typed c_undoMany c_wrong c_now c_read c_undos c_was n1 n3 (0 : Int32) hf)
  have hL13 : ∀ (n : Nat) (c_at : Int32) (c_length : Int32) (c_thrown : Int32) (c_typed : Int32) (c_undoMany : Int32) (c_wrong : Int32) (c_now : Nat → Int32) (c_read : Nat → Int32) (c_undos : Nat → Int32) (c_was : Nat → Int32) (n1 : Int32) (n2 : Int32), lfix (fX8_exchange_b13 c_text) (fun _ _ _ _ _ _ _ _ _ _ _ _ => none) n c_at c_length c_thrown c_typed c_undoMany c_wrong c_now c_read c_undos c_was n1 n2 = some (r_, w_at, w_length, w_thrown, w_typed, w_undoMany, w_wrong, w_now, w_read, w_undos, w_was) → WW p l e (RM 6 141) s m args below meth c Q 5 D A 0 0 [oX8 q_this q_now q_text c_typed q_row c_rowMany c_thrown c_length c_at c_wrong q_read q_outerCell q_outerDoor c_outerMany q_walked c_walkedMany c_cameOut q_onWalks q_far q_aside q_wasFull q_undos q_was c_undoMany c_drawn q_kept q_isKept, aI k q_now 189 c_now, aI k q_read 720 c_read, aB k q_text 80 c_text, aI k q_undos 1512 c_undos, aI k q_was 189 c_was] [(0, .ref q_this), (1, .int n1), (2, .int n2)] 13 [] := by
    intro n
    induction n with
    | zero => intro c_at c_length c_thrown c_typed c_undoMany c_wrong c_now c_read c_undos c_was n1 n2 hf; cases hf
    | succ n ih13 =>
      obtain ⟨rc13, hrc13⟩ : ∃ f9, f9 = lfix (fX8_exchange_b13 c_text) (fun _ _ _ _ _ _ _ _ _ _ _ _ => none) n := ⟨_, rfl⟩
      rw [← hrc13] at ih13
      have hJ114 : ∀ (c_at : Int32) (c_length : Int32) (c_thrown : Int32) (c_typed : Int32) (c_undoMany : Int32) (c_wrong : Int32) (c_now : Nat → Int32) (c_read : Nat → Int32) (c_undos : Nat → Int32) (c_was : Nat → Int32) (n1 : Int32), fX8_exchange_b114 c_text rc13 c_at c_length c_thrown c_typed c_undoMany c_wrong c_now c_read c_undos c_was n1 = some (r_, w_at, w_length, w_thrown, w_typed, w_undoMany, w_wrong, w_now, w_read, w_undos, w_was) → WW p l e (RM 6 141) s m args below meth c Q 5 D A 0 0 [oX8 q_this q_now q_text c_typed q_row c_rowMany c_thrown c_length c_at c_wrong q_read q_outerCell q_outerDoor c_outerMany q_walked c_walkedMany c_cameOut q_onWalks q_far q_aside q_wasFull q_undos q_was c_undoMany c_drawn q_kept q_isKept, aI k q_now 189 c_now, aI k q_read 720 c_read, aB k q_text 80 c_text, aI k q_undos 1512 c_undos, aI k q_was 189 c_was] [(0, .ref q_this), (1, .int n1)] 114 [] := by
        intro c_at c_length c_thrown c_typed c_undoMany c_wrong c_now c_read c_undos c_was n1
        intro hf
        unfold fX8_exchange_b114 at hf
        obtain ⟨v1, h1, hf⟩ := bsome hf
        refine ww_iincN (pc := 114) (lv' := [(1, .int v1), (0, .ref q_this)]) (j := 1) C dX8_exchange_114 kI_1 rfl h1 (by decide) rfl ?_
        refine ww_aload_n (pc := 117) C dX8_exchange_117 rfl 1 rfl ?_
        refine ww_bipush (pc := 118) C dX8_exchange_118 kB_59 ?_
        obtain ⟨v2, v3, h2, hf⟩ := bd2_some hf
        refine ww_callVi (pc := 120) (ws' := [oX8 q_this q_now q_text c_typed q_row c_rowMany c_thrown c_length v3 c_wrong q_read q_outerCell q_outerDoor c_outerMany q_walked c_walkedMany c_cameOut q_onWalks q_far q_aside q_wasFull q_undos q_was c_undoMany c_drawn q_kept q_isKept, aI k q_now 189 c_now, aI k q_read 720 c_read, aB k q_text 80 c_text, aI k q_undos 1512 c_undos, aI k q_was 189 c_was]) (As := [.int (59 : Int32)]) (rest := []) C (tX8_passes l D k q_this q_now q_text q_row q_read q_outerCell q_outerDoor q_walked q_onWalks q_far q_aside q_wasFull q_undos q_was q_kept q_isKept c_typed c_rowMany c_thrown c_length c_at c_wrong c_outerMany c_walkedMany c_cameOut c_undoMany c_drawn c_text (59 : Int32) v2 v3 h2) cv_X8_165 ⟨⟨by decide, by decide⟩, rfl, rfl⟩ 0 rfl rfl [0, 3] rfl rfl rfl rfl rfl rfl (Nat.le_of_ble_eq_true rfl) ⟨Nat.zero_le _, Nat.zero_le _⟩ dX8_exchange_120 (fun hb2 => ?_)
        refine ww_istore_n (pc := 123) (lv' := [(2, .int v2), (1, .int v1), (0, .ref q_this)]) C dX8_exchange_123 rfl (by decide) rfl ?_
        refine ww_goto (pc := 124) (tgt := 13) C dX8_exchange_124 (by decide) ?_
        exact ww_lv [2, 1, 0] rfl (ih13 v3 c_length c_thrown c_typed c_undoMany c_wrong c_now c_read c_undos c_was v1 v2 hf)
      have hL73 : ∀ (n : Nat) (c_at : Int32) (c_length : Int32) (c_thrown : Int32) (c_typed : Int32) (c_undoMany : Int32) (c_wrong : Int32) (c_now : Nat → Int32) (c_read : Nat → Int32) (c_undos : Nat → Int32) (c_was : Nat → Int32) (n1 : Int32) (n3 : Int32), lfix (fX8_exchange_b73 c_text rc13) (fun _ _ _ _ _ _ _ _ _ _ _ _ => none) n c_at c_length c_thrown c_typed c_undoMany c_wrong c_now c_read c_undos c_was n1 n3 = some (r_, w_at, w_length, w_thrown, w_typed, w_undoMany, w_wrong, w_now, w_read, w_undos, w_was) → WW p l e (RM 6 141) s m args below meth c Q 5 D A 0 0 [oX8 q_this q_now q_text c_typed q_row c_rowMany c_thrown c_length c_at c_wrong q_read q_outerCell q_outerDoor c_outerMany q_walked c_walkedMany c_cameOut q_onWalks q_far q_aside q_wasFull q_undos q_was c_undoMany c_drawn q_kept q_isKept, aI k q_now 189 c_now, aI k q_read 720 c_read, aB k q_text 80 c_text, aI k q_undos 1512 c_undos, aI k q_was 189 c_was] [(0, .ref q_this), (1, .int n1), (3, .int n3)] 73 [] := by
        intro n
        induction n with
        | zero => intro c_at c_length c_thrown c_typed c_undoMany c_wrong c_now c_read c_undos c_was n1 n3 hf; cases hf
        | succ n ih73 =>
          obtain ⟨rc73, hrc73⟩ : ∃ f9, f9 = lfix (fX8_exchange_b73 c_text rc13) (fun _ _ _ _ _ _ _ _ _ _ _ _ => none) n := ⟨_, rfl⟩
          rw [← hrc73] at ih73
          intro c_at c_length c_thrown c_typed c_undoMany c_wrong c_now c_read c_undos c_was n1 n3 hf
          have hf : fX8_exchange_b73 c_text rc13 rc73 c_at c_length c_thrown c_typed c_undoMany c_wrong c_now c_read c_undos c_was n1 n3 = some (r_, w_at, w_length, w_thrown, w_typed, w_undoMany, w_wrong, w_now, w_read, w_undos, w_was) := by rw [hrc73]; exact hf
          unfold fX8_exchange_b73 at hf
          refine ww_iload_n (pc := 73) C dX8_exchange_73 rfl 2 rfl ?_
          refine ww_iconst (pc := 74) C dX8_exchange_74 kI_3 ?_
          refine ww_icmp_ge (pc := 75) (tgt := 114) C dX8_exchange_75 (by decide) (fun hc => ?_) (fun hc => ?_)
          · have hf := ifT hc hf
            exact ww_lv [0, 1] rfl (hJ114 c_at c_length c_thrown c_typed c_undoMany c_wrong c_now c_read c_undos c_was n1 hf)
          · have hf := ifF hc hf
            refine ww_aload_n (pc := 78) C dX8_exchange_78 rfl 0 rfl ?_
            obtain ⟨v1, h1, hf⟩ := bsome hf
            refine ww_callVi0 (pc := 79) (As := []) (rest := []) C (tX8_fine l D k q_this q_now q_text q_row q_read q_outerCell q_outerDoor q_walked q_onWalks q_far q_aside q_wasFull q_undos q_was q_kept q_isKept c_typed c_rowMany c_thrown c_length c_at c_wrong c_outerMany c_walkedMany c_cameOut c_undoMany c_drawn v1 h1) cv_X8_138 ⟨⟨by decide, by decide⟩, rfl, rfl⟩ 0 rfl rfl [0] rfl rfl rfl rfl (Nat.le_of_ble_eq_true rfl) ⟨Nat.zero_le _, Nat.zero_le _⟩ dX8_exchange_79 (fun hb1 => ?_)
            refine ww_if_eq (pc := 82) (tgt := 114) C dX8_exchange_82 (by decide) (fun hc => ?_) (fun hc => ?_)
            · have hf := ifT hc hf
              exact ww_lv [0, 1] rfl (hJ114 c_at c_length c_thrown c_typed c_undoMany c_wrong c_now c_read c_undos c_was n1 hf)
            · have hf := ifF hc hf
              refine ww_aload_n (pc := 85) C dX8_exchange_85 rfl 0 rfl ?_
              refine gf8_9 (pc := 86) C kf_X8_21 0 rfl rfl dX8_exchange_86 ?_
              refine ww_bipush (pc := 89) C dX8_exchange_89 kB_6 ?_
              refine ww_iload_n (pc := 91) C dX8_exchange_91 rfl 1 rfl ?_
              refine ww_imul (pc := 92) C dX8_exchange_92  ?_
              refine ww_iconst (pc := 93) C dX8_exchange_93 kI_3 ?_
              refine ww_iadd (pc := 94) C dX8_exchange_94  ?_
              refine ww_iload_n (pc := 95) C dX8_exchange_95 rfl 2 rfl ?_
              refine ww_iadd (pc := 96) C dX8_exchange_96  ?_
              refine ww_aload_n (pc := 97) C dX8_exchange_97 rfl 0 rfl ?_
              refine ww_bipush (pc := 98) C dX8_exchange_98 kB_49 ?_
              refine ww_bipush (pc := 100) C dX8_exchange_100 kB_9 ?_
              obtain ⟨v2, v3, v4, h2, hf⟩ := bd3_some hf
              refine ww_callVi (pc := 102) (ws' := [oX8 q_this q_now q_text c_typed q_row c_rowMany c_thrown c_length v3 v4 q_read q_outerCell q_outerDoor c_outerMany q_walked c_walkedMany c_cameOut q_onWalks q_far q_aside q_wasFull q_undos q_was c_undoMany c_drawn q_kept q_isKept, aI k q_now 189 c_now, aI k q_read 720 c_read, aB k q_text 80 c_text, aI k q_undos 1512 c_undos, aI k q_was 189 c_was]) (As := [.int (49 : Int32), .int (9 : Int32)]) (rest := [.int ((((6 : Int32) * n1) + (3 : Int32)) + n3), .ref q_read]) C (tX8_oneOf l D k q_this q_now q_text q_row q_read q_outerCell q_outerDoor q_walked q_onWalks q_far q_aside q_wasFull q_undos q_was q_kept q_isKept c_typed c_rowMany c_thrown c_length c_at c_wrong c_outerMany c_walkedMany c_cameOut c_undoMany c_drawn c_text (49 : Int32) (9 : Int32) v2 v3 v4 h2) cv_X8_149 ⟨⟨by decide, by decide⟩, rfl, rfl⟩ 0 rfl rfl [0, 3] rfl rfl rfl rfl rfl rfl (Nat.le_of_ble_eq_true rfl) ⟨Nat.zero_le _, Nat.zero_le _⟩ dX8_exchange_102 (fun hb2 => ?_)
              refine ww_iconst (pc := 105) C dX8_exchange_105 kI_1 ?_
              refine ww_iadd (pc := 106) C dX8_exchange_106  ?_
              obtain ⟨v5, h5, hf⟩ := bsome hf
              refine ww_iast (pc := 107) (ws' := [oX8 q_this q_now q_text c_typed q_row c_rowMany c_thrown c_length v3 v4 q_read q_outerCell q_outerDoor c_outerMany q_walked c_walkedMany c_cameOut q_onWalks q_far q_aside q_wasFull q_undos q_was c_undoMany c_drawn q_kept q_isKept, aI k q_now 189 c_now, aI k q_read 720 v5, aB k q_text 80 c_text, aI k q_undos 1512 c_undos, aI k q_was 189 c_was]) C 2 rfl h5 rfl dX8_exchange_107 ?_
              obtain ⟨v6, h6, hf⟩ := bsome hf
              refine ww_iincN (pc := 108) (lv' := [(3, .int v6), (0, .ref q_this), (1, .int n1)]) (j := 2) C dX8_exchange_108 kI_1 rfl h6 (by decide) rfl ?_
              refine ww_goto (pc := 111) (tgt := 73) C dX8_exchange_111 (by decide) ?_
              exact ww_lv [1, 2, 0] rfl (ih73 v3 c_length c_thrown c_typed c_undoMany v4 c_now v5 c_undos c_was n1 v6 hf)
      have hL34 : ∀ (n : Nat) (c_at : Int32) (c_length : Int32) (c_thrown : Int32) (c_typed : Int32) (c_undoMany : Int32) (c_wrong : Int32) (c_now : Nat → Int32) (c_read : Nat → Int32) (c_undos : Nat → Int32) (c_was : Nat → Int32) (n1 : Int32) (n3 : Int32), lfix (fX8_exchange_b34 c_text rc13) (fun _ _ _ _ _ _ _ _ _ _ _ _ => none) n c_at c_length c_thrown c_typed c_undoMany c_wrong c_now c_read c_undos c_was n1 n3 = some (r_, w_at, w_length, w_thrown, w_typed, w_undoMany, w_wrong, w_now, w_read, w_undos, w_was) → WW p l e (RM 6 141) s m args below meth c Q 5 D A 0 0 [oX8 q_this q_now q_text c_typed q_row c_rowMany c_thrown c_length c_at c_wrong q_read q_outerCell q_outerDoor c_outerMany q_walked c_walkedMany c_cameOut q_onWalks q_far q_aside q_wasFull q_undos q_was c_undoMany c_drawn q_kept q_isKept, aI k q_now 189 c_now, aI k q_read 720 c_read, aB k q_text 80 c_text, aI k q_undos 1512 c_undos, aI k q_was 189 c_was] [(0, .ref q_this), (1, .int n1), (3, .int n3)] 34 [] := by
        intro n
        induction n with
        | zero => intro c_at c_length c_thrown c_typed c_undoMany c_wrong c_now c_read c_undos c_was n1 n3 hf; cases hf
        | succ n ih34 =>
          obtain ⟨rc34, hrc34⟩ : ∃ f9, f9 = lfix (fX8_exchange_b34 c_text rc13) (fun _ _ _ _ _ _ _ _ _ _ _ _ => none) n := ⟨_, rfl⟩
          rw [← hrc34] at ih34
          intro c_at c_length c_thrown c_typed c_undoMany c_wrong c_now c_read c_undos c_was n1 n3 hf
          have hf : fX8_exchange_b34 c_text rc13 rc34 c_at c_length c_thrown c_typed c_undoMany c_wrong c_now c_read c_undos c_was n1 n3 = some (r_, w_at, w_length, w_thrown, w_typed, w_undoMany, w_wrong, w_now, w_read, w_undos, w_was) := by rw [hrc34]; exact hf
          unfold fX8_exchange_b34 at hf
          refine ww_iload_n (pc := 34) C dX8_exchange_34 rfl 2 rfl ?_
          refine ww_iconst (pc := 35) C dX8_exchange_35 kI_3 ?_
          refine ww_icmp_ge (pc := 36) (tgt := 71) C dX8_exchange_36 (by decide) (fun hc => ?_) (fun hc => ?_)
          · have hf := ifT hc hf
            refine ww_iconst (pc := 71) C dX8_exchange_71 kI_0 ?_
            refine ww_istore_n (pc := 72) (lv' := [(3, .int (0 : Int32)), (0, .ref q_this), (1, .int n1)]) C dX8_exchange_72 rfl (by decide) rfl ?_
            exact ww_lv [1, 2, 0] rfl (hL73 FU c_at c_length c_thrown c_typed c_undoMany c_wrong c_now c_read c_undos c_was n1 (0 : Int32) hf)
          · have hf := ifF hc hf
            refine ww_aload_n (pc := 39) C dX8_exchange_39 rfl 0 rfl ?_
            obtain ⟨v1, h1, hf⟩ := bsome hf
            refine ww_callVi0 (pc := 40) (As := []) (rest := []) C (tX8_fine l D k q_this q_now q_text q_row q_read q_outerCell q_outerDoor q_walked q_onWalks q_far q_aside q_wasFull q_undos q_was q_kept q_isKept c_typed c_rowMany c_thrown c_length c_at c_wrong c_outerMany c_walkedMany c_cameOut c_undoMany c_drawn v1 h1) cv_X8_138 ⟨⟨by decide, by decide⟩, rfl, rfl⟩ 0 rfl rfl [0] rfl rfl rfl rfl (Nat.le_of_ble_eq_true rfl) ⟨Nat.zero_le _, Nat.zero_le _⟩ dX8_exchange_40 (fun hb1 => ?_)
            refine ww_if_eq (pc := 43) (tgt := 71) C dX8_exchange_43 (by decide) (fun hc => ?_) (fun hc => ?_)
            · have hf := ifT hc hf
              refine ww_iconst (pc := 71) C dX8_exchange_71 kI_0 ?_
              refine ww_istore_n (pc := 72) (lv' := [(3, .int (0 : Int32)), (0, .ref q_this), (1, .int n1)]) C dX8_exchange_72 rfl (by decide) rfl ?_
              exact ww_lv [1, 2, 0] rfl (hL73 FU c_at c_length c_thrown c_typed c_undoMany c_wrong c_now c_read c_undos c_was n1 (0 : Int32) hf)
            · have hf := ifF hc hf
              refine ww_aload_n (pc := 46) C dX8_exchange_46 rfl 0 rfl ?_
              refine gf8_9 (pc := 47) C kf_X8_21 0 rfl rfl dX8_exchange_47 ?_
              refine ww_bipush (pc := 50) C dX8_exchange_50 kB_6 ?_
              refine ww_iload_n (pc := 52) C dX8_exchange_52 rfl 1 rfl ?_
              refine ww_imul (pc := 53) C dX8_exchange_53  ?_
              refine ww_iload_n (pc := 54) C dX8_exchange_54 rfl 2 rfl ?_
              refine ww_iadd (pc := 55) C dX8_exchange_55  ?_
              refine ww_aload_n (pc := 56) C dX8_exchange_56 rfl 0 rfl ?_
              refine ww_bipush (pc := 57) C dX8_exchange_57 kB_48 ?_
              refine ww_bipush (pc := 59) C dX8_exchange_59 kB_10 ?_
              obtain ⟨v2, v3, v4, h2, hf⟩ := bd3_some hf
              refine ww_callVi (pc := 61) (ws' := [oX8 q_this q_now q_text c_typed q_row c_rowMany c_thrown c_length v3 v4 q_read q_outerCell q_outerDoor c_outerMany q_walked c_walkedMany c_cameOut q_onWalks q_far q_aside q_wasFull q_undos q_was c_undoMany c_drawn q_kept q_isKept, aI k q_now 189 c_now, aI k q_read 720 c_read, aB k q_text 80 c_text, aI k q_undos 1512 c_undos, aI k q_was 189 c_was]) (As := [.int (48 : Int32), .int (10 : Int32)]) (rest := [.int (((6 : Int32) * n1) + n3), .ref q_read]) C (tX8_oneOf l D k q_this q_now q_text q_row q_read q_outerCell q_outerDoor q_walked q_onWalks q_far q_aside q_wasFull q_undos q_was q_kept q_isKept c_typed c_rowMany c_thrown c_length c_at c_wrong c_outerMany c_walkedMany c_cameOut c_undoMany c_drawn c_text (48 : Int32) (10 : Int32) v2 v3 v4 h2) cv_X8_149 ⟨⟨by decide, by decide⟩, rfl, rfl⟩ 0 rfl rfl [0, 3] rfl rfl rfl rfl rfl rfl (Nat.le_of_ble_eq_true rfl) ⟨Nat.zero_le _, Nat.zero_le _⟩ dX8_exchange_61 (fun hb2 => ?_)
              obtain ⟨v5, h5, hf⟩ := bsome hf
              refine ww_iast (pc := 64) (ws' := [oX8 q_this q_now q_text c_typed q_row c_rowMany c_thrown c_length v3 v4 q_read q_outerCell q_outerDoor c_outerMany q_walked c_walkedMany c_cameOut q_onWalks q_far q_aside q_wasFull q_undos q_was c_undoMany c_drawn q_kept q_isKept, aI k q_now 189 c_now, aI k q_read 720 v5, aB k q_text 80 c_text, aI k q_undos 1512 c_undos, aI k q_was 189 c_was]) C 2 rfl h5 rfl dX8_exchange_64 ?_
              obtain ⟨v6, h6, hf⟩ := bsome hf
              refine ww_iincN (pc := 65) (lv' := [(3, .int v6), (0, .ref q_this), (1, .int n1)]) (j := 2) C dX8_exchange_65 kI_1 rfl h6 (by decide) rfl ?_
              refine ww_goto (pc := 68) (tgt := 34) C dX8_exchange_68 (by decide) ?_
              exact ww_lv [1, 2, 0] rfl (ih34 v3 c_length c_thrown c_typed c_undoMany v4 c_now v5 c_undos c_was n1 v6 hf)
      intro c_at c_length c_thrown c_typed c_undoMany c_wrong c_now c_read c_undos c_was n1 n2 hf
      have hf : fX8_exchange_b13 c_text rc13 c_at c_length c_thrown c_typed c_undoMany c_wrong c_now c_read c_undos c_was n1 n2 = some (r_, w_at, w_length, w_thrown, w_typed, w_undoMany, w_wrong, w_now, w_read, w_undos, w_was) := by rw [hrc13]; exact hf
      unfold fX8_exchange_b13 at hf
      refine ww_iload_n (pc := 13) C dX8_exchange_13 rfl 2 rfl ?_
      refine ww_if_eq (pc := 14) (tgt := 127) C dX8_exchange_14 (by decide) (fun hc => ?_) (fun hc => ?_)
      · have hf := ifT hc hf
        refine ww_aload_n (pc := 127) C dX8_exchange_127 rfl 0 rfl ?_
        obtain ⟨v1, v2, h1, hf⟩ := bd2_some hf
        refine ww_callVi (pc := 128) (ws' := [oX8 q_this q_now q_text c_typed q_row c_rowMany c_thrown c_length c_at v2 q_read q_outerCell q_outerDoor c_outerMany q_walked c_walkedMany c_cameOut q_onWalks q_far q_aside q_wasFull q_undos q_was c_undoMany c_drawn q_kept q_isKept, aI k q_now 189 c_now, aI k q_read 720 c_read, aB k q_text 80 c_text, aI k q_undos 1512 c_undos, aI k q_was 189 c_was]) (As := []) (rest := []) C (tX8_wasRight l D k q_this q_now q_text q_row q_read q_outerCell q_outerDoor q_walked q_onWalks q_far q_aside q_wasFull q_undos q_was q_kept q_isKept c_typed c_rowMany c_thrown c_length c_at c_wrong c_outerMany c_walkedMany c_cameOut c_undoMany c_drawn v1 v2 h1) cv_X8_159 ⟨⟨by decide, by decide⟩, rfl, rfl⟩ 0 rfl rfl [0] rfl rfl rfl rfl rfl rfl (Nat.le_of_ble_eq_true rfl) ⟨Nat.zero_le _, Nat.zero_le _⟩ dX8_exchange_128 (fun hb1 => ?_)
        refine ww_if_ne (pc := 131) (tgt := 141) C dX8_exchange_131 (by decide) (fun hc => ?_) (fun hc => ?_)
        · have hf := ifF hc hf
          refine ww_aload_n (pc := 141) C dX8_exchange_141 rfl 0 rfl ?_
          obtain ⟨v3, v4, v5, h3, hf⟩ := bd3_some hf
          refine ww_callVv (pc := 142) (ws' := [oX8 q_this q_now q_text c_typed q_row c_rowMany c_thrown c_length c_at v2 q_read q_outerCell q_outerDoor c_outerMany q_walked c_walkedMany c_cameOut q_onWalks q_far q_aside q_wasFull q_undos q_was v3 c_drawn q_kept q_isKept, aI k q_now 189 c_now, aI k q_read 720 c_read, aB k q_text 80 c_text, aI k q_undos 1512 v4, aI k q_was 189 v5]) (As := []) (rest := []) C (tX8_change l D k q_this q_now q_text q_row q_read q_outerCell q_outerDoor q_walked q_onWalks q_far q_aside q_wasFull q_undos q_was q_kept q_isKept c_typed c_rowMany c_thrown c_length c_at v2 c_outerMany c_walkedMany c_cameOut c_undoMany c_drawn c_now c_undos c_was v3 v4 v5 h3) cv_X8_162 ⟨⟨by decide, by decide⟩, rfl, rfl⟩ 0 rfl rfl [0, 1, 4, 5] rfl rfl rfl rfl rfl rfl (Nat.le_of_ble_eq_true rfl) ⟨Nat.zero_le _, Nat.zero_le _⟩ dX8_exchange_142 ?_
          refine ww_aload_n (pc := 145) C dX8_exchange_145 rfl 0 rfl ?_
          refine gf8_0 (pc := 146) C kf_X8_9 0 rfl rfl dX8_exchange_146 ?_
          refine ww_iconst (pc := 149) C dX8_exchange_149 kI_2 ?_
          refine ww_iload_n (pc := 150) C dX8_exchange_150 rfl 1 rfl ?_
          obtain ⟨v6, h6, hf⟩ := bsome hf
          refine ww_iast (pc := 151) (ws' := [oX8 q_this q_now q_text c_typed q_row c_rowMany c_thrown c_length c_at v2 q_read q_outerCell q_outerDoor c_outerMany q_walked c_walkedMany c_cameOut q_onWalks q_far q_aside q_wasFull q_undos q_was v3 c_drawn q_kept q_isKept, aI k q_now 189 v6, aI k q_read 720 c_read, aB k q_text 80 c_text, aI k q_undos 1512 v4, aI k q_was 189 v5]) C 1 rfl h6 rfl dX8_exchange_151 ?_
          refine ww_iconst (pc := 152) C dX8_exchange_152 kI_0 ?_
          refine ww_istore_n (pc := 153) (lv' := [(3, .int (0 : Int32)), (0, .ref q_this), (1, .int n1), (2, .int n2)]) C dX8_exchange_153 rfl (by decide) rfl ?_
          exact ww_lv [1, 2, 0] rfl (hL154 FU c_at c_length c_thrown c_typed v3 v2 v6 c_read v4 v5 n1 (0 : Int32) hf)
        · have hf := ifT hc hf
          refine ww_iconst (pc := 134) C dX8_exchange_134 kI_m1 ?_
          refine ww_aload_n (pc := 135) C dX8_exchange_135 rfl 0 rfl ?_
          refine gf8_8 (pc := 136) C kf_X8_135 0 rfl rfl dX8_exchange_136 ?_
          refine ww_isub (pc := 139) C dX8_exchange_139  ?_
          obtain ⟨e0, e1, e2, e3, e4, e5, e6, e7, e8, e9, e10⟩ := ij11 hf
          exact hret _ _ 140 _ dX8_exchange_140 rfl e0 (by rw [← e1, ← e2, ← e3, ← e4, ← e5, ← e6, ← e7, ← e8, ← e9, ← e10])
      · have hf := ifF hc hf
        refine ww_iload_n (pc := 17) C dX8_exchange_17 rfl 1 rfl ?_
        refine ww_iconst (pc := 18) C dX8_exchange_18 kI_4 ?_
        refine ww_icmp_ne (pc := 19) (tgt := 32) C dX8_exchange_19 (by decide) (fun hc => ?_) (fun hc => ?_)
        · have hf := ifF hc hf
          refine ww_iconst (pc := 32) C dX8_exchange_32 kI_0 ?_
          refine ww_istore_n (pc := 33) (lv' := [(3, .int (0 : Int32)), (0, .ref q_this), (1, .int n1), (2, .int n2)]) C dX8_exchange_33 rfl (by decide) rfl ?_
          exact ww_lv [1, 2, 0] rfl (hL34 FU c_at c_length c_thrown c_typed c_undoMany c_wrong c_now c_read c_undos c_was n1 (0 : Int32) hf)
        · have hf := ifT hc hf
          refine ww_aload_n (pc := 22) C dX8_exchange_22 rfl 0 rfl ?_
          refine ww_aload_n (pc := 23) C dX8_exchange_23 rfl 0 rfl ?_
          refine gf8_7 (pc := 24) C kf_X8_132 0 rfl rfl dX8_exchange_24 ?_
          refine ww_iconst (pc := 27) C dX8_exchange_27 kI_1 ?_
          refine ww_isub (pc := 28) C dX8_exchange_28  ?_
          obtain ⟨v7, h7, hf⟩ := bsome hf
          refine ww_callVv (pc := 29) (ws' := [oX8 q_this q_now q_text c_typed q_row c_rowMany c_thrown c_length c_at v7 q_read q_outerCell q_outerDoor c_outerMany q_walked c_walkedMany c_cameOut q_onWalks q_far q_aside q_wasFull q_undos q_was c_undoMany c_drawn q_kept q_isKept, aI k q_now 189 c_now, aI k q_read 720 c_read, aB k q_text 80 c_text, aI k q_undos 1512 c_undos, aI k q_was 189 c_was]) (As := [.int (c_at - (1 : Int32))]) (rest := []) C (tX8_fault l D k q_this q_now q_text q_row q_read q_outerCell q_outerDoor q_walked q_onWalks q_far q_aside q_wasFull q_undos q_was q_kept q_isKept c_typed c_rowMany c_thrown c_length c_at c_wrong c_outerMany c_walkedMany c_cameOut c_undoMany c_drawn (c_at - (1 : Int32)) v7 h7) cv_X8_145 ⟨⟨by decide, by decide⟩, rfl, rfl⟩ 0 rfl rfl [0] rfl rfl rfl rfl rfl rfl (Nat.le_of_ble_eq_true rfl) ⟨Nat.zero_le _, Nat.zero_le _⟩ dX8_exchange_29 ?_
          refine ww_iconst (pc := 32) C dX8_exchange_32 kI_0 ?_
          refine ww_istore_n (pc := 33) (lv' := [(3, .int (0 : Int32)), (0, .ref q_this), (1, .int n1), (2, .int n2)]) C dX8_exchange_33 rfl (by decide) rfl ?_
          exact ww_lv [1, 2, 0] rfl (hL34 FU c_at c_length c_thrown c_typed c_undoMany v7 c_now c_read c_undos c_was n1 (0 : Int32) hf)
  unfold fX8_exchange at hf
  refine ww_aload_n (pc := 0) C dX8_exchange_0 rfl 0 rfl ?_
  refine ww_iconst (pc := 1) C dX8_exchange_1 kI_0 ?_
  refine pf8_5 (pc := 2) (ws' := [oX8 q_this q_now q_text c_typed q_row c_rowMany (0 : Int32) c_length c_at c_wrong q_read q_outerCell q_outerDoor c_outerMany q_walked c_walkedMany c_cameOut q_onWalks q_far q_aside q_wasFull q_undos q_was c_undoMany c_drawn q_kept q_isKept, aI k q_now 189 c_now, aI k q_read 720 c_read, aB k q_text 80 c_text, aI k q_undos 1512 c_undos, aI k q_was 189 c_was]) C kf_X8_61 0 rfl (Nat.le_of_ble_eq_true rfl) rfl dX8_exchange_2 ?_
  refine ww_aload_n (pc := 5) C dX8_exchange_5 rfl 0 rfl ?_
  obtain ⟨v1, v2, v3, v4, h1, hf⟩ := bd4_some hf
  refine ww_callVv (pc := 6) (ws' := [oX8 q_this q_now q_text v3 q_row c_rowMany (0 : Int32) v2 v1 v4 q_read q_outerCell q_outerDoor c_outerMany q_walked c_walkedMany c_cameOut q_onWalks q_far q_aside q_wasFull q_undos q_was c_undoMany c_drawn q_kept q_isKept, aI k q_now 189 c_now, aI k q_read 720 c_read, aB k q_text 80 c_text, aI k q_undos 1512 c_undos, aI k q_was 189 c_was]) (As := []) (rest := []) C (tX8_begin l D k q_this q_now q_text q_row q_read q_outerCell q_outerDoor q_walked q_onWalks q_far q_aside q_wasFull q_undos q_was q_kept q_isKept c_typed c_rowMany (0 : Int32) c_length c_at c_wrong c_outerMany c_walkedMany c_cameOut c_undoMany c_drawn v1 v2 v3 v4 h1) cv_X8_153 ⟨⟨by decide, by decide⟩, rfl, rfl⟩ 0 rfl rfl [0] rfl rfl rfl rfl rfl rfl (Nat.le_of_ble_eq_true rfl) ⟨Nat.zero_le _, Nat.zero_le _⟩ dX8_exchange_6 ?_
  refine ww_iconst (pc := 9) C dX8_exchange_9 kI_0 ?_
  refine ww_istore_n (pc := 10) (lv' := [(1, .int (0 : Int32)), (0, .ref q_this)]) C dX8_exchange_10 rfl (by decide) rfl ?_
  refine ww_iconst (pc := 11) C dX8_exchange_11 kI_1 ?_
  refine ww_istore_n (pc := 12) (lv' := [(2, .int (1 : Int32)), (1, .int (0 : Int32)), (0, .ref q_this)]) C dX8_exchange_12 rfl (by decide) rfl ?_
  exact ww_lv [2, 1, 0] rfl (hL13 FU v1 v2 (0 : Int32) v3 c_undoMany v4 c_now c_read c_undos c_was (0 : Int32) (1 : Int32) hf)
def fX8_map_b137 (c_text : Nat → Int32) (rc137 : Int32 → Int32 → Int32 → Int32 → Int32 → Int32 → (Nat → Int32) → (Nat → Int32) → (Nat → Int32) → (Nat → Int32) → Int32 → Int32 → Option (Int32 × Int32 × Int32 × Int32 × Int32 × Int32 × Int32 × (Nat → Int32) × (Nat → Int32) × (Nat → Int32) × (Nat → Int32))) (c_at : Int32) (c_length : Int32) (c_thrown : Int32) (c_typed : Int32) (c_undoMany : Int32) (c_wrong : Int32) (c_now : Nat → Int32) (c_read : Nat → Int32) (c_undos : Nat → Int32) (c_was : Nat → Int32) (n1 : Int32) (n2 : Int32) : Option (Int32 × Int32 × Int32 × Int32 × Int32 × Int32 × Int32 × (Nat → Int32) × (Nat → Int32) × (Nat → Int32) × (Nat → Int32)) := if (9 : Int32) ≤ n2 then (ast 189 (1 : Int32) c_now (2 : Int32)).bind fun v1 => (fX8_layRule v1).bind fun v2 => some (n1, c_at, c_length, c_thrown, c_typed, c_undoMany, c_wrong, v2, c_read, c_undos, c_was) else (ald 720 n2 c_read).bind fun v3 => (ast 189 ((27 : Int32) + n2) c_now v3).bind fun v4 => (some (n2 + (1 : Int32))).bind fun v5 => rc137 c_at c_length c_thrown c_typed c_undoMany c_wrong v4 c_read c_undos c_was n1 v5
def fX8_map_b11 (c_text : Nat → Int32) (rc11 : Int32 → Int32 → Int32 → Int32 → Int32 → Int32 → (Nat → Int32) → (Nat → Int32) → (Nat → Int32) → (Nat → Int32) → Int32 → Option (Int32 × Int32 × Int32 × Int32 × Int32 × Int32 × Int32 × (Nat → Int32) × (Nat → Int32) × (Nat → Int32) × (Nat → Int32))) (c_at : Int32) (c_length : Int32) (c_thrown : Int32) (c_typed : Int32) (c_undoMany : Int32) (c_wrong : Int32) (c_now : Nat → Int32) (c_read : Nat → Int32) (c_undos : Nat → Int32) (c_was : Nat → Int32) (n1 : Int32) : Option (Int32 × Int32 × Int32 × Int32 × Int32 × Int32 × Int32 × (Nat → Int32) × (Nat → Int32) × (Nat → Int32) × (Nat → Int32)) := if (9 : Int32) ≤ n1 then bd2 (fX8_wasRight c_at c_length c_wrong) fun v1 v2 => if v1 = 0 then some (((-1 : Int32) - v2), c_at, c_length, c_thrown, c_typed, c_undoMany, v2, c_now, c_read, c_undos, c_was) else (ald 720 (0 : Int32) c_read).bind fun v3 => (ald 720 (3 : Int32) c_read).bind fun v4 => (ald 720 (6 : Int32) c_read).bind fun v5 => (some ((v3 + v4) + v5)).bind fun v6 => if v6 = 0 then some ((-200 : Int32), c_at, c_length, c_thrown, c_typed, c_undoMany, v2, c_now, c_read, c_undos, c_was) else (ald 720 (1 : Int32) c_read).bind fun v7 => (ald 720 (4 : Int32) c_read).bind fun v8 => (ald 720 (7 : Int32) c_read).bind fun v9 => if ((v7 + v8) + v9) = v6 then (ald 720 (2 : Int32) c_read).bind fun v10 => (ald 720 (5 : Int32) c_read).bind fun v11 => (ald 720 (8 : Int32) c_read).bind fun v12 => if ((v10 + v11) + v12) = v6 then bd3 (fX8_change c_now c_undoMany c_undos c_was) fun v13 v14 v15 => lfix (fX8_map_b137 c_text) (fun _ _ _ _ _ _ _ _ _ _ _ _ => none) FU c_at c_length c_thrown c_typed v13 v2 c_now c_read v14 v15 v6 (0 : Int32) else some ((-200 : Int32), c_at, c_length, c_thrown, c_typed, c_undoMany, v2, c_now, c_read, c_undos, c_was) else some ((-200 : Int32), c_at, c_length, c_thrown, c_typed, c_undoMany, v2, c_now, c_read, c_undos, c_was) else bd3 (fX8_oneOf c_length c_text c_at c_wrong (48 : Int32) (10 : Int32)) fun v16 v17 v18 => (ast 720 n1 c_read v16).bind fun v19 => (some (n1 + (1 : Int32))).bind fun v20 => rc11 v17 c_length c_thrown c_typed c_undoMany v18 c_now v19 c_undos c_was v20
def fX8_map (c_text : Nat → Int32) (c_at : Int32) (c_length : Int32) (c_thrown : Int32) (c_typed : Int32) (c_undoMany : Int32) (c_wrong : Int32) (c_now : Nat → Int32) (c_read : Nat → Int32) (c_undos : Nat → Int32) (c_was : Nat → Int32) : Option (Int32 × Int32 × Int32 × Int32 × Int32 × Int32 × Int32 × (Nat → Int32) × (Nat → Int32) × (Nat → Int32) × (Nat → Int32)) := bd4 (fX8_begin c_at c_length c_typed c_wrong) fun v1 v2 v3 v4 => lfix (fX8_map_b11 c_text) (fun _ _ _ _ _ _ _ _ _ _ _ => none) FU v1 v2 (0 : Int32) v3 c_undoMany v4 c_now c_read c_undos c_was (0 : Int32)
set_option maxHeartbeats 4000000 in
set_option maxRecDepth 100000 in
theorem tX8_map (l : Launch) (D : va_G) (k : Nat → ClassId) (q_this q_now q_text q_row q_read q_outerCell q_outerDoor q_walked q_onWalks q_far q_aside q_wasFull q_undos q_was q_kept q_isKept : Nat) (c_typed : Int32) (c_rowMany : Int32) (c_thrown : Int32) (c_length : Int32) (c_at : Int32) (c_wrong : Int32) (c_outerMany : Int32) (c_walkedMany : Int32) (c_cameOut : Int32) (c_undoMany : Int32) (c_drawn : Int32) (c_now : Nat → Int32) (c_read : Nat → Int32) (c_text : Nat → Int32) (c_undos : Nat → Int32) (c_was : Nat → Int32)  (r_ : Int32) (w_at : Int32) (w_length : Int32) (w_thrown : Int32) (w_typed : Int32) (w_undoMany : Int32) (w_wrong : Int32) (w_now : Nat → Int32) (w_read : Nat → Int32) (w_undos : Nat → Int32) (w_was : Nat → Int32) (hf : fX8_map c_text c_at c_length c_thrown c_typed c_undoMany c_wrong c_now c_read c_undos c_was = some (r_, w_at, w_length, w_thrown, w_typed, w_undoMany, w_wrong, w_now, w_read, w_undos, w_was)) : MI l yX8_map cX8_map 3 .int (RM 6 141) D k [.ref q_this] [oX8 q_this q_now q_text c_typed q_row c_rowMany c_thrown c_length c_at c_wrong q_read q_outerCell q_outerDoor c_outerMany q_walked c_walkedMany c_cameOut q_onWalks q_far q_aside q_wasFull q_undos q_was c_undoMany c_drawn q_kept q_isKept, aI k q_now 189 c_now, aI k q_read 720 c_read, aB k q_text 80 c_text, aI k q_undos 1512 c_undos, aI k q_was 189 c_was] r_ [oX8 q_this q_now q_text w_typed q_row c_rowMany w_thrown w_length w_at w_wrong q_read q_outerCell q_outerDoor c_outerMany q_walked c_walkedMany c_cameOut q_onWalks q_far q_aside q_wasFull q_undos q_was w_undoMany c_drawn q_kept q_isKept, aI k q_now 189 w_now, aI k q_read 720 w_read, aB k q_text 80 c_text, aI k q_undos 1512 w_undos, aI k q_was 189 w_was] := by
  refine mkMI' (own := "DoorWalkModel") (by decide) rfl (Nat.le_of_ble_eq_true rfl) ?_
  intro p e s m args below meth c Q A hret C
  refine ww_lv (lv' := [(0, .ref q_this)]) [0] rfl ?_
  have hL137 : ∀ (n : Nat) (c_at : Int32) (c_length : Int32) (c_thrown : Int32) (c_typed : Int32) (c_undoMany : Int32) (c_wrong : Int32) (c_now : Nat → Int32) (c_read : Nat → Int32) (c_undos : Nat → Int32) (c_was : Nat → Int32) (n1 : Int32) (n2 : Int32), lfix (fX8_map_b137 c_text) (fun _ _ _ _ _ _ _ _ _ _ _ _ => none) n c_at c_length c_thrown c_typed c_undoMany c_wrong c_now c_read c_undos c_was n1 n2 = some (r_, w_at, w_length, w_thrown, w_typed, w_undoMany, w_wrong, w_now, w_read, w_undos, w_was) → WW p l e (RM 6 141) s m args below meth c Q 3 D A 0 0 [oX8 q_this q_now q_text c_typed q_row c_rowMany c_thrown c_length c_at c_wrong q_read q_outerCell q_outerDoor c_outerMany q_walked c_walkedMany c_cameOut q_onWalks q_far q_aside q_wasFull q_undos q_was c_undoMany c_drawn q_kept q_isKept, aI k q_now 189 c_now, aI k q_read 720 c_read, aB k q_text 80 c_text, aI k q_undos 1512 c_undos, aI k q_was 189 c_was] [(0, .ref q_this), (1, .int n1), (2, .int n2)] 137 [] := by
    intro n
    induction n with
    | zero => intro c_at c_length c_thrown c_typed c_undoMany c_wrong c_now c_read c_undos c_was n1 n2 hf; cases hf
    | succ n ih137 =>
      obtain ⟨rc137, hrc137⟩ : ∃ f9, f9 = lfix (fX8_map_b137 c_text) (fun _ _ _ _ _ _ _ _ _ _ _ _ => none) n := ⟨_, rfl⟩
      rw [← hrc137] at ih137
      intro c_at c_length c_thrown c_typed c_undoMany c_wrong c_now c_read c_undos c_was n1 n2 hf
      have hf : fX8_map_b137 c_text rc137 c_at c_length c_thrown c_typed c_undoMany c_wrong c_now c_read c_undos c_was n1 n2 = some (r_, w_at, w_length, w_thrown, w_typed, w_undoMany, w_wrong, w_now, w_read, w_undos, w_was) := by rw [hrc137]; exact hf
      unfold fX8_map_b137 at hf
      refine ww_iload_n (pc := 137) C dX8_map_137 rfl 2 rfl ?_
      refine ww_bipush (pc := 138) C dX8_map_138 kB_9 ?_
      refine ww_icmp_ge (pc := 140) (tgt := 164) C dX8_map_140 (by decide) (fun hc => ?_) (fun hc => ?_)
      · have hf := ifT hc hf
        refine ww_aload_n (pc := 164) C dX8_map_164 rfl 0 rfl ?_
        refine gf8_0 (pc := 165) C kf_X8_9 0 rfl rfl dX8_map_165 ?_
        refine ww_iconst (pc := 168) C dX8_map_168 kI_1 ?_
        refine ww_iconst (pc := 169) C dX8_map_169 kI_2 ?_
        obtain ⟨v1, h1, hf⟩ := bsome hf
        refine ww_iast (pc := 170) (ws' := [oX8 q_this q_now q_text c_typed q_row c_rowMany c_thrown c_length c_at c_wrong q_read q_outerCell q_outerDoor c_outerMany q_walked c_walkedMany c_cameOut q_onWalks q_far q_aside q_wasFull q_undos q_was c_undoMany c_drawn q_kept q_isKept, aI k q_now 189 v1, aI k q_read 720 c_read, aB k q_text 80 c_text, aI k q_undos 1512 c_undos, aI k q_was 189 c_was]) C 1 rfl h1 rfl dX8_map_170 ?_
        refine ww_aload_n (pc := 171) C dX8_map_171 rfl 0 rfl ?_
        obtain ⟨v2, h2, hf⟩ := bsome hf
        refine ww_callVv (pc := 172) (ws' := [oX8 q_this q_now q_text c_typed q_row c_rowMany c_thrown c_length c_at c_wrong q_read q_outerCell q_outerDoor c_outerMany q_walked c_walkedMany c_cameOut q_onWalks q_far q_aside q_wasFull q_undos q_was c_undoMany c_drawn q_kept q_isKept, aI k q_now 189 v2, aI k q_read 720 c_read, aB k q_text 80 c_text, aI k q_undos 1512 c_undos, aI k q_was 189 c_was]) (As := []) (rest := []) C (tX8_layRule l D k q_this q_now q_text q_row q_read q_outerCell q_outerDoor q_walked q_onWalks q_far q_aside q_wasFull q_undos q_was q_kept q_isKept c_typed c_rowMany c_thrown c_length c_at c_wrong c_outerMany c_walkedMany c_cameOut c_undoMany c_drawn v1 v2 h2) cv_X8_169 ⟨⟨by decide, by decide⟩, rfl, rfl⟩ 0 rfl rfl [0, 1] rfl rfl rfl rfl rfl rfl (Nat.le_of_ble_eq_true rfl) ⟨Nat.zero_le _, Nat.zero_le _⟩ dX8_map_172 ?_
        refine ww_iload_n (pc := 175) C dX8_map_175 rfl 1 rfl ?_
        obtain ⟨e0, e1, e2, e3, e4, e5, e6, e7, e8, e9, e10⟩ := ij11 hf
        exact hret _ _ 176 _ dX8_map_176 rfl e0 (by rw [← e1, ← e2, ← e3, ← e4, ← e5, ← e6, ← e7, ← e8, ← e9, ← e10])
      · have hf := ifF hc hf
        refine ww_aload_n (pc := 143) C dX8_map_143 rfl 0 rfl ?_
        refine gf8_0 (pc := 144) C kf_X8_9 0 rfl rfl dX8_map_144 ?_
        refine ww_bipush (pc := 147) C dX8_map_147 kB_27 ?_
        refine ww_iload_n (pc := 149) C dX8_map_149 rfl 2 rfl ?_
        refine ww_iadd (pc := 150) C dX8_map_150  ?_
        refine ww_aload_n (pc := 151) C dX8_map_151 rfl 0 rfl ?_
        refine gf8_9 (pc := 152) C kf_X8_21 0 rfl rfl dX8_map_152 ?_
        refine ww_iload_n (pc := 155) C dX8_map_155 rfl 2 rfl ?_
        obtain ⟨v3, h3, hf⟩ := bsome hf
        refine ww_iald (pc := 156) C 2 rfl h3 dX8_map_156 ?_
        obtain ⟨v4, h4, hf⟩ := bsome hf
        refine ww_iast (pc := 157) (ws' := [oX8 q_this q_now q_text c_typed q_row c_rowMany c_thrown c_length c_at c_wrong q_read q_outerCell q_outerDoor c_outerMany q_walked c_walkedMany c_cameOut q_onWalks q_far q_aside q_wasFull q_undos q_was c_undoMany c_drawn q_kept q_isKept, aI k q_now 189 v4, aI k q_read 720 c_read, aB k q_text 80 c_text, aI k q_undos 1512 c_undos, aI k q_was 189 c_was]) C 1 rfl h4 rfl dX8_map_157 ?_
        obtain ⟨v5, h5, hf⟩ := bsome hf
        refine ww_iincN (pc := 158) (lv' := [(2, .int v5), (0, .ref q_this), (1, .int n1)]) (j := 2) C dX8_map_158 kI_1 rfl h5 (by decide) rfl ?_
        refine ww_goto (pc := 161) (tgt := 137) C dX8_map_161 (by decide) ?_
        exact ww_lv [1, 2, 0] rfl (ih137 c_at c_length c_thrown c_typed c_undoMany c_wrong v4 c_read c_undos c_was n1 v5 hf)
  have hL11 : ∀ (n : Nat) (c_at : Int32) (c_length : Int32) (c_thrown : Int32) (c_typed : Int32) (c_undoMany : Int32) (c_wrong : Int32) (c_now : Nat → Int32) (c_read : Nat → Int32) (c_undos : Nat → Int32) (c_was : Nat → Int32) (n1 : Int32), lfix (fX8_map_b11 c_text) (fun _ _ _ _ _ _ _ _ _ _ _ => none) n c_at c_length c_thrown c_typed c_undoMany c_wrong c_now c_read c_undos c_was n1 = some (r_, w_at, w_length, w_thrown, w_typed, w_undoMany, w_wrong, w_now, w_read, w_undos, w_was) → WW p l e (RM 6 141) s m args below meth c Q 3 D A 0 0 [oX8 q_this q_now q_text c_typed q_row c_rowMany c_thrown c_length c_at c_wrong q_read q_outerCell q_outerDoor c_outerMany q_walked c_walkedMany c_cameOut q_onWalks q_far q_aside q_wasFull q_undos q_was c_undoMany c_drawn q_kept q_isKept, aI k q_now 189 c_now, aI k q_read 720 c_read, aB k q_text 80 c_text, aI k q_undos 1512 c_undos, aI k q_was 189 c_was] [(0, .ref q_this), (1, .int n1)] 11 [] := by
    intro n
    induction n with
    | zero => intro c_at c_length c_thrown c_typed c_undoMany c_wrong c_now c_read c_undos c_was n1 hf; cases hf
    | succ n ih11 =>
      obtain ⟨rc11, hrc11⟩ : ∃ f9, f9 = lfix (fX8_map_b11 c_text) (fun _ _ _ _ _ _ _ _ _ _ _ => none) n := ⟨_, rfl⟩
      rw [← hrc11] at ih11
      intro c_at c_length c_thrown c_typed c_undoMany c_wrong c_now c_read c_undos c_was n1 hf
      have hf : fX8_map_b11 c_text rc11 c_at c_length c_thrown c_typed c_undoMany c_wrong c_now c_read c_undos c_was n1 = some (r_, w_at, w_length, w_thrown, w_typed, w_undoMany, w_wrong, w_now, w_read, w_undos, w_was) := by rw [hrc11]; exact hf
      unfold fX8_map_b11 at hf
      refine ww_iload_n (pc := 11) C dX8_map_11 rfl 1 rfl ?_
      refine ww_bipush (pc := 12) C dX8_map_12 kB_9 ?_
      refine ww_icmp_ge (pc := 14) (tgt := 37) C dX8_map_14 (by decide) (fun hc => ?_) (fun hc => ?_)
      · have hf := ifT hc hf
        refine ww_aload_n (pc := 37) C dX8_map_37 rfl 0 rfl ?_
        obtain ⟨v1, v2, h1, hf⟩ := bd2_some hf
        refine ww_callVi (pc := 38) (ws' := [oX8 q_this q_now q_text c_typed q_row c_rowMany c_thrown c_length c_at v2 q_read q_outerCell q_outerDoor c_outerMany q_walked c_walkedMany c_cameOut q_onWalks q_far q_aside q_wasFull q_undos q_was c_undoMany c_drawn q_kept q_isKept, aI k q_now 189 c_now, aI k q_read 720 c_read, aB k q_text 80 c_text, aI k q_undos 1512 c_undos, aI k q_was 189 c_was]) (As := []) (rest := []) C (tX8_wasRight l D k q_this q_now q_text q_row q_read q_outerCell q_outerDoor q_walked q_onWalks q_far q_aside q_wasFull q_undos q_was q_kept q_isKept c_typed c_rowMany c_thrown c_length c_at c_wrong c_outerMany c_walkedMany c_cameOut c_undoMany c_drawn v1 v2 h1) cv_X8_159 ⟨⟨by decide, by decide⟩, rfl, rfl⟩ 0 rfl rfl [0] rfl rfl rfl rfl rfl rfl (Nat.le_of_ble_eq_true rfl) ⟨Nat.zero_le _, Nat.zero_le _⟩ dX8_map_38 (fun hb1 => ?_)
        refine ww_if_ne (pc := 41) (tgt := 51) C dX8_map_41 (by decide) (fun hc => ?_) (fun hc => ?_)
        · have hf := ifF hc hf
          refine ww_aload_n (pc := 51) C dX8_map_51 rfl 0 rfl ?_
          refine gf8_9 (pc := 52) C kf_X8_21 0 rfl rfl dX8_map_52 ?_
          refine ww_iconst (pc := 55) C dX8_map_55 kI_0 ?_
          obtain ⟨v3, h3, hf⟩ := bsome hf
          refine ww_iald (pc := 56) C 2 rfl h3 dX8_map_56 ?_
          refine ww_aload_n (pc := 57) C dX8_map_57 rfl 0 rfl ?_
          refine gf8_9 (pc := 58) C kf_X8_21 0 rfl rfl dX8_map_58 ?_
          refine ww_iconst (pc := 61) C dX8_map_61 kI_3 ?_
          obtain ⟨v4, h4, hf⟩ := bsome hf
          refine ww_iald (pc := 62) C 2 rfl h4 dX8_map_62 ?_
          refine ww_iadd (pc := 63) C dX8_map_63  ?_
          refine ww_aload_n (pc := 64) C dX8_map_64 rfl 0 rfl ?_
          refine gf8_9 (pc := 65) C kf_X8_21 0 rfl rfl dX8_map_65 ?_
          refine ww_bipush (pc := 68) C dX8_map_68 kB_6 ?_
          obtain ⟨v5, h5, hf⟩ := bsome hf
          refine ww_iald (pc := 70) C 2 rfl h5 dX8_map_70 ?_
          refine ww_iadd (pc := 71) C dX8_map_71  ?_
          obtain ⟨v6, h6, hf⟩ := bsome hf
          refine ww_nmi h6 ?_
          refine ww_istore_n (pc := 72) (lv' := [(1, .int v6), (0, .ref q_this)]) C dX8_map_72 rfl (by decide) rfl ?_
          refine ww_iload_n (pc := 73) C dX8_map_73 rfl 0 rfl ?_
          refine ww_if_eq (pc := 74) (tgt := 127) C dX8_map_74 (by decide) (fun hc => ?_) (fun hc => ?_)
          · have hf := ifT hc hf
            refine ww_sipush (pc := 127) C dX8_map_127 kS_m200 ?_
            obtain ⟨e0, e1, e2, e3, e4, e5, e6, e7, e8, e9, e10⟩ := ij11 hf
            exact hret _ _ 130 _ dX8_map_130 rfl e0 (by rw [← e1, ← e2, ← e3, ← e4, ← e5, ← e6, ← e7, ← e8, ← e9, ← e10])
          · have hf := ifF hc hf
            refine ww_aload_n (pc := 77) C dX8_map_77 rfl 1 rfl ?_
            refine gf8_9 (pc := 78) C kf_X8_21 0 rfl rfl dX8_map_78 ?_
            refine ww_iconst (pc := 81) C dX8_map_81 kI_1 ?_
            obtain ⟨v7, h7, hf⟩ := bsome hf
            refine ww_iald (pc := 82) C 2 rfl h7 dX8_map_82 ?_
            refine ww_aload_n (pc := 83) C dX8_map_83 rfl 1 rfl ?_
            refine gf8_9 (pc := 84) C kf_X8_21 0 rfl rfl dX8_map_84 ?_
            refine ww_iconst (pc := 87) C dX8_map_87 kI_4 ?_
            obtain ⟨v8, h8, hf⟩ := bsome hf
            refine ww_iald (pc := 88) C 2 rfl h8 dX8_map_88 ?_
            refine ww_iadd (pc := 89) C dX8_map_89  ?_
            refine ww_aload_n (pc := 90) C dX8_map_90 rfl 1 rfl ?_
            refine gf8_9 (pc := 91) C kf_X8_21 0 rfl rfl dX8_map_91 ?_
            refine ww_bipush (pc := 94) C dX8_map_94 kB_7 ?_
            obtain ⟨v9, h9, hf⟩ := bsome hf
            refine ww_iald (pc := 96) C 2 rfl h9 dX8_map_96 ?_
            refine ww_iadd (pc := 97) C dX8_map_97  ?_
            refine ww_iload_n (pc := 98) C dX8_map_98 rfl 0 rfl ?_
            refine ww_icmp_ne (pc := 99) (tgt := 127) C dX8_map_99 (by decide) (fun hc => ?_) (fun hc => ?_)
            · have hf := ifF hc hf
              refine ww_sipush (pc := 127) C dX8_map_127 kS_m200 ?_
              obtain ⟨e0, e1, e2, e3, e4, e5, e6, e7, e8, e9, e10⟩ := ij11 hf
              exact hret _ _ 130 _ dX8_map_130 rfl e0 (by rw [← e1, ← e2, ← e3, ← e4, ← e5, ← e6, ← e7, ← e8, ← e9, ← e10])
            · have hf := ifT hc hf
              refine ww_aload_n (pc := 102) C dX8_map_102 rfl 1 rfl ?_
              refine gf8_9 (pc := 103) C kf_X8_21 0 rfl rfl dX8_map_103 ?_
              refine ww_iconst (pc := 106) C dX8_map_106 kI_2 ?_
              obtain ⟨v10, h10, hf⟩ := bsome hf
              refine ww_iald (pc := 107) C 2 rfl h10 dX8_map_107 ?_
              refine ww_aload_n (pc := 108) C dX8_map_108 rfl 1 rfl ?_
              refine gf8_9 (pc := 109) C kf_X8_21 0 rfl rfl dX8_map_109 ?_
              refine ww_iconst (pc := 112) C dX8_map_112 kI_5 ?_
              obtain ⟨v11, h11, hf⟩ := bsome hf
              refine ww_iald (pc := 113) C 2 rfl h11 dX8_map_113 ?_
              refine ww_iadd (pc := 114) C dX8_map_114  ?_
              refine ww_aload_n (pc := 115) C dX8_map_115 rfl 1 rfl ?_
              refine gf8_9 (pc := 116) C kf_X8_21 0 rfl rfl dX8_map_116 ?_
              refine ww_bipush (pc := 119) C dX8_map_119 kB_8 ?_
              obtain ⟨v12, h12, hf⟩ := bsome hf
              refine ww_iald (pc := 121) C 2 rfl h12 dX8_map_121 ?_
              refine ww_iadd (pc := 122) C dX8_map_122  ?_
              refine ww_iload_n (pc := 123) C dX8_map_123 rfl 0 rfl ?_
              refine ww_icmp_eq (pc := 124) (tgt := 131) C dX8_map_124 (by decide) (fun hc => ?_) (fun hc => ?_)
              · have hf := ifT hc hf
                refine ww_aload_n (pc := 131) C dX8_map_131 rfl 1 rfl ?_
                obtain ⟨v13, v14, v15, h13, hf⟩ := bd3_some hf
                refine ww_callVv (pc := 132) (ws' := [oX8 q_this q_now q_text c_typed q_row c_rowMany c_thrown c_length c_at v2 q_read q_outerCell q_outerDoor c_outerMany q_walked c_walkedMany c_cameOut q_onWalks q_far q_aside q_wasFull q_undos q_was v13 c_drawn q_kept q_isKept, aI k q_now 189 c_now, aI k q_read 720 c_read, aB k q_text 80 c_text, aI k q_undos 1512 v14, aI k q_was 189 v15]) (As := []) (rest := []) C (tX8_change l D k q_this q_now q_text q_row q_read q_outerCell q_outerDoor q_walked q_onWalks q_far q_aside q_wasFull q_undos q_was q_kept q_isKept c_typed c_rowMany c_thrown c_length c_at v2 c_outerMany c_walkedMany c_cameOut c_undoMany c_drawn c_now c_undos c_was v13 v14 v15 h13) cv_X8_162 ⟨⟨by decide, by decide⟩, rfl, rfl⟩ 0 rfl rfl [0, 1, 4, 5] rfl rfl rfl rfl rfl rfl (Nat.le_of_ble_eq_true rfl) ⟨Nat.zero_le _, Nat.zero_le _⟩ dX8_map_132 ?_
                refine ww_iconst (pc := 135) C dX8_map_135 kI_0 ?_
                refine ww_istore_n (pc := 136) (lv' := [(2, .int (0 : Int32)), (1, .int v6), (0, .ref q_this)]) C dX8_map_136 rfl (by decide) rfl ?_
                exact ww_lv [2, 1, 0] rfl (hL137 FU c_at c_length c_thrown c_typed v13 v2 c_now c_read v14 v15 v6 (0 : Int32) hf)
              · have hf := ifF hc hf
                refine ww_sipush (pc := 127) C dX8_map_127 kS_m200 ?_
                obtain ⟨e0, e1, e2, e3, e4, e5, e6, e7, e8, e9, e10⟩ := ij11 hf
                exact hret _ _ 130 _ dX8_map_130 rfl e0 (by rw [← e1, ← e2, ← e3, ← e4, ← e5, ← e6, ← e7, ← e8, ← e9, ← e10])
        · have hf := ifT hc hf
          refine ww_iconst (pc := 44) C dX8_map_44 kI_m1 ?_
          refine ww_aload_n (pc := 45) C dX8_map_45 rfl 0 rfl ?_
          refine gf8_8 (pc := 46) C kf_X8_135 0 rfl rfl dX8_map_46 ?_
          refine ww_isub (pc := 49) C dX8_map_49  ?_
          obtain ⟨e0, e1, e2, e3, e4, e5, e6, e7, e8, e9, e10⟩ := ij11 hf
          exact hret _ _ 50 _ dX8_map_50 rfl e0 (by rw [← e1, ← e2, ← e3, ← e4, ← e5, ← e6, ← e7, ← e8, ← e9, ← e10])
      · have hf := ifF hc hf
        refine ww_aload_n (pc := 17) C dX8_map_17 rfl 0 rfl ?_
        refine gf8_9 (pc := 18) C kf_X8_21 0 rfl rfl dX8_map_18 ?_
        refine ww_iload_n (pc := 21) C dX8_map_21 rfl 1 rfl ?_
        refine ww_aload_n (pc := 22) C dX8_map_22 rfl 0 rfl ?_
        refine ww_bipush (pc := 23) C dX8_map_23 kB_48 ?_
        refine ww_bipush (pc := 25) C dX8_map_25 kB_10 ?_
        obtain ⟨v16, v17, v18, h16, hf⟩ := bd3_some hf
        refine ww_callVi (pc := 27) (ws' := [oX8 q_this q_now q_text c_typed q_row c_rowMany c_thrown c_length v17 v18 q_read q_outerCell q_outerDoor c_outerMany q_walked c_walkedMany c_cameOut q_onWalks q_far q_aside q_wasFull q_undos q_was c_undoMany c_drawn q_kept q_isKept, aI k q_now 189 c_now, aI k q_read 720 c_read, aB k q_text 80 c_text, aI k q_undos 1512 c_undos, aI k q_was 189 c_was]) (As := [.int (48 : Int32), .int (10 : Int32)]) (rest := [.int n1, .ref q_read]) C (tX8_oneOf l D k q_this q_now q_text q_row q_read q_outerCell q_outerDoor q_walked q_onWalks q_far q_aside q_wasFull q_undos q_was q_kept q_isKept c_typed c_rowMany c_thrown c_length c_at c_wrong c_outerMany c_walkedMany c_cameOut c_undoMany c_drawn c_text (48 : Int32) (10 : Int32) v16 v17 v18 h16) cv_X8_149 ⟨⟨by decide, by decide⟩, rfl, rfl⟩ 0 rfl rfl [0, 3] rfl rfl rfl rfl rfl rfl (Nat.le_of_ble_eq_true rfl) ⟨Nat.zero_le _, Nat.zero_le _⟩ dX8_map_27 (fun hb16 => ?_)
        obtain ⟨v19, h19, hf⟩ := bsome hf
        refine ww_iast (pc := 30) (ws' := [oX8 q_this q_now q_text c_typed q_row c_rowMany c_thrown c_length v17 v18 q_read q_outerCell q_outerDoor c_outerMany q_walked c_walkedMany c_cameOut q_onWalks q_far q_aside q_wasFull q_undos q_was c_undoMany c_drawn q_kept q_isKept, aI k q_now 189 c_now, aI k q_read 720 v19, aB k q_text 80 c_text, aI k q_undos 1512 c_undos, aI k q_was 189 c_was]) C 2 rfl h19 rfl dX8_map_30 ?_
        obtain ⟨v20, h20, hf⟩ := bsome hf
        refine ww_iincN (pc := 31) (lv' := [(1, .int v20), (0, .ref q_this)]) (j := 1) C dX8_map_31 kI_1 rfl h20 (by decide) rfl ?_
        refine ww_goto (pc := 34) (tgt := 11) C dX8_map_34 (by decide) ?_
        exact ww_lv [1, 0] rfl (ih11 v17 c_length c_thrown c_typed c_undoMany v18 c_now v19 c_undos c_was v20 hf)
  unfold fX8_map at hf
  refine ww_aload_n (pc := 0) C dX8_map_0 rfl 0 rfl ?_
  refine ww_iconst (pc := 1) C dX8_map_1 kI_0 ?_
  refine pf8_5 (pc := 2) (ws' := [oX8 q_this q_now q_text c_typed q_row c_rowMany (0 : Int32) c_length c_at c_wrong q_read q_outerCell q_outerDoor c_outerMany q_walked c_walkedMany c_cameOut q_onWalks q_far q_aside q_wasFull q_undos q_was c_undoMany c_drawn q_kept q_isKept, aI k q_now 189 c_now, aI k q_read 720 c_read, aB k q_text 80 c_text, aI k q_undos 1512 c_undos, aI k q_was 189 c_was]) C kf_X8_61 0 rfl (Nat.le_of_ble_eq_true rfl) rfl dX8_map_2 ?_
  refine ww_aload_n (pc := 5) C dX8_map_5 rfl 0 rfl ?_
  obtain ⟨v1, v2, v3, v4, h1, hf⟩ := bd4_some hf
  refine ww_callVv (pc := 6) (ws' := [oX8 q_this q_now q_text v3 q_row c_rowMany (0 : Int32) v2 v1 v4 q_read q_outerCell q_outerDoor c_outerMany q_walked c_walkedMany c_cameOut q_onWalks q_far q_aside q_wasFull q_undos q_was c_undoMany c_drawn q_kept q_isKept, aI k q_now 189 c_now, aI k q_read 720 c_read, aB k q_text 80 c_text, aI k q_undos 1512 c_undos, aI k q_was 189 c_was]) (As := []) (rest := []) C (tX8_begin l D k q_this q_now q_text q_row q_read q_outerCell q_outerDoor q_walked q_onWalks q_far q_aside q_wasFull q_undos q_was q_kept q_isKept c_typed c_rowMany (0 : Int32) c_length c_at c_wrong c_outerMany c_walkedMany c_cameOut c_undoMany c_drawn v1 v2 v3 v4 h1) cv_X8_153 ⟨⟨by decide, by decide⟩, rfl, rfl⟩ 0 rfl rfl [0] rfl rfl rfl rfl rfl rfl (Nat.le_of_ble_eq_true rfl) ⟨Nat.zero_le _, Nat.zero_le _⟩ dX8_map_6 ?_
  refine ww_iconst (pc := 9) C dX8_map_9 kI_0 ?_
  refine ww_istore_n (pc := 10) (lv' := [(1, .int (0 : Int32)), (0, .ref q_this)]) C dX8_map_10 rfl (by decide) rfl ?_
  exact ww_lv [1, 0] rfl (hL11 FU v1 v2 (0 : Int32) v3 c_undoMany v4 c_now c_read c_undos c_was (0 : Int32) hf)
def fX8_entryOf (x1 : Int32) (x2 : Int32) (x3 : Int32) (x4 : Int32) : Option Int32 := (some (x2 + (x4 * x3))).bind fun v1 => if x1 = 0 then some (((v1).toInt8.toInt32)) else if x1 = (1 : Int32) then some (((v1).toInt16.toInt32)) else some (v1)
set_option maxHeartbeats 4000000 in
set_option maxRecDepth 100000 in
theorem tX8_entryOf (l : Launch) (D : va_G) (k : Nat → ClassId)   (x1 : Int32) (x2 : Int32) (x3 : Int32) (x4 : Int32) (r_ : Int32) (hf : fX8_entryOf x1 x2 x3 x4 = some (r_)) : MI l yX8_entryOf cX8_entryOf 5 .int (RM 0 0) D k [.int x1, .int x2, .int x3, .int x4] [] r_ [] := by
  refine mkMI' (own := "DoorWalkModel") (by decide) rfl (Nat.le_of_ble_eq_true rfl) ?_
  intro p e s m args below meth c Q A hret C
  refine ww_lv (lv' := [(0, .int x1), (1, .int x2), (2, .int x3), (3, .int x4)]) [0, 1, 2, 3] rfl ?_
  unfold fX8_entryOf at hf
  refine ww_iload_n (pc := 0) C dX8_entryOf_0 rfl 1 rfl ?_
  refine ww_iload_n (pc := 1) C dX8_entryOf_1 rfl 3 rfl ?_
  refine ww_iload_n (pc := 2) C dX8_entryOf_2 rfl 2 rfl ?_
  refine ww_imul (pc := 3) C dX8_entryOf_3  ?_
  refine ww_iadd (pc := 4) C dX8_entryOf_4  ?_
  obtain ⟨v1, h1, hf⟩ := bsome hf
  refine ww_nmi h1 ?_
  refine ww_istore (pc := 5) (lv' := [(4, .int v1), (0, .int x1), (1, .int x2), (2, .int x3), (3, .int x4)]) C dX8_entryOf_5 (by decide) rfl ?_
  refine ww_iload_n (pc := 7) C dX8_entryOf_7 rfl 1 rfl ?_
  refine ww_if_ne (pc := 8) (tgt := 17) C dX8_entryOf_8 (by decide) (fun hc => ?_) (fun hc => ?_)
  · have hf := ifF hc hf
    refine ww_iload_n (pc := 17) C dX8_entryOf_17 rfl 1 rfl ?_
    refine ww_iconst (pc := 18) C dX8_entryOf_18 kI_1 ?_
    refine ww_icmp_ne (pc := 19) (tgt := 28) C dX8_entryOf_19 (by decide) (fun hc => ?_) (fun hc => ?_)
    · have hf := ifF hc hf
      refine ww_iload (pc := 28) C dX8_entryOf_28 0 rfl ?_
      obtain e0 := ij1 hf
      exact hret _ _ 30 _ dX8_entryOf_30 rfl e0 rfl
    · have hf := ifT hc hf
      refine ww_iload (pc := 22) C dX8_entryOf_22 0 rfl ?_
      refine ww_i2s (pc := 24) C dX8_entryOf_24  ?_
      refine ww_goto (pc := 25) (tgt := 30) C dX8_entryOf_25 (by decide) ?_
      obtain e0 := ij1 hf
      exact hret _ _ 30 _ dX8_entryOf_30 rfl e0 rfl
  · have hf := ifT hc hf
    refine ww_iload (pc := 11) C dX8_entryOf_11 0 rfl ?_
    refine ww_i2b (pc := 13) C dX8_entryOf_13  ?_
    refine ww_goto (pc := 14) (tgt := 30) C dX8_entryOf_14 (by decide) ?_
    obtain e0 := ij1 hf
    exact hret _ _ 30 _ dX8_entryOf_30 rfl e0 rfl
def fX8_sheet_b216 (rc178 : Int32 → Int32 → (Nat → Int32) → (Nat → Int64) → Int32 → Int32 → Int32 → Int32 → Int32 → Int32 → Int32 → Option (Int32 × Int32 × Int32 × (Nat → Int32) × (Nat → Int64))) (c_rowMany : Int32) (c_thrown : Int32) (c_now : Nat → Int32) (c_row : Nat → Int64) (n1 : Int32) (n2 : Int32) (n3 : Int32) (n4 : Int32) (n5 : Int32) (n7 : Int32) (n8 : Int32) (s0 : Int32) (s1 : Int32) : Option (Int32 × Int32 × Int32 × (Nat → Int32) × (Nat → Int64)) := (some (s0 + s1)).bind fun v1 => (ast 189 (((36 : Int32) + n1) + n7) c_now n8).bind fun v2 => (some (n7 + (1 : Int32))).bind fun v3 => rc178 c_rowMany c_thrown v2 c_row n1 n2 n3 n4 n5 v1 v3
def fX8_sheet_b178 (rc178 : Int32 → Int32 → (Nat → Int32) → (Nat → Int64) → Int32 → Int32 → Int32 → Int32 → Int32 → Int32 → Int32 → Option (Int32 × Int32 × Int32 × (Nat → Int32) × (Nat → Int64))) (c_rowMany : Int32) (c_thrown : Int32) (c_now : Nat → Int32) (c_row : Nat → Int64) (n1 : Int32) (n2 : Int32) (n3 : Int32) (n4 : Int32) (n5 : Int32) (n6 : Int32) (n7 : Int32) : Option (Int32 × Int32 × Int32 × (Nat → Int32) × (Nat → Int64)) := if n3 ≤ n7 then (ast 189 (1 : Int32) c_now (0 : Int32)).bind fun v1 => some (n6, c_rowMany, c_thrown, v1, c_row) else (fX8_entryOf n2 n4 n5 n7).bind fun v2 => (fX8_labelAt c_now (n1 + n7)).bind fun v3 => if v3 = v2 then fX8_sheet_b216 rc178 c_rowMany c_thrown c_now c_row n1 n2 n3 n4 n5 n7 v2 n6 (0 : Int32) else fX8_sheet_b216 rc178 c_rowMany c_thrown c_now c_row n1 n2 n3 n4 n5 n7 v2 n6 (1 : Int32)
def fX8_sheet_b160 (c_rowMany : Int32) (c_thrown : Int32) (c_now : Nat → Int32) (c_row : Nat → Int64) (s1 : Int64) : Option (Int32 × Int32 × Int32 × (Nat → Int32) × (Nat → Int64)) := bd2 (fX8_tell c_rowMany c_row s1) fun v1 v2 => some ((-4 : Int32), v1, c_thrown, c_now, v2)
def fX8_sheet_b135 (c_rowMany : Int32) (c_thrown : Int32) (c_now : Nat → Int32) (c_row : Nat → Int64) (n6 : Int32) (n9 : Int32) : Option (Int32 × Int32 × Int32 × (Nat → Int32) × (Nat → Int64)) := bd2 (fX8_tell (0 : Int32) c_row ((n6).toInt64)) fun v1 v2 => if n9 = 0 then fX8_sheet_b160 v1 c_thrown c_now v2 (2 : Int64) else fX8_sheet_b160 v1 c_thrown c_now v2 (1 : Int64)
def fX8_sheet_b78 (rc41 : Int32 → Int32 → (Nat → Int32) → (Nat → Int64) → Int32 → Int32 → Int32 → Int32 → Int32 → Int32 → Option (Int32 × Int32 × Int32 × (Nat → Int32) × (Nat → Int64))) (c_rowMany : Int32) (c_thrown : Int32) (c_now : Nat → Int32) (c_row : Nat → Int64) (n1 : Int32) (n2 : Int32) (n3 : Int32) (n4 : Int32) (n5 : Int32) (n6 : Int32) (s0 : Int32) : Option (Int32 × Int32 × Int32 × (Nat → Int32) × (Nat → Int64)) := (fX8_entryOf n2 n4 n5 n6).bind fun v1 => if s0 = 0 then (fX8_in v1 (0 : Int32) (2 : Int32)).bind fun v2 => if v2 = 0 then fX8_sheet_b135 c_rowMany c_thrown c_now c_row n6 s0 else (fX8_iOf c_now (n1 + n6)).bind fun v3 => (fX8_jOf c_now (n1 + n6)).bind fun v4 => (fX8_canHave c_now v3 v4 v1).bind fun v5 => if v5 = 0 then fX8_sheet_b135 c_rowMany c_thrown c_now c_row n6 s0 else (some (n6 + (1 : Int32))).bind fun v6 => rc41 c_rowMany c_thrown c_now c_row n1 n2 n3 n4 n5 v6 else fX8_sheet_b135 c_rowMany c_thrown c_now c_row n6 s0
def fX8_sheet_b73 (rc41 : Int32 → Int32 → (Nat → Int32) → (Nat → Int64) → Int32 → Int32 → Int32 → Int32 → Int32 → Int32 → Option (Int32 × Int32 × Int32 × (Nat → Int32) × (Nat → Int64))) (c_rowMany : Int32) (c_thrown : Int32) (c_now : Nat → Int32) (c_row : Nat → Int64) (n1 : Int32) (n2 : Int32) (n3 : Int32) (n4 : Int32) (n5 : Int32) (n6 : Int32) : Option (Int32 × Int32 × Int32 × (Nat → Int32) × (Nat → Int64)) := fX8_sheet_b78 rc41 c_rowMany c_thrown c_now c_row n1 n2 n3 n4 n5 n6 (1 : Int32)
def fX8_sheet_b41 (rc41 : Int32 → Int32 → (Nat → Int32) → (Nat → Int64) → Int32 → Int32 → Int32 → Int32 → Int32 → Int32 → Option (Int32 × Int32 × Int32 × (Nat → Int32) × (Nat → Int64))) (c_rowMany : Int32) (c_thrown : Int32) (c_now : Nat → Int32) (c_row : Nat → Int64) (n1 : Int32) (n2 : Int32) (n3 : Int32) (n4 : Int32) (n5 : Int32) (n6 : Int32) : Option (Int32 × Int32 × Int32 × (Nat → Int32) × (Nat → Int64)) := if n3 ≤ n6 then lfix (fX8_sheet_b178) (fun _ _ _ _ _ _ _ _ _ _ _ => none) FU c_rowMany c_thrown c_now c_row n1 n2 n3 n4 n5 (0 : Int32) (0 : Int32) else (some (((n1).toInt64) + ((n6).toInt64))).bind fun v1 => if (lg_cmp v1 (0 : Int64)) < 0 then fX8_sheet_b73 rc41 c_rowMany c_thrown c_now c_row n1 n2 n3 n4 n5 n6 else (fX8_points c_now).bind fun v2 => if (lg_cmp v1 ((v2).toInt64)) < 0 then fX8_sheet_b78 rc41 c_rowMany c_thrown c_now c_row n1 n2 n3 n4 n5 n6 (0 : Int32) else fX8_sheet_b73 rc41 c_rowMany c_thrown c_now c_row n1 n2 n3 n4 n5 n6
def fX8_sheet (c_rowMany : Int32) (c_thrown : Int32) (c_now : Nat → Int32) (c_row : Nat → Int64) (x1 : Int32) (x2 : Int32) (x3 : Int32) (x4 : Int32) (x5 : Int32) : Option (Int32 × Int32 × Int32 × (Nat → Int32) × (Nat → Int64)) := (fX8_in x2 (0 : Int32) (3 : Int32)).bind fun v1 => if v1 = 0 then some ((-1 : Int32), c_rowMany, (0 : Int32), c_now, c_row) else if x3 ≤ (160 : Int32) then if x2 = (3 : Int32) then some ((-3 : Int32), c_rowMany, (0 : Int32), c_now, c_row) else if 0 ≤ x3 then lfix (fX8_sheet_b41) (fun _ _ _ _ _ _ _ _ _ _ => none) FU c_rowMany (0 : Int32) c_now c_row x1 x2 x3 x4 x5 (0 : Int32) else some ((-2 : Int32), c_rowMany, (0 : Int32), c_now, c_row) else some ((-1 : Int32), c_rowMany, (0 : Int32), c_now, c_row)
set_option maxHeartbeats 4000000 in
set_option maxRecDepth 100000 in
theorem tX8_sheet (l : Launch) (D : va_G) (k : Nat → ClassId) (q_this q_now q_text q_row q_read q_outerCell q_outerDoor q_walked q_onWalks q_far q_aside q_wasFull q_undos q_was q_kept q_isKept : Nat) (c_typed : Int32) (c_rowMany : Int32) (c_thrown : Int32) (c_length : Int32) (c_at : Int32) (c_wrong : Int32) (c_outerMany : Int32) (c_walkedMany : Int32) (c_cameOut : Int32) (c_undoMany : Int32) (c_drawn : Int32) (c_now : Nat → Int32) (c_row : Nat → Int64) (x1 : Int32) (x2 : Int32) (x3 : Int32) (x4 : Int32) (x5 : Int32) (r_ : Int32) (w_rowMany : Int32) (w_thrown : Int32) (w_now : Nat → Int32) (w_row : Nat → Int64) (hf : fX8_sheet c_rowMany c_thrown c_now c_row x1 x2 x3 x4 x5 = some (r_, w_rowMany, w_thrown, w_now, w_row)) : MI l yX8_sheet cX8_sheet 11 .int (RM 4 85) D k [.ref q_this, .int x1, .int x2, .int x3, .int x4, .int x5] [oX8 q_this q_now q_text c_typed q_row c_rowMany c_thrown c_length c_at c_wrong q_read q_outerCell q_outerDoor c_outerMany q_walked c_walkedMany c_cameOut q_onWalks q_far q_aside q_wasFull q_undos q_was c_undoMany c_drawn q_kept q_isKept, aI k q_now 189 c_now, aJ k q_row 64 c_row] r_ [oX8 q_this q_now q_text c_typed q_row w_rowMany w_thrown c_length c_at c_wrong q_read q_outerCell q_outerDoor c_outerMany q_walked c_walkedMany c_cameOut q_onWalks q_far q_aside q_wasFull q_undos q_was c_undoMany c_drawn q_kept q_isKept, aI k q_now 189 w_now, aJ k q_row 64 w_row] := by
  refine mkMI' (own := "DoorWalkModel") (by decide) rfl (Nat.le_of_ble_eq_true rfl) ?_
  intro p e s m args below meth c Q A hret C
  refine ww_lv (lv' := [(0, .ref q_this), (1, .int x1), (2, .int x2), (3, .int x3), (4, .int x4), (5, .int x5)]) [0, 1, 2, 3, 4, 5] rfl ?_
  have hL178 : ∀ (n : Nat) (c_rowMany : Int32) (c_thrown : Int32) (c_now : Nat → Int32) (c_row : Nat → Int64) (n1 : Int32) (n2 : Int32) (n3 : Int32) (n4 : Int32) (n5 : Int32) (n6 : Int32) (n7 : Int32), lfix (fX8_sheet_b178) (fun _ _ _ _ _ _ _ _ _ _ _ => none) n c_rowMany c_thrown c_now c_row n1 n2 n3 n4 n5 n6 n7 = some (r_, w_rowMany, w_thrown, w_now, w_row) → WW p l e (RM 4 85) s m args below meth c Q 11 D A 0 0 [oX8 q_this q_now q_text c_typed q_row c_rowMany c_thrown c_length c_at c_wrong q_read q_outerCell q_outerDoor c_outerMany q_walked c_walkedMany c_cameOut q_onWalks q_far q_aside q_wasFull q_undos q_was c_undoMany c_drawn q_kept q_isKept, aI k q_now 189 c_now, aJ k q_row 64 c_row] [(0, .ref q_this), (1, .int n1), (2, .int n2), (3, .int n3), (4, .int n4), (5, .int n5), (6, .int n6), (7, .int n7)] 178 [] := by
    intro n
    induction n with
    | zero => intro c_rowMany c_thrown c_now c_row n1 n2 n3 n4 n5 n6 n7 hf; cases hf
    | succ n ih178 =>
      obtain ⟨rc178, hrc178⟩ : ∃ f9, f9 = lfix (fX8_sheet_b178) (fun _ _ _ _ _ _ _ _ _ _ _ => none) n := ⟨_, rfl⟩
      rw [← hrc178] at ih178
      have hJ216 : ∀ (c_rowMany : Int32) (c_thrown : Int32) (c_now : Nat → Int32) (c_row : Nat → Int64) (n1 : Int32) (n2 : Int32) (n3 : Int32) (n4 : Int32) (n5 : Int32) (n7 : Int32) (n8 : Int32) (s0 : Int32) (s1 : Int32), fX8_sheet_b216 rc178 c_rowMany c_thrown c_now c_row n1 n2 n3 n4 n5 n7 n8 s0 s1 = some (r_, w_rowMany, w_thrown, w_now, w_row) → WW p l e (RM 4 85) s m args below meth c Q 11 D A 0 0 [oX8 q_this q_now q_text c_typed q_row c_rowMany c_thrown c_length c_at c_wrong q_read q_outerCell q_outerDoor c_outerMany q_walked c_walkedMany c_cameOut q_onWalks q_far q_aside q_wasFull q_undos q_was c_undoMany c_drawn q_kept q_isKept, aI k q_now 189 c_now, aJ k q_row 64 c_row] [(0, .ref q_this), (1, .int n1), (2, .int n2), (3, .int n3), (4, .int n4), (5, .int n5), (7, .int n7), (8, .int n8)] 216 [.int s1, .int s0] := by
        intro c_rowMany c_thrown c_now c_row n1 n2 n3 n4 n5 n7 n8 s0 s1
        intro hf
        unfold fX8_sheet_b216 at hf
        refine ww_iadd (pc := 216) C dX8_sheet_216  ?_
        obtain ⟨v1, h1, hf⟩ := bsome hf
        refine ww_nmi h1 ?_
        refine ww_istore (pc := 217) (lv' := [(6, .int v1), (0, .ref q_this), (1, .int n1), (2, .int n2), (3, .int n3), (4, .int n4), (5, .int n5), (7, .int n7), (8, .int n8)]) C dX8_sheet_217 (by decide) rfl ?_
        refine ww_aload_n (pc := 219) C dX8_sheet_219 rfl 1 rfl ?_
        refine gf8_0 (pc := 220) C kf_X8_9 0 rfl rfl dX8_sheet_220 ?_
        refine ww_bipush (pc := 223) C dX8_sheet_223 kB_36 ?_
        refine ww_iload_n (pc := 225) C dX8_sheet_225 rfl 2 rfl ?_
        refine ww_iadd (pc := 226) C dX8_sheet_226  ?_
        refine ww_iload (pc := 227) C dX8_sheet_227 7 rfl ?_
        refine ww_iadd (pc := 229) C dX8_sheet_229  ?_
        refine ww_iload (pc := 230) C dX8_sheet_230 8 rfl ?_
        obtain ⟨v2, h2, hf⟩ := bsome hf
        refine ww_iast (pc := 232) (ws' := [oX8 q_this q_now q_text c_typed q_row c_rowMany c_thrown c_length c_at c_wrong q_read q_outerCell q_outerDoor c_outerMany q_walked c_walkedMany c_cameOut q_onWalks q_far q_aside q_wasFull q_undos q_was c_undoMany c_drawn q_kept q_isKept, aI k q_now 189 v2, aJ k q_row 64 c_row]) C 1 rfl h2 rfl dX8_sheet_232 ?_
        obtain ⟨v3, h3, hf⟩ := bsome hf
        refine ww_iincN (pc := 233) (lv' := [(7, .int v3), (6, .int v1), (0, .ref q_this), (1, .int n1), (2, .int n2), (3, .int n3), (4, .int n4), (5, .int n5), (8, .int n8)]) (j := 7) C dX8_sheet_233 kI_1 rfl h3 (by decide) rfl ?_
        refine ww_goto (pc := 236) (tgt := 178) C dX8_sheet_236 (by decide) ?_
        exact ww_lv [2, 3, 4, 5, 6, 7, 1, 0] rfl (ih178 c_rowMany c_thrown v2 c_row n1 n2 n3 n4 n5 v1 v3 hf)
      intro c_rowMany c_thrown c_now c_row n1 n2 n3 n4 n5 n6 n7 hf
      have hf : fX8_sheet_b178 rc178 c_rowMany c_thrown c_now c_row n1 n2 n3 n4 n5 n6 n7 = some (r_, w_rowMany, w_thrown, w_now, w_row) := by rw [hrc178]; exact hf
      unfold fX8_sheet_b178 at hf
      refine ww_iload (pc := 178) C dX8_sheet_178 7 rfl ?_
      refine ww_iload_n (pc := 180) C dX8_sheet_180 rfl 3 rfl ?_
      refine ww_icmp_ge (pc := 181) (tgt := 239) C dX8_sheet_181 (by decide) (fun hc => ?_) (fun hc => ?_)
      · have hf := ifT hc hf
        refine ww_aload_n (pc := 239) C dX8_sheet_239 rfl 0 rfl ?_
        refine gf8_0 (pc := 240) C kf_X8_9 0 rfl rfl dX8_sheet_240 ?_
        refine ww_iconst (pc := 243) C dX8_sheet_243 kI_1 ?_
        refine ww_iconst (pc := 244) C dX8_sheet_244 kI_0 ?_
        obtain ⟨v1, h1, hf⟩ := bsome hf
        refine ww_iast (pc := 245) (ws' := [oX8 q_this q_now q_text c_typed q_row c_rowMany c_thrown c_length c_at c_wrong q_read q_outerCell q_outerDoor c_outerMany q_walked c_walkedMany c_cameOut q_onWalks q_far q_aside q_wasFull q_undos q_was c_undoMany c_drawn q_kept q_isKept, aI k q_now 189 v1, aJ k q_row 64 c_row]) C 1 rfl h1 rfl dX8_sheet_245 ?_
        refine ww_iload (pc := 246) C dX8_sheet_246 6 rfl ?_
        obtain ⟨e0, e1, e2, e3, e4⟩ := ij5 hf
        exact hret _ _ 248 _ dX8_sheet_248 rfl e0 (by rw [← e1, ← e2, ← e3, ← e4])
      · have hf := ifF hc hf
        refine ww_iload_n (pc := 184) C dX8_sheet_184 rfl 2 rfl ?_
        refine ww_iload (pc := 185) C dX8_sheet_185 4 rfl ?_
        refine ww_iload (pc := 187) C dX8_sheet_187 5 rfl ?_
        refine ww_iload (pc := 189) C dX8_sheet_189 7 rfl ?_
        obtain ⟨v2, h2, hf⟩ := bsome hf
        refine ww_callSi0 (pc := 191) (As := [.int n2, .int n4, .int n5, .int n7]) (rest := []) C (tX8_entryOf l D k n2 n4 n5 n7 v2 h2) cs_X8_175 ⟨⟨by decide, by decide⟩, rfl, rfl⟩ [] rfl rfl rfl rfl (Nat.le_of_ble_eq_true rfl) ⟨Nat.zero_le _, Nat.zero_le _⟩ dX8_sheet_191 (fun hb2 => ?_)
        refine ww_istore (pc := 194) (lv' := [(8, .int v2), (0, .ref q_this), (1, .int n1), (2, .int n2), (3, .int n3), (4, .int n4), (5, .int n5), (6, .int n6), (7, .int n7)]) C dX8_sheet_194 (by decide) rfl ?_
        refine ww_iload (pc := 196) C dX8_sheet_196 7 rfl ?_
        refine ww_aload_n (pc := 198) C dX8_sheet_198 rfl 1 rfl ?_
        refine ww_iload_n (pc := 199) C dX8_sheet_199 rfl 2 rfl ?_
        refine ww_iload (pc := 200) C dX8_sheet_200 8 rfl ?_
        refine ww_iadd (pc := 202) C dX8_sheet_202  ?_
        obtain ⟨v3, h3, hf⟩ := bsome hf
        refine ww_callVi0 (pc := 203) (As := [.int (n1 + n7)]) (rest := [.int n6]) C (tX8_labelAt l D k q_this q_now q_text q_row q_read q_outerCell q_outerDoor q_walked q_onWalks q_far q_aside q_wasFull q_undos q_was q_kept q_isKept c_typed c_rowMany c_thrown c_length c_at c_wrong c_outerMany c_walkedMany c_cameOut c_undoMany c_drawn c_now (n1 + n7) v3 h3) cv_X8_188 ⟨⟨by decide, by decide⟩, rfl, rfl⟩ 0 rfl rfl [0, 1] rfl rfl rfl rfl (Nat.le_of_ble_eq_true rfl) ⟨Nat.zero_le _, Nat.zero_le _⟩ dX8_sheet_203 (fun hb3 => ?_)
        refine ww_iload (pc := 206) C dX8_sheet_206 0 rfl ?_
        refine ww_icmp_eq (pc := 208) (tgt := 215) C dX8_sheet_208 (by decide) (fun hc => ?_) (fun hc => ?_)
        · have hf := ifT hc hf
          refine ww_iconst (pc := 215) C dX8_sheet_215 kI_0 ?_
          exact ww_lv [1, 2, 3, 4, 5, 6, 8, 0] rfl (hJ216 c_rowMany c_thrown c_now c_row n1 n2 n3 n4 n5 n7 v2 n6 (0 : Int32) hf)
        · have hf := ifF hc hf
          refine ww_iconst (pc := 211) C dX8_sheet_211 kI_1 ?_
          refine ww_goto (pc := 212) (tgt := 216) C dX8_sheet_212 (by decide) ?_
          exact ww_lv [1, 2, 3, 4, 5, 6, 8, 0] rfl (hJ216 c_rowMany c_thrown c_now c_row n1 n2 n3 n4 n5 n7 v2 n6 (1 : Int32) hf)
  have hJ160 : ∀ (c_rowMany : Int32) (c_thrown : Int32) (c_now : Nat → Int32) (c_row : Nat → Int64) (s1 : Int64), fX8_sheet_b160 c_rowMany c_thrown c_now c_row s1 = some (r_, w_rowMany, w_thrown, w_now, w_row) → WW p l e (RM 4 85) s m args below meth c Q 11 D A 0 0 [oX8 q_this q_now q_text c_typed q_row c_rowMany c_thrown c_length c_at c_wrong q_read q_outerCell q_outerDoor c_outerMany q_walked c_walkedMany c_cameOut q_onWalks q_far q_aside q_wasFull q_undos q_was c_undoMany c_drawn q_kept q_isKept, aI k q_now 189 c_now, aJ k q_row 64 c_row] [] 160 [.long s1, .ref q_this] := by
    intro c_rowMany c_thrown c_now c_row s1
    intro hf
    unfold fX8_sheet_b160 at hf
    obtain ⟨v1, v2, h1, hf⟩ := bd2_some hf
    refine ww_callVv (pc := 160) (ws' := [oX8 q_this q_now q_text c_typed q_row v1 c_thrown c_length c_at c_wrong q_read q_outerCell q_outerDoor c_outerMany q_walked c_walkedMany c_cameOut q_onWalks q_far q_aside q_wasFull q_undos q_was c_undoMany c_drawn q_kept q_isKept, aI k q_now 189 c_now, aJ k q_row 64 v2]) (As := [.long s1]) (rest := []) C (tX8_tell l D k q_this q_now q_text q_row q_read q_outerCell q_outerDoor q_walked q_onWalks q_far q_aside q_wasFull q_undos q_was q_kept q_isKept c_typed c_rowMany c_thrown c_length c_at c_wrong c_outerMany c_walkedMany c_cameOut c_undoMany c_drawn c_row s1 v1 v2 h1) cv_X8_182 ⟨⟨by decide, by decide⟩, rfl, rfl⟩ 0 rfl rfl [0, 2] rfl rfl rfl rfl rfl rfl (Nat.le_of_ble_eq_true rfl) ⟨Nat.zero_le _, Nat.zero_le _⟩ dX8_sheet_160 ?_
    refine ww_bipush (pc := 163) C dX8_sheet_163 kB_m4 ?_
    obtain ⟨e0, e1, e2, e3, e4⟩ := ij5 hf
    exact hret _ _ 165 _ dX8_sheet_165 rfl e0 (by rw [← e1, ← e2, ← e3, ← e4])
  have hJ135 : ∀ (c_rowMany : Int32) (c_thrown : Int32) (c_now : Nat → Int32) (c_row : Nat → Int64) (n6 : Int32) (n9 : Int32), fX8_sheet_b135 c_rowMany c_thrown c_now c_row n6 n9 = some (r_, w_rowMany, w_thrown, w_now, w_row) → WW p l e (RM 4 85) s m args below meth c Q 11 D A 0 0 [oX8 q_this q_now q_text c_typed q_row c_rowMany c_thrown c_length c_at c_wrong q_read q_outerCell q_outerDoor c_outerMany q_walked c_walkedMany c_cameOut q_onWalks q_far q_aside q_wasFull q_undos q_was c_undoMany c_drawn q_kept q_isKept, aI k q_now 189 c_now, aJ k q_row 64 c_row] [(0, .ref q_this), (6, .int n6), (9, .int n9)] 135 [] := by
    intro c_rowMany c_thrown c_now c_row n6 n9
    intro hf
    unfold fX8_sheet_b135 at hf
    refine ww_aload_n (pc := 135) C dX8_sheet_135 rfl 0 rfl ?_
    refine ww_iconst (pc := 136) C dX8_sheet_136 kI_0 ?_
    refine pf8_4 (pc := 137) (ws' := [oX8 q_this q_now q_text c_typed q_row (0 : Int32) c_thrown c_length c_at c_wrong q_read q_outerCell q_outerDoor c_outerMany q_walked c_walkedMany c_cameOut q_onWalks q_far q_aside q_wasFull q_undos q_was c_undoMany c_drawn q_kept q_isKept, aI k q_now 189 c_now, aJ k q_row 64 c_row]) C kf_X8_65 0 rfl (Nat.le_of_ble_eq_true rfl) rfl dX8_sheet_137 ?_
    refine ww_aload_n (pc := 140) C dX8_sheet_140 rfl 0 rfl ?_
    refine ww_iload (pc := 141) C dX8_sheet_141 1 rfl ?_
    refine ww_i2l (pc := 143) C dX8_sheet_143  ?_
    obtain ⟨v1, v2, h1, hf⟩ := bd2_some hf
    refine ww_callVv (pc := 144) (ws' := [oX8 q_this q_now q_text c_typed q_row v1 c_thrown c_length c_at c_wrong q_read q_outerCell q_outerDoor c_outerMany q_walked c_walkedMany c_cameOut q_onWalks q_far q_aside q_wasFull q_undos q_was c_undoMany c_drawn q_kept q_isKept, aI k q_now 189 c_now, aJ k q_row 64 v2]) (As := [.long ((n6).toInt64)]) (rest := []) C (tX8_tell l D k q_this q_now q_text q_row q_read q_outerCell q_outerDoor q_walked q_onWalks q_far q_aside q_wasFull q_undos q_was q_kept q_isKept c_typed (0 : Int32) c_thrown c_length c_at c_wrong c_outerMany c_walkedMany c_cameOut c_undoMany c_drawn c_row ((n6).toInt64) v1 v2 h1) cv_X8_182 ⟨⟨by decide, by decide⟩, rfl, rfl⟩ 0 rfl rfl [0, 2] rfl rfl rfl rfl rfl rfl (Nat.le_of_ble_eq_true rfl) ⟨Nat.zero_le _, Nat.zero_le _⟩ dX8_sheet_144 ?_
    refine ww_aload_n (pc := 147) C dX8_sheet_147 rfl 0 rfl ?_
    refine ww_iload (pc := 148) C dX8_sheet_148 2 rfl ?_
    refine ww_if_eq (pc := 150) (tgt := 157) C dX8_sheet_150 (by decide) (fun hc => ?_) (fun hc => ?_)
    · have hf := ifT hc hf
      refine ww_ldc2 (pc := 157) C dX8_sheet_157 kc_X8_186 ?_
      exact ww_lv [] rfl (hJ160 v1 c_thrown c_now v2 (2 : Int64) hf)
    · have hf := ifF hc hf
      refine ww_lconst (pc := 153) C dX8_sheet_153 kL_1 ?_
      refine ww_goto (pc := 154) (tgt := 160) C dX8_sheet_154 (by decide) ?_
      exact ww_lv [] rfl (hJ160 v1 c_thrown c_now v2 (1 : Int64) hf)
  have hL41 : ∀ (n : Nat) (c_rowMany : Int32) (c_thrown : Int32) (c_now : Nat → Int32) (c_row : Nat → Int64) (n1 : Int32) (n2 : Int32) (n3 : Int32) (n4 : Int32) (n5 : Int32) (n6 : Int32), lfix (fX8_sheet_b41) (fun _ _ _ _ _ _ _ _ _ _ => none) n c_rowMany c_thrown c_now c_row n1 n2 n3 n4 n5 n6 = some (r_, w_rowMany, w_thrown, w_now, w_row) → WW p l e (RM 4 85) s m args below meth c Q 11 D A 0 0 [oX8 q_this q_now q_text c_typed q_row c_rowMany c_thrown c_length c_at c_wrong q_read q_outerCell q_outerDoor c_outerMany q_walked c_walkedMany c_cameOut q_onWalks q_far q_aside q_wasFull q_undos q_was c_undoMany c_drawn q_kept q_isKept, aI k q_now 189 c_now, aJ k q_row 64 c_row] [(0, .ref q_this), (1, .int n1), (2, .int n2), (3, .int n3), (4, .int n4), (5, .int n5), (6, .int n6)] 41 [] := by
    intro n
    induction n with
    | zero => intro c_rowMany c_thrown c_now c_row n1 n2 n3 n4 n5 n6 hf; cases hf
    | succ n ih41 =>
      obtain ⟨rc41, hrc41⟩ : ∃ f9, f9 = lfix (fX8_sheet_b41) (fun _ _ _ _ _ _ _ _ _ _ => none) n := ⟨_, rfl⟩
      rw [← hrc41] at ih41
      have hJ78 : ∀ (c_rowMany : Int32) (c_thrown : Int32) (c_now : Nat → Int32) (c_row : Nat → Int64) (n1 : Int32) (n2 : Int32) (n3 : Int32) (n4 : Int32) (n5 : Int32) (n6 : Int32) (s0 : Int32), fX8_sheet_b78 rc41 c_rowMany c_thrown c_now c_row n1 n2 n3 n4 n5 n6 s0 = some (r_, w_rowMany, w_thrown, w_now, w_row) → WW p l e (RM 4 85) s m args below meth c Q 11 D A 0 0 [oX8 q_this q_now q_text c_typed q_row c_rowMany c_thrown c_length c_at c_wrong q_read q_outerCell q_outerDoor c_outerMany q_walked c_walkedMany c_cameOut q_onWalks q_far q_aside q_wasFull q_undos q_was c_undoMany c_drawn q_kept q_isKept, aI k q_now 189 c_now, aJ k q_row 64 c_row] [(0, .ref q_this), (1, .int n1), (2, .int n2), (3, .int n3), (4, .int n4), (5, .int n5), (6, .int n6)] 78 [.int s0] := by
        intro c_rowMany c_thrown c_now c_row n1 n2 n3 n4 n5 n6 s0
        intro hf
        unfold fX8_sheet_b78 at hf
        refine ww_istore (pc := 78) (lv' := [(9, .int s0), (0, .ref q_this), (1, .int n1), (2, .int n2), (3, .int n3), (4, .int n4), (5, .int n5), (6, .int n6)]) C dX8_sheet_78 (by decide) rfl ?_
        refine ww_iload_n (pc := 80) C dX8_sheet_80 rfl 3 rfl ?_
        refine ww_iload (pc := 81) C dX8_sheet_81 5 rfl ?_
        refine ww_iload (pc := 83) C dX8_sheet_83 6 rfl ?_
        refine ww_iload (pc := 85) C dX8_sheet_85 7 rfl ?_
        obtain ⟨v1, h1, hf⟩ := bsome hf
        refine ww_callSi0 (pc := 87) (As := [.int n2, .int n4, .int n5, .int n6]) (rest := []) C (tX8_entryOf l D k n2 n4 n5 n6 v1 h1) cs_X8_175 ⟨⟨by decide, by decide⟩, rfl, rfl⟩ [] rfl rfl rfl rfl (Nat.le_of_ble_eq_true rfl) ⟨Nat.zero_le _, Nat.zero_le _⟩ dX8_sheet_87 (fun hb1 => ?_)
        refine ww_istore (pc := 90) (lv' := [(10, .int v1), (9, .int s0), (0, .ref q_this), (1, .int n1), (2, .int n2), (3, .int n3), (4, .int n4), (5, .int n5), (6, .int n6)]) C dX8_sheet_90 (by decide) rfl ?_
        refine ww_iload (pc := 92) C dX8_sheet_92 1 rfl ?_
        refine ww_if_ne (pc := 94) (tgt := 135) C dX8_sheet_94 (by decide) (fun hc => ?_) (fun hc => ?_)
        · have hf := ifF hc hf
          exact ww_lv [2, 8, 1] rfl (hJ135 c_rowMany c_thrown c_now c_row n6 s0 hf)
        · have hf := ifT hc hf
          refine ww_iload (pc := 97) C dX8_sheet_97 0 rfl ?_
          refine ww_iconst (pc := 99) C dX8_sheet_99 kI_0 ?_
          refine ww_iconst (pc := 100) C dX8_sheet_100 kI_2 ?_
          obtain ⟨v2, h2, hf⟩ := bsome hf
          refine ww_callSi0 (pc := 101) (As := [.int v1, .int (0 : Int32), .int (2 : Int32)]) (rest := []) C (tX8_in l D k v1 (0 : Int32) (2 : Int32) v2 h2) cs_X8_72 ⟨⟨by decide, by decide⟩, rfl, rfl⟩ [] rfl rfl rfl rfl (Nat.le_of_ble_eq_true rfl) ⟨Nat.zero_le _, Nat.zero_le _⟩ dX8_sheet_101 (fun hb2 => ?_)
          refine ww_if_eq (pc := 104) (tgt := 135) C dX8_sheet_104 (by decide) (fun hc => ?_) (fun hc => ?_)
          · have hf := ifT hc hf
            exact ww_lv [2, 8, 1] rfl (hJ135 c_rowMany c_thrown c_now c_row n6 s0 hf)
          · have hf := ifF hc hf
            refine ww_aload_n (pc := 107) C dX8_sheet_107 rfl 2 rfl ?_
            refine ww_aload_n (pc := 108) C dX8_sheet_108 rfl 2 rfl ?_
            refine ww_iload_n (pc := 109) C dX8_sheet_109 rfl 3 rfl ?_
            refine ww_iload (pc := 110) C dX8_sheet_110 8 rfl ?_
            refine ww_iadd (pc := 112) C dX8_sheet_112  ?_
            obtain ⟨v3, h3, hf⟩ := bsome hf
            refine ww_callVi0 (pc := 113) (As := [.int (n1 + n6)]) (rest := [.ref q_this]) C (tX8_iOf l D k q_this q_now q_text q_row q_read q_outerCell q_outerDoor q_walked q_onWalks q_far q_aside q_wasFull q_undos q_was q_kept q_isKept c_typed c_rowMany c_thrown c_length c_at c_wrong c_outerMany c_walkedMany c_cameOut c_undoMany c_drawn c_now (n1 + n6) v3 h3) cv_X8_84 ⟨⟨by decide, by decide⟩, rfl, rfl⟩ 0 rfl rfl [0, 1] rfl rfl rfl rfl (Nat.le_of_ble_eq_true rfl) ⟨Nat.zero_le _, Nat.zero_le _⟩ dX8_sheet_113 (fun hb3 => ?_)
            refine ww_aload_n (pc := 116) C dX8_sheet_116 rfl 2 rfl ?_
            refine ww_iload_n (pc := 117) C dX8_sheet_117 rfl 3 rfl ?_
            refine ww_iload (pc := 118) C dX8_sheet_118 8 rfl ?_
            refine ww_iadd (pc := 120) C dX8_sheet_120  ?_
            obtain ⟨v4, h4, hf⟩ := bsome hf
            refine ww_callVi0 (pc := 121) (As := [.int (n1 + n6)]) (rest := [.int v3, .ref q_this]) C (tX8_jOf l D k q_this q_now q_text q_row q_read q_outerCell q_outerDoor q_walked q_onWalks q_far q_aside q_wasFull q_undos q_was q_kept q_isKept c_typed c_rowMany c_thrown c_length c_at c_wrong c_outerMany c_walkedMany c_cameOut c_undoMany c_drawn c_now (n1 + n6) v4 h4) cv_X8_179 ⟨⟨by decide, by decide⟩, rfl, rfl⟩ 0 rfl rfl [0, 1] rfl rfl rfl rfl (Nat.le_of_ble_eq_true rfl) ⟨Nat.zero_le _, Nat.zero_le _⟩ dX8_sheet_121 (fun hb4 => ?_)
            refine ww_iload (pc := 124) C dX8_sheet_124 0 rfl ?_
            obtain ⟨v5, h5, hf⟩ := bsome hf
            refine ww_callVi0 (pc := 126) (As := [.int v3, .int v4, .int v1]) (rest := []) C (tX8_canHave l D k q_this q_now q_text q_row q_read q_outerCell q_outerDoor q_walked q_onWalks q_far q_aside q_wasFull q_undos q_was q_kept q_isKept c_typed c_rowMany c_thrown c_length c_at c_wrong c_outerMany c_walkedMany c_cameOut c_undoMany c_drawn c_now v3 v4 v1 v5 h5) cv_X8_111 ⟨⟨by decide, by decide⟩, rfl, rfl⟩ 0 rfl rfl [0, 1] rfl rfl rfl rfl (Nat.le_of_ble_eq_true rfl) ⟨Nat.zero_le _, Nat.zero_le _⟩ dX8_sheet_126 (fun hb5 => ?_)
            refine ww_if_eq (pc := 129) (tgt := 135) C dX8_sheet_129 (by decide) (fun hc => ?_) (fun hc => ?_)
            · have hf := ifT hc hf
              exact ww_lv [2, 8, 1] rfl (hJ135 c_rowMany c_thrown c_now c_row n6 s0 hf)
            · have hf := ifF hc hf
              refine ww_goto (pc := 132) (tgt := 166) C dX8_sheet_132 (by decide) ?_
              obtain ⟨v6, h6, hf⟩ := bsome hf
              refine ww_iincN (pc := 166) (lv' := [(6, .int v6), (10, .int v1), (9, .int s0), (0, .ref q_this), (1, .int n1), (2, .int n2), (3, .int n3), (4, .int n4), (5, .int n5)]) (j := 8) C dX8_sheet_166 kI_1 rfl h6 (by decide) rfl ?_
              refine ww_goto (pc := 169) (tgt := 41) C dX8_sheet_169 (by decide) ?_
              exact ww_lv [3, 4, 5, 6, 7, 8, 0] rfl (ih41 c_rowMany c_thrown c_now c_row n1 n2 n3 n4 n5 v6 hf)
      have hJ73 : ∀ (c_rowMany : Int32) (c_thrown : Int32) (c_now : Nat → Int32) (c_row : Nat → Int64) (n1 : Int32) (n2 : Int32) (n3 : Int32) (n4 : Int32) (n5 : Int32) (n6 : Int32), fX8_sheet_b73 rc41 c_rowMany c_thrown c_now c_row n1 n2 n3 n4 n5 n6 = some (r_, w_rowMany, w_thrown, w_now, w_row) → WW p l e (RM 4 85) s m args below meth c Q 11 D A 0 0 [oX8 q_this q_now q_text c_typed q_row c_rowMany c_thrown c_length c_at c_wrong q_read q_outerCell q_outerDoor c_outerMany q_walked c_walkedMany c_cameOut q_onWalks q_far q_aside q_wasFull q_undos q_was c_undoMany c_drawn q_kept q_isKept, aI k q_now 189 c_now, aJ k q_row 64 c_row] [(0, .ref q_this), (1, .int n1), (2, .int n2), (3, .int n3), (4, .int n4), (5, .int n5), (6, .int n6)] 73 [] := by
        intro c_rowMany c_thrown c_now c_row n1 n2 n3 n4 n5 n6
        intro hf
        unfold fX8_sheet_b73 at hf
        refine ww_iconst (pc := 73) C dX8_sheet_73 kI_1 ?_
        refine ww_goto (pc := 74) (tgt := 78) C dX8_sheet_74 (by decide) ?_
        exact hJ78 c_rowMany c_thrown c_now c_row n1 n2 n3 n4 n5 n6 (1 : Int32) hf
      intro c_rowMany c_thrown c_now c_row n1 n2 n3 n4 n5 n6 hf
      have hf : fX8_sheet_b41 rc41 c_rowMany c_thrown c_now c_row n1 n2 n3 n4 n5 n6 = some (r_, w_rowMany, w_thrown, w_now, w_row) := by rw [hrc41]; exact hf
      unfold fX8_sheet_b41 at hf
      refine ww_iload (pc := 41) C dX8_sheet_41 6 rfl ?_
      refine ww_iload_n (pc := 43) C dX8_sheet_43 rfl 3 rfl ?_
      refine ww_icmp_ge (pc := 44) (tgt := 172) C dX8_sheet_44 (by decide) (fun hc => ?_) (fun hc => ?_)
      · have hf := ifT hc hf
        refine ww_iconst (pc := 172) C dX8_sheet_172 kI_0 ?_
        refine ww_istore (pc := 173) (lv' := [(6, .int (0 : Int32)), (0, .ref q_this), (1, .int n1), (2, .int n2), (3, .int n3), (4, .int n4), (5, .int n5)]) C dX8_sheet_173 (by decide) rfl ?_
        refine ww_iconst (pc := 175) C dX8_sheet_175 kI_0 ?_
        refine ww_istore (pc := 176) (lv' := [(7, .int (0 : Int32)), (6, .int (0 : Int32)), (0, .ref q_this), (1, .int n1), (2, .int n2), (3, .int n3), (4, .int n4), (5, .int n5)]) C dX8_sheet_176 (by decide) rfl ?_
        exact ww_lv [2, 3, 4, 5, 6, 7, 1, 0] rfl (hL178 FU c_rowMany c_thrown c_now c_row n1 n2 n3 n4 n5 (0 : Int32) (0 : Int32) hf)
      · have hf := ifF hc hf
        refine ww_iload_n (pc := 47) C dX8_sheet_47 rfl 1 rfl ?_
        refine ww_i2l (pc := 48) C dX8_sheet_48  ?_
        refine ww_iload (pc := 49) C dX8_sheet_49 6 rfl ?_
        refine ww_i2l (pc := 51) C dX8_sheet_51  ?_
        refine ww_ladd (pc := 52) C dX8_sheet_52  ?_
        obtain ⟨v1, h1, hf⟩ := bsome hf
        refine ww_nml h1 ?_
        refine ww_lstore (pc := 53) (lv' := [(7, .long v1), (0, .ref q_this), (1, .int n1), (2, .int n2), (3, .int n3), (4, .int n4), (5, .int n5), (6, .int n6)]) C dX8_sheet_53 (by decide) rfl ?_
        refine ww_lload (pc := 55) C dX8_sheet_55 0 rfl ?_
        refine ww_lconst (pc := 57) C dX8_sheet_57 kL_0 ?_
        refine ww_lcmp (pc := 58) C dX8_sheet_58  ?_
        refine ww_if_lt (pc := 59) (tgt := 73) C dX8_sheet_59 (by decide) (fun hc => ?_) (fun hc => ?_)
        · have hf := ifT hc hf
          exact ww_lv [1, 2, 3, 4, 5, 6, 7] rfl (hJ73 c_rowMany c_thrown c_now c_row n1 n2 n3 n4 n5 n6 hf)
        · have hf := ifF hc hf
          refine ww_lload (pc := 62) C dX8_sheet_62 0 rfl ?_
          refine ww_aload_n (pc := 64) C dX8_sheet_64 rfl 1 rfl ?_
          obtain ⟨v2, h2, hf⟩ := bsome hf
          refine ww_callVi0 (pc := 65) (As := []) (rest := [.long v1]) C (tX8_points l D k q_this q_now q_text q_row q_read q_outerCell q_outerDoor q_walked q_onWalks q_far q_aside q_wasFull q_undos q_was q_kept q_isKept c_typed c_rowMany c_thrown c_length c_at c_wrong c_outerMany c_walkedMany c_cameOut c_undoMany c_drawn c_now v2 h2) cv_X8_172 ⟨⟨by decide, by decide⟩, rfl, rfl⟩ 0 rfl rfl [0, 1] rfl rfl rfl rfl (Nat.le_of_ble_eq_true rfl) ⟨Nat.zero_le _, Nat.zero_le _⟩ dX8_sheet_65 (fun hb2 => ?_)
          refine ww_i2l (pc := 68) C dX8_sheet_68  ?_
          refine ww_lcmp (pc := 69) C dX8_sheet_69  ?_
          refine ww_if_lt (pc := 70) (tgt := 77) C dX8_sheet_70 (by decide) (fun hc => ?_) (fun hc => ?_)
          · have hf := ifT hc hf
            refine ww_iconst (pc := 77) C dX8_sheet_77 kI_0 ?_
            exact ww_lv [1, 2, 3, 4, 5, 6, 7] rfl (hJ78 c_rowMany c_thrown c_now c_row n1 n2 n3 n4 n5 n6 (0 : Int32) hf)
          · have hf := ifF hc hf
            exact ww_lv [1, 2, 3, 4, 5, 6, 7] rfl (hJ73 c_rowMany c_thrown c_now c_row n1 n2 n3 n4 n5 n6 hf)
  unfold fX8_sheet at hf
  refine ww_aload_n (pc := 0) C dX8_sheet_0 rfl 0 rfl ?_
  refine ww_iconst (pc := 1) C dX8_sheet_1 kI_0 ?_
  refine pf8_5 (pc := 2) (ws' := [oX8 q_this q_now q_text c_typed q_row c_rowMany (0 : Int32) c_length c_at c_wrong q_read q_outerCell q_outerDoor c_outerMany q_walked c_walkedMany c_cameOut q_onWalks q_far q_aside q_wasFull q_undos q_was c_undoMany c_drawn q_kept q_isKept, aI k q_now 189 c_now, aJ k q_row 64 c_row]) C kf_X8_61 0 rfl (Nat.le_of_ble_eq_true rfl) rfl dX8_sheet_2 ?_
  refine ww_iload_n (pc := 5) C dX8_sheet_5 rfl 2 rfl ?_
  refine ww_iconst (pc := 6) C dX8_sheet_6 kI_0 ?_
  refine ww_iconst (pc := 7) C dX8_sheet_7 kI_3 ?_
  obtain ⟨v1, h1, hf⟩ := bsome hf
  refine ww_callSi0 (pc := 8) (As := [.int x2, .int (0 : Int32), .int (3 : Int32)]) (rest := []) C (tX8_in l D k x2 (0 : Int32) (3 : Int32) v1 h1) cs_X8_72 ⟨⟨by decide, by decide⟩, rfl, rfl⟩ [] rfl rfl rfl rfl (Nat.le_of_ble_eq_true rfl) ⟨Nat.zero_le _, Nat.zero_le _⟩ dX8_sheet_8 (fun hb1 => ?_)
  refine ww_if_eq (pc := 11) (tgt := 21) C dX8_sheet_11 (by decide) (fun hc => ?_) (fun hc => ?_)
  · have hf := ifT hc hf
    refine ww_iconst (pc := 21) C dX8_sheet_21 kI_m1 ?_
    obtain ⟨e0, e1, e2, e3, e4⟩ := ij5 hf
    exact hret _ _ 22 _ dX8_sheet_22 rfl e0 (by rw [← e1, ← e2, ← e3, ← e4])
  · have hf := ifF hc hf
    refine ww_iload_n (pc := 14) C dX8_sheet_14 rfl 3 rfl ?_
    refine ww_sipush (pc := 15) C dX8_sheet_15 kS_160 ?_
    refine ww_icmp_le (pc := 18) (tgt := 23) C dX8_sheet_18 (by decide) (fun hc => ?_) (fun hc => ?_)
    · have hf := ifT hc hf
      refine ww_iload_n (pc := 23) C dX8_sheet_23 rfl 2 rfl ?_
      refine ww_iconst (pc := 24) C dX8_sheet_24 kI_3 ?_
      refine ww_icmp_ne (pc := 25) (tgt := 31) C dX8_sheet_25 (by decide) (fun hc => ?_) (fun hc => ?_)
      · have hf := ifF hc hf
        refine ww_iload_n (pc := 31) C dX8_sheet_31 rfl 3 rfl ?_
        refine ww_if_ge (pc := 32) (tgt := 38) C dX8_sheet_32 (by decide) (fun hc => ?_) (fun hc => ?_)
        · have hf := ifT hc hf
          refine ww_iconst (pc := 38) C dX8_sheet_38 kI_0 ?_
          refine ww_istore (pc := 39) (lv' := [(6, .int (0 : Int32)), (0, .ref q_this), (1, .int x1), (2, .int x2), (3, .int x3), (4, .int x4), (5, .int x5)]) C dX8_sheet_39 (by decide) rfl ?_
          exact ww_lv [1, 2, 3, 4, 5, 6, 0] rfl (hL41 FU c_rowMany (0 : Int32) c_now c_row x1 x2 x3 x4 x5 (0 : Int32) hf)
        · have hf := ifF hc hf
          refine ww_bipush (pc := 35) C dX8_sheet_35 kB_m2 ?_
          obtain ⟨e0, e1, e2, e3, e4⟩ := ij5 hf
          exact hret _ _ 37 _ dX8_sheet_37 rfl e0 (by rw [← e1, ← e2, ← e3, ← e4])
      · have hf := ifT hc hf
        refine ww_bipush (pc := 28) C dX8_sheet_28 kB_m3 ?_
        obtain ⟨e0, e1, e2, e3, e4⟩ := ij5 hf
        exact hret _ _ 30 _ dX8_sheet_30 rfl e0 (by rw [← e1, ← e2, ← e3, ← e4])
    · have hf := ifF hc hf
      refine ww_iconst (pc := 21) C dX8_sheet_21 kI_m1 ?_
      obtain ⟨e0, e1, e2, e3, e4⟩ := ij5 hf
      exact hret _ _ 22 _ dX8_sheet_22 rfl e0 (by rw [← e1, ← e2, ← e3, ← e4])
def fX8_cellI (c_now : Nat → Int32) (x1 : Int32) : Option Int32 := (fX8_n c_now).bind fun v1 => (dvI (x1 / (2 : Int32)) v1).bind fun v2 => some (v2)
set_option maxHeartbeats 4000000 in
set_option maxRecDepth 100000 in
theorem tX8_cellI (l : Launch) (D : va_G) (k : Nat → ClassId) (q_this q_now q_text q_row q_read q_outerCell q_outerDoor q_walked q_onWalks q_far q_aside q_wasFull q_undos q_was q_kept q_isKept : Nat) (c_typed : Int32) (c_rowMany : Int32) (c_thrown : Int32) (c_length : Int32) (c_at : Int32) (c_wrong : Int32) (c_outerMany : Int32) (c_walkedMany : Int32) (c_cameOut : Int32) (c_undoMany : Int32) (c_drawn : Int32) (c_now : Nat → Int32) (x1 : Int32) (r_ : Int32) (hf : fX8_cellI c_now x1 = some (r_)) : MI l yX8_cellI cX8_cellI 2 .int (RM 1 20) D k [.ref q_this, .int x1] [oX8 q_this q_now q_text c_typed q_row c_rowMany c_thrown c_length c_at c_wrong q_read q_outerCell q_outerDoor c_outerMany q_walked c_walkedMany c_cameOut q_onWalks q_far q_aside q_wasFull q_undos q_was c_undoMany c_drawn q_kept q_isKept, aI k q_now 189 c_now] r_ [oX8 q_this q_now q_text c_typed q_row c_rowMany c_thrown c_length c_at c_wrong q_read q_outerCell q_outerDoor c_outerMany q_walked c_walkedMany c_cameOut q_onWalks q_far q_aside q_wasFull q_undos q_was c_undoMany c_drawn q_kept q_isKept, aI k q_now 189 c_now] := by
  refine mkMI' (own := "DoorWalkModel") (by decide) rfl (Nat.le_of_ble_eq_true rfl) ?_
  intro p e s m args below meth c Q A hret C
  refine ww_lv (lv' := [(0, .ref q_this), (1, .int x1)]) [0, 1] rfl ?_
  unfold fX8_cellI at hf
  refine ww_iload_n (pc := 0) C dX8_cellI_0 rfl 1 rfl ?_
  refine ww_iconst (pc := 1) C dX8_cellI_1 kI_2 ?_
  refine ww_idivC (pc := 2) C dX8_cellI_2 (by decide) ?_
  refine ww_aload_n (pc := 3) C dX8_cellI_3 rfl 0 rfl ?_
  obtain ⟨v1, h1, hf⟩ := bsome hf
  refine ww_callVi0 (pc := 4) (As := []) (rest := [.int (x1 / (2 : Int32))]) C (tX8_n l D k q_this q_now q_text q_row q_read q_outerCell q_outerDoor q_walked q_onWalks q_far q_aside q_wasFull q_undos q_was q_kept q_isKept c_typed c_rowMany c_thrown c_length c_at c_wrong c_outerMany c_walkedMany c_cameOut c_undoMany c_drawn c_now v1 h1) cv_X8_68 ⟨⟨by decide, by decide⟩, rfl, rfl⟩ 0 rfl rfl [0, 1] rfl rfl rfl rfl (Nat.le_of_ble_eq_true rfl) ⟨Nat.zero_le _, Nat.zero_le _⟩ dX8_cellI_4 (fun hb1 => ?_)
  obtain ⟨v2, h2, hf⟩ := bsome hf
  refine ww_idiv (pc := 7) C dX8_cellI_7 h2 ?_
  obtain e0 := ij1 hf
  exact hret _ _ 8 _ dX8_cellI_8 rfl e0 rfl
def fX8_cellJ (c_now : Nat → Int32) (x1 : Int32) : Option Int32 := (fX8_n c_now).bind fun v1 => (rmI (x1 / (2 : Int32)) v1).bind fun v2 => some (v2)
set_option maxHeartbeats 4000000 in
set_option maxRecDepth 100000 in
theorem tX8_cellJ (l : Launch) (D : va_G) (k : Nat → ClassId) (q_this q_now q_text q_row q_read q_outerCell q_outerDoor q_walked q_onWalks q_far q_aside q_wasFull q_undos q_was q_kept q_isKept : Nat) (c_typed : Int32) (c_rowMany : Int32) (c_thrown : Int32) (c_length : Int32) (c_at : Int32) (c_wrong : Int32) (c_outerMany : Int32) (c_walkedMany : Int32) (c_cameOut : Int32) (c_undoMany : Int32) (c_drawn : Int32) (c_now : Nat → Int32) (x1 : Int32) (r_ : Int32) (hf : fX8_cellJ c_now x1 = some (r_)) : MI l yX8_cellJ cX8_cellJ 2 .int (RM 1 20) D k [.ref q_this, .int x1] [oX8 q_this q_now q_text c_typed q_row c_rowMany c_thrown c_length c_at c_wrong q_read q_outerCell q_outerDoor c_outerMany q_walked c_walkedMany c_cameOut q_onWalks q_far q_aside q_wasFull q_undos q_was c_undoMany c_drawn q_kept q_isKept, aI k q_now 189 c_now] r_ [oX8 q_this q_now q_text c_typed q_row c_rowMany c_thrown c_length c_at c_wrong q_read q_outerCell q_outerDoor c_outerMany q_walked c_walkedMany c_cameOut q_onWalks q_far q_aside q_wasFull q_undos q_was c_undoMany c_drawn q_kept q_isKept, aI k q_now 189 c_now] := by
  refine mkMI' (own := "DoorWalkModel") (by decide) rfl (Nat.le_of_ble_eq_true rfl) ?_
  intro p e s m args below meth c Q A hret C
  refine ww_lv (lv' := [(0, .ref q_this), (1, .int x1)]) [0, 1] rfl ?_
  unfold fX8_cellJ at hf
  refine ww_iload_n (pc := 0) C dX8_cellJ_0 rfl 1 rfl ?_
  refine ww_iconst (pc := 1) C dX8_cellJ_1 kI_2 ?_
  refine ww_idivC (pc := 2) C dX8_cellJ_2 (by decide) ?_
  refine ww_aload_n (pc := 3) C dX8_cellJ_3 rfl 0 rfl ?_
  obtain ⟨v1, h1, hf⟩ := bsome hf
  refine ww_callVi0 (pc := 4) (As := []) (rest := [.int (x1 / (2 : Int32))]) C (tX8_n l D k q_this q_now q_text q_row q_read q_outerCell q_outerDoor q_walked q_onWalks q_far q_aside q_wasFull q_undos q_was q_kept q_isKept c_typed c_rowMany c_thrown c_length c_at c_wrong c_outerMany c_walkedMany c_cameOut c_undoMany c_drawn c_now v1 h1) cv_X8_68 ⟨⟨by decide, by decide⟩, rfl, rfl⟩ 0 rfl rfl [0, 1] rfl rfl rfl rfl (Nat.le_of_ble_eq_true rfl) ⟨Nat.zero_le _, Nat.zero_le _⟩ dX8_cellJ_4 (fun hb1 => ?_)
  obtain ⟨v2, h2, hf⟩ := bsome hf
  refine ww_irem (pc := 7) C dX8_cellJ_7 h2 ?_
  obtain e0 := ij1 hf
  exact hret _ _ 8 _ dX8_cellJ_8 rfl e0 rfl
def fX8_isCell (c_now : Nat → Int32) (x1 : Int32) : Option Int32 := if x1 < 0 then some ((0 : Int32)) else (fX8_cellI c_now x1).bind fun v1 => (fX8_cellJ c_now x1).bind fun v2 => (fX8_n c_now).bind fun v3 => if ((v3 - (1 : Int32)) - (x1 - x1 / (2 : Int32) * (2 : Int32))) < (v1 + v2) then some ((0 : Int32)) else some ((1 : Int32))
set_option maxHeartbeats 4000000 in
set_option maxRecDepth 100000 in
theorem tX8_isCell (l : Launch) (D : va_G) (k : Nat → ClassId) (q_this q_now q_text q_row q_read q_outerCell q_outerDoor q_walked q_onWalks q_far q_aside q_wasFull q_undos q_was q_kept q_isKept : Nat) (c_typed : Int32) (c_rowMany : Int32) (c_thrown : Int32) (c_length : Int32) (c_at : Int32) (c_wrong : Int32) (c_outerMany : Int32) (c_walkedMany : Int32) (c_cameOut : Int32) (c_undoMany : Int32) (c_drawn : Int32) (c_now : Nat → Int32) (x1 : Int32) (r_ : Int32) (hf : fX8_isCell c_now x1 = some (r_)) : MI l yX8_isCell cX8_isCell 2 .boolean (RM 2 41) D k [.ref q_this, .int x1] [oX8 q_this q_now q_text c_typed q_row c_rowMany c_thrown c_length c_at c_wrong q_read q_outerCell q_outerDoor c_outerMany q_walked c_walkedMany c_cameOut q_onWalks q_far q_aside q_wasFull q_undos q_was c_undoMany c_drawn q_kept q_isKept, aI k q_now 189 c_now] r_ [oX8 q_this q_now q_text c_typed q_row c_rowMany c_thrown c_length c_at c_wrong q_read q_outerCell q_outerDoor c_outerMany q_walked c_walkedMany c_cameOut q_onWalks q_far q_aside q_wasFull q_undos q_was c_undoMany c_drawn q_kept q_isKept, aI k q_now 189 c_now] := by
  refine mkMI' (own := "DoorWalkModel") (by decide) rfl (Nat.le_of_ble_eq_true rfl) ?_
  intro p e s m args below meth c Q A hret C
  refine ww_lv (lv' := [(0, .ref q_this), (1, .int x1)]) [0, 1] rfl ?_
  unfold fX8_isCell at hf
  refine ww_iload_n (pc := 0) C dX8_isCell_0 rfl 1 rfl ?_
  refine ww_if_lt (pc := 1) (tgt := 32) C dX8_isCell_1 (by decide) (fun hc => ?_) (fun hc => ?_)
  · have hf := ifT hc hf
    refine ww_iconst (pc := 32) C dX8_isCell_32 kI_0 ?_
    obtain e0 := ij1 hf
    exact hret _ _ 33 _ dX8_isCell_33 (by decide) e0 rfl
  · have hf := ifF hc hf
    refine ww_aload_n (pc := 4) C dX8_isCell_4 rfl 0 rfl ?_
    refine ww_iload_n (pc := 5) C dX8_isCell_5 rfl 1 rfl ?_
    obtain ⟨v1, h1, hf⟩ := bsome hf
    refine ww_callVi0 (pc := 6) (As := [.int x1]) (rest := []) C (tX8_cellI l D k q_this q_now q_text q_row q_read q_outerCell q_outerDoor q_walked q_onWalks q_far q_aside q_wasFull q_undos q_was q_kept q_isKept c_typed c_rowMany c_thrown c_length c_at c_wrong c_outerMany c_walkedMany c_cameOut c_undoMany c_drawn c_now x1 v1 h1) cv_X8_191 ⟨⟨by decide, by decide⟩, rfl, rfl⟩ 0 rfl rfl [0, 1] rfl rfl rfl rfl (Nat.le_of_ble_eq_true rfl) ⟨Nat.zero_le _, Nat.zero_le _⟩ dX8_isCell_6 (fun hb1 => ?_)
    refine ww_aload_n (pc := 9) C dX8_isCell_9 rfl 0 rfl ?_
    refine ww_iload_n (pc := 10) C dX8_isCell_10 rfl 1 rfl ?_
    obtain ⟨v2, h2, hf⟩ := bsome hf
    refine ww_callVi0 (pc := 11) (As := [.int x1]) (rest := [.int v1]) C (tX8_cellJ l D k q_this q_now q_text q_row q_read q_outerCell q_outerDoor q_walked q_onWalks q_far q_aside q_wasFull q_undos q_was q_kept q_isKept c_typed c_rowMany c_thrown c_length c_at c_wrong c_outerMany c_walkedMany c_cameOut c_undoMany c_drawn c_now x1 v2 h2) cv_X8_194 ⟨⟨by decide, by decide⟩, rfl, rfl⟩ 0 rfl rfl [0, 1] rfl rfl rfl rfl (Nat.le_of_ble_eq_true rfl) ⟨Nat.zero_le _, Nat.zero_le _⟩ dX8_isCell_11 (fun hb2 => ?_)
    refine ww_iadd (pc := 14) C dX8_isCell_14  ?_
    refine ww_aload_n (pc := 15) C dX8_isCell_15 rfl 0 rfl ?_
    obtain ⟨v3, h3, hf⟩ := bsome hf
    refine ww_callVi0 (pc := 16) (As := []) (rest := [.int (v1 + v2)]) C (tX8_n l D k q_this q_now q_text q_row q_read q_outerCell q_outerDoor q_walked q_onWalks q_far q_aside q_wasFull q_undos q_was q_kept q_isKept c_typed c_rowMany c_thrown c_length c_at c_wrong c_outerMany c_walkedMany c_cameOut c_undoMany c_drawn c_now v3 h3) cv_X8_68 ⟨⟨by decide, by decide⟩, rfl, rfl⟩ 0 rfl rfl [0, 1] rfl rfl rfl rfl (Nat.le_of_ble_eq_true rfl) ⟨Nat.zero_le _, Nat.zero_le _⟩ dX8_isCell_16 (fun hb3 => ?_)
    refine ww_iconst (pc := 19) C dX8_isCell_19 kI_1 ?_
    refine ww_isub (pc := 20) C dX8_isCell_20  ?_
    refine ww_iload_n (pc := 21) C dX8_isCell_21 rfl 1 rfl ?_
    refine ww_iconst (pc := 22) C dX8_isCell_22 kI_2 ?_
    refine ww_iremC (pc := 23) C dX8_isCell_23 (by decide) ?_
    refine ww_isub (pc := 24) C dX8_isCell_24  ?_
    refine ww_icmp_gt (pc := 25) (tgt := 32) C dX8_isCell_25 (by decide) (fun hc => ?_) (fun hc => ?_)
    · have hf := ifT hc hf
      refine ww_iconst (pc := 32) C dX8_isCell_32 kI_0 ?_
      obtain e0 := ij1 hf
      exact hret _ _ 33 _ dX8_isCell_33 (by decide) e0 rfl
    · have hf := ifF hc hf
      refine ww_iconst (pc := 28) C dX8_isCell_28 kI_1 ?_
      refine ww_goto (pc := 29) (tgt := 33) C dX8_isCell_29 (by decide) ?_
      obtain e0 := ij1 hf
      exact hret _ _ 33 _ dX8_isCell_33 (by decide) e0 rfl
def fX8_corner_b74 (c_now : Nat → Int32) (s1 : Int32) (s2 : Int32) (s3 : Int32) : Option Int32 := (fX8_place c_now s1 (s2 + s3)).bind fun v1 => some (v1)
def fX8_corner_b61 (c_now : Nat → Int32) (n2 : Int32) (n4 : Int32) (s1 : Int32) (s2 : Int32) : Option Int32 := if n2 = (2 : Int32) then fX8_corner_b74 c_now (s1 + s2) n4 (0 : Int32) else fX8_corner_b74 c_now (s1 + s2) n4 (1 : Int32)
def fX8_corner_b44 (c_now : Nat → Int32) (s1 : Int32) (s2 : Int32) (s3 : Int32) : Option Int32 := (fX8_place c_now s1 (s2 + s3)).bind fun v1 => some (v1)
def fX8_corner_b31 (c_now : Nat → Int32) (n2 : Int32) (n4 : Int32) (s1 : Int32) (s2 : Int32) : Option Int32 := if n2 = (2 : Int32) then fX8_corner_b44 c_now (s1 + s2) n4 (1 : Int32) else fX8_corner_b44 c_now (s1 + s2) n4 (0 : Int32)
def fX8_corner (c_now : Nat → Int32) (x1 : Int32) (x2 : Int32) : Option Int32 := (fX8_cellI c_now x1).bind fun v1 => (fX8_cellJ c_now x1).bind fun v2 => if (x1 - x1 / (2 : Int32) * (2 : Int32)) = 0 then if x2 = (1 : Int32) then fX8_corner_b31 c_now x2 v2 v1 (1 : Int32) else fX8_corner_b31 c_now x2 v2 v1 (0 : Int32) else if x2 = (1 : Int32) then fX8_corner_b61 c_now x2 v2 v1 (0 : Int32) else fX8_corner_b61 c_now x2 v2 v1 (1 : Int32)
set_option maxHeartbeats 4000000 in
set_option maxRecDepth 100000 in
theorem tX8_corner (l : Launch) (D : va_G) (k : Nat → ClassId) (q_this q_now q_text q_row q_read q_outerCell q_outerDoor q_walked q_onWalks q_far q_aside q_wasFull q_undos q_was q_kept q_isKept : Nat) (c_typed : Int32) (c_rowMany : Int32) (c_thrown : Int32) (c_length : Int32) (c_at : Int32) (c_wrong : Int32) (c_outerMany : Int32) (c_walkedMany : Int32) (c_cameOut : Int32) (c_undoMany : Int32) (c_drawn : Int32) (c_now : Nat → Int32) (x1 : Int32) (x2 : Int32) (r_ : Int32) (hf : fX8_corner c_now x1 x2 = some (r_)) : MI l yX8_corner cX8_corner 5 .int (RM 2 42) D k [.ref q_this, .int x1, .int x2] [oX8 q_this q_now q_text c_typed q_row c_rowMany c_thrown c_length c_at c_wrong q_read q_outerCell q_outerDoor c_outerMany q_walked c_walkedMany c_cameOut q_onWalks q_far q_aside q_wasFull q_undos q_was c_undoMany c_drawn q_kept q_isKept, aI k q_now 189 c_now] r_ [oX8 q_this q_now q_text c_typed q_row c_rowMany c_thrown c_length c_at c_wrong q_read q_outerCell q_outerDoor c_outerMany q_walked c_walkedMany c_cameOut q_onWalks q_far q_aside q_wasFull q_undos q_was c_undoMany c_drawn q_kept q_isKept, aI k q_now 189 c_now] := by
  refine mkMI' (own := "DoorWalkModel") (by decide) rfl (Nat.le_of_ble_eq_true rfl) ?_
  intro p e s m args below meth c Q A hret C
  refine ww_lv (lv' := [(0, .ref q_this), (1, .int x1), (2, .int x2)]) [0, 1, 2] rfl ?_
  have hJ74 : ∀ (s1 : Int32) (s2 : Int32) (s3 : Int32), fX8_corner_b74 c_now s1 s2 s3 = some (r_) → WW p l e (RM 2 42) s m args below meth c Q 5 D A 0 0 [oX8 q_this q_now q_text c_typed q_row c_rowMany c_thrown c_length c_at c_wrong q_read q_outerCell q_outerDoor c_outerMany q_walked c_walkedMany c_cameOut q_onWalks q_far q_aside q_wasFull q_undos q_was c_undoMany c_drawn q_kept q_isKept, aI k q_now 189 c_now] [] 74 [.int s3, .int s2, .int s1, .ref q_this] := by
    intro s1 s2 s3
    intro hf
    unfold fX8_corner_b74 at hf
    refine ww_iadd (pc := 74) C dX8_corner_74  ?_
    obtain ⟨v1, h1, hf⟩ := bsome hf
    refine ww_callVi0 (pc := 75) (As := [.int s1, .int (s2 + s3)]) (rest := []) C (tX8_place l D k q_this q_now q_text q_row q_read q_outerCell q_outerDoor q_walked q_onWalks q_far q_aside q_wasFull q_undos q_was q_kept q_isKept c_typed c_rowMany c_thrown c_length c_at c_wrong c_outerMany c_walkedMany c_cameOut c_undoMany c_drawn c_now s1 (s2 + s3) v1 h1) cv_X8_80 ⟨⟨by decide, by decide⟩, rfl, rfl⟩ 0 rfl rfl [0, 1] rfl rfl rfl rfl (Nat.le_of_ble_eq_true rfl) ⟨Nat.zero_le _, Nat.zero_le _⟩ dX8_corner_75 (fun hb1 => ?_)
    obtain e0 := ij1 hf
    exact hret _ _ 78 _ dX8_corner_78 rfl e0 rfl
  have hJ61 : ∀ (n2 : Int32) (n4 : Int32) (s1 : Int32) (s2 : Int32), fX8_corner_b61 c_now n2 n4 s1 s2 = some (r_) → WW p l e (RM 2 42) s m args below meth c Q 5 D A 0 0 [oX8 q_this q_now q_text c_typed q_row c_rowMany c_thrown c_length c_at c_wrong q_read q_outerCell q_outerDoor c_outerMany q_walked c_walkedMany c_cameOut q_onWalks q_far q_aside q_wasFull q_undos q_was c_undoMany c_drawn q_kept q_isKept, aI k q_now 189 c_now] [(2, .int n2), (4, .int n4)] 61 [.int s2, .int s1, .ref q_this] := by
    intro n2 n4 s1 s2
    intro hf
    unfold fX8_corner_b61 at hf
    refine ww_iadd (pc := 61) C dX8_corner_61  ?_
    refine ww_iload (pc := 62) C dX8_corner_62 1 rfl ?_
    refine ww_iload_n (pc := 64) C dX8_corner_64 rfl 0 rfl ?_
    refine ww_iconst (pc := 65) C dX8_corner_65 kI_2 ?_
    refine ww_icmp_ne (pc := 66) (tgt := 73) C dX8_corner_66 (by decide) (fun hc => ?_) (fun hc => ?_)
    · have hf := ifF hc hf
      refine ww_iconst (pc := 73) C dX8_corner_73 kI_1 ?_
      exact ww_lv [] rfl (hJ74 (s1 + s2) n4 (1 : Int32) hf)
    · have hf := ifT hc hf
      refine ww_iconst (pc := 69) C dX8_corner_69 kI_0 ?_
      refine ww_goto (pc := 70) (tgt := 74) C dX8_corner_70 (by decide) ?_
      exact ww_lv [] rfl (hJ74 (s1 + s2) n4 (0 : Int32) hf)
  have hJ44 : ∀ (s1 : Int32) (s2 : Int32) (s3 : Int32), fX8_corner_b44 c_now s1 s2 s3 = some (r_) → WW p l e (RM 2 42) s m args below meth c Q 5 D A 0 0 [oX8 q_this q_now q_text c_typed q_row c_rowMany c_thrown c_length c_at c_wrong q_read q_outerCell q_outerDoor c_outerMany q_walked c_walkedMany c_cameOut q_onWalks q_far q_aside q_wasFull q_undos q_was c_undoMany c_drawn q_kept q_isKept, aI k q_now 189 c_now] [] 44 [.int s3, .int s2, .int s1, .ref q_this] := by
    intro s1 s2 s3
    intro hf
    unfold fX8_corner_b44 at hf
    refine ww_iadd (pc := 44) C dX8_corner_44  ?_
    obtain ⟨v1, h1, hf⟩ := bsome hf
    refine ww_callVi0 (pc := 45) (As := [.int s1, .int (s2 + s3)]) (rest := []) C (tX8_place l D k q_this q_now q_text q_row q_read q_outerCell q_outerDoor q_walked q_onWalks q_far q_aside q_wasFull q_undos q_was q_kept q_isKept c_typed c_rowMany c_thrown c_length c_at c_wrong c_outerMany c_walkedMany c_cameOut c_undoMany c_drawn c_now s1 (s2 + s3) v1 h1) cv_X8_80 ⟨⟨by decide, by decide⟩, rfl, rfl⟩ 0 rfl rfl [0, 1] rfl rfl rfl rfl (Nat.le_of_ble_eq_true rfl) ⟨Nat.zero_le _, Nat.zero_le _⟩ dX8_corner_45 (fun hb1 => ?_)
    obtain e0 := ij1 hf
    exact hret _ _ 48 _ dX8_corner_48 rfl e0 rfl
  have hJ31 : ∀ (n2 : Int32) (n4 : Int32) (s1 : Int32) (s2 : Int32), fX8_corner_b31 c_now n2 n4 s1 s2 = some (r_) → WW p l e (RM 2 42) s m args below meth c Q 5 D A 0 0 [oX8 q_this q_now q_text c_typed q_row c_rowMany c_thrown c_length c_at c_wrong q_read q_outerCell q_outerDoor c_outerMany q_walked c_walkedMany c_cameOut q_onWalks q_far q_aside q_wasFull q_undos q_was c_undoMany c_drawn q_kept q_isKept, aI k q_now 189 c_now] [(2, .int n2), (4, .int n4)] 31 [.int s2, .int s1, .ref q_this] := by
    intro n2 n4 s1 s2
    intro hf
    unfold fX8_corner_b31 at hf
    refine ww_iadd (pc := 31) C dX8_corner_31  ?_
    refine ww_iload (pc := 32) C dX8_corner_32 1 rfl ?_
    refine ww_iload_n (pc := 34) C dX8_corner_34 rfl 0 rfl ?_
    refine ww_iconst (pc := 35) C dX8_corner_35 kI_2 ?_
    refine ww_icmp_ne (pc := 36) (tgt := 43) C dX8_corner_36 (by decide) (fun hc => ?_) (fun hc => ?_)
    · have hf := ifF hc hf
      refine ww_iconst (pc := 43) C dX8_corner_43 kI_0 ?_
      exact ww_lv [] rfl (hJ44 (s1 + s2) n4 (0 : Int32) hf)
    · have hf := ifT hc hf
      refine ww_iconst (pc := 39) C dX8_corner_39 kI_1 ?_
      refine ww_goto (pc := 40) (tgt := 44) C dX8_corner_40 (by decide) ?_
      exact ww_lv [] rfl (hJ44 (s1 + s2) n4 (1 : Int32) hf)
  unfold fX8_corner at hf
  refine ww_aload_n (pc := 0) C dX8_corner_0 rfl 0 rfl ?_
  refine ww_iload_n (pc := 1) C dX8_corner_1 rfl 1 rfl ?_
  obtain ⟨v1, h1, hf⟩ := bsome hf
  refine ww_callVi0 (pc := 2) (As := [.int x1]) (rest := []) C (tX8_cellI l D k q_this q_now q_text q_row q_read q_outerCell q_outerDoor q_walked q_onWalks q_far q_aside q_wasFull q_undos q_was q_kept q_isKept c_typed c_rowMany c_thrown c_length c_at c_wrong c_outerMany c_walkedMany c_cameOut c_undoMany c_drawn c_now x1 v1 h1) cv_X8_191 ⟨⟨by decide, by decide⟩, rfl, rfl⟩ 0 rfl rfl [0, 1] rfl rfl rfl rfl (Nat.le_of_ble_eq_true rfl) ⟨Nat.zero_le _, Nat.zero_le _⟩ dX8_corner_2 (fun hb1 => ?_)
  refine ww_istore_n (pc := 5) (lv' := [(3, .int v1), (0, .ref q_this), (1, .int x1), (2, .int x2)]) C dX8_corner_5 rfl (by decide) rfl ?_
  refine ww_aload_n (pc := 6) C dX8_corner_6 rfl 1 rfl ?_
  refine ww_iload_n (pc := 7) C dX8_corner_7 rfl 2 rfl ?_
  obtain ⟨v2, h2, hf⟩ := bsome hf
  refine ww_callVi0 (pc := 8) (As := [.int x1]) (rest := []) C (tX8_cellJ l D k q_this q_now q_text q_row q_read q_outerCell q_outerDoor q_walked q_onWalks q_far q_aside q_wasFull q_undos q_was q_kept q_isKept c_typed c_rowMany c_thrown c_length c_at c_wrong c_outerMany c_walkedMany c_cameOut c_undoMany c_drawn c_now x1 v2 h2) cv_X8_194 ⟨⟨by decide, by decide⟩, rfl, rfl⟩ 0 rfl rfl [0, 1] rfl rfl rfl rfl (Nat.le_of_ble_eq_true rfl) ⟨Nat.zero_le _, Nat.zero_le _⟩ dX8_corner_8 (fun hb2 => ?_)
  refine ww_istore (pc := 11) (lv' := [(4, .int v2), (3, .int v1), (0, .ref q_this), (1, .int x1), (2, .int x2)]) C dX8_corner_11 (by decide) rfl ?_
  refine ww_iload_n (pc := 13) C dX8_corner_13 rfl 3 rfl ?_
  refine ww_iconst (pc := 14) C dX8_corner_14 kI_2 ?_
  refine ww_iremC (pc := 15) C dX8_corner_15 (by decide) ?_
  refine ww_if_ne (pc := 16) (tgt := 49) C dX8_corner_16 (by decide) (fun hc => ?_) (fun hc => ?_)
  · have hf := ifF hc hf
    refine ww_aload_n (pc := 49) C dX8_corner_49 rfl 2 rfl ?_
    refine ww_iload_n (pc := 50) C dX8_corner_50 rfl 1 rfl ?_
    refine ww_iload_n (pc := 51) C dX8_corner_51 rfl 4 rfl ?_
    refine ww_iconst (pc := 52) C dX8_corner_52 kI_1 ?_
    refine ww_icmp_ne (pc := 53) (tgt := 60) C dX8_corner_53 (by decide) (fun hc => ?_) (fun hc => ?_)
    · have hf := ifF hc hf
      refine ww_iconst (pc := 60) C dX8_corner_60 kI_1 ?_
      exact ww_lv [4, 0] rfl (hJ61 x2 v2 v1 (1 : Int32) hf)
    · have hf := ifT hc hf
      refine ww_iconst (pc := 56) C dX8_corner_56 kI_0 ?_
      refine ww_goto (pc := 57) (tgt := 61) C dX8_corner_57 (by decide) ?_
      exact ww_lv [4, 0] rfl (hJ61 x2 v2 v1 (0 : Int32) hf)
  · have hf := ifT hc hf
    refine ww_aload_n (pc := 19) C dX8_corner_19 rfl 2 rfl ?_
    refine ww_iload_n (pc := 20) C dX8_corner_20 rfl 1 rfl ?_
    refine ww_iload_n (pc := 21) C dX8_corner_21 rfl 4 rfl ?_
    refine ww_iconst (pc := 22) C dX8_corner_22 kI_1 ?_
    refine ww_icmp_ne (pc := 23) (tgt := 30) C dX8_corner_23 (by decide) (fun hc => ?_) (fun hc => ?_)
    · have hf := ifF hc hf
      refine ww_iconst (pc := 30) C dX8_corner_30 kI_0 ?_
      exact ww_lv [4, 0] rfl (hJ31 x2 v2 v1 (0 : Int32) hf)
    · have hf := ifT hc hf
      refine ww_iconst (pc := 26) C dX8_corner_26 kI_1 ?_
      refine ww_goto (pc := 27) (tgt := 31) C dX8_corner_27 (by decide) ?_
      exact ww_lv [4, 0] rfl (hJ31 x2 v2 v1 (1 : Int32) hf)
def fX8_cornerLabel (c_now : Nat → Int32) (x1 : Int32) (x2 : Int32) : Option Int32 := (fX8_corner c_now x1 x2).bind fun v1 => (fX8_labelAt c_now v1).bind fun v2 => some (v2)
set_option maxHeartbeats 4000000 in
set_option maxRecDepth 100000 in
theorem tX8_cornerLabel (l : Launch) (D : va_G) (k : Nat → ClassId) (q_this q_now q_text q_row q_read q_outerCell q_outerDoor q_walked q_onWalks q_far q_aside q_wasFull q_undos q_was q_kept q_isKept : Nat) (c_typed : Int32) (c_rowMany : Int32) (c_thrown : Int32) (c_length : Int32) (c_at : Int32) (c_wrong : Int32) (c_outerMany : Int32) (c_walkedMany : Int32) (c_cameOut : Int32) (c_undoMany : Int32) (c_drawn : Int32) (c_now : Nat → Int32) (x1 : Int32) (x2 : Int32) (r_ : Int32) (hf : fX8_cornerLabel c_now x1 x2 = some (r_)) : MI l yX8_cornerLabel cX8_cornerLabel 3 .int (RM 3 66) D k [.ref q_this, .int x1, .int x2] [oX8 q_this q_now q_text c_typed q_row c_rowMany c_thrown c_length c_at c_wrong q_read q_outerCell q_outerDoor c_outerMany q_walked c_walkedMany c_cameOut q_onWalks q_far q_aside q_wasFull q_undos q_was c_undoMany c_drawn q_kept q_isKept, aI k q_now 189 c_now] r_ [oX8 q_this q_now q_text c_typed q_row c_rowMany c_thrown c_length c_at c_wrong q_read q_outerCell q_outerDoor c_outerMany q_walked c_walkedMany c_cameOut q_onWalks q_far q_aside q_wasFull q_undos q_was c_undoMany c_drawn q_kept q_isKept, aI k q_now 189 c_now] := by
  refine mkMI' (own := "DoorWalkModel") (by decide) rfl (Nat.le_of_ble_eq_true rfl) ?_
  intro p e s m args below meth c Q A hret C
  refine ww_lv (lv' := [(0, .ref q_this), (1, .int x1), (2, .int x2)]) [0, 1, 2] rfl ?_
  unfold fX8_cornerLabel at hf
  refine ww_aload_n (pc := 0) C dX8_cornerLabel_0 rfl 0 rfl ?_
  refine ww_aload_n (pc := 1) C dX8_cornerLabel_1 rfl 0 rfl ?_
  refine ww_iload_n (pc := 2) C dX8_cornerLabel_2 rfl 1 rfl ?_
  refine ww_iload_n (pc := 3) C dX8_cornerLabel_3 rfl 2 rfl ?_
  obtain ⟨v1, h1, hf⟩ := bsome hf
  refine ww_callVi0 (pc := 4) (As := [.int x1, .int x2]) (rest := [.ref q_this]) C (tX8_corner l D k q_this q_now q_text q_row q_read q_outerCell q_outerDoor q_walked q_onWalks q_far q_aside q_wasFull q_undos q_was q_kept q_isKept c_typed c_rowMany c_thrown c_length c_at c_wrong c_outerMany c_walkedMany c_cameOut c_undoMany c_drawn c_now x1 x2 v1 h1) cv_X8_197 ⟨⟨by decide, by decide⟩, rfl, rfl⟩ 0 rfl rfl [0, 1] rfl rfl rfl rfl (Nat.le_of_ble_eq_true rfl) ⟨Nat.zero_le _, Nat.zero_le _⟩ dX8_cornerLabel_4 (fun hb1 => ?_)
  obtain ⟨v2, h2, hf⟩ := bsome hf
  refine ww_callVi0 (pc := 7) (As := [.int v1]) (rest := []) C (tX8_labelAt l D k q_this q_now q_text q_row q_read q_outerCell q_outerDoor q_walked q_onWalks q_far q_aside q_wasFull q_undos q_was q_kept q_isKept c_typed c_rowMany c_thrown c_length c_at c_wrong c_outerMany c_walkedMany c_cameOut c_undoMany c_drawn c_now v1 v2 h2) cv_X8_188 ⟨⟨by decide, by decide⟩, rfl, rfl⟩ 0 rfl rfl [0, 1] rfl rfl rfl rfl (Nat.le_of_ble_eq_true rfl) ⟨Nat.zero_le _, Nat.zero_le _⟩ dX8_cornerLabel_7 (fun hb2 => ?_)
  obtain e0 := ij1 hf
  exact hret _ _ 10 _ dX8_cornerLabel_10 rfl e0 rfl
