def fX8_were_b169 (rc125 : Int32 → Int32 → (Nat → Int32) → (Nat → Int64) → (Nat → Int32) → Int32 → Int32 → Int32 → Int32 → Int32 → Option (Int32 × Int32 × Int32 × (Nat → Int32) × (Nat → Int64) × (Nat → Int32))) (c_rowMany : Int32) (c_thrown : Int32) (c_now : Nat → Int32) (c_row : Nat → Int64) (c_wasFull : Nat → Int32) (n4 : Int32) (n5 : Int32) (n6 : Int32) (n8 : Int32) (s0 : Int32) (s1 : Int32) : Option (Int32 × Int32 × Int32 × (Nat → Int32) × (Nat → Int64) × (Nat → Int32)) := (some (s0 + s1)).bind fun v1 => (some (n8 + (1 : Int32))).bind fun v2 => rc125 c_rowMany c_thrown c_now c_row c_wasFull n4 n5 n6 v1 v2
def fX8_were_b168 (rc125 : Int32 → Int32 → (Nat → Int32) → (Nat → Int64) → (Nat → Int32) → Int32 → Int32 → Int32 → Int32 → Int32 → Option (Int32 × Int32 × Int32 × (Nat → Int32) × (Nat → Int64) × (Nat → Int32))) (c_rowMany : Int32) (c_thrown : Int32) (c_now : Nat → Int32) (c_row : Nat → Int64) (c_wasFull : Nat → Int32) (n4 : Int32) (n5 : Int32) (n6 : Int32) (n8 : Int32) (s0 : Int32) : Option (Int32 × Int32 × Int32 × (Nat → Int32) × (Nat → Int64) × (Nat → Int32)) := fX8_were_b169 rc125 c_rowMany c_thrown c_now c_row c_wasFull n4 n5 n6 n8 s0 (0 : Int32)
def fX8_were_b125 (rc125 : Int32 → Int32 → (Nat → Int32) → (Nat → Int64) → (Nat → Int32) → Int32 → Int32 → Int32 → Int32 → Int32 → Option (Int32 × Int32 × Int32 × (Nat → Int32) × (Nat → Int64) × (Nat → Int32))) (c_rowMany : Int32) (c_thrown : Int32) (c_now : Nat → Int32) (c_row : Nat → Int64) (c_wasFull : Nat → Int32) (n4 : Int32) (n5 : Int32) (n6 : Int32) (n7 : Int32) (n8 : Int32) : Option (Int32 × Int32 × Int32 × (Nat → Int32) × (Nat → Int64) × (Nat → Int32)) := (fX8_numbers c_now).bind fun v1 => if v1 ≤ n8 then (fX8_turns c_now).bind fun v2 => bd2 (fX8_tell (0 : Int32) c_row ((v2).toInt64)) fun v3 v4 => bd2 (fX8_tell v3 v4 ((n7).toInt64)) fun v5 v6 => (ast 189 ((36 : Int32) + n4) c_now n5).bind fun v7 => some (n6, v5, c_thrown, v7, v6, c_wasFull) else (fX8_isCell c_now n8).bind fun v8 => if v8 = 0 then fX8_were_b168 rc125 c_rowMany c_thrown c_now c_row c_wasFull n4 n5 n6 n8 n7 else (fX8_isFull c_now n8).bind fun v9 => if v9 = 0 then fX8_were_b168 rc125 c_rowMany c_thrown c_now c_row c_wasFull n4 n5 n6 n8 n7 else (ald 512 n8 c_wasFull).bind fun v10 => if v10 = 0 then fX8_were_b169 rc125 c_rowMany c_thrown c_now c_row c_wasFull n4 n5 n6 n8 n7 (1 : Int32) else fX8_were_b168 rc125 c_rowMany c_thrown c_now c_row c_wasFull n4 n5 n6 n8 n7
def fX8_were_b79 (rc41 : Int32 → Int32 → (Nat → Int32) → (Nat → Int64) → (Nat → Int32) → Int32 → Int32 → Int32 → Int32 → Option (Int32 × Int32 × Int32 × (Nat → Int32) × (Nat → Int64) × (Nat → Int32))) (c_rowMany : Int32) (c_thrown : Int32) (c_now : Nat → Int32) (c_row : Nat → Int64) (c_wasFull : Nat → Int32) (n1 : Int32) (n2 : Int32) (n3 : Int32) (n4 : Int32) (s1 : Int32) (s2 : Int32) : Option (Int32 × Int32 × Int32 × (Nat → Int32) × (Nat → Int64) × (Nat → Int32)) := (astZ 512 s1 c_wasFull s2).bind fun v1 => (some (n4 + (1 : Int32))).bind fun v2 => rc41 c_rowMany c_thrown c_now c_row v1 n1 n2 n3 v2
def fX8_were_b78 (rc41 : Int32 → Int32 → (Nat → Int32) → (Nat → Int64) → (Nat → Int32) → Int32 → Int32 → Int32 → Int32 → Option (Int32 × Int32 × Int32 × (Nat → Int32) × (Nat → Int64) × (Nat → Int32))) (c_rowMany : Int32) (c_thrown : Int32) (c_now : Nat → Int32) (c_row : Nat → Int64) (c_wasFull : Nat → Int32) (n1 : Int32) (n2 : Int32) (n3 : Int32) (n4 : Int32) (s1 : Int32) : Option (Int32 × Int32 × Int32 × (Nat → Int32) × (Nat → Int64) × (Nat → Int32)) := fX8_were_b79 rc41 c_rowMany c_thrown c_now c_row c_wasFull n1 n2 n3 n4 s1 (0 : Int32)
def fX8_were_b41 (rc41 : Int32 → Int32 → (Nat → Int32) → (Nat → Int64) → (Nat → Int32) → Int32 → Int32 → Int32 → Int32 → Option (Int32 × Int32 × Int32 × (Nat → Int32) × (Nat → Int64) × (Nat → Int32))) (c_rowMany : Int32) (c_thrown : Int32) (c_now : Nat → Int32) (c_row : Nat → Int64) (c_wasFull : Nat → Int32) (n1 : Int32) (n2 : Int32) (n3 : Int32) (n4 : Int32) : Option (Int32 × Int32 × Int32 × (Nat → Int32) × (Nat → Int64) × (Nat → Int32)) := (fX8_numbers c_now).bind fun v1 => if v1 ≤ n4 then (fX8_place c_now n1 n2).bind fun v2 => (fX8_labelAt c_now v2).bind fun v3 => (ast 189 ((36 : Int32) + v2) c_now n3).bind fun v4 => (fX8_fullMany v4).bind fun v5 => lfix (fX8_were_b125) (fun _ _ _ _ _ _ _ _ _ _ => none) FU c_rowMany c_thrown v4 c_row c_wasFull v2 v3 v5 (0 : Int32) (0 : Int32) else (fX8_isCell c_now n4).bind fun v6 => if v6 = 0 then fX8_were_b78 rc41 c_rowMany c_thrown c_now c_row c_wasFull n1 n2 n3 n4 n4 else (fX8_isFull c_now n4).bind fun v7 => if v7 = 0 then fX8_were_b78 rc41 c_rowMany c_thrown c_now c_row c_wasFull n1 n2 n3 n4 n4 else fX8_were_b79 rc41 c_rowMany c_thrown c_now c_row c_wasFull n1 n2 n3 n4 n4 (1 : Int32)
def fX8_were (c_rowMany : Int32) (c_thrown : Int32) (c_now : Nat → Int32) (c_row : Nat → Int64) (c_wasFull : Nat → Int32) (x1 : Int32) (x2 : Int32) (x3 : Int32) : Option (Int32 × Int32 × Int32 × (Nat → Int32) × (Nat → Int64) × (Nat → Int32)) := (fX8_isPoint c_now x1 x2).bind fun v1 => if v1 = 0 then some ((-1 : Int32), c_rowMany, (0 : Int32), c_now, c_row, c_wasFull) else (fX8_in x3 (0 : Int32) (2 : Int32)).bind fun v2 => if v2 = 0 then some ((-1 : Int32), c_rowMany, (0 : Int32), c_now, c_row, c_wasFull) else (fX8_canHave c_now x1 x2 x3).bind fun v3 => if v3 = 0 then some ((-4 : Int32), c_rowMany, (0 : Int32), c_now, c_row, c_wasFull) else lfix (fX8_were_b41) (fun _ _ _ _ _ _ _ _ _ => none) FU c_rowMany (0 : Int32) c_now c_row c_wasFull x1 x2 x3 (0 : Int32)
set_option maxHeartbeats 4000000 in
set_option maxRecDepth 100000 in
theorem tX8_were (l : Launch) (D : va_G) (k : Nat → ClassId) (q_this q_now q_text q_row q_read q_outerCell q_outerDoor q_walked q_onWalks q_far q_aside q_wasFull q_undos q_was q_kept q_isKept : Nat) (c_typed : Int32) (c_rowMany : Int32) (c_thrown : Int32) (c_length : Int32) (c_at : Int32) (c_wrong : Int32) (c_outerMany : Int32) (c_walkedMany : Int32) (c_cameOut : Int32) (c_undoMany : Int32) (c_drawn : Int32) (c_now : Nat → Int32) (c_row : Nat → Int64) (c_wasFull : Nat → Int32) (x1 : Int32) (x2 : Int32) (x3 : Int32) (r_ : Int32) (w_rowMany : Int32) (w_thrown : Int32) (w_now : Nat → Int32) (w_row : Nat → Int64) (w_wasFull : Nat → Int32) (hf : fX8_were c_rowMany c_thrown c_now c_row c_wasFull x1 x2 x3 = some (r_, w_rowMany, w_thrown, w_now, w_row, w_wasFull)) : MI l yX8_were cX8_were 9 .int (RM 8 173) D k [.ref q_this, .int x1, .int x2, .int x3] [oX8 q_this q_now q_text c_typed q_row c_rowMany c_thrown c_length c_at c_wrong q_read q_outerCell q_outerDoor c_outerMany q_walked c_walkedMany c_cameOut q_onWalks q_far q_aside q_wasFull q_undos q_was c_undoMany c_drawn q_kept q_isKept, aI k q_now 189 c_now, aJ k q_row 64 c_row, aZ k q_wasFull 512 c_wasFull] r_ [oX8 q_this q_now q_text c_typed q_row w_rowMany w_thrown c_length c_at c_wrong q_read q_outerCell q_outerDoor c_outerMany q_walked c_walkedMany c_cameOut q_onWalks q_far q_aside q_wasFull q_undos q_was c_undoMany c_drawn q_kept q_isKept, aI k q_now 189 w_now, aJ k q_row 64 w_row, aZ k q_wasFull 512 w_wasFull] := by
  refine mkMI' (own := "DoorWalkModel") (by decide) rfl (Nat.le_of_ble_eq_true rfl) ?_
  intro p e s m args below meth c Q A hret C
  refine ww_lv (lv' := [(0, .ref q_this), (1, .int x1), (2, .int x2), (3, .int x3)]) [0, 1, 2, 3] rfl ?_
  have hL125 : ∀ (n : Nat) (c_rowMany : Int32) (c_thrown : Int32) (c_now : Nat → Int32) (c_row : Nat → Int64) (c_wasFull : Nat → Int32) (n4 : Int32) (n5 : Int32) (n6 : Int32) (n7 : Int32) (n8 : Int32), lfix (fX8_were_b125) (fun _ _ _ _ _ _ _ _ _ _ => none) n c_rowMany c_thrown c_now c_row c_wasFull n4 n5 n6 n7 n8 = some (r_, w_rowMany, w_thrown, w_now, w_row, w_wasFull) → WW p l e (RM 8 173) s m args below meth c Q 9 D A 0 0 [oX8 q_this q_now q_text c_typed q_row c_rowMany c_thrown c_length c_at c_wrong q_read q_outerCell q_outerDoor c_outerMany q_walked c_walkedMany c_cameOut q_onWalks q_far q_aside q_wasFull q_undos q_was c_undoMany c_drawn q_kept q_isKept, aI k q_now 189 c_now, aJ k q_row 64 c_row, aZ k q_wasFull 512 c_wasFull] [(0, .ref q_this), (4, .int n4), (5, .int n5), (6, .int n6), (7, .int n7), (8, .int n8)] 125 [] := by
    intro n
    induction n with
    | zero => intro c_rowMany c_thrown c_now c_row c_wasFull n4 n5 n6 n7 n8 hf; cases hf
    | succ n ih125 =>
      obtain ⟨rc125, hrc125⟩ : ∃ f9, f9 = lfix (fX8_were_b125) (fun _ _ _ _ _ _ _ _ _ _ => none) n := ⟨_, rfl⟩
      rw [← hrc125] at ih125
      have hJ169 : ∀ (c_rowMany : Int32) (c_thrown : Int32) (c_now : Nat → Int32) (c_row : Nat → Int64) (c_wasFull : Nat → Int32) (n4 : Int32) (n5 : Int32) (n6 : Int32) (n8 : Int32) (s0 : Int32) (s1 : Int32), fX8_were_b169 rc125 c_rowMany c_thrown c_now c_row c_wasFull n4 n5 n6 n8 s0 s1 = some (r_, w_rowMany, w_thrown, w_now, w_row, w_wasFull) → WW p l e (RM 8 173) s m args below meth c Q 9 D A 0 0 [oX8 q_this q_now q_text c_typed q_row c_rowMany c_thrown c_length c_at c_wrong q_read q_outerCell q_outerDoor c_outerMany q_walked c_walkedMany c_cameOut q_onWalks q_far q_aside q_wasFull q_undos q_was c_undoMany c_drawn q_kept q_isKept, aI k q_now 189 c_now, aJ k q_row 64 c_row, aZ k q_wasFull 512 c_wasFull] [(0, .ref q_this), (4, .int n4), (5, .int n5), (6, .int n6), (8, .int n8)] 169 [.int s1, .int s0] := by
        intro c_rowMany c_thrown c_now c_row c_wasFull n4 n5 n6 n8 s0 s1
        intro hf
        unfold fX8_were_b169 at hf
        refine ww_iadd (pc := 169) C dX8_were_169  ?_
        obtain ⟨v1, h1, hf⟩ := bsome hf
        refine ww_nmi h1 ?_
        refine ww_istore (pc := 170) (lv' := [(7, .int v1), (0, .ref q_this), (4, .int n4), (5, .int n5), (6, .int n6), (8, .int n8)]) C dX8_were_170 (by decide) rfl ?_
        obtain ⟨v2, h2, hf⟩ := bsome hf
        refine ww_iincN (pc := 172) (lv' := [(8, .int v2), (7, .int v1), (0, .ref q_this), (4, .int n4), (5, .int n5), (6, .int n6)]) (j := 5) C dX8_were_172 kI_1 rfl h2 (by decide) rfl ?_
        refine ww_goto (pc := 175) (tgt := 125) C dX8_were_175 (by decide) ?_
        exact ww_lv [2, 3, 4, 5, 1, 0] rfl (ih125 c_rowMany c_thrown c_now c_row c_wasFull n4 n5 n6 v1 v2 hf)
      have hJ168 : ∀ (c_rowMany : Int32) (c_thrown : Int32) (c_now : Nat → Int32) (c_row : Nat → Int64) (c_wasFull : Nat → Int32) (n4 : Int32) (n5 : Int32) (n6 : Int32) (n8 : Int32) (s0 : Int32), fX8_were_b168 rc125 c_rowMany c_thrown c_now c_row c_wasFull n4 n5 n6 n8 s0 = some (r_, w_rowMany, w_thrown, w_now, w_row, w_wasFull) → WW p l e (RM 8 173) s m args below meth c Q 9 D A 0 0 [oX8 q_this q_now q_text c_typed q_row c_rowMany c_thrown c_length c_at c_wrong q_read q_outerCell q_outerDoor c_outerMany q_walked c_walkedMany c_cameOut q_onWalks q_far q_aside q_wasFull q_undos q_was c_undoMany c_drawn q_kept q_isKept, aI k q_now 189 c_now, aJ k q_row 64 c_row, aZ k q_wasFull 512 c_wasFull] [(0, .ref q_this), (4, .int n4), (5, .int n5), (6, .int n6), (8, .int n8)] 168 [.int s0] := by
        intro c_rowMany c_thrown c_now c_row c_wasFull n4 n5 n6 n8 s0
        intro hf
        unfold fX8_were_b168 at hf
        refine ww_iconst (pc := 168) C dX8_were_168 kI_0 ?_
        exact hJ169 c_rowMany c_thrown c_now c_row c_wasFull n4 n5 n6 n8 s0 (0 : Int32) hf
      intro c_rowMany c_thrown c_now c_row c_wasFull n4 n5 n6 n7 n8 hf
      have hf : fX8_were_b125 rc125 c_rowMany c_thrown c_now c_row c_wasFull n4 n5 n6 n7 n8 = some (r_, w_rowMany, w_thrown, w_now, w_row, w_wasFull) := by rw [hrc125]; exact hf
      unfold fX8_were_b125 at hf
      refine ww_iload (pc := 125) C dX8_were_125 5 rfl ?_
      refine ww_aload_n (pc := 127) C dX8_were_127 rfl 0 rfl ?_
      obtain ⟨v1, h1, hf⟩ := bsome hf
      refine ww_callVi0 (pc := 128) (As := []) (rest := [.int n8]) C (tX8_numbers l D k q_this q_now q_text q_row q_read q_outerCell q_outerDoor q_walked q_onWalks q_far q_aside q_wasFull q_undos q_was q_kept q_isKept c_typed c_rowMany c_thrown c_length c_at c_wrong c_outerMany c_walkedMany c_cameOut c_undoMany c_drawn c_now v1 h1) cv_X8_210 ⟨⟨by decide, by decide⟩, rfl, rfl⟩ 0 rfl rfl [0, 1] rfl rfl rfl rfl (Nat.le_of_ble_eq_true rfl) ⟨Nat.zero_le _, Nat.zero_le _⟩ dX8_were_128 (fun hb1 => ?_)
      refine ww_icmp_ge (pc := 131) (tgt := 178) C dX8_were_131 (by decide) (fun hc => ?_) (fun hc => ?_)
      · have hf := ifT hc hf
        refine ww_aload_n (pc := 178) C dX8_were_178 rfl 0 rfl ?_
        refine ww_iconst (pc := 179) C dX8_were_179 kI_0 ?_
        refine pf8_4 (pc := 180) (ws' := [oX8 q_this q_now q_text c_typed q_row (0 : Int32) c_thrown c_length c_at c_wrong q_read q_outerCell q_outerDoor c_outerMany q_walked c_walkedMany c_cameOut q_onWalks q_far q_aside q_wasFull q_undos q_was c_undoMany c_drawn q_kept q_isKept, aI k q_now 189 c_now, aJ k q_row 64 c_row, aZ k q_wasFull 512 c_wasFull]) C kf_X8_65 0 rfl (Nat.le_of_ble_eq_true rfl) rfl dX8_were_180 ?_
        refine ww_aload_n (pc := 183) C dX8_were_183 rfl 0 rfl ?_
        refine ww_aload_n (pc := 184) C dX8_were_184 rfl 0 rfl ?_
        obtain ⟨v2, h2, hf⟩ := bsome hf
        refine ww_callVi0 (pc := 185) (As := []) (rest := [.ref q_this]) C (tX8_turns l D k q_this q_now q_text q_row q_read q_outerCell q_outerDoor q_walked q_onWalks q_far q_aside q_wasFull q_undos q_was q_kept q_isKept c_typed (0 : Int32) c_thrown c_length c_at c_wrong c_outerMany c_walkedMany c_cameOut c_undoMany c_drawn c_now v2 h2) cv_X8_229 ⟨⟨by decide, by decide⟩, rfl, rfl⟩ 0 rfl rfl [0, 1] rfl rfl rfl rfl (Nat.le_of_ble_eq_true rfl) ⟨Nat.zero_le _, Nat.zero_le _⟩ dX8_were_185 (fun hb2 => ?_)
        refine ww_i2l (pc := 188) C dX8_were_188  ?_
        obtain ⟨v3, v4, h3, hf⟩ := bd2_some hf
        refine ww_callVv (pc := 189) (ws' := [oX8 q_this q_now q_text c_typed q_row v3 c_thrown c_length c_at c_wrong q_read q_outerCell q_outerDoor c_outerMany q_walked c_walkedMany c_cameOut q_onWalks q_far q_aside q_wasFull q_undos q_was c_undoMany c_drawn q_kept q_isKept, aI k q_now 189 c_now, aJ k q_row 64 v4, aZ k q_wasFull 512 c_wasFull]) (As := [.long ((v2).toInt64)]) (rest := []) C (tX8_tell l D k q_this q_now q_text q_row q_read q_outerCell q_outerDoor q_walked q_onWalks q_far q_aside q_wasFull q_undos q_was q_kept q_isKept c_typed (0 : Int32) c_thrown c_length c_at c_wrong c_outerMany c_walkedMany c_cameOut c_undoMany c_drawn c_row ((v2).toInt64) v3 v4 h3) cv_X8_182 ⟨⟨by decide, by decide⟩, rfl, rfl⟩ 0 rfl rfl [0, 2] rfl rfl rfl rfl rfl rfl (Nat.le_of_ble_eq_true rfl) ⟨Nat.zero_le _, Nat.zero_le _⟩ dX8_were_189 ?_
        refine ww_aload_n (pc := 192) C dX8_were_192 rfl 0 rfl ?_
        refine ww_iload (pc := 193) C dX8_were_193 4 rfl ?_
        refine ww_i2l (pc := 195) C dX8_were_195  ?_
        obtain ⟨v5, v6, h5, hf⟩ := bd2_some hf
        refine ww_callVv (pc := 196) (ws' := [oX8 q_this q_now q_text c_typed q_row v5 c_thrown c_length c_at c_wrong q_read q_outerCell q_outerDoor c_outerMany q_walked c_walkedMany c_cameOut q_onWalks q_far q_aside q_wasFull q_undos q_was c_undoMany c_drawn q_kept q_isKept, aI k q_now 189 c_now, aJ k q_row 64 v6, aZ k q_wasFull 512 c_wasFull]) (As := [.long ((n7).toInt64)]) (rest := []) C (tX8_tell l D k q_this q_now q_text q_row q_read q_outerCell q_outerDoor q_walked q_onWalks q_far q_aside q_wasFull q_undos q_was q_kept q_isKept c_typed v3 c_thrown c_length c_at c_wrong c_outerMany c_walkedMany c_cameOut c_undoMany c_drawn v4 ((n7).toInt64) v5 v6 h5) cv_X8_182 ⟨⟨by decide, by decide⟩, rfl, rfl⟩ 0 rfl rfl [0, 2] rfl rfl rfl rfl rfl rfl (Nat.le_of_ble_eq_true rfl) ⟨Nat.zero_le _, Nat.zero_le _⟩ dX8_were_196 ?_
        refine ww_aload_n (pc := 199) C dX8_were_199 rfl 0 rfl ?_
        refine gf8_0 (pc := 200) C kf_X8_9 0 rfl rfl dX8_were_200 ?_
        refine ww_bipush (pc := 203) C dX8_were_203 kB_36 ?_
        refine ww_iload (pc := 205) C dX8_were_205 1 rfl ?_
        refine ww_iadd (pc := 207) C dX8_were_207  ?_
        refine ww_iload (pc := 208) C dX8_were_208 2 rfl ?_
        obtain ⟨v7, h7, hf⟩ := bsome hf
        refine ww_iast (pc := 210) (ws' := [oX8 q_this q_now q_text c_typed q_row v5 c_thrown c_length c_at c_wrong q_read q_outerCell q_outerDoor c_outerMany q_walked c_walkedMany c_cameOut q_onWalks q_far q_aside q_wasFull q_undos q_was c_undoMany c_drawn q_kept q_isKept, aI k q_now 189 v7, aJ k q_row 64 v6, aZ k q_wasFull 512 c_wasFull]) C 1 rfl h7 rfl dX8_were_210 ?_
        refine ww_iload (pc := 211) C dX8_were_211 3 rfl ?_
        obtain ⟨e0, e1, e2, e3, e4, e5⟩ := ij6 hf
        exact hret _ _ 213 _ dX8_were_213 rfl e0 (by rw [← e1, ← e2, ← e3, ← e4, ← e5])
      · have hf := ifF hc hf
        refine ww_iload (pc := 134) C dX8_were_134 4 rfl ?_
        refine ww_aload_n (pc := 136) C dX8_were_136 rfl 0 rfl ?_
        refine ww_iload (pc := 137) C dX8_were_137 5 rfl ?_
        obtain ⟨v8, h8, hf⟩ := bsome hf
        refine ww_callVi0 (pc := 139) (As := [.int n8]) (rest := [.int n7]) C (tX8_isCell l D k q_this q_now q_text q_row q_read q_outerCell q_outerDoor q_walked q_onWalks q_far q_aside q_wasFull q_undos q_was q_kept q_isKept c_typed c_rowMany c_thrown c_length c_at c_wrong c_outerMany c_walkedMany c_cameOut c_undoMany c_drawn c_now n8 v8 h8) cv_X8_213 ⟨⟨by decide, by decide⟩, rfl, rfl⟩ 0 rfl rfl [0, 1] rfl rfl rfl rfl (Nat.le_of_ble_eq_true rfl) ⟨Nat.zero_le _, Nat.zero_le _⟩ dX8_were_139 (fun hb8 => ?_)
        refine ww_if_eq (pc := 142) (tgt := 168) C dX8_were_142 (by decide) (fun hc => ?_) (fun hc => ?_)
        · have hf := ifT hc hf
          exact ww_lv [0, 1, 2, 3, 5] rfl (hJ168 c_rowMany c_thrown c_now c_row c_wasFull n4 n5 n6 n8 n7 hf)
        · have hf := ifF hc hf
          refine ww_aload_n (pc := 145) C dX8_were_145 rfl 0 rfl ?_
          refine ww_iload (pc := 146) C dX8_were_146 5 rfl ?_
          obtain ⟨v9, h9, hf⟩ := bsome hf
          refine ww_callVi0 (pc := 148) (As := [.int n8]) (rest := [.int n7]) C (tX8_isFull l D k q_this q_now q_text q_row q_read q_outerCell q_outerDoor q_walked q_onWalks q_far q_aside q_wasFull q_undos q_was q_kept q_isKept c_typed c_rowMany c_thrown c_length c_at c_wrong c_outerMany c_walkedMany c_cameOut c_undoMany c_drawn c_now n8 v9 h9) cv_X8_206 ⟨⟨by decide, by decide⟩, rfl, rfl⟩ 0 rfl rfl [0, 1] rfl rfl rfl rfl (Nat.le_of_ble_eq_true rfl) ⟨Nat.zero_le _, Nat.zero_le _⟩ dX8_were_148 (fun hb9 => ?_)
          refine ww_if_eq (pc := 151) (tgt := 168) C dX8_were_151 (by decide) (fun hc => ?_) (fun hc => ?_)
          · have hf := ifT hc hf
            exact ww_lv [0, 1, 2, 3, 5] rfl (hJ168 c_rowMany c_thrown c_now c_row c_wasFull n4 n5 n6 n8 n7 hf)
          · have hf := ifF hc hf
            refine ww_aload_n (pc := 154) C dX8_were_154 rfl 0 rfl ?_
            refine gf8_19 (pc := 155) C kf_X8_42 0 rfl rfl dX8_were_155 ?_
            refine ww_iload (pc := 158) C dX8_were_158 5 rfl ?_
            obtain ⟨v10, h10, hf⟩ := bsome hf
            refine ww_zald (pc := 160) C 3 rfl h10 dX8_were_160 ?_
            refine ww_if_ne (pc := 161) (tgt := 168) C dX8_were_161 (by decide) (fun hc => ?_) (fun hc => ?_)
            · have hf := ifF hc hf
              exact ww_lv [0, 1, 2, 3, 5] rfl (hJ168 c_rowMany c_thrown c_now c_row c_wasFull n4 n5 n6 n8 n7 hf)
            · have hf := ifT hc hf
              refine ww_iconst (pc := 164) C dX8_were_164 kI_1 ?_
              refine ww_goto (pc := 165) (tgt := 169) C dX8_were_165 (by decide) ?_
              exact ww_lv [0, 1, 2, 3, 5] rfl (hJ169 c_rowMany c_thrown c_now c_row c_wasFull n4 n5 n6 n8 n7 (1 : Int32) hf)
  have hL41 : ∀ (n : Nat) (c_rowMany : Int32) (c_thrown : Int32) (c_now : Nat → Int32) (c_row : Nat → Int64) (c_wasFull : Nat → Int32) (n1 : Int32) (n2 : Int32) (n3 : Int32) (n4 : Int32), lfix (fX8_were_b41) (fun _ _ _ _ _ _ _ _ _ => none) n c_rowMany c_thrown c_now c_row c_wasFull n1 n2 n3 n4 = some (r_, w_rowMany, w_thrown, w_now, w_row, w_wasFull) → WW p l e (RM 8 173) s m args below meth c Q 9 D A 0 0 [oX8 q_this q_now q_text c_typed q_row c_rowMany c_thrown c_length c_at c_wrong q_read q_outerCell q_outerDoor c_outerMany q_walked c_walkedMany c_cameOut q_onWalks q_far q_aside q_wasFull q_undos q_was c_undoMany c_drawn q_kept q_isKept, aI k q_now 189 c_now, aJ k q_row 64 c_row, aZ k q_wasFull 512 c_wasFull] [(0, .ref q_this), (1, .int n1), (2, .int n2), (3, .int n3), (4, .int n4)] 41 [] := by
    intro n
    induction n with
    | zero => intro c_rowMany c_thrown c_now c_row c_wasFull n1 n2 n3 n4 hf; cases hf
    | succ n ih41 =>
      obtain ⟨rc41, hrc41⟩ : ∃ f9, f9 = lfix (fX8_were_b41) (fun _ _ _ _ _ _ _ _ _ => none) n := ⟨_, rfl⟩
      rw [← hrc41] at ih41
      have hJ79 : ∀ (c_rowMany : Int32) (c_thrown : Int32) (c_now : Nat → Int32) (c_row : Nat → Int64) (c_wasFull : Nat → Int32) (n1 : Int32) (n2 : Int32) (n3 : Int32) (n4 : Int32) (s1 : Int32) (s2 : Int32), fX8_were_b79 rc41 c_rowMany c_thrown c_now c_row c_wasFull n1 n2 n3 n4 s1 s2 = some (r_, w_rowMany, w_thrown, w_now, w_row, w_wasFull) → WW p l e (RM 8 173) s m args below meth c Q 9 D A 0 0 [oX8 q_this q_now q_text c_typed q_row c_rowMany c_thrown c_length c_at c_wrong q_read q_outerCell q_outerDoor c_outerMany q_walked c_walkedMany c_cameOut q_onWalks q_far q_aside q_wasFull q_undos q_was c_undoMany c_drawn q_kept q_isKept, aI k q_now 189 c_now, aJ k q_row 64 c_row, aZ k q_wasFull 512 c_wasFull] [(0, .ref q_this), (1, .int n1), (2, .int n2), (3, .int n3), (4, .int n4)] 79 [.int s2, .int s1, .ref q_wasFull] := by
        intro c_rowMany c_thrown c_now c_row c_wasFull n1 n2 n3 n4 s1 s2
        intro hf
        unfold fX8_were_b79 at hf
        obtain ⟨v1, h1, hf⟩ := bsome hf
        refine ww_zast (pc := 79) (ws' := [oX8 q_this q_now q_text c_typed q_row c_rowMany c_thrown c_length c_at c_wrong q_read q_outerCell q_outerDoor c_outerMany q_walked c_walkedMany c_cameOut q_onWalks q_far q_aside q_wasFull q_undos q_was c_undoMany c_drawn q_kept q_isKept, aI k q_now 189 c_now, aJ k q_row 64 c_row, aZ k q_wasFull 512 v1]) C 3 rfl h1 rfl dX8_were_79 ?_
        obtain ⟨v2, h2, hf⟩ := bsome hf
        refine ww_iincN (pc := 80) (lv' := [(4, .int v2), (0, .ref q_this), (1, .int n1), (2, .int n2), (3, .int n3)]) (j := 4) C dX8_were_80 kI_1 rfl h2 (by decide) rfl ?_
        refine ww_goto (pc := 83) (tgt := 41) C dX8_were_83 (by decide) ?_
        exact ww_lv [1, 2, 3, 4, 0] rfl (ih41 c_rowMany c_thrown c_now c_row v1 n1 n2 n3 v2 hf)
      have hJ78 : ∀ (c_rowMany : Int32) (c_thrown : Int32) (c_now : Nat → Int32) (c_row : Nat → Int64) (c_wasFull : Nat → Int32) (n1 : Int32) (n2 : Int32) (n3 : Int32) (n4 : Int32) (s1 : Int32), fX8_were_b78 rc41 c_rowMany c_thrown c_now c_row c_wasFull n1 n2 n3 n4 s1 = some (r_, w_rowMany, w_thrown, w_now, w_row, w_wasFull) → WW p l e (RM 8 173) s m args below meth c Q 9 D A 0 0 [oX8 q_this q_now q_text c_typed q_row c_rowMany c_thrown c_length c_at c_wrong q_read q_outerCell q_outerDoor c_outerMany q_walked c_walkedMany c_cameOut q_onWalks q_far q_aside q_wasFull q_undos q_was c_undoMany c_drawn q_kept q_isKept, aI k q_now 189 c_now, aJ k q_row 64 c_row, aZ k q_wasFull 512 c_wasFull] [(0, .ref q_this), (1, .int n1), (2, .int n2), (3, .int n3), (4, .int n4)] 78 [.int s1, .ref q_wasFull] := by
        intro c_rowMany c_thrown c_now c_row c_wasFull n1 n2 n3 n4 s1
        intro hf
        unfold fX8_were_b78 at hf
        refine ww_iconst (pc := 78) C dX8_were_78 kI_0 ?_
        exact hJ79 c_rowMany c_thrown c_now c_row c_wasFull n1 n2 n3 n4 s1 (0 : Int32) hf
      intro c_rowMany c_thrown c_now c_row c_wasFull n1 n2 n3 n4 hf
      have hf : fX8_were_b41 rc41 c_rowMany c_thrown c_now c_row c_wasFull n1 n2 n3 n4 = some (r_, w_rowMany, w_thrown, w_now, w_row, w_wasFull) := by rw [hrc41]; exact hf
      unfold fX8_were_b41 at hf
      refine ww_iload (pc := 41) C dX8_were_41 4 rfl ?_
      refine ww_aload_n (pc := 43) C dX8_were_43 rfl 0 rfl ?_
      obtain ⟨v1, h1, hf⟩ := bsome hf
      refine ww_callVi0 (pc := 44) (As := []) (rest := [.int n4]) C (tX8_numbers l D k q_this q_now q_text q_row q_read q_outerCell q_outerDoor q_walked q_onWalks q_far q_aside q_wasFull q_undos q_was q_kept q_isKept c_typed c_rowMany c_thrown c_length c_at c_wrong c_outerMany c_walkedMany c_cameOut c_undoMany c_drawn c_now v1 h1) cv_X8_210 ⟨⟨by decide, by decide⟩, rfl, rfl⟩ 0 rfl rfl [0, 1] rfl rfl rfl rfl (Nat.le_of_ble_eq_true rfl) ⟨Nat.zero_le _, Nat.zero_le _⟩ dX8_were_44 (fun hb1 => ?_)
      refine ww_icmp_ge (pc := 47) (tgt := 86) C dX8_were_47 (by decide) (fun hc => ?_) (fun hc => ?_)
      · have hf := ifT hc hf
        refine ww_aload_n (pc := 86) C dX8_were_86 rfl 0 rfl ?_
        refine ww_iload_n (pc := 87) C dX8_were_87 rfl 1 rfl ?_
        refine ww_iload_n (pc := 88) C dX8_were_88 rfl 2 rfl ?_
        obtain ⟨v2, h2, hf⟩ := bsome hf
        refine ww_callVi0 (pc := 89) (As := [.int n1, .int n2]) (rest := []) C (tX8_place l D k q_this q_now q_text q_row q_read q_outerCell q_outerDoor q_walked q_onWalks q_far q_aside q_wasFull q_undos q_was q_kept q_isKept c_typed c_rowMany c_thrown c_length c_at c_wrong c_outerMany c_walkedMany c_cameOut c_undoMany c_drawn c_now n1 n2 v2 h2) cv_X8_80 ⟨⟨by decide, by decide⟩, rfl, rfl⟩ 0 rfl rfl [0, 1] rfl rfl rfl rfl (Nat.le_of_ble_eq_true rfl) ⟨Nat.zero_le _, Nat.zero_le _⟩ dX8_were_89 (fun hb2 => ?_)
        refine ww_istore (pc := 92) (lv' := [(4, .int v2), (0, .ref q_this), (1, .int n1), (2, .int n2), (3, .int n3)]) C dX8_were_92 (by decide) rfl ?_
        refine ww_aload_n (pc := 94) C dX8_were_94 rfl 1 rfl ?_
        refine ww_iload (pc := 95) C dX8_were_95 0 rfl ?_
        obtain ⟨v3, h3, hf⟩ := bsome hf
        refine ww_callVi0 (pc := 97) (As := [.int v2]) (rest := []) C (tX8_labelAt l D k q_this q_now q_text q_row q_read q_outerCell q_outerDoor q_walked q_onWalks q_far q_aside q_wasFull q_undos q_was q_kept q_isKept c_typed c_rowMany c_thrown c_length c_at c_wrong c_outerMany c_walkedMany c_cameOut c_undoMany c_drawn c_now v2 v3 h3) cv_X8_188 ⟨⟨by decide, by decide⟩, rfl, rfl⟩ 0 rfl rfl [0, 1] rfl rfl rfl rfl (Nat.le_of_ble_eq_true rfl) ⟨Nat.zero_le _, Nat.zero_le _⟩ dX8_were_97 (fun hb3 => ?_)
        refine ww_istore (pc := 100) (lv' := [(5, .int v3), (4, .int v2), (0, .ref q_this), (1, .int n1), (2, .int n2), (3, .int n3)]) C dX8_were_100 (by decide) rfl ?_
        refine ww_aload_n (pc := 102) C dX8_were_102 rfl 2 rfl ?_
        refine gf8_0 (pc := 103) C kf_X8_9 0 rfl rfl dX8_were_103 ?_
        refine ww_bipush (pc := 106) C dX8_were_106 kB_36 ?_
        refine ww_iload (pc := 108) C dX8_were_108 1 rfl ?_
        refine ww_iadd (pc := 110) C dX8_were_110  ?_
        refine ww_iload_n (pc := 111) C dX8_were_111 rfl 5 rfl ?_
        obtain ⟨v4, h4, hf⟩ := bsome hf
        refine ww_iast (pc := 112) (ws' := [oX8 q_this q_now q_text c_typed q_row c_rowMany c_thrown c_length c_at c_wrong q_read q_outerCell q_outerDoor c_outerMany q_walked c_walkedMany c_cameOut q_onWalks q_far q_aside q_wasFull q_undos q_was c_undoMany c_drawn q_kept q_isKept, aI k q_now 189 v4, aJ k q_row 64 c_row, aZ k q_wasFull 512 c_wasFull]) C 1 rfl h4 rfl dX8_were_112 ?_
        refine ww_aload_n (pc := 113) C dX8_were_113 rfl 2 rfl ?_
        obtain ⟨v5, h5, hf⟩ := bsome hf
        refine ww_callVi0 (pc := 114) (As := []) (rest := []) C (tX8_fullMany l D k q_this q_now q_text q_row q_read q_outerCell q_outerDoor q_walked q_onWalks q_far q_aside q_wasFull q_undos q_was q_kept q_isKept c_typed c_rowMany c_thrown c_length c_at c_wrong c_outerMany c_walkedMany c_cameOut c_undoMany c_drawn v4 v5 h5) cv_X8_226 ⟨⟨by decide, by decide⟩, rfl, rfl⟩ 0 rfl rfl [0, 1] rfl rfl rfl rfl (Nat.le_of_ble_eq_true rfl) ⟨Nat.zero_le _, Nat.zero_le _⟩ dX8_were_114 (fun hb5 => ?_)
        refine ww_istore (pc := 117) (lv' := [(6, .int v5), (5, .int v3), (4, .int v2), (0, .ref q_this), (1, .int n1), (2, .int n2), (3, .int n3)]) C dX8_were_117 (by decide) rfl ?_
        refine ww_iconst (pc := 119) C dX8_were_119 kI_0 ?_
        refine ww_istore (pc := 120) (lv' := [(7, .int (0 : Int32)), (6, .int v5), (5, .int v3), (4, .int v2), (0, .ref q_this), (1, .int n1), (2, .int n2), (3, .int n3)]) C dX8_were_120 (by decide) rfl ?_
        refine ww_iconst (pc := 122) C dX8_were_122 kI_0 ?_
        refine ww_istore (pc := 123) (lv' := [(8, .int (0 : Int32)), (7, .int (0 : Int32)), (6, .int v5), (5, .int v3), (4, .int v2), (0, .ref q_this), (1, .int n1), (2, .int n2), (3, .int n3)]) C dX8_were_123 (by decide) rfl ?_
        exact ww_lv [5, 4, 3, 2, 1, 0] rfl (hL125 FU c_rowMany c_thrown v4 c_row c_wasFull v2 v3 v5 (0 : Int32) (0 : Int32) hf)
      · have hf := ifF hc hf
        refine ww_aload_n (pc := 50) C dX8_were_50 rfl 0 rfl ?_
        refine gf8_19 (pc := 51) C kf_X8_42 0 rfl rfl dX8_were_51 ?_
        refine ww_iload (pc := 54) C dX8_were_54 4 rfl ?_
        refine ww_aload_n (pc := 56) C dX8_were_56 rfl 0 rfl ?_
        refine ww_iload (pc := 57) C dX8_were_57 4 rfl ?_
        obtain ⟨v6, h6, hf⟩ := bsome hf
        refine ww_callVi0 (pc := 59) (As := [.int n4]) (rest := [.int n4, .ref q_wasFull]) C (tX8_isCell l D k q_this q_now q_text q_row q_read q_outerCell q_outerDoor q_walked q_onWalks q_far q_aside q_wasFull q_undos q_was q_kept q_isKept c_typed c_rowMany c_thrown c_length c_at c_wrong c_outerMany c_walkedMany c_cameOut c_undoMany c_drawn c_now n4 v6 h6) cv_X8_213 ⟨⟨by decide, by decide⟩, rfl, rfl⟩ 0 rfl rfl [0, 1] rfl rfl rfl rfl (Nat.le_of_ble_eq_true rfl) ⟨Nat.zero_le _, Nat.zero_le _⟩ dX8_were_59 (fun hb6 => ?_)
        refine ww_if_eq (pc := 62) (tgt := 78) C dX8_were_62 (by decide) (fun hc => ?_) (fun hc => ?_)
        · have hf := ifT hc hf
          exact hJ78 c_rowMany c_thrown c_now c_row c_wasFull n1 n2 n3 n4 n4 hf
        · have hf := ifF hc hf
          refine ww_aload_n (pc := 65) C dX8_were_65 rfl 0 rfl ?_
          refine ww_iload (pc := 66) C dX8_were_66 4 rfl ?_
          obtain ⟨v7, h7, hf⟩ := bsome hf
          refine ww_callVi0 (pc := 68) (As := [.int n4]) (rest := [.int n4, .ref q_wasFull]) C (tX8_isFull l D k q_this q_now q_text q_row q_read q_outerCell q_outerDoor q_walked q_onWalks q_far q_aside q_wasFull q_undos q_was q_kept q_isKept c_typed c_rowMany c_thrown c_length c_at c_wrong c_outerMany c_walkedMany c_cameOut c_undoMany c_drawn c_now n4 v7 h7) cv_X8_206 ⟨⟨by decide, by decide⟩, rfl, rfl⟩ 0 rfl rfl [0, 1] rfl rfl rfl rfl (Nat.le_of_ble_eq_true rfl) ⟨Nat.zero_le _, Nat.zero_le _⟩ dX8_were_68 (fun hb7 => ?_)
          refine ww_if_eq (pc := 71) (tgt := 78) C dX8_were_71 (by decide) (fun hc => ?_) (fun hc => ?_)
          · have hf := ifT hc hf
            exact hJ78 c_rowMany c_thrown c_now c_row c_wasFull n1 n2 n3 n4 n4 hf
          · have hf := ifF hc hf
            refine ww_iconst (pc := 74) C dX8_were_74 kI_1 ?_
            refine ww_goto (pc := 75) (tgt := 79) C dX8_were_75 (by decide) ?_
            exact hJ79 c_rowMany c_thrown c_now c_row c_wasFull n1 n2 n3 n4 n4 (1 : Int32) hf
  unfold fX8_were at hf
  refine ww_aload_n (pc := 0) C dX8_were_0 rfl 0 rfl ?_
  refine ww_iconst (pc := 1) C dX8_were_1 kI_0 ?_
  refine pf8_5 (pc := 2) (ws' := [oX8 q_this q_now q_text c_typed q_row c_rowMany (0 : Int32) c_length c_at c_wrong q_read q_outerCell q_outerDoor c_outerMany q_walked c_walkedMany c_cameOut q_onWalks q_far q_aside q_wasFull q_undos q_was c_undoMany c_drawn q_kept q_isKept, aI k q_now 189 c_now, aJ k q_row 64 c_row, aZ k q_wasFull 512 c_wasFull]) C kf_X8_61 0 rfl (Nat.le_of_ble_eq_true rfl) rfl dX8_were_2 ?_
  refine ww_aload_n (pc := 5) C dX8_were_5 rfl 0 rfl ?_
  refine ww_iload_n (pc := 6) C dX8_were_6 rfl 1 rfl ?_
  refine ww_iload_n (pc := 7) C dX8_were_7 rfl 2 rfl ?_
  obtain ⟨v1, h1, hf⟩ := bsome hf
  refine ww_callVi0 (pc := 8) (As := [.int x1, .int x2]) (rest := []) C (tX8_isPoint l D k q_this q_now q_text q_row q_read q_outerCell q_outerDoor q_walked q_onWalks q_far q_aside q_wasFull q_undos q_was q_kept q_isKept c_typed c_rowMany (0 : Int32) c_length c_at c_wrong c_outerMany c_walkedMany c_cameOut c_undoMany c_drawn c_now x1 x2 v1 h1) cv_X8_219 ⟨⟨by decide, by decide⟩, rfl, rfl⟩ 0 rfl rfl [0, 1] rfl rfl rfl rfl (Nat.le_of_ble_eq_true rfl) ⟨Nat.zero_le _, Nat.zero_le _⟩ dX8_were_8 (fun hb1 => ?_)
  refine ww_if_eq (pc := 11) (tgt := 23) C dX8_were_11 (by decide) (fun hc => ?_) (fun hc => ?_)
  · have hf := ifT hc hf
    refine ww_iconst (pc := 23) C dX8_were_23 kI_m1 ?_
    obtain ⟨e0, e1, e2, e3, e4, e5⟩ := ij6 hf
    exact hret _ _ 24 _ dX8_were_24 rfl e0 (by rw [← e1, ← e2, ← e3, ← e4, ← e5])
  · have hf := ifF hc hf
    refine ww_iload_n (pc := 14) C dX8_were_14 rfl 3 rfl ?_
    refine ww_iconst (pc := 15) C dX8_were_15 kI_0 ?_
    refine ww_iconst (pc := 16) C dX8_were_16 kI_2 ?_
    obtain ⟨v2, h2, hf⟩ := bsome hf
    refine ww_callSi0 (pc := 17) (As := [.int x3, .int (0 : Int32), .int (2 : Int32)]) (rest := []) C (tX8_in l D k x3 (0 : Int32) (2 : Int32) v2 h2) cs_X8_72 ⟨⟨by decide, by decide⟩, rfl, rfl⟩ [] rfl rfl rfl rfl (Nat.le_of_ble_eq_true rfl) ⟨Nat.zero_le _, Nat.zero_le _⟩ dX8_were_17 (fun hb2 => ?_)
    refine ww_if_ne (pc := 20) (tgt := 25) C dX8_were_20 (by decide) (fun hc => ?_) (fun hc => ?_)
    · have hf := ifF hc hf
      refine ww_aload_n (pc := 25) C dX8_were_25 rfl 0 rfl ?_
      refine ww_iload_n (pc := 26) C dX8_were_26 rfl 1 rfl ?_
      refine ww_iload_n (pc := 27) C dX8_were_27 rfl 2 rfl ?_
      refine ww_iload_n (pc := 28) C dX8_were_28 rfl 3 rfl ?_
      obtain ⟨v3, h3, hf⟩ := bsome hf
      refine ww_callVi0 (pc := 29) (As := [.int x1, .int x2, .int x3]) (rest := []) C (tX8_canHave l D k q_this q_now q_text q_row q_read q_outerCell q_outerDoor q_walked q_onWalks q_far q_aside q_wasFull q_undos q_was q_kept q_isKept c_typed c_rowMany (0 : Int32) c_length c_at c_wrong c_outerMany c_walkedMany c_cameOut c_undoMany c_drawn c_now x1 x2 x3 v3 h3) cv_X8_111 ⟨⟨by decide, by decide⟩, rfl, rfl⟩ 0 rfl rfl [0, 1] rfl rfl rfl rfl (Nat.le_of_ble_eq_true rfl) ⟨Nat.zero_le _, Nat.zero_le _⟩ dX8_were_29 (fun hb3 => ?_)
      refine ww_if_ne (pc := 32) (tgt := 38) C dX8_were_32 (by decide) (fun hc => ?_) (fun hc => ?_)
      · have hf := ifF hc hf
        refine ww_iconst (pc := 38) C dX8_were_38 kI_0 ?_
        refine ww_istore (pc := 39) (lv' := [(4, .int (0 : Int32)), (0, .ref q_this), (1, .int x1), (2, .int x2), (3, .int x3)]) C dX8_were_39 (by decide) rfl ?_
        exact ww_lv [1, 2, 3, 4, 0] rfl (hL41 FU c_rowMany (0 : Int32) c_now c_row c_wasFull x1 x2 x3 (0 : Int32) hf)
      · have hf := ifT hc hf
        refine ww_bipush (pc := 35) C dX8_were_35 kB_m4 ?_
        obtain ⟨e0, e1, e2, e3, e4, e5⟩ := ij6 hf
        exact hret _ _ 37 _ dX8_were_37 rfl e0 (by rw [← e1, ← e2, ← e3, ← e4, ← e5])
    · have hf := ifT hc hf
      refine ww_iconst (pc := 23) C dX8_were_23 kI_m1 ?_
      obtain ⟨e0, e1, e2, e3, e4, e5⟩ := ij6 hf
      exact hret _ _ 24 _ dX8_were_24 rfl e0 (by rw [← e1, ← e2, ← e3, ← e4, ← e5])
def fX8_fullBy (c_now : Nat → Int32) (x1 : Int32) (x2 : Int32) : Option (Int32 × (Nat → Int32)) := (fX8_labelAt c_now x1).bind fun v1 => if v1 = x2 then some ((-1 : Int32), c_now) else (fX8_iOf c_now x1).bind fun v2 => (fX8_jOf c_now x1).bind fun v3 => (fX8_canHave c_now v2 v3 x2).bind fun v4 => if v4 = 0 then some ((-1 : Int32), c_now) else (fX8_labelAt c_now x1).bind fun v5 => (ast 189 ((36 : Int32) + x1) c_now x2).bind fun v6 => (fX8_fullMany v6).bind fun v7 => (ast 189 ((36 : Int32) + x1) v6 v5).bind fun v8 => some (v7, v8)
set_option maxHeartbeats 4000000 in
set_option maxRecDepth 100000 in
theorem tX8_fullBy (l : Launch) (D : va_G) (k : Nat → ClassId) (q_this q_now q_text q_row q_read q_outerCell q_outerDoor q_walked q_onWalks q_far q_aside q_wasFull q_undos q_was q_kept q_isKept : Nat) (c_typed : Int32) (c_rowMany : Int32) (c_thrown : Int32) (c_length : Int32) (c_at : Int32) (c_wrong : Int32) (c_outerMany : Int32) (c_walkedMany : Int32) (c_cameOut : Int32) (c_undoMany : Int32) (c_drawn : Int32) (c_now : Nat → Int32) (x1 : Int32) (x2 : Int32) (r_ : Int32) (w_now : Nat → Int32) (hf : fX8_fullBy c_now x1 x2 = some (r_, w_now)) : MI l yX8_fullBy cX8_fullBy 5 .int (RM 7 152) D k [.ref q_this, .int x1, .int x2] [oX8 q_this q_now q_text c_typed q_row c_rowMany c_thrown c_length c_at c_wrong q_read q_outerCell q_outerDoor c_outerMany q_walked c_walkedMany c_cameOut q_onWalks q_far q_aside q_wasFull q_undos q_was c_undoMany c_drawn q_kept q_isKept, aI k q_now 189 c_now] r_ [oX8 q_this q_now q_text c_typed q_row c_rowMany c_thrown c_length c_at c_wrong q_read q_outerCell q_outerDoor c_outerMany q_walked c_walkedMany c_cameOut q_onWalks q_far q_aside q_wasFull q_undos q_was c_undoMany c_drawn q_kept q_isKept, aI k q_now 189 w_now] := by
  refine mkMI' (own := "DoorWalkModel") (by decide) rfl (Nat.le_of_ble_eq_true rfl) ?_
  intro p e s m args below meth c Q A hret C
  refine ww_lv (lv' := [(0, .ref q_this), (1, .int x1), (2, .int x2)]) [0, 1, 2] rfl ?_
  unfold fX8_fullBy at hf
  refine ww_aload_n (pc := 0) C dX8_fullBy_0 rfl 0 rfl ?_
  refine ww_iload_n (pc := 1) C dX8_fullBy_1 rfl 1 rfl ?_
  obtain ⟨v1, h1, hf⟩ := bsome hf
  refine ww_callVi0 (pc := 2) (As := [.int x1]) (rest := []) C (tX8_labelAt l D k q_this q_now q_text q_row q_read q_outerCell q_outerDoor q_walked q_onWalks q_far q_aside q_wasFull q_undos q_was q_kept q_isKept c_typed c_rowMany c_thrown c_length c_at c_wrong c_outerMany c_walkedMany c_cameOut c_undoMany c_drawn c_now x1 v1 h1) cv_X8_188 ⟨⟨by decide, by decide⟩, rfl, rfl⟩ 0 rfl rfl [0, 1] rfl rfl rfl rfl (Nat.le_of_ble_eq_true rfl) ⟨Nat.zero_le _, Nat.zero_le _⟩ dX8_fullBy_2 (fun hb1 => ?_)
  refine ww_iload_n (pc := 5) C dX8_fullBy_5 rfl 2 rfl ?_
  refine ww_icmp_eq (pc := 6) (tgt := 27) C dX8_fullBy_6 (by decide) (fun hc => ?_) (fun hc => ?_)
  · have hf := ifT hc hf
    refine ww_iconst (pc := 27) C dX8_fullBy_27 kI_m1 ?_
    obtain ⟨e0, e1⟩ := ij2 hf
    exact hret _ _ 28 _ dX8_fullBy_28 rfl e0 (by rw [← e1])
  · have hf := ifF hc hf
    refine ww_aload_n (pc := 9) C dX8_fullBy_9 rfl 0 rfl ?_
    refine ww_aload_n (pc := 10) C dX8_fullBy_10 rfl 0 rfl ?_
    refine ww_iload_n (pc := 11) C dX8_fullBy_11 rfl 1 rfl ?_
    obtain ⟨v2, h2, hf⟩ := bsome hf
    refine ww_callVi0 (pc := 12) (As := [.int x1]) (rest := [.ref q_this]) C (tX8_iOf l D k q_this q_now q_text q_row q_read q_outerCell q_outerDoor q_walked q_onWalks q_far q_aside q_wasFull q_undos q_was q_kept q_isKept c_typed c_rowMany c_thrown c_length c_at c_wrong c_outerMany c_walkedMany c_cameOut c_undoMany c_drawn c_now x1 v2 h2) cv_X8_84 ⟨⟨by decide, by decide⟩, rfl, rfl⟩ 0 rfl rfl [0, 1] rfl rfl rfl rfl (Nat.le_of_ble_eq_true rfl) ⟨Nat.zero_le _, Nat.zero_le _⟩ dX8_fullBy_12 (fun hb2 => ?_)
    refine ww_aload_n (pc := 15) C dX8_fullBy_15 rfl 0 rfl ?_
    refine ww_iload_n (pc := 16) C dX8_fullBy_16 rfl 1 rfl ?_
    obtain ⟨v3, h3, hf⟩ := bsome hf
    refine ww_callVi0 (pc := 17) (As := [.int x1]) (rest := [.int v2, .ref q_this]) C (tX8_jOf l D k q_this q_now q_text q_row q_read q_outerCell q_outerDoor q_walked q_onWalks q_far q_aside q_wasFull q_undos q_was q_kept q_isKept c_typed c_rowMany c_thrown c_length c_at c_wrong c_outerMany c_walkedMany c_cameOut c_undoMany c_drawn c_now x1 v3 h3) cv_X8_179 ⟨⟨by decide, by decide⟩, rfl, rfl⟩ 0 rfl rfl [0, 1] rfl rfl rfl rfl (Nat.le_of_ble_eq_true rfl) ⟨Nat.zero_le _, Nat.zero_le _⟩ dX8_fullBy_17 (fun hb3 => ?_)
    refine ww_iload_n (pc := 20) C dX8_fullBy_20 rfl 2 rfl ?_
    obtain ⟨v4, h4, hf⟩ := bsome hf
    refine ww_callVi0 (pc := 21) (As := [.int v2, .int v3, .int x2]) (rest := []) C (tX8_canHave l D k q_this q_now q_text q_row q_read q_outerCell q_outerDoor q_walked q_onWalks q_far q_aside q_wasFull q_undos q_was q_kept q_isKept c_typed c_rowMany c_thrown c_length c_at c_wrong c_outerMany c_walkedMany c_cameOut c_undoMany c_drawn c_now v2 v3 x2 v4 h4) cv_X8_111 ⟨⟨by decide, by decide⟩, rfl, rfl⟩ 0 rfl rfl [0, 1] rfl rfl rfl rfl (Nat.le_of_ble_eq_true rfl) ⟨Nat.zero_le _, Nat.zero_le _⟩ dX8_fullBy_21 (fun hb4 => ?_)
    refine ww_if_ne (pc := 24) (tgt := 29) C dX8_fullBy_24 (by decide) (fun hc => ?_) (fun hc => ?_)
    · have hf := ifF hc hf
      refine ww_aload_n (pc := 29) C dX8_fullBy_29 rfl 0 rfl ?_
      refine ww_iload_n (pc := 30) C dX8_fullBy_30 rfl 1 rfl ?_
      obtain ⟨v5, h5, hf⟩ := bsome hf
      refine ww_callVi0 (pc := 31) (As := [.int x1]) (rest := []) C (tX8_labelAt l D k q_this q_now q_text q_row q_read q_outerCell q_outerDoor q_walked q_onWalks q_far q_aside q_wasFull q_undos q_was q_kept q_isKept c_typed c_rowMany c_thrown c_length c_at c_wrong c_outerMany c_walkedMany c_cameOut c_undoMany c_drawn c_now x1 v5 h5) cv_X8_188 ⟨⟨by decide, by decide⟩, rfl, rfl⟩ 0 rfl rfl [0, 1] rfl rfl rfl rfl (Nat.le_of_ble_eq_true rfl) ⟨Nat.zero_le _, Nat.zero_le _⟩ dX8_fullBy_31 (fun hb5 => ?_)
      refine ww_istore_n (pc := 34) (lv' := [(3, .int v5), (0, .ref q_this), (1, .int x1), (2, .int x2)]) C dX8_fullBy_34 rfl (by decide) rfl ?_
      refine ww_aload_n (pc := 35) C dX8_fullBy_35 rfl 1 rfl ?_
      refine gf8_0 (pc := 36) C kf_X8_9 0 rfl rfl dX8_fullBy_36 ?_
      refine ww_bipush (pc := 39) C dX8_fullBy_39 kB_36 ?_
      refine ww_iload_n (pc := 41) C dX8_fullBy_41 rfl 2 rfl ?_
      refine ww_iadd (pc := 42) C dX8_fullBy_42  ?_
      refine ww_iload_n (pc := 43) C dX8_fullBy_43 rfl 3 rfl ?_
      obtain ⟨v6, h6, hf⟩ := bsome hf
      refine ww_iast (pc := 44) (ws' := [oX8 q_this q_now q_text c_typed q_row c_rowMany c_thrown c_length c_at c_wrong q_read q_outerCell q_outerDoor c_outerMany q_walked c_walkedMany c_cameOut q_onWalks q_far q_aside q_wasFull q_undos q_was c_undoMany c_drawn q_kept q_isKept, aI k q_now 189 v6]) C 1 rfl h6 rfl dX8_fullBy_44 ?_
      refine ww_aload_n (pc := 45) C dX8_fullBy_45 rfl 1 rfl ?_
      obtain ⟨v7, h7, hf⟩ := bsome hf
      refine ww_callVi0 (pc := 46) (As := []) (rest := []) C (tX8_fullMany l D k q_this q_now q_text q_row q_read q_outerCell q_outerDoor q_walked q_onWalks q_far q_aside q_wasFull q_undos q_was q_kept q_isKept c_typed c_rowMany c_thrown c_length c_at c_wrong c_outerMany c_walkedMany c_cameOut c_undoMany c_drawn v6 v7 h7) cv_X8_226 ⟨⟨by decide, by decide⟩, rfl, rfl⟩ 0 rfl rfl [0, 1] rfl rfl rfl rfl (Nat.le_of_ble_eq_true rfl) ⟨Nat.zero_le _, Nat.zero_le _⟩ dX8_fullBy_46 (fun hb7 => ?_)
      refine ww_istore (pc := 49) (lv' := [(4, .int v7), (3, .int v5), (0, .ref q_this), (1, .int x1), (2, .int x2)]) C dX8_fullBy_49 (by decide) rfl ?_
      refine ww_aload_n (pc := 51) C dX8_fullBy_51 rfl 2 rfl ?_
      refine gf8_0 (pc := 52) C kf_X8_9 0 rfl rfl dX8_fullBy_52 ?_
      refine ww_bipush (pc := 55) C dX8_fullBy_55 kB_36 ?_
      refine ww_iload_n (pc := 57) C dX8_fullBy_57 rfl 3 rfl ?_
      refine ww_iadd (pc := 58) C dX8_fullBy_58  ?_
      refine ww_iload_n (pc := 59) C dX8_fullBy_59 rfl 1 rfl ?_
      obtain ⟨v8, h8, hf⟩ := bsome hf
      refine ww_iast (pc := 60) (ws' := [oX8 q_this q_now q_text c_typed q_row c_rowMany c_thrown c_length c_at c_wrong q_read q_outerCell q_outerDoor c_outerMany q_walked c_walkedMany c_cameOut q_onWalks q_far q_aside q_wasFull q_undos q_was c_undoMany c_drawn q_kept q_isKept, aI k q_now 189 v8]) C 1 rfl h8 rfl dX8_fullBy_60 ?_
      refine ww_iload (pc := 61) C dX8_fullBy_61 0 rfl ?_
      obtain ⟨e0, e1⟩ := ij2 hf
      exact hret _ _ 63 _ dX8_fullBy_63 rfl e0 (by rw [← e1])
    · have hf := ifT hc hf
      refine ww_iconst (pc := 27) C dX8_fullBy_27 kI_m1 ?_
      obtain ⟨e0, e1⟩ := ij2 hf
      exact hret _ _ 28 _ dX8_fullBy_28 rfl e0 (by rw [← e1])
def fX8_hangs_b97 (rc41 : Int32 → Int32 → (Nat → Int32) → (Nat → Int64) → Int32 → Int32 → Int32 → Int32 → Option (Int32 × Int32 × Int32 × (Nat → Int32) × (Nat → Int64))) (c_rowMany : Int32) (c_thrown : Int32) (c_now : Nat → Int32) (c_row : Nat → Int64) (n1 : Int32) (n2 : Int32) (n4 : Int32) (n5 : Int32) (s0 : Int32) (s1 : Int32) : Option (Int32 × Int32 × Int32 × (Nat → Int32) × (Nat → Int64)) := (some (s0 + s1)).bind fun v1 => bd2 (fX8_tell c_rowMany c_row ((n5).toInt64)) fun v2 v3 => (some (n4 + (1 : Int32))).bind fun v4 => rc41 v2 c_thrown c_now v3 n1 n2 v1 v4
def fX8_hangs_b53 (rc41 : Int32 → Int32 → (Nat → Int32) → (Nat → Int64) → Int32 → Int32 → Int32 → Int32 → Option (Int32 × Int32 × Int32 × (Nat → Int32) × (Nat → Int64))) (rc53 : Int32 → Int32 → (Nat → Int32) → (Nat → Int64) → Int32 → Int32 → Int32 → Int32 → Int32 → Int32 → Option (Int32 × Int32 × Int32 × (Nat → Int32) × (Nat → Int64))) (c_rowMany : Int32) (c_thrown : Int32) (c_now : Nat → Int32) (c_row : Nat → Int64) (n1 : Int32) (n2 : Int32) (n3 : Int32) (n4 : Int32) (n5 : Int32) (n6 : Int32) : Option (Int32 × Int32 × Int32 × (Nat → Int32) × (Nat → Int64)) := if n6 < 0 then if n5 = (-1 : Int32) then fX8_hangs_b97 rc41 c_rowMany c_thrown c_now c_row n1 n2 n4 n5 n3 (0 : Int32) else fX8_hangs_b97 rc41 c_rowMany c_thrown c_now c_row n1 n2 n4 n5 n3 (1 : Int32) else (fX8_corner c_now n1 n4).bind fun v1 => bd2 (fX8_fullBy c_now v1 n6) fun v2 v3 => if v2 < n2 then (some (n6 + (-1 : Int32))).bind fun v4 => rc53 c_rowMany c_thrown v3 c_row n1 n2 n3 n4 n5 v4 else (some (n6 + (-1 : Int32))).bind fun v5 => rc53 c_rowMany c_thrown v3 c_row n1 n2 n3 n4 n6 v5
def fX8_hangs_b41 (rc41 : Int32 → Int32 → (Nat → Int32) → (Nat → Int64) → Int32 → Int32 → Int32 → Int32 → Option (Int32 × Int32 × Int32 × (Nat → Int32) × (Nat → Int64))) (c_rowMany : Int32) (c_thrown : Int32) (c_now : Nat → Int32) (c_row : Nat → Int64) (n1 : Int32) (n2 : Int32) (n3 : Int32) (n4 : Int32) : Option (Int32 × Int32 × Int32 × (Nat → Int32) × (Nat → Int64)) := if (3 : Int32) ≤ n4 then some (n3, c_rowMany, c_thrown, c_now, c_row) else lfix (fX8_hangs_b53 rc41) (fun _ _ _ _ _ _ _ _ _ _ => none) FU c_rowMany c_thrown c_now c_row n1 n2 n3 n4 (-1 : Int32) (2 : Int32)
def fX8_hangs (c_rowMany : Int32) (c_thrown : Int32) (c_now : Nat → Int32) (c_row : Nat → Int64) (x1 : Int32) : Option (Int32 × Int32 × Int32 × (Nat → Int32) × (Nat → Int64)) := (fX8_isCell c_now x1).bind fun v1 => if v1 = 0 then some ((-1 : Int32), c_rowMany, (0 : Int32), c_now, c_row) else (fX8_isFull c_now x1).bind fun v2 => if v2 = 0 then some ((-2 : Int32), c_rowMany, (0 : Int32), c_now, c_row) else (fX8_fullMany c_now).bind fun v3 => lfix (fX8_hangs_b41) (fun _ _ _ _ _ _ _ _ => none) FU (0 : Int32) (0 : Int32) c_now c_row x1 v3 (0 : Int32) (0 : Int32)
set_option maxHeartbeats 4000000 in
set_option maxRecDepth 100000 in
theorem tX8_hangs (l : Launch) (D : va_G) (k : Nat → ClassId) (q_this q_now q_text q_row q_read q_outerCell q_outerDoor q_walked q_onWalks q_far q_aside q_wasFull q_undos q_was q_kept q_isKept : Nat) (c_typed : Int32) (c_rowMany : Int32) (c_thrown : Int32) (c_length : Int32) (c_at : Int32) (c_wrong : Int32) (c_outerMany : Int32) (c_walkedMany : Int32) (c_cameOut : Int32) (c_undoMany : Int32) (c_drawn : Int32) (c_now : Nat → Int32) (c_row : Nat → Int64) (x1 : Int32) (r_ : Int32) (w_rowMany : Int32) (w_thrown : Int32) (w_now : Nat → Int32) (w_row : Nat → Int64) (hf : fX8_hangs c_rowMany c_thrown c_now c_row x1 = some (r_, w_rowMany, w_thrown, w_now, w_row)) : MI l yX8_hangs cX8_hangs 7 .int (RM 8 176) D k [.ref q_this, .int x1] [oX8 q_this q_now q_text c_typed q_row c_rowMany c_thrown c_length c_at c_wrong q_read q_outerCell q_outerDoor c_outerMany q_walked c_walkedMany c_cameOut q_onWalks q_far q_aside q_wasFull q_undos q_was c_undoMany c_drawn q_kept q_isKept, aI k q_now 189 c_now, aJ k q_row 64 c_row] r_ [oX8 q_this q_now q_text c_typed q_row w_rowMany w_thrown c_length c_at c_wrong q_read q_outerCell q_outerDoor c_outerMany q_walked c_walkedMany c_cameOut q_onWalks q_far q_aside q_wasFull q_undos q_was c_undoMany c_drawn q_kept q_isKept, aI k q_now 189 w_now, aJ k q_row 64 w_row] := by
  refine mkMI' (own := "DoorWalkModel") (by decide) rfl (Nat.le_of_ble_eq_true rfl) ?_
  intro p e s m args below meth c Q A hret C
  refine ww_lv (lv' := [(0, .ref q_this), (1, .int x1)]) [0, 1] rfl ?_
  have hL41 : ∀ (n : Nat) (c_rowMany : Int32) (c_thrown : Int32) (c_now : Nat → Int32) (c_row : Nat → Int64) (n1 : Int32) (n2 : Int32) (n3 : Int32) (n4 : Int32), lfix (fX8_hangs_b41) (fun _ _ _ _ _ _ _ _ => none) n c_rowMany c_thrown c_now c_row n1 n2 n3 n4 = some (r_, w_rowMany, w_thrown, w_now, w_row) → WW p l e (RM 8 176) s m args below meth c Q 7 D A 0 0 [oX8 q_this q_now q_text c_typed q_row c_rowMany c_thrown c_length c_at c_wrong q_read q_outerCell q_outerDoor c_outerMany q_walked c_walkedMany c_cameOut q_onWalks q_far q_aside q_wasFull q_undos q_was c_undoMany c_drawn q_kept q_isKept, aI k q_now 189 c_now, aJ k q_row 64 c_row] [(0, .ref q_this), (1, .int n1), (2, .int n2), (3, .int n3), (4, .int n4)] 41 [] := by
    intro n
    induction n with
    | zero => intro c_rowMany c_thrown c_now c_row n1 n2 n3 n4 hf; cases hf
    | succ n ih41 =>
      obtain ⟨rc41, hrc41⟩ : ∃ f9, f9 = lfix (fX8_hangs_b41) (fun _ _ _ _ _ _ _ _ => none) n := ⟨_, rfl⟩
      rw [← hrc41] at ih41
      have hJ97 : ∀ (c_rowMany : Int32) (c_thrown : Int32) (c_now : Nat → Int32) (c_row : Nat → Int64) (n1 : Int32) (n2 : Int32) (n4 : Int32) (n5 : Int32) (s0 : Int32) (s1 : Int32), fX8_hangs_b97 rc41 c_rowMany c_thrown c_now c_row n1 n2 n4 n5 s0 s1 = some (r_, w_rowMany, w_thrown, w_now, w_row) → WW p l e (RM 8 176) s m args below meth c Q 7 D A 0 0 [oX8 q_this q_now q_text c_typed q_row c_rowMany c_thrown c_length c_at c_wrong q_read q_outerCell q_outerDoor c_outerMany q_walked c_walkedMany c_cameOut q_onWalks q_far q_aside q_wasFull q_undos q_was c_undoMany c_drawn q_kept q_isKept, aI k q_now 189 c_now, aJ k q_row 64 c_row] [(0, .ref q_this), (1, .int n1), (2, .int n2), (4, .int n4), (5, .int n5)] 97 [.int s1, .int s0] := by
        intro c_rowMany c_thrown c_now c_row n1 n2 n4 n5 s0 s1
        intro hf
        unfold fX8_hangs_b97 at hf
        refine ww_iadd (pc := 97) C dX8_hangs_97  ?_
        obtain ⟨v1, h1, hf⟩ := bsome hf
        refine ww_nmi h1 ?_
        refine ww_istore_n (pc := 98) (lv' := [(3, .int v1), (0, .ref q_this), (1, .int n1), (2, .int n2), (4, .int n4), (5, .int n5)]) C dX8_hangs_98 rfl (by decide) rfl ?_
        refine ww_aload_n (pc := 99) C dX8_hangs_99 rfl 1 rfl ?_
        refine ww_iload (pc := 100) C dX8_hangs_100 5 rfl ?_
        refine ww_i2l (pc := 102) C dX8_hangs_102  ?_
        obtain ⟨v2, v3, h2, hf⟩ := bd2_some hf
        refine ww_callVv (pc := 103) (ws' := [oX8 q_this q_now q_text c_typed q_row v2 c_thrown c_length c_at c_wrong q_read q_outerCell q_outerDoor c_outerMany q_walked c_walkedMany c_cameOut q_onWalks q_far q_aside q_wasFull q_undos q_was c_undoMany c_drawn q_kept q_isKept, aI k q_now 189 c_now, aJ k q_row 64 v3]) (As := [.long ((n5).toInt64)]) (rest := []) C (tX8_tell l D k q_this q_now q_text q_row q_read q_outerCell q_outerDoor q_walked q_onWalks q_far q_aside q_wasFull q_undos q_was q_kept q_isKept c_typed c_rowMany c_thrown c_length c_at c_wrong c_outerMany c_walkedMany c_cameOut c_undoMany c_drawn c_row ((n5).toInt64) v2 v3 h2) cv_X8_182 ⟨⟨by decide, by decide⟩, rfl, rfl⟩ 0 rfl rfl [0, 2] rfl rfl rfl rfl rfl rfl (Nat.le_of_ble_eq_true rfl) ⟨Nat.zero_le _, Nat.zero_le _⟩ dX8_hangs_103 ?_
        obtain ⟨v4, h4, hf⟩ := bsome hf
        refine ww_iincN (pc := 106) (lv' := [(4, .int v4), (3, .int v1), (0, .ref q_this), (1, .int n1), (2, .int n2), (5, .int n5)]) (j := 4) C dX8_hangs_106 kI_1 rfl h4 (by decide) rfl ?_
        refine ww_goto (pc := 109) (tgt := 41) C dX8_hangs_109 (by decide) ?_
        exact ww_lv [2, 3, 4, 1, 0] rfl (ih41 v2 c_thrown c_now v3 n1 n2 v1 v4 hf)
      have hL53 : ∀ (n : Nat) (c_rowMany : Int32) (c_thrown : Int32) (c_now : Nat → Int32) (c_row : Nat → Int64) (n1 : Int32) (n2 : Int32) (n3 : Int32) (n4 : Int32) (n5 : Int32) (n6 : Int32), lfix (fX8_hangs_b53 rc41) (fun _ _ _ _ _ _ _ _ _ _ => none) n c_rowMany c_thrown c_now c_row n1 n2 n3 n4 n5 n6 = some (r_, w_rowMany, w_thrown, w_now, w_row) → WW p l e (RM 8 176) s m args below meth c Q 7 D A 0 0 [oX8 q_this q_now q_text c_typed q_row c_rowMany c_thrown c_length c_at c_wrong q_read q_outerCell q_outerDoor c_outerMany q_walked c_walkedMany c_cameOut q_onWalks q_far q_aside q_wasFull q_undos q_was c_undoMany c_drawn q_kept q_isKept, aI k q_now 189 c_now, aJ k q_row 64 c_row] [(0, .ref q_this), (1, .int n1), (2, .int n2), (3, .int n3), (4, .int n4), (5, .int n5), (6, .int n6)] 53 [] := by
        intro n
        induction n with
        | zero => intro c_rowMany c_thrown c_now c_row n1 n2 n3 n4 n5 n6 hf; cases hf
        | succ n ih53 =>
          obtain ⟨rc53, hrc53⟩ : ∃ f9, f9 = lfix (fX8_hangs_b53 rc41) (fun _ _ _ _ _ _ _ _ _ _ => none) n := ⟨_, rfl⟩
          rw [← hrc53] at ih53
          intro c_rowMany c_thrown c_now c_row n1 n2 n3 n4 n5 n6 hf
          have hf : fX8_hangs_b53 rc41 rc53 c_rowMany c_thrown c_now c_row n1 n2 n3 n4 n5 n6 = some (r_, w_rowMany, w_thrown, w_now, w_row) := by rw [hrc53]; exact hf
          unfold fX8_hangs_b53 at hf
          refine ww_iload (pc := 53) C dX8_hangs_53 6 rfl ?_
          refine ww_if_lt (pc := 55) (tgt := 85) C dX8_hangs_55 (by decide) (fun hc => ?_) (fun hc => ?_)
          · have hf := ifT hc hf
            refine ww_iload_n (pc := 85) C dX8_hangs_85 rfl 3 rfl ?_
            refine ww_iload (pc := 86) C dX8_hangs_86 5 rfl ?_
            refine ww_iconst (pc := 88) C dX8_hangs_88 kI_m1 ?_
            refine ww_icmp_ne (pc := 89) (tgt := 96) C dX8_hangs_89 (by decide) (fun hc => ?_) (fun hc => ?_)
            · have hf := ifF hc hf
              refine ww_iconst (pc := 96) C dX8_hangs_96 kI_1 ?_
              exact ww_lv [0, 1, 2, 4, 5] rfl (hJ97 c_rowMany c_thrown c_now c_row n1 n2 n4 n5 n3 (1 : Int32) hf)
            · have hf := ifT hc hf
              refine ww_iconst (pc := 92) C dX8_hangs_92 kI_0 ?_
              refine ww_goto (pc := 93) (tgt := 97) C dX8_hangs_93 (by decide) ?_
              exact ww_lv [0, 1, 2, 4, 5] rfl (hJ97 c_rowMany c_thrown c_now c_row n1 n2 n4 n5 n3 (0 : Int32) hf)
          · have hf := ifF hc hf
            refine ww_aload_n (pc := 58) C dX8_hangs_58 rfl 0 rfl ?_
            refine ww_aload_n (pc := 59) C dX8_hangs_59 rfl 0 rfl ?_
            refine ww_iload_n (pc := 60) C dX8_hangs_60 rfl 1 rfl ?_
            refine ww_iload (pc := 61) C dX8_hangs_61 4 rfl ?_
            obtain ⟨v1, h1, hf⟩ := bsome hf
            refine ww_callVi0 (pc := 63) (As := [.int n1, .int n4]) (rest := [.ref q_this]) C (tX8_corner l D k q_this q_now q_text q_row q_read q_outerCell q_outerDoor q_walked q_onWalks q_far q_aside q_wasFull q_undos q_was q_kept q_isKept c_typed c_rowMany c_thrown c_length c_at c_wrong c_outerMany c_walkedMany c_cameOut c_undoMany c_drawn c_now n1 n4 v1 h1) cv_X8_197 ⟨⟨by decide, by decide⟩, rfl, rfl⟩ 0 rfl rfl [0, 1] rfl rfl rfl rfl (Nat.le_of_ble_eq_true rfl) ⟨Nat.zero_le _, Nat.zero_le _⟩ dX8_hangs_63 (fun hb1 => ?_)
            refine ww_iload (pc := 66) C dX8_hangs_66 6 rfl ?_
            obtain ⟨v2, v3, h2, hf⟩ := bd2_some hf
            refine ww_callVi (pc := 68) (ws' := [oX8 q_this q_now q_text c_typed q_row c_rowMany c_thrown c_length c_at c_wrong q_read q_outerCell q_outerDoor c_outerMany q_walked c_walkedMany c_cameOut q_onWalks q_far q_aside q_wasFull q_undos q_was c_undoMany c_drawn q_kept q_isKept, aI k q_now 189 v3, aJ k q_row 64 c_row]) (As := [.int v1, .int n6]) (rest := []) C (tX8_fullBy l D k q_this q_now q_text q_row q_read q_outerCell q_outerDoor q_walked q_onWalks q_far q_aside q_wasFull q_undos q_was q_kept q_isKept c_typed c_rowMany c_thrown c_length c_at c_wrong c_outerMany c_walkedMany c_cameOut c_undoMany c_drawn c_now v1 n6 v2 v3 h2) cv_X8_303 ⟨⟨by decide, by decide⟩, rfl, rfl⟩ 0 rfl rfl [0, 1] rfl rfl rfl rfl rfl rfl (Nat.le_of_ble_eq_true rfl) ⟨Nat.zero_le _, Nat.zero_le _⟩ dX8_hangs_68 (fun hb2 => ?_)
            refine ww_iload_n (pc := 71) C dX8_hangs_71 rfl 2 rfl ?_
            refine ww_icmp_lt (pc := 72) (tgt := 79) C dX8_hangs_72 (by decide) (fun hc => ?_) (fun hc => ?_)
            · have hf := ifT hc hf
              obtain ⟨v4, h4, hf⟩ := bsome hf
              refine ww_iincN (pc := 79) (lv' := [(6, .int v4), (0, .ref q_this), (1, .int n1), (2, .int n2), (3, .int n3), (4, .int n4), (5, .int n5)]) (j := 6) C dX8_hangs_79 kI_m1 rfl h4 (by decide) rfl ?_
              refine ww_goto (pc := 82) (tgt := 53) C dX8_hangs_82 (by decide) ?_
              exact ww_lv [1, 2, 3, 4, 5, 6, 0] rfl (ih53 c_rowMany c_thrown v3 c_row n1 n2 n3 n4 n5 v4 hf)
            · have hf := ifF hc hf
              refine ww_iload (pc := 75) C dX8_hangs_75 6 rfl ?_
              refine ww_istore (pc := 77) (lv' := [(5, .int n6), (0, .ref q_this), (1, .int n1), (2, .int n2), (3, .int n3), (4, .int n4), (6, .int n6)]) C dX8_hangs_77 (by decide) rfl ?_
              obtain ⟨v5, h5, hf⟩ := bsome hf
              refine ww_iincN (pc := 79) (lv' := [(6, .int v5), (5, .int n6), (0, .ref q_this), (1, .int n1), (2, .int n2), (3, .int n3), (4, .int n4)]) (j := 6) C dX8_hangs_79 kI_m1 rfl h5 (by decide) rfl ?_
              refine ww_goto (pc := 82) (tgt := 53) C dX8_hangs_82 (by decide) ?_
              exact ww_lv [2, 3, 4, 5, 6, 1, 0] rfl (ih53 c_rowMany c_thrown v3 c_row n1 n2 n3 n4 n6 v5 hf)
      intro c_rowMany c_thrown c_now c_row n1 n2 n3 n4 hf
      have hf : fX8_hangs_b41 rc41 c_rowMany c_thrown c_now c_row n1 n2 n3 n4 = some (r_, w_rowMany, w_thrown, w_now, w_row) := by rw [hrc41]; exact hf
      unfold fX8_hangs_b41 at hf
      refine ww_iload (pc := 41) C dX8_hangs_41 4 rfl ?_
      refine ww_iconst (pc := 43) C dX8_hangs_43 kI_3 ?_
      refine ww_icmp_ge (pc := 44) (tgt := 112) C dX8_hangs_44 (by decide) (fun hc => ?_) (fun hc => ?_)
      · have hf := ifT hc hf
        refine ww_iload_n (pc := 112) C dX8_hangs_112 rfl 3 rfl ?_
        obtain ⟨e0, e1, e2, e3, e4⟩ := ij5 hf
        exact hret _ _ 113 _ dX8_hangs_113 rfl e0 (by rw [← e1, ← e2, ← e3, ← e4])
      · have hf := ifF hc hf
        refine ww_iconst (pc := 47) C dX8_hangs_47 kI_m1 ?_
        refine ww_istore (pc := 48) (lv' := [(5, .int (-1 : Int32)), (0, .ref q_this), (1, .int n1), (2, .int n2), (3, .int n3), (4, .int n4)]) C dX8_hangs_48 (by decide) rfl ?_
        refine ww_iconst (pc := 50) C dX8_hangs_50 kI_2 ?_
        refine ww_istore (pc := 51) (lv' := [(6, .int (2 : Int32)), (5, .int (-1 : Int32)), (0, .ref q_this), (1, .int n1), (2, .int n2), (3, .int n3), (4, .int n4)]) C dX8_hangs_51 (by decide) rfl ?_
        exact ww_lv [2, 3, 4, 5, 6, 1, 0] rfl (hL53 FU c_rowMany c_thrown c_now c_row n1 n2 n3 n4 (-1 : Int32) (2 : Int32) hf)
  unfold fX8_hangs at hf
  refine ww_aload_n (pc := 0) C dX8_hangs_0 rfl 0 rfl ?_
  refine ww_iconst (pc := 1) C dX8_hangs_1 kI_0 ?_
  refine pf8_5 (pc := 2) (ws' := [oX8 q_this q_now q_text c_typed q_row c_rowMany (0 : Int32) c_length c_at c_wrong q_read q_outerCell q_outerDoor c_outerMany q_walked c_walkedMany c_cameOut q_onWalks q_far q_aside q_wasFull q_undos q_was c_undoMany c_drawn q_kept q_isKept, aI k q_now 189 c_now, aJ k q_row 64 c_row]) C kf_X8_61 0 rfl (Nat.le_of_ble_eq_true rfl) rfl dX8_hangs_2 ?_
  refine ww_aload_n (pc := 5) C dX8_hangs_5 rfl 0 rfl ?_
  refine ww_iload_n (pc := 6) C dX8_hangs_6 rfl 1 rfl ?_
  obtain ⟨v1, h1, hf⟩ := bsome hf
  refine ww_callVi0 (pc := 7) (As := [.int x1]) (rest := []) C (tX8_isCell l D k q_this q_now q_text q_row q_read q_outerCell q_outerDoor q_walked q_onWalks q_far q_aside q_wasFull q_undos q_was q_kept q_isKept c_typed c_rowMany (0 : Int32) c_length c_at c_wrong c_outerMany c_walkedMany c_cameOut c_undoMany c_drawn c_now x1 v1 h1) cv_X8_213 ⟨⟨by decide, by decide⟩, rfl, rfl⟩ 0 rfl rfl [0, 1] rfl rfl rfl rfl (Nat.le_of_ble_eq_true rfl) ⟨Nat.zero_le _, Nat.zero_le _⟩ dX8_hangs_7 (fun hb1 => ?_)
  refine ww_if_ne (pc := 10) (tgt := 15) C dX8_hangs_10 (by decide) (fun hc => ?_) (fun hc => ?_)
  · have hf := ifF hc hf
    refine ww_aload_n (pc := 15) C dX8_hangs_15 rfl 0 rfl ?_
    refine ww_iload_n (pc := 16) C dX8_hangs_16 rfl 1 rfl ?_
    obtain ⟨v2, h2, hf⟩ := bsome hf
    refine ww_callVi0 (pc := 17) (As := [.int x1]) (rest := []) C (tX8_isFull l D k q_this q_now q_text q_row q_read q_outerCell q_outerDoor q_walked q_onWalks q_far q_aside q_wasFull q_undos q_was q_kept q_isKept c_typed c_rowMany (0 : Int32) c_length c_at c_wrong c_outerMany c_walkedMany c_cameOut c_undoMany c_drawn c_now x1 v2 h2) cv_X8_206 ⟨⟨by decide, by decide⟩, rfl, rfl⟩ 0 rfl rfl [0, 1] rfl rfl rfl rfl (Nat.le_of_ble_eq_true rfl) ⟨Nat.zero_le _, Nat.zero_le _⟩ dX8_hangs_17 (fun hb2 => ?_)
    refine ww_if_ne (pc := 20) (tgt := 26) C dX8_hangs_20 (by decide) (fun hc => ?_) (fun hc => ?_)
    · have hf := ifF hc hf
      refine ww_aload_n (pc := 26) C dX8_hangs_26 rfl 0 rfl ?_
      obtain ⟨v3, h3, hf⟩ := bsome hf
      refine ww_callVi0 (pc := 27) (As := []) (rest := []) C (tX8_fullMany l D k q_this q_now q_text q_row q_read q_outerCell q_outerDoor q_walked q_onWalks q_far q_aside q_wasFull q_undos q_was q_kept q_isKept c_typed c_rowMany (0 : Int32) c_length c_at c_wrong c_outerMany c_walkedMany c_cameOut c_undoMany c_drawn c_now v3 h3) cv_X8_226 ⟨⟨by decide, by decide⟩, rfl, rfl⟩ 0 rfl rfl [0, 1] rfl rfl rfl rfl (Nat.le_of_ble_eq_true rfl) ⟨Nat.zero_le _, Nat.zero_le _⟩ dX8_hangs_27 (fun hb3 => ?_)
      refine ww_istore_n (pc := 30) (lv' := [(2, .int v3), (0, .ref q_this), (1, .int x1)]) C dX8_hangs_30 rfl (by decide) rfl ?_
      refine ww_iconst (pc := 31) C dX8_hangs_31 kI_0 ?_
      refine ww_istore_n (pc := 32) (lv' := [(3, .int (0 : Int32)), (2, .int v3), (0, .ref q_this), (1, .int x1)]) C dX8_hangs_32 rfl (by decide) rfl ?_
      refine ww_aload_n (pc := 33) C dX8_hangs_33 rfl 2 rfl ?_
      refine ww_iconst (pc := 34) C dX8_hangs_34 kI_0 ?_
      refine pf8_4 (pc := 35) (ws' := [oX8 q_this q_now q_text c_typed q_row (0 : Int32) (0 : Int32) c_length c_at c_wrong q_read q_outerCell q_outerDoor c_outerMany q_walked c_walkedMany c_cameOut q_onWalks q_far q_aside q_wasFull q_undos q_was c_undoMany c_drawn q_kept q_isKept, aI k q_now 189 c_now, aJ k q_row 64 c_row]) C kf_X8_65 0 rfl (Nat.le_of_ble_eq_true rfl) rfl dX8_hangs_35 ?_
      refine ww_iconst (pc := 38) C dX8_hangs_38 kI_0 ?_
      refine ww_istore (pc := 39) (lv' := [(4, .int (0 : Int32)), (3, .int (0 : Int32)), (2, .int v3), (0, .ref q_this), (1, .int x1)]) C dX8_hangs_39 (by decide) rfl ?_
      exact ww_lv [3, 4, 2, 1, 0] rfl (hL41 FU (0 : Int32) (0 : Int32) c_now c_row x1 v3 (0 : Int32) (0 : Int32) hf)
    · have hf := ifT hc hf
      refine ww_bipush (pc := 23) C dX8_hangs_23 kB_m2 ?_
      obtain ⟨e0, e1, e2, e3, e4⟩ := ij5 hf
      exact hret _ _ 25 _ dX8_hangs_25 rfl e0 (by rw [← e1, ← e2, ← e3, ← e4])
  · have hf := ifT hc hf
    refine ww_iconst (pc := 13) C dX8_hangs_13 kI_m1 ?_
    obtain ⟨e0, e1, e2, e3, e4⟩ := ij5 hf
    exact hret _ _ 14 _ dX8_hangs_14 rfl e0 (by rw [← e1, ← e2, ← e3, ← e4])
def fX8_lone_b86 (c_rowMany : Int32) (c_thrown : Int32) (c_now : Nat → Int32) (c_row : Nat → Int64) (n1 : Int32) (n2 : Int32) (n3 : Int32) : Option (Int32 × Int32 × Int32 × (Nat → Int32) × (Nat → Int64)) := bd2 (fX8_tell (0 : Int32) c_row ((n1).toInt64)) fun v1 v2 => bd2 (fX8_tell v1 v2 ((n2).toInt64)) fun v3 v4 => bd2 (fX8_tell v3 v4 ((n3).toInt64)) fun v5 v6 => if n2 = (-1 : Int32) then some ((0 : Int32), v5, c_thrown, c_now, v6) else some ((1 : Int32), v5, c_thrown, c_now, v6)
def fX8_lone_b73 (c_rowMany : Int32) (c_thrown : Int32) (c_now : Nat → Int32) (c_row : Nat → Int64) (n1 : Int32) (n2 : Int32) (n3 : Int32) : Option (Int32 × Int32 × Int32 × (Nat → Int32) × (Nat → Int64)) := if n1 = (1 : Int32) then fX8_lone_b86 c_rowMany c_thrown c_now c_row n1 n2 n3 else if n2 = (-1 : Int32) then some ((-2 : Int32), c_rowMany, c_thrown, c_now, c_row) else fX8_lone_b86 c_rowMany c_thrown c_now c_row n1 n2 n3
def fX8_lone_b35 (rc22 : Int32 → Int32 → (Nat → Int32) → (Nat → Int64) → Int32 → Int32 → Int32 → Int32 → Option (Int32 × Int32 × Int32 × (Nat → Int32) × (Nat → Int64))) (rc35 : Int32 → Int32 → (Nat → Int32) → (Nat → Int64) → Int32 → Int32 → Int32 → Int32 → Int32 → Option (Int32 × Int32 × Int32 × (Nat → Int32) × (Nat → Int64))) (c_rowMany : Int32) (c_thrown : Int32) (c_now : Nat → Int32) (c_row : Nat → Int64) (n1 : Int32) (n2 : Int32) (n3 : Int32) (n4 : Int32) (n5 : Int32) : Option (Int32 × Int32 × Int32 × (Nat → Int32) × (Nat → Int64)) := if n5 < 0 then (some (n4 + (-1 : Int32))).bind fun v1 => rc22 c_rowMany c_thrown c_now c_row n1 n2 n3 v1 else bd2 (fX8_fullBy c_now n4 n5) fun v2 v3 => if v2 = (1 : Int32) then (some (n5 + (-1 : Int32))).bind fun v4 => rc35 c_rowMany c_thrown v3 c_row n1 n4 n5 n4 v4 else (some (n5 + (-1 : Int32))).bind fun v5 => rc35 c_rowMany c_thrown v3 c_row n1 n2 n3 n4 v5
def fX8_lone_b22 (rc22 : Int32 → Int32 → (Nat → Int32) → (Nat → Int64) → Int32 → Int32 → Int32 → Int32 → Option (Int32 × Int32 × Int32 × (Nat → Int32) × (Nat → Int64))) (c_rowMany : Int32) (c_thrown : Int32) (c_now : Nat → Int32) (c_row : Nat → Int64) (n1 : Int32) (n2 : Int32) (n3 : Int32) (n4 : Int32) : Option (Int32 × Int32 × Int32 × (Nat → Int32) × (Nat → Int64)) := if n4 < 0 then fX8_lone_b73 c_rowMany c_thrown c_now c_row n1 n2 n3 else if n1 = (1 : Int32) then fX8_lone_b73 c_rowMany c_thrown c_now c_row n1 n2 n3 else lfix (fX8_lone_b35 rc22) (fun _ _ _ _ _ _ _ _ _ => none) FU c_rowMany c_thrown c_now c_row n1 n2 n3 n4 (2 : Int32)
def fX8_lone (c_rowMany : Int32) (c_thrown : Int32) (c_now : Nat → Int32) (c_row : Nat → Int64) : Option (Int32 × Int32 × Int32 × (Nat → Int32) × (Nat → Int64)) := (fX8_fullMany c_now).bind fun v1 => (fX8_points c_now).bind fun v2 => (some (v2 - (1 : Int32))).bind fun v3 => lfix (fX8_lone_b22) (fun _ _ _ _ _ _ _ _ => none) FU c_rowMany (0 : Int32) c_now c_row v1 (-1 : Int32) (-1 : Int32) v3
set_option maxHeartbeats 4000000 in
set_option maxRecDepth 100000 in
theorem tX8_lone (l : Launch) (D : va_G) (k : Nat → ClassId) (q_this q_now q_text q_row q_read q_outerCell q_outerDoor q_walked q_onWalks q_far q_aside q_wasFull q_undos q_was q_kept q_isKept : Nat) (c_typed : Int32) (c_rowMany : Int32) (c_thrown : Int32) (c_length : Int32) (c_at : Int32) (c_wrong : Int32) (c_outerMany : Int32) (c_walkedMany : Int32) (c_cameOut : Int32) (c_undoMany : Int32) (c_drawn : Int32) (c_now : Nat → Int32) (c_row : Nat → Int64)  (r_ : Int32) (w_rowMany : Int32) (w_thrown : Int32) (w_now : Nat → Int32) (w_row : Nat → Int64) (hf : fX8_lone c_rowMany c_thrown c_now c_row = some (r_, w_rowMany, w_thrown, w_now, w_row)) : MI l yX8_lone cX8_lone 6 .int (RM 8 176) D k [.ref q_this] [oX8 q_this q_now q_text c_typed q_row c_rowMany c_thrown c_length c_at c_wrong q_read q_outerCell q_outerDoor c_outerMany q_walked c_walkedMany c_cameOut q_onWalks q_far q_aside q_wasFull q_undos q_was c_undoMany c_drawn q_kept q_isKept, aI k q_now 189 c_now, aJ k q_row 64 c_row] r_ [oX8 q_this q_now q_text c_typed q_row w_rowMany w_thrown c_length c_at c_wrong q_read q_outerCell q_outerDoor c_outerMany q_walked c_walkedMany c_cameOut q_onWalks q_far q_aside q_wasFull q_undos q_was c_undoMany c_drawn q_kept q_isKept, aI k q_now 189 w_now, aJ k q_row 64 w_row] := by
  refine mkMI' (own := "DoorWalkModel") (by decide) rfl (Nat.le_of_ble_eq_true rfl) ?_
  intro p e s m args below meth c Q A hret C
  refine ww_lv (lv' := [(0, .ref q_this)]) [0] rfl ?_
  have hJ86 : ∀ (c_rowMany : Int32) (c_thrown : Int32) (c_now : Nat → Int32) (c_row : Nat → Int64) (n1 : Int32) (n2 : Int32) (n3 : Int32), fX8_lone_b86 c_rowMany c_thrown c_now c_row n1 n2 n3 = some (r_, w_rowMany, w_thrown, w_now, w_row) → WW p l e (RM 8 176) s m args below meth c Q 6 D A 0 0 [oX8 q_this q_now q_text c_typed q_row c_rowMany c_thrown c_length c_at c_wrong q_read q_outerCell q_outerDoor c_outerMany q_walked c_walkedMany c_cameOut q_onWalks q_far q_aside q_wasFull q_undos q_was c_undoMany c_drawn q_kept q_isKept, aI k q_now 189 c_now, aJ k q_row 64 c_row] [(0, .ref q_this), (1, .int n1), (2, .int n2), (3, .int n3)] 86 [] := by
    intro c_rowMany c_thrown c_now c_row n1 n2 n3
    intro hf
    unfold fX8_lone_b86 at hf
    refine ww_aload_n (pc := 86) C dX8_lone_86 rfl 0 rfl ?_
    refine ww_iconst (pc := 87) C dX8_lone_87 kI_0 ?_
    refine pf8_4 (pc := 88) (ws' := [oX8 q_this q_now q_text c_typed q_row (0 : Int32) c_thrown c_length c_at c_wrong q_read q_outerCell q_outerDoor c_outerMany q_walked c_walkedMany c_cameOut q_onWalks q_far q_aside q_wasFull q_undos q_was c_undoMany c_drawn q_kept q_isKept, aI k q_now 189 c_now, aJ k q_row 64 c_row]) C kf_X8_65 0 rfl (Nat.le_of_ble_eq_true rfl) rfl dX8_lone_88 ?_
    refine ww_aload_n (pc := 91) C dX8_lone_91 rfl 0 rfl ?_
    refine ww_iload_n (pc := 92) C dX8_lone_92 rfl 1 rfl ?_
    refine ww_i2l (pc := 93) C dX8_lone_93  ?_
    obtain ⟨v1, v2, h1, hf⟩ := bd2_some hf
    refine ww_callVv (pc := 94) (ws' := [oX8 q_this q_now q_text c_typed q_row v1 c_thrown c_length c_at c_wrong q_read q_outerCell q_outerDoor c_outerMany q_walked c_walkedMany c_cameOut q_onWalks q_far q_aside q_wasFull q_undos q_was c_undoMany c_drawn q_kept q_isKept, aI k q_now 189 c_now, aJ k q_row 64 v2]) (As := [.long ((n1).toInt64)]) (rest := []) C (tX8_tell l D k q_this q_now q_text q_row q_read q_outerCell q_outerDoor q_walked q_onWalks q_far q_aside q_wasFull q_undos q_was q_kept q_isKept c_typed (0 : Int32) c_thrown c_length c_at c_wrong c_outerMany c_walkedMany c_cameOut c_undoMany c_drawn c_row ((n1).toInt64) v1 v2 h1) cv_X8_182 ⟨⟨by decide, by decide⟩, rfl, rfl⟩ 0 rfl rfl [0, 2] rfl rfl rfl rfl rfl rfl (Nat.le_of_ble_eq_true rfl) ⟨Nat.zero_le _, Nat.zero_le _⟩ dX8_lone_94 ?_
    refine ww_aload_n (pc := 97) C dX8_lone_97 rfl 0 rfl ?_
    refine ww_iload_n (pc := 98) C dX8_lone_98 rfl 2 rfl ?_
    refine ww_i2l (pc := 99) C dX8_lone_99  ?_
    obtain ⟨v3, v4, h3, hf⟩ := bd2_some hf
    refine ww_callVv (pc := 100) (ws' := [oX8 q_this q_now q_text c_typed q_row v3 c_thrown c_length c_at c_wrong q_read q_outerCell q_outerDoor c_outerMany q_walked c_walkedMany c_cameOut q_onWalks q_far q_aside q_wasFull q_undos q_was c_undoMany c_drawn q_kept q_isKept, aI k q_now 189 c_now, aJ k q_row 64 v4]) (As := [.long ((n2).toInt64)]) (rest := []) C (tX8_tell l D k q_this q_now q_text q_row q_read q_outerCell q_outerDoor q_walked q_onWalks q_far q_aside q_wasFull q_undos q_was q_kept q_isKept c_typed v1 c_thrown c_length c_at c_wrong c_outerMany c_walkedMany c_cameOut c_undoMany c_drawn v2 ((n2).toInt64) v3 v4 h3) cv_X8_182 ⟨⟨by decide, by decide⟩, rfl, rfl⟩ 0 rfl rfl [0, 2] rfl rfl rfl rfl rfl rfl (Nat.le_of_ble_eq_true rfl) ⟨Nat.zero_le _, Nat.zero_le _⟩ dX8_lone_100 ?_
    refine ww_aload_n (pc := 103) C dX8_lone_103 rfl 0 rfl ?_
    refine ww_iload_n (pc := 104) C dX8_lone_104 rfl 3 rfl ?_
    refine ww_i2l (pc := 105) C dX8_lone_105  ?_
    obtain ⟨v5, v6, h5, hf⟩ := bd2_some hf
    refine ww_callVv (pc := 106) (ws' := [oX8 q_this q_now q_text c_typed q_row v5 c_thrown c_length c_at c_wrong q_read q_outerCell q_outerDoor c_outerMany q_walked c_walkedMany c_cameOut q_onWalks q_far q_aside q_wasFull q_undos q_was c_undoMany c_drawn q_kept q_isKept, aI k q_now 189 c_now, aJ k q_row 64 v6]) (As := [.long ((n3).toInt64)]) (rest := []) C (tX8_tell l D k q_this q_now q_text q_row q_read q_outerCell q_outerDoor q_walked q_onWalks q_far q_aside q_wasFull q_undos q_was q_kept q_isKept c_typed v3 c_thrown c_length c_at c_wrong c_outerMany c_walkedMany c_cameOut c_undoMany c_drawn v4 ((n3).toInt64) v5 v6 h5) cv_X8_182 ⟨⟨by decide, by decide⟩, rfl, rfl⟩ 0 rfl rfl [0, 2] rfl rfl rfl rfl rfl rfl (Nat.le_of_ble_eq_true rfl) ⟨Nat.zero_le _, Nat.zero_le _⟩ dX8_lone_106 ?_
    refine ww_iload_n (pc := 109) C dX8_lone_109 rfl 2 rfl ?_
    refine ww_iconst (pc := 110) C dX8_lone_110 kI_m1 ?_
    refine ww_icmp_ne (pc := 111) (tgt := 118) C dX8_lone_111 (by decide) (fun hc => ?_) (fun hc => ?_)
    · have hf := ifF hc hf
      refine ww_iconst (pc := 118) C dX8_lone_118 kI_1 ?_
      obtain ⟨e0, e1, e2, e3, e4⟩ := ij5 hf
      exact hret _ _ 119 _ dX8_lone_119 rfl e0 (by rw [← e1, ← e2, ← e3, ← e4])
    · have hf := ifT hc hf
      refine ww_iconst (pc := 114) C dX8_lone_114 kI_0 ?_
      refine ww_goto (pc := 115) (tgt := 119) C dX8_lone_115 (by decide) ?_
      obtain ⟨e0, e1, e2, e3, e4⟩ := ij5 hf
      exact hret _ _ 119 _ dX8_lone_119 rfl e0 (by rw [← e1, ← e2, ← e3, ← e4])
  have hJ73 : ∀ (c_rowMany : Int32) (c_thrown : Int32) (c_now : Nat → Int32) (c_row : Nat → Int64) (n1 : Int32) (n2 : Int32) (n3 : Int32), fX8_lone_b73 c_rowMany c_thrown c_now c_row n1 n2 n3 = some (r_, w_rowMany, w_thrown, w_now, w_row) → WW p l e (RM 8 176) s m args below meth c Q 6 D A 0 0 [oX8 q_this q_now q_text c_typed q_row c_rowMany c_thrown c_length c_at c_wrong q_read q_outerCell q_outerDoor c_outerMany q_walked c_walkedMany c_cameOut q_onWalks q_far q_aside q_wasFull q_undos q_was c_undoMany c_drawn q_kept q_isKept, aI k q_now 189 c_now, aJ k q_row 64 c_row] [(0, .ref q_this), (1, .int n1), (2, .int n2), (3, .int n3)] 73 [] := by
    intro c_rowMany c_thrown c_now c_row n1 n2 n3
    intro hf
    unfold fX8_lone_b73 at hf
    refine ww_iload_n (pc := 73) C dX8_lone_73 rfl 1 rfl ?_
    refine ww_iconst (pc := 74) C dX8_lone_74 kI_1 ?_
    refine ww_icmp_eq (pc := 75) (tgt := 86) C dX8_lone_75 (by decide) (fun hc => ?_) (fun hc => ?_)
    · have hf := ifT hc hf
      exact hJ86 c_rowMany c_thrown c_now c_row n1 n2 n3 hf
    · have hf := ifF hc hf
      refine ww_iload_n (pc := 78) C dX8_lone_78 rfl 2 rfl ?_
      refine ww_iconst (pc := 79) C dX8_lone_79 kI_m1 ?_
      refine ww_icmp_ne (pc := 80) (tgt := 86) C dX8_lone_80 (by decide) (fun hc => ?_) (fun hc => ?_)
      · have hf := ifF hc hf
        exact hJ86 c_rowMany c_thrown c_now c_row n1 n2 n3 hf
      · have hf := ifT hc hf
        refine ww_bipush (pc := 83) C dX8_lone_83 kB_m2 ?_
        obtain ⟨e0, e1, e2, e3, e4⟩ := ij5 hf
        exact hret _ _ 85 _ dX8_lone_85 rfl e0 (by rw [← e1, ← e2, ← e3, ← e4])
  have hL22 : ∀ (n : Nat) (c_rowMany : Int32) (c_thrown : Int32) (c_now : Nat → Int32) (c_row : Nat → Int64) (n1 : Int32) (n2 : Int32) (n3 : Int32) (n4 : Int32), lfix (fX8_lone_b22) (fun _ _ _ _ _ _ _ _ => none) n c_rowMany c_thrown c_now c_row n1 n2 n3 n4 = some (r_, w_rowMany, w_thrown, w_now, w_row) → WW p l e (RM 8 176) s m args below meth c Q 6 D A 0 0 [oX8 q_this q_now q_text c_typed q_row c_rowMany c_thrown c_length c_at c_wrong q_read q_outerCell q_outerDoor c_outerMany q_walked c_walkedMany c_cameOut q_onWalks q_far q_aside q_wasFull q_undos q_was c_undoMany c_drawn q_kept q_isKept, aI k q_now 189 c_now, aJ k q_row 64 c_row] [(0, .ref q_this), (1, .int n1), (2, .int n2), (3, .int n3), (4, .int n4)] 22 [] := by
    intro n
    induction n with
    | zero => intro c_rowMany c_thrown c_now c_row n1 n2 n3 n4 hf; cases hf
    | succ n ih22 =>
      obtain ⟨rc22, hrc22⟩ : ∃ f9, f9 = lfix (fX8_lone_b22) (fun _ _ _ _ _ _ _ _ => none) n := ⟨_, rfl⟩
      rw [← hrc22] at ih22
      have hL35 : ∀ (n : Nat) (c_rowMany : Int32) (c_thrown : Int32) (c_now : Nat → Int32) (c_row : Nat → Int64) (n1 : Int32) (n2 : Int32) (n3 : Int32) (n4 : Int32) (n5 : Int32), lfix (fX8_lone_b35 rc22) (fun _ _ _ _ _ _ _ _ _ => none) n c_rowMany c_thrown c_now c_row n1 n2 n3 n4 n5 = some (r_, w_rowMany, w_thrown, w_now, w_row) → WW p l e (RM 8 176) s m args below meth c Q 6 D A 0 0 [oX8 q_this q_now q_text c_typed q_row c_rowMany c_thrown c_length c_at c_wrong q_read q_outerCell q_outerDoor c_outerMany q_walked c_walkedMany c_cameOut q_onWalks q_far q_aside q_wasFull q_undos q_was c_undoMany c_drawn q_kept q_isKept, aI k q_now 189 c_now, aJ k q_row 64 c_row] [(0, .ref q_this), (1, .int n1), (2, .int n2), (3, .int n3), (4, .int n4), (5, .int n5)] 35 [] := by
        intro n
        induction n with
        | zero => intro c_rowMany c_thrown c_now c_row n1 n2 n3 n4 n5 hf; cases hf
        | succ n ih35 =>
          obtain ⟨rc35, hrc35⟩ : ∃ f9, f9 = lfix (fX8_lone_b35 rc22) (fun _ _ _ _ _ _ _ _ _ => none) n := ⟨_, rfl⟩
          rw [← hrc35] at ih35
          intro c_rowMany c_thrown c_now c_row n1 n2 n3 n4 n5 hf
          have hf : fX8_lone_b35 rc22 rc35 c_rowMany c_thrown c_now c_row n1 n2 n3 n4 n5 = some (r_, w_rowMany, w_thrown, w_now, w_row) := by rw [hrc35]; exact hf
          unfold fX8_lone_b35 at hf
          refine ww_iload (pc := 35) C dX8_lone_35 5 rfl ?_
          refine ww_if_lt (pc := 37) (tgt := 67) C dX8_lone_37 (by decide) (fun hc => ?_) (fun hc => ?_)
          · have hf := ifT hc hf
            obtain ⟨v1, h1, hf⟩ := bsome hf
            refine ww_iincN (pc := 67) (lv' := [(4, .int v1), (0, .ref q_this), (1, .int n1), (2, .int n2), (3, .int n3), (5, .int n5)]) (j := 4) C dX8_lone_67 kI_m1 rfl h1 (by decide) rfl ?_
            refine ww_goto (pc := 70) (tgt := 22) C dX8_lone_70 (by decide) ?_
            exact ww_lv [1, 2, 3, 4, 0] rfl (ih22 c_rowMany c_thrown c_now c_row n1 n2 n3 v1 hf)
          · have hf := ifF hc hf
            refine ww_aload_n (pc := 40) C dX8_lone_40 rfl 0 rfl ?_
            refine ww_iload (pc := 41) C dX8_lone_41 4 rfl ?_
            refine ww_iload (pc := 43) C dX8_lone_43 5 rfl ?_
            obtain ⟨v2, v3, h2, hf⟩ := bd2_some hf
            refine ww_callVi (pc := 45) (ws' := [oX8 q_this q_now q_text c_typed q_row c_rowMany c_thrown c_length c_at c_wrong q_read q_outerCell q_outerDoor c_outerMany q_walked c_walkedMany c_cameOut q_onWalks q_far q_aside q_wasFull q_undos q_was c_undoMany c_drawn q_kept q_isKept, aI k q_now 189 v3, aJ k q_row 64 c_row]) (As := [.int n4, .int n5]) (rest := []) C (tX8_fullBy l D k q_this q_now q_text q_row q_read q_outerCell q_outerDoor q_walked q_onWalks q_far q_aside q_wasFull q_undos q_was q_kept q_isKept c_typed c_rowMany c_thrown c_length c_at c_wrong c_outerMany c_walkedMany c_cameOut c_undoMany c_drawn c_now n4 n5 v2 v3 h2) cv_X8_303 ⟨⟨by decide, by decide⟩, rfl, rfl⟩ 0 rfl rfl [0, 1] rfl rfl rfl rfl rfl rfl (Nat.le_of_ble_eq_true rfl) ⟨Nat.zero_le _, Nat.zero_le _⟩ dX8_lone_45 (fun hb2 => ?_)
            refine ww_iconst (pc := 48) C dX8_lone_48 kI_1 ?_
            refine ww_icmp_eq (pc := 49) (tgt := 55) C dX8_lone_49 (by decide) (fun hc => ?_) (fun hc => ?_)
            · have hf := ifT hc hf
              refine ww_iload (pc := 55) C dX8_lone_55 4 rfl ?_
              refine ww_istore_n (pc := 57) (lv' := [(2, .int n4), (0, .ref q_this), (1, .int n1), (3, .int n3), (4, .int n4), (5, .int n5)]) C dX8_lone_57 rfl (by decide) rfl ?_
              refine ww_iload (pc := 58) C dX8_lone_58 5 rfl ?_
              refine ww_istore_n (pc := 60) (lv' := [(3, .int n5), (2, .int n4), (0, .ref q_this), (1, .int n1), (4, .int n4), (5, .int n5)]) C dX8_lone_60 rfl (by decide) rfl ?_
              obtain ⟨v4, h4, hf⟩ := bsome hf
              refine ww_iincN (pc := 61) (lv' := [(5, .int v4), (3, .int n5), (2, .int n4), (0, .ref q_this), (1, .int n1), (4, .int n4)]) (j := 5) C dX8_lone_61 kI_m1 rfl h4 (by decide) rfl ?_
              refine ww_goto (pc := 64) (tgt := 35) C dX8_lone_64 (by decide) ?_
              exact ww_lv [3, 4, 2, 1, 5, 0] rfl (ih35 c_rowMany c_thrown v3 c_row n1 n4 n5 n4 v4 hf)
            · have hf := ifF hc hf
              refine ww_goto (pc := 52) (tgt := 61) C dX8_lone_52 (by decide) ?_
              obtain ⟨v5, h5, hf⟩ := bsome hf
              refine ww_iincN (pc := 61) (lv' := [(5, .int v5), (0, .ref q_this), (1, .int n1), (2, .int n2), (3, .int n3), (4, .int n4)]) (j := 5) C dX8_lone_61 kI_m1 rfl h5 (by decide) rfl ?_
              refine ww_goto (pc := 64) (tgt := 35) C dX8_lone_64 (by decide) ?_
              exact ww_lv [1, 2, 3, 4, 5, 0] rfl (ih35 c_rowMany c_thrown v3 c_row n1 n2 n3 n4 v5 hf)
      intro c_rowMany c_thrown c_now c_row n1 n2 n3 n4 hf
      have hf : fX8_lone_b22 rc22 c_rowMany c_thrown c_now c_row n1 n2 n3 n4 = some (r_, w_rowMany, w_thrown, w_now, w_row) := by rw [hrc22]; exact hf
      unfold fX8_lone_b22 at hf
      refine ww_iload (pc := 22) C dX8_lone_22 4 rfl ?_
      refine ww_if_lt (pc := 24) (tgt := 73) C dX8_lone_24 (by decide) (fun hc => ?_) (fun hc => ?_)
      · have hf := ifT hc hf
        exact ww_lv [0, 1, 2, 3] rfl (hJ73 c_rowMany c_thrown c_now c_row n1 n2 n3 hf)
      · have hf := ifF hc hf
        refine ww_iload_n (pc := 27) C dX8_lone_27 rfl 1 rfl ?_
        refine ww_iconst (pc := 28) C dX8_lone_28 kI_1 ?_
        refine ww_icmp_eq (pc := 29) (tgt := 73) C dX8_lone_29 (by decide) (fun hc => ?_) (fun hc => ?_)
        · have hf := ifT hc hf
          exact ww_lv [0, 1, 2, 3] rfl (hJ73 c_rowMany c_thrown c_now c_row n1 n2 n3 hf)
        · have hf := ifF hc hf
          refine ww_iconst (pc := 32) C dX8_lone_32 kI_2 ?_
          refine ww_istore (pc := 33) (lv' := [(5, .int (2 : Int32)), (0, .ref q_this), (1, .int n1), (2, .int n2), (3, .int n3), (4, .int n4)]) C dX8_lone_33 (by decide) rfl ?_
          exact ww_lv [1, 2, 3, 4, 5, 0] rfl (hL35 FU c_rowMany c_thrown c_now c_row n1 n2 n3 n4 (2 : Int32) hf)
  unfold fX8_lone at hf
  refine ww_aload_n (pc := 0) C dX8_lone_0 rfl 0 rfl ?_
  refine ww_iconst (pc := 1) C dX8_lone_1 kI_0 ?_
  refine pf8_5 (pc := 2) (ws' := [oX8 q_this q_now q_text c_typed q_row c_rowMany (0 : Int32) c_length c_at c_wrong q_read q_outerCell q_outerDoor c_outerMany q_walked c_walkedMany c_cameOut q_onWalks q_far q_aside q_wasFull q_undos q_was c_undoMany c_drawn q_kept q_isKept, aI k q_now 189 c_now, aJ k q_row 64 c_row]) C kf_X8_61 0 rfl (Nat.le_of_ble_eq_true rfl) rfl dX8_lone_2 ?_
  refine ww_aload_n (pc := 5) C dX8_lone_5 rfl 0 rfl ?_
  obtain ⟨v1, h1, hf⟩ := bsome hf
  refine ww_callVi0 (pc := 6) (As := []) (rest := []) C (tX8_fullMany l D k q_this q_now q_text q_row q_read q_outerCell q_outerDoor q_walked q_onWalks q_far q_aside q_wasFull q_undos q_was q_kept q_isKept c_typed c_rowMany (0 : Int32) c_length c_at c_wrong c_outerMany c_walkedMany c_cameOut c_undoMany c_drawn c_now v1 h1) cv_X8_226 ⟨⟨by decide, by decide⟩, rfl, rfl⟩ 0 rfl rfl [0, 1] rfl rfl rfl rfl (Nat.le_of_ble_eq_true rfl) ⟨Nat.zero_le _, Nat.zero_le _⟩ dX8_lone_6 (fun hb1 => ?_)
  refine ww_istore_n (pc := 9) (lv' := [(1, .int v1), (0, .ref q_this)]) C dX8_lone_9 rfl (by decide) rfl ?_
  refine ww_iconst (pc := 10) C dX8_lone_10 kI_m1 ?_
  refine ww_istore_n (pc := 11) (lv' := [(2, .int (-1 : Int32)), (1, .int v1), (0, .ref q_this)]) C dX8_lone_11 rfl (by decide) rfl ?_
  refine ww_iconst (pc := 12) C dX8_lone_12 kI_m1 ?_
  refine ww_istore_n (pc := 13) (lv' := [(3, .int (-1 : Int32)), (2, .int (-1 : Int32)), (1, .int v1), (0, .ref q_this)]) C dX8_lone_13 rfl (by decide) rfl ?_
  refine ww_aload_n (pc := 14) C dX8_lone_14 rfl 3 rfl ?_
  obtain ⟨v2, h2, hf⟩ := bsome hf
  refine ww_callVi0 (pc := 15) (As := []) (rest := []) C (tX8_points l D k q_this q_now q_text q_row q_read q_outerCell q_outerDoor q_walked q_onWalks q_far q_aside q_wasFull q_undos q_was q_kept q_isKept c_typed c_rowMany (0 : Int32) c_length c_at c_wrong c_outerMany c_walkedMany c_cameOut c_undoMany c_drawn c_now v2 h2) cv_X8_172 ⟨⟨by decide, by decide⟩, rfl, rfl⟩ 0 rfl rfl [0, 1] rfl rfl rfl rfl (Nat.le_of_ble_eq_true rfl) ⟨Nat.zero_le _, Nat.zero_le _⟩ dX8_lone_15 (fun hb2 => ?_)
  refine ww_iconst (pc := 18) C dX8_lone_18 kI_1 ?_
  refine ww_isub (pc := 19) C dX8_lone_19  ?_
  obtain ⟨v3, h3, hf⟩ := bsome hf
  refine ww_nmi h3 ?_
  refine ww_istore (pc := 20) (lv' := [(4, .int v3), (3, .int (-1 : Int32)), (2, .int (-1 : Int32)), (1, .int v1), (0, .ref q_this)]) C dX8_lone_20 (by decide) rfl ?_
  exact ww_lv [4, 3, 2, 1, 0] rfl (hL22 FU c_rowMany (0 : Int32) c_now c_row v1 (-1 : Int32) (-1 : Int32) v3 hf)
def fX8_refusesLay (c_now : Nat → Int32) (x1 : Int32) (x2 : Int32) (x3 : Int32) : Option Int32 := (fX8_isPoint c_now x1 x2).bind fun v1 => if v1 = 0 then some ((-1 : Int32)) else (fX8_in x3 (0 : Int32) (2 : Int32)).bind fun v2 => if v2 = 0 then some ((-1 : Int32)) else (fX8_place c_now x1 x2).bind fun v3 => (fX8_labelAt c_now v3).bind fun v4 => if v4 = x3 then some ((-2 : Int32)) else (fX8_canHave c_now x1 x2 x3).bind fun v5 => if v5 = 0 then some ((-4 : Int32)) else some ((0 : Int32))
set_option maxHeartbeats 4000000 in
set_option maxRecDepth 100000 in
theorem tX8_refusesLay (l : Launch) (D : va_G) (k : Nat → ClassId) (q_this q_now q_text q_row q_read q_outerCell q_outerDoor q_walked q_onWalks q_far q_aside q_wasFull q_undos q_was q_kept q_isKept : Nat) (c_typed : Int32) (c_rowMany : Int32) (c_thrown : Int32) (c_length : Int32) (c_at : Int32) (c_wrong : Int32) (c_outerMany : Int32) (c_walkedMany : Int32) (c_cameOut : Int32) (c_undoMany : Int32) (c_drawn : Int32) (c_now : Nat → Int32) (x1 : Int32) (x2 : Int32) (x3 : Int32) (r_ : Int32) (hf : fX8_refusesLay c_now x1 x2 x3 = some (r_)) : MI l yX8_refusesLay cX8_refusesLay 4 .int (RM 3 66) D k [.ref q_this, .int x1, .int x2, .int x3] [oX8 q_this q_now q_text c_typed q_row c_rowMany c_thrown c_length c_at c_wrong q_read q_outerCell q_outerDoor c_outerMany q_walked c_walkedMany c_cameOut q_onWalks q_far q_aside q_wasFull q_undos q_was c_undoMany c_drawn q_kept q_isKept, aI k q_now 189 c_now] r_ [oX8 q_this q_now q_text c_typed q_row c_rowMany c_thrown c_length c_at c_wrong q_read q_outerCell q_outerDoor c_outerMany q_walked c_walkedMany c_cameOut q_onWalks q_far q_aside q_wasFull q_undos q_was c_undoMany c_drawn q_kept q_isKept, aI k q_now 189 c_now] := by
  refine mkMI' (own := "DoorWalkModel") (by decide) rfl (Nat.le_of_ble_eq_true rfl) ?_
  intro p e s m args below meth c Q A hret C
  refine ww_lv (lv' := [(0, .ref q_this), (1, .int x1), (2, .int x2), (3, .int x3)]) [0, 1, 2, 3] rfl ?_
  unfold fX8_refusesLay at hf
  refine ww_aload_n (pc := 0) C dX8_refusesLay_0 rfl 0 rfl ?_
  refine ww_iload_n (pc := 1) C dX8_refusesLay_1 rfl 1 rfl ?_
  refine ww_iload_n (pc := 2) C dX8_refusesLay_2 rfl 2 rfl ?_
  obtain ⟨v1, h1, hf⟩ := bsome hf
  refine ww_callVi0 (pc := 3) (As := [.int x1, .int x2]) (rest := []) C (tX8_isPoint l D k q_this q_now q_text q_row q_read q_outerCell q_outerDoor q_walked q_onWalks q_far q_aside q_wasFull q_undos q_was q_kept q_isKept c_typed c_rowMany c_thrown c_length c_at c_wrong c_outerMany c_walkedMany c_cameOut c_undoMany c_drawn c_now x1 x2 v1 h1) cv_X8_219 ⟨⟨by decide, by decide⟩, rfl, rfl⟩ 0 rfl rfl [0, 1] rfl rfl rfl rfl (Nat.le_of_ble_eq_true rfl) ⟨Nat.zero_le _, Nat.zero_le _⟩ dX8_refusesLay_3 (fun hb1 => ?_)
  refine ww_if_eq (pc := 6) (tgt := 18) C dX8_refusesLay_6 (by decide) (fun hc => ?_) (fun hc => ?_)
  · have hf := ifT hc hf
    refine ww_iconst (pc := 18) C dX8_refusesLay_18 kI_m1 ?_
    obtain e0 := ij1 hf
    exact hret _ _ 19 _ dX8_refusesLay_19 rfl e0 rfl
  · have hf := ifF hc hf
    refine ww_iload_n (pc := 9) C dX8_refusesLay_9 rfl 3 rfl ?_
    refine ww_iconst (pc := 10) C dX8_refusesLay_10 kI_0 ?_
    refine ww_iconst (pc := 11) C dX8_refusesLay_11 kI_2 ?_
    obtain ⟨v2, h2, hf⟩ := bsome hf
    refine ww_callSi0 (pc := 12) (As := [.int x3, .int (0 : Int32), .int (2 : Int32)]) (rest := []) C (tX8_in l D k x3 (0 : Int32) (2 : Int32) v2 h2) cs_X8_72 ⟨⟨by decide, by decide⟩, rfl, rfl⟩ [] rfl rfl rfl rfl (Nat.le_of_ble_eq_true rfl) ⟨Nat.zero_le _, Nat.zero_le _⟩ dX8_refusesLay_12 (fun hb2 => ?_)
    refine ww_if_ne (pc := 15) (tgt := 20) C dX8_refusesLay_15 (by decide) (fun hc => ?_) (fun hc => ?_)
    · have hf := ifF hc hf
      refine ww_aload_n (pc := 20) C dX8_refusesLay_20 rfl 0 rfl ?_
      refine ww_aload_n (pc := 21) C dX8_refusesLay_21 rfl 0 rfl ?_
      refine ww_iload_n (pc := 22) C dX8_refusesLay_22 rfl 1 rfl ?_
      refine ww_iload_n (pc := 23) C dX8_refusesLay_23 rfl 2 rfl ?_
      obtain ⟨v3, h3, hf⟩ := bsome hf
      refine ww_callVi0 (pc := 24) (As := [.int x1, .int x2]) (rest := [.ref q_this]) C (tX8_place l D k q_this q_now q_text q_row q_read q_outerCell q_outerDoor q_walked q_onWalks q_far q_aside q_wasFull q_undos q_was q_kept q_isKept c_typed c_rowMany c_thrown c_length c_at c_wrong c_outerMany c_walkedMany c_cameOut c_undoMany c_drawn c_now x1 x2 v3 h3) cv_X8_80 ⟨⟨by decide, by decide⟩, rfl, rfl⟩ 0 rfl rfl [0, 1] rfl rfl rfl rfl (Nat.le_of_ble_eq_true rfl) ⟨Nat.zero_le _, Nat.zero_le _⟩ dX8_refusesLay_24 (fun hb3 => ?_)
      obtain ⟨v4, h4, hf⟩ := bsome hf
      refine ww_callVi0 (pc := 27) (As := [.int v3]) (rest := []) C (tX8_labelAt l D k q_this q_now q_text q_row q_read q_outerCell q_outerDoor q_walked q_onWalks q_far q_aside q_wasFull q_undos q_was q_kept q_isKept c_typed c_rowMany c_thrown c_length c_at c_wrong c_outerMany c_walkedMany c_cameOut c_undoMany c_drawn c_now v3 v4 h4) cv_X8_188 ⟨⟨by decide, by decide⟩, rfl, rfl⟩ 0 rfl rfl [0, 1] rfl rfl rfl rfl (Nat.le_of_ble_eq_true rfl) ⟨Nat.zero_le _, Nat.zero_le _⟩ dX8_refusesLay_27 (fun hb4 => ?_)
      refine ww_iload_n (pc := 30) C dX8_refusesLay_30 rfl 3 rfl ?_
      refine ww_icmp_ne (pc := 31) (tgt := 39) C dX8_refusesLay_31 (by decide) (fun hc => ?_) (fun hc => ?_)
      · have hf := ifF hc hf
        refine ww_aload_n (pc := 39) C dX8_refusesLay_39 rfl 0 rfl ?_
        refine ww_iload_n (pc := 40) C dX8_refusesLay_40 rfl 1 rfl ?_
        refine ww_iload_n (pc := 41) C dX8_refusesLay_41 rfl 2 rfl ?_
        refine ww_iload_n (pc := 42) C dX8_refusesLay_42 rfl 3 rfl ?_
        obtain ⟨v5, h5, hf⟩ := bsome hf
        refine ww_callVi0 (pc := 43) (As := [.int x1, .int x2, .int x3]) (rest := []) C (tX8_canHave l D k q_this q_now q_text q_row q_read q_outerCell q_outerDoor q_walked q_onWalks q_far q_aside q_wasFull q_undos q_was q_kept q_isKept c_typed c_rowMany c_thrown c_length c_at c_wrong c_outerMany c_walkedMany c_cameOut c_undoMany c_drawn c_now x1 x2 x3 v5 h5) cv_X8_111 ⟨⟨by decide, by decide⟩, rfl, rfl⟩ 0 rfl rfl [0, 1] rfl rfl rfl rfl (Nat.le_of_ble_eq_true rfl) ⟨Nat.zero_le _, Nat.zero_le _⟩ dX8_refusesLay_43 (fun hb5 => ?_)
        refine ww_if_eq (pc := 46) (tgt := 53) C dX8_refusesLay_46 (by decide) (fun hc => ?_) (fun hc => ?_)
        · have hf := ifT hc hf
          refine ww_bipush (pc := 53) C dX8_refusesLay_53 kB_m4 ?_
          obtain e0 := ij1 hf
          exact hret _ _ 55 _ dX8_refusesLay_55 rfl e0 rfl
        · have hf := ifF hc hf
          refine ww_iconst (pc := 49) C dX8_refusesLay_49 kI_0 ?_
          refine ww_goto (pc := 50) (tgt := 55) C dX8_refusesLay_50 (by decide) ?_
          obtain e0 := ij1 hf
          exact hret _ _ 55 _ dX8_refusesLay_55 rfl e0 rfl
      · have hf := ifT hc hf
        refine ww_bipush (pc := 34) C dX8_refusesLay_34 kB_m2 ?_
        refine ww_goto (pc := 36) (tgt := 55) C dX8_refusesLay_36 (by decide) ?_
        obtain e0 := ij1 hf
        exact hret _ _ 55 _ dX8_refusesLay_55 rfl e0 rfl
    · have hf := ifT hc hf
      refine ww_iconst (pc := 18) C dX8_refusesLay_18 kI_m1 ?_
      obtain e0 := ij1 hf
      exact hret _ _ 19 _ dX8_refusesLay_19 rfl e0 rfl
def fX8_goLay (c_now : Nat → Int32) (x1 : Int32) (x2 : Int32) (x3 : Int32) : Option ((Nat → Int32)) := (fX8_place c_now x1 x2).bind fun v1 => (ast 189 ((36 : Int32) + v1) c_now x3).bind fun v2 => (ast 189 (1 : Int32) v2 (0 : Int32)).bind fun v3 => some (v3)
set_option maxHeartbeats 4000000 in
set_option maxRecDepth 100000 in
theorem tX8_goLay (l : Launch) (D : va_G) (k : Nat → ClassId) (q_this q_now q_text q_row q_read q_outerCell q_outerDoor q_walked q_onWalks q_far q_aside q_wasFull q_undos q_was q_kept q_isKept : Nat) (c_typed : Int32) (c_rowMany : Int32) (c_thrown : Int32) (c_length : Int32) (c_at : Int32) (c_wrong : Int32) (c_outerMany : Int32) (c_walkedMany : Int32) (c_cameOut : Int32) (c_undoMany : Int32) (c_drawn : Int32) (c_now : Nat → Int32) (x1 : Int32) (x2 : Int32) (x3 : Int32) (w_now : Nat → Int32) (hf : fX8_goLay c_now x1 x2 x3 = some (w_now)) : MV l yX8_goLay cX8_goLay 4 (RM 2 42) D k [.ref q_this, .int x1, .int x2, .int x3] [oX8 q_this q_now q_text c_typed q_row c_rowMany c_thrown c_length c_at c_wrong q_read q_outerCell q_outerDoor c_outerMany q_walked c_walkedMany c_cameOut q_onWalks q_far q_aside q_wasFull q_undos q_was c_undoMany c_drawn q_kept q_isKept, aI k q_now 189 c_now] [oX8 q_this q_now q_text c_typed q_row c_rowMany c_thrown c_length c_at c_wrong q_read q_outerCell q_outerDoor c_outerMany q_walked c_walkedMany c_cameOut q_onWalks q_far q_aside q_wasFull q_undos q_was c_undoMany c_drawn q_kept q_isKept, aI k q_now 189 w_now] := by
  refine mkMV' (own := "DoorWalkModel") (by decide) rfl (Nat.le_of_ble_eq_true rfl) ?_
  intro p e s m args below meth c Q A hret C
  refine ww_lv (lv' := [(0, .ref q_this), (1, .int x1), (2, .int x2), (3, .int x3)]) [0, 1, 2, 3] rfl ?_
  unfold fX8_goLay at hf
  refine ww_aload_n (pc := 0) C dX8_goLay_0 rfl 0 rfl ?_
  refine gf8_0 (pc := 1) C kf_X8_9 0 rfl rfl dX8_goLay_1 ?_
  refine ww_bipush (pc := 4) C dX8_goLay_4 kB_36 ?_
  refine ww_aload_n (pc := 6) C dX8_goLay_6 rfl 0 rfl ?_
  refine ww_iload_n (pc := 7) C dX8_goLay_7 rfl 1 rfl ?_
  refine ww_iload_n (pc := 8) C dX8_goLay_8 rfl 2 rfl ?_
  obtain ⟨v1, h1, hf⟩ := bsome hf
  refine ww_callVi0 (pc := 9) (As := [.int x1, .int x2]) (rest := [.int (36 : Int32), .ref q_now]) C (tX8_place l D k q_this q_now q_text q_row q_read q_outerCell q_outerDoor q_walked q_onWalks q_far q_aside q_wasFull q_undos q_was q_kept q_isKept c_typed c_rowMany c_thrown c_length c_at c_wrong c_outerMany c_walkedMany c_cameOut c_undoMany c_drawn c_now x1 x2 v1 h1) cv_X8_80 ⟨⟨by decide, by decide⟩, rfl, rfl⟩ 0 rfl rfl [0, 1] rfl rfl rfl rfl (Nat.le_of_ble_eq_true rfl) ⟨Nat.zero_le _, Nat.zero_le _⟩ dX8_goLay_9 (fun hb1 => ?_)
  refine ww_iadd (pc := 12) C dX8_goLay_12  ?_
  refine ww_iload_n (pc := 13) C dX8_goLay_13 rfl 3 rfl ?_
  obtain ⟨v2, h2, hf⟩ := bsome hf
  refine ww_iast (pc := 14) (ws' := [oX8 q_this q_now q_text c_typed q_row c_rowMany c_thrown c_length c_at c_wrong q_read q_outerCell q_outerDoor c_outerMany q_walked c_walkedMany c_cameOut q_onWalks q_far q_aside q_wasFull q_undos q_was c_undoMany c_drawn q_kept q_isKept, aI k q_now 189 v2]) C 1 rfl h2 rfl dX8_goLay_14 ?_
  refine ww_aload_n (pc := 15) C dX8_goLay_15 rfl 0 rfl ?_
  refine gf8_0 (pc := 16) C kf_X8_9 0 rfl rfl dX8_goLay_16 ?_
  refine ww_iconst (pc := 19) C dX8_goLay_19 kI_1 ?_
  refine ww_iconst (pc := 20) C dX8_goLay_20 kI_0 ?_
  obtain ⟨v3, h3, hf⟩ := bsome hf
  refine ww_iast (pc := 21) (ws' := [oX8 q_this q_now q_text c_typed q_row c_rowMany c_thrown c_length c_at c_wrong q_read q_outerCell q_outerDoor c_outerMany q_walked c_walkedMany c_cameOut q_onWalks q_far q_aside q_wasFull q_undos q_was c_undoMany c_drawn q_kept q_isKept, aI k q_now 189 v3]) C 1 rfl h3 rfl dX8_goLay_21 ?_
  obtain e0 := ij1 hf
  exact hret _ _ 22 dX8_goLay_22 (by rw [← e0])
def fX8_lays (c_thrown : Int32) (c_undoMany : Int32) (c_now : Nat → Int32) (c_undos : Nat → Int32) (c_was : Nat → Int32) (x1 : Int32) (x2 : Int32) (x3 : Int32) : Option (Int32 × Int32 × Int32 × (Nat → Int32) × (Nat → Int32) × (Nat → Int32)) := (fX8_refusesLay c_now x1 x2 x3).bind fun v1 => if 0 ≤ v1 then bd3 (fX8_change c_now c_undoMany c_undos c_was) fun v2 v3 v4 => (fX8_place c_now x1 x2).bind fun v5 => (fX8_labelAt c_now v5).bind fun v6 => (fX8_goLay c_now x1 x2 x3).bind fun v7 => some (v6, (0 : Int32), v2, v7, v3, v4) else some (v1, (0 : Int32), c_undoMany, c_now, c_undos, c_was)
set_option maxHeartbeats 4000000 in
set_option maxRecDepth 100000 in
theorem tX8_lays (l : Launch) (D : va_G) (k : Nat → ClassId) (q_this q_now q_text q_row q_read q_outerCell q_outerDoor q_walked q_onWalks q_far q_aside q_wasFull q_undos q_was q_kept q_isKept : Nat) (c_typed : Int32) (c_rowMany : Int32) (c_thrown : Int32) (c_length : Int32) (c_at : Int32) (c_wrong : Int32) (c_outerMany : Int32) (c_walkedMany : Int32) (c_cameOut : Int32) (c_undoMany : Int32) (c_drawn : Int32) (c_now : Nat → Int32) (c_undos : Nat → Int32) (c_was : Nat → Int32) (x1 : Int32) (x2 : Int32) (x3 : Int32) (r_ : Int32) (w_thrown : Int32) (w_undoMany : Int32) (w_now : Nat → Int32) (w_undos : Nat → Int32) (w_was : Nat → Int32) (hf : fX8_lays c_thrown c_undoMany c_now c_undos c_was x1 x2 x3 = some (r_, w_thrown, w_undoMany, w_now, w_undos, w_was)) : MI l yX8_lays cX8_lays 6 .int (RM 4 89) D k [.ref q_this, .int x1, .int x2, .int x3] [oX8 q_this q_now q_text c_typed q_row c_rowMany c_thrown c_length c_at c_wrong q_read q_outerCell q_outerDoor c_outerMany q_walked c_walkedMany c_cameOut q_onWalks q_far q_aside q_wasFull q_undos q_was c_undoMany c_drawn q_kept q_isKept, aI k q_now 189 c_now, aI k q_undos 1512 c_undos, aI k q_was 189 c_was] r_ [oX8 q_this q_now q_text c_typed q_row c_rowMany w_thrown c_length c_at c_wrong q_read q_outerCell q_outerDoor c_outerMany q_walked c_walkedMany c_cameOut q_onWalks q_far q_aside q_wasFull q_undos q_was w_undoMany c_drawn q_kept q_isKept, aI k q_now 189 w_now, aI k q_undos 1512 w_undos, aI k q_was 189 w_was] := by
  refine mkMI' (own := "DoorWalkModel") (by decide) rfl (Nat.le_of_ble_eq_true rfl) ?_
  intro p e s m args below meth c Q A hret C
  refine ww_lv (lv' := [(0, .ref q_this), (1, .int x1), (2, .int x2), (3, .int x3)]) [0, 1, 2, 3] rfl ?_
  unfold fX8_lays at hf
  refine ww_aload_n (pc := 0) C dX8_lays_0 rfl 0 rfl ?_
  refine ww_iconst (pc := 1) C dX8_lays_1 kI_0 ?_
  refine pf8_5 (pc := 2) (ws' := [oX8 q_this q_now q_text c_typed q_row c_rowMany (0 : Int32) c_length c_at c_wrong q_read q_outerCell q_outerDoor c_outerMany q_walked c_walkedMany c_cameOut q_onWalks q_far q_aside q_wasFull q_undos q_was c_undoMany c_drawn q_kept q_isKept, aI k q_now 189 c_now, aI k q_undos 1512 c_undos, aI k q_was 189 c_was]) C kf_X8_61 0 rfl (Nat.le_of_ble_eq_true rfl) rfl dX8_lays_2 ?_
  refine ww_aload_n (pc := 5) C dX8_lays_5 rfl 0 rfl ?_
  refine ww_iload_n (pc := 6) C dX8_lays_6 rfl 1 rfl ?_
  refine ww_iload_n (pc := 7) C dX8_lays_7 rfl 2 rfl ?_
  refine ww_iload_n (pc := 8) C dX8_lays_8 rfl 3 rfl ?_
  obtain ⟨v1, h1, hf⟩ := bsome hf
  refine ww_callVi0 (pc := 9) (As := [.int x1, .int x2, .int x3]) (rest := []) C (tX8_refusesLay l D k q_this q_now q_text q_row q_read q_outerCell q_outerDoor q_walked q_onWalks q_far q_aside q_wasFull q_undos q_was q_kept q_isKept c_typed c_rowMany (0 : Int32) c_length c_at c_wrong c_outerMany c_walkedMany c_cameOut c_undoMany c_drawn c_now x1 x2 x3 v1 h1) cv_X8_315 ⟨⟨by decide, by decide⟩, rfl, rfl⟩ 0 rfl rfl [0, 1] rfl rfl rfl rfl (Nat.le_of_ble_eq_true rfl) ⟨Nat.zero_le _, Nat.zero_le _⟩ dX8_lays_9 (fun hb1 => ?_)
  refine ww_istore (pc := 12) (lv' := [(4, .int v1), (0, .ref q_this), (1, .int x1), (2, .int x2), (3, .int x3)]) C dX8_lays_12 (by decide) rfl ?_
  refine ww_iload (pc := 14) C dX8_lays_14 0 rfl ?_
  refine ww_if_ge (pc := 16) (tgt := 22) C dX8_lays_16 (by decide) (fun hc => ?_) (fun hc => ?_)
  · have hf := ifT hc hf
    refine ww_aload_n (pc := 22) C dX8_lays_22 rfl 1 rfl ?_
    obtain ⟨v2, v3, v4, h2, hf⟩ := bd3_some hf
    refine ww_callVv (pc := 23) (ws' := [oX8 q_this q_now q_text c_typed q_row c_rowMany (0 : Int32) c_length c_at c_wrong q_read q_outerCell q_outerDoor c_outerMany q_walked c_walkedMany c_cameOut q_onWalks q_far q_aside q_wasFull q_undos q_was v2 c_drawn q_kept q_isKept, aI k q_now 189 c_now, aI k q_undos 1512 v3, aI k q_was 189 v4]) (As := []) (rest := []) C (tX8_change l D k q_this q_now q_text q_row q_read q_outerCell q_outerDoor q_walked q_onWalks q_far q_aside q_wasFull q_undos q_was q_kept q_isKept c_typed c_rowMany (0 : Int32) c_length c_at c_wrong c_outerMany c_walkedMany c_cameOut c_undoMany c_drawn c_now c_undos c_was v2 v3 v4 h2) cv_X8_162 ⟨⟨by decide, by decide⟩, rfl, rfl⟩ 0 rfl rfl [0, 1, 2, 3] rfl rfl rfl rfl rfl rfl (Nat.le_of_ble_eq_true rfl) ⟨Nat.zero_le _, Nat.zero_le _⟩ dX8_lays_23 ?_
    refine ww_aload_n (pc := 26) C dX8_lays_26 rfl 1 rfl ?_
    refine ww_aload_n (pc := 27) C dX8_lays_27 rfl 1 rfl ?_
    refine ww_iload_n (pc := 28) C dX8_lays_28 rfl 2 rfl ?_
    refine ww_iload_n (pc := 29) C dX8_lays_29 rfl 3 rfl ?_
    obtain ⟨v5, h5, hf⟩ := bsome hf
    refine ww_callVi0 (pc := 30) (As := [.int x1, .int x2]) (rest := [.ref q_this]) C (tX8_place l D k q_this q_now q_text q_row q_read q_outerCell q_outerDoor q_walked q_onWalks q_far q_aside q_wasFull q_undos q_was q_kept q_isKept c_typed c_rowMany (0 : Int32) c_length c_at c_wrong c_outerMany c_walkedMany c_cameOut v2 c_drawn c_now x1 x2 v5 h5) cv_X8_80 ⟨⟨by decide, by decide⟩, rfl, rfl⟩ 0 rfl rfl [0, 1] rfl rfl rfl rfl (Nat.le_of_ble_eq_true rfl) ⟨Nat.zero_le _, Nat.zero_le _⟩ dX8_lays_30 (fun hb5 => ?_)
    obtain ⟨v6, h6, hf⟩ := bsome hf
    refine ww_callVi0 (pc := 33) (As := [.int v5]) (rest := []) C (tX8_labelAt l D k q_this q_now q_text q_row q_read q_outerCell q_outerDoor q_walked q_onWalks q_far q_aside q_wasFull q_undos q_was q_kept q_isKept c_typed c_rowMany (0 : Int32) c_length c_at c_wrong c_outerMany c_walkedMany c_cameOut v2 c_drawn c_now v5 v6 h6) cv_X8_188 ⟨⟨by decide, by decide⟩, rfl, rfl⟩ 0 rfl rfl [0, 1] rfl rfl rfl rfl (Nat.le_of_ble_eq_true rfl) ⟨Nat.zero_le _, Nat.zero_le _⟩ dX8_lays_33 (fun hb6 => ?_)
    refine ww_istore (pc := 36) (lv' := [(5, .int v6), (4, .int v1), (0, .ref q_this), (1, .int x1), (2, .int x2), (3, .int x3)]) C dX8_lays_36 (by decide) rfl ?_
    refine ww_aload_n (pc := 38) C dX8_lays_38 rfl 2 rfl ?_
    refine ww_iload_n (pc := 39) C dX8_lays_39 rfl 3 rfl ?_
    refine ww_iload_n (pc := 40) C dX8_lays_40 rfl 4 rfl ?_
    refine ww_iload_n (pc := 41) C dX8_lays_41 rfl 5 rfl ?_
    obtain ⟨v7, h7, hf⟩ := bsome hf
    refine ww_callVv (pc := 42) (ws' := [oX8 q_this q_now q_text c_typed q_row c_rowMany (0 : Int32) c_length c_at c_wrong q_read q_outerCell q_outerDoor c_outerMany q_walked c_walkedMany c_cameOut q_onWalks q_far q_aside q_wasFull q_undos q_was v2 c_drawn q_kept q_isKept, aI k q_now 189 v7, aI k q_undos 1512 v3, aI k q_was 189 v4]) (As := [.int x1, .int x2, .int x3]) (rest := []) C (tX8_goLay l D k q_this q_now q_text q_row q_read q_outerCell q_outerDoor q_walked q_onWalks q_far q_aside q_wasFull q_undos q_was q_kept q_isKept c_typed c_rowMany (0 : Int32) c_length c_at c_wrong c_outerMany c_walkedMany c_cameOut v2 c_drawn c_now x1 x2 x3 v7 h7) cv_X8_318 ⟨⟨by decide, by decide⟩, rfl, rfl⟩ 0 rfl rfl [0, 1] rfl rfl rfl rfl rfl rfl (Nat.le_of_ble_eq_true rfl) ⟨Nat.zero_le _, Nat.zero_le _⟩ dX8_lays_42 ?_
    refine ww_iload (pc := 45) C dX8_lays_45 0 rfl ?_
    obtain ⟨e0, e1, e2, e3, e4, e5⟩ := ij6 hf
    exact hret _ _ 47 _ dX8_lays_47 rfl e0 (by rw [← e1, ← e2, ← e3, ← e4, ← e5])
  · have hf := ifF hc hf
    refine ww_iload (pc := 19) C dX8_lays_19 0 rfl ?_
    obtain ⟨e0, e1, e2, e3, e4, e5⟩ := ij6 hf
    exact hret _ _ 21 _ dX8_lays_21 rfl e0 (by rw [← e1, ← e2, ← e3, ← e4, ← e5])
def fX8_refusesGrid (c_now : Nat → Int32) (x1 : Int32) : Option Int32 := (fX8_in x1 (1 : Int32) (16 : Int32)).bind fun v1 => if v1 = 0 then some ((-1 : Int32)) else (fX8_n c_now).bind fun v2 => if x1 = v2 then some ((-2 : Int32)) else (ald 189 (1 : Int32) c_now).bind fun v3 => if v3 = 0 then some ((-3 : Int32)) else some ((0 : Int32))
set_option maxHeartbeats 4000000 in
set_option maxRecDepth 100000 in
theorem tX8_refusesGrid (l : Launch) (D : va_G) (k : Nat → ClassId) (q_this q_now q_text q_row q_read q_outerCell q_outerDoor q_walked q_onWalks q_far q_aside q_wasFull q_undos q_was q_kept q_isKept : Nat) (c_typed : Int32) (c_rowMany : Int32) (c_thrown : Int32) (c_length : Int32) (c_at : Int32) (c_wrong : Int32) (c_outerMany : Int32) (c_walkedMany : Int32) (c_cameOut : Int32) (c_undoMany : Int32) (c_drawn : Int32) (c_now : Nat → Int32) (x1 : Int32) (r_ : Int32) (hf : fX8_refusesGrid c_now x1 = some (r_)) : MI l yX8_refusesGrid cX8_refusesGrid 2 .int (RM 1 22) D k [.ref q_this, .int x1] [oX8 q_this q_now q_text c_typed q_row c_rowMany c_thrown c_length c_at c_wrong q_read q_outerCell q_outerDoor c_outerMany q_walked c_walkedMany c_cameOut q_onWalks q_far q_aside q_wasFull q_undos q_was c_undoMany c_drawn q_kept q_isKept, aI k q_now 189 c_now] r_ [oX8 q_this q_now q_text c_typed q_row c_rowMany c_thrown c_length c_at c_wrong q_read q_outerCell q_outerDoor c_outerMany q_walked c_walkedMany c_cameOut q_onWalks q_far q_aside q_wasFull q_undos q_was c_undoMany c_drawn q_kept q_isKept, aI k q_now 189 c_now] := by
  refine mkMI' (own := "DoorWalkModel") (by decide) rfl (Nat.le_of_ble_eq_true rfl) ?_
  intro p e s m args below meth c Q A hret C
  refine ww_lv (lv' := [(0, .ref q_this), (1, .int x1)]) [0, 1] rfl ?_
  unfold fX8_refusesGrid at hf
  refine ww_iload_n (pc := 0) C dX8_refusesGrid_0 rfl 1 rfl ?_
  refine ww_iconst (pc := 1) C dX8_refusesGrid_1 kI_1 ?_
  refine ww_bipush (pc := 2) C dX8_refusesGrid_2 kB_16 ?_
  obtain ⟨v1, h1, hf⟩ := bsome hf
  refine ww_callSi0 (pc := 4) (As := [.int x1, .int (1 : Int32), .int (16 : Int32)]) (rest := []) C (tX8_in l D k x1 (1 : Int32) (16 : Int32) v1 h1) cs_X8_72 ⟨⟨by decide, by decide⟩, rfl, rfl⟩ [] rfl rfl rfl rfl (Nat.le_of_ble_eq_true rfl) ⟨Nat.zero_le _, Nat.zero_le _⟩ dX8_refusesGrid_4 (fun hb1 => ?_)
  refine ww_if_ne (pc := 7) (tgt := 14) C dX8_refusesGrid_7 (by decide) (fun hc => ?_) (fun hc => ?_)
  · have hf := ifF hc hf
    refine ww_iload_n (pc := 14) C dX8_refusesGrid_14 rfl 1 rfl ?_
    refine ww_aload_n (pc := 15) C dX8_refusesGrid_15 rfl 0 rfl ?_
    obtain ⟨v2, h2, hf⟩ := bsome hf
    refine ww_callVi0 (pc := 16) (As := []) (rest := [.int x1]) C (tX8_n l D k q_this q_now q_text q_row q_read q_outerCell q_outerDoor q_walked q_onWalks q_far q_aside q_wasFull q_undos q_was q_kept q_isKept c_typed c_rowMany c_thrown c_length c_at c_wrong c_outerMany c_walkedMany c_cameOut c_undoMany c_drawn c_now v2 h2) cv_X8_68 ⟨⟨by decide, by decide⟩, rfl, rfl⟩ 0 rfl rfl [0, 1] rfl rfl rfl rfl (Nat.le_of_ble_eq_true rfl) ⟨Nat.zero_le _, Nat.zero_le _⟩ dX8_refusesGrid_16 (fun hb2 => ?_)
    refine ww_icmp_ne (pc := 19) (tgt := 27) C dX8_refusesGrid_19 (by decide) (fun hc => ?_) (fun hc => ?_)
    · have hf := ifF hc hf
      refine ww_aload_n (pc := 27) C dX8_refusesGrid_27 rfl 0 rfl ?_
      refine gf8_0 (pc := 28) C kf_X8_9 0 rfl rfl dX8_refusesGrid_28 ?_
      refine ww_iconst (pc := 31) C dX8_refusesGrid_31 kI_1 ?_
      obtain ⟨v3, h3, hf⟩ := bsome hf
      refine ww_iald (pc := 32) C 1 rfl h3 dX8_refusesGrid_32 ?_
      refine ww_if_ne (pc := 33) (tgt := 41) C dX8_refusesGrid_33 (by decide) (fun hc => ?_) (fun hc => ?_)
      · have hf := ifF hc hf
        refine ww_iconst (pc := 41) C dX8_refusesGrid_41 kI_0 ?_
        obtain e0 := ij1 hf
        exact hret _ _ 42 _ dX8_refusesGrid_42 rfl e0 rfl
      · have hf := ifT hc hf
        refine ww_bipush (pc := 36) C dX8_refusesGrid_36 kB_m3 ?_
        refine ww_goto (pc := 38) (tgt := 42) C dX8_refusesGrid_38 (by decide) ?_
        obtain e0 := ij1 hf
        exact hret _ _ 42 _ dX8_refusesGrid_42 rfl e0 rfl
    · have hf := ifT hc hf
      refine ww_bipush (pc := 22) C dX8_refusesGrid_22 kB_m2 ?_
      refine ww_goto (pc := 24) (tgt := 42) C dX8_refusesGrid_24 (by decide) ?_
      obtain e0 := ij1 hf
      exact hret _ _ 42 _ dX8_refusesGrid_42 rfl e0 rfl
  · have hf := ifT hc hf
    refine ww_iconst (pc := 10) C dX8_refusesGrid_10 kI_m1 ?_
    refine ww_goto (pc := 11) (tgt := 42) C dX8_refusesGrid_11 (by decide) ?_
    obtain e0 := ij1 hf
    exact hret _ _ 42 _ dX8_refusesGrid_42 rfl e0 rfl
def fX8_grid (c_thrown : Int32) (c_undoMany : Int32) (c_now : Nat → Int32) (c_undos : Nat → Int32) (c_was : Nat → Int32) (x1 : Int32) : Option (Int32 × Int32 × Int32 × (Nat → Int32) × (Nat → Int32) × (Nat → Int32)) := (fX8_refusesGrid c_now x1).bind fun v1 => if 0 ≤ v1 then bd3 (fX8_change c_now c_undoMany c_undos c_was) fun v2 v3 v4 => (fX8_goGrid c_now x1).bind fun v5 => (fX8_fullMany v5).bind fun v6 => some (v6, (0 : Int32), v2, v5, v3, v4) else some (v1, (0 : Int32), c_undoMany, c_now, c_undos, c_was)
set_option maxHeartbeats 4000000 in
set_option maxRecDepth 100000 in
theorem tX8_grid (l : Launch) (D : va_G) (k : Nat → ClassId) (q_this q_now q_text q_row q_read q_outerCell q_outerDoor q_walked q_onWalks q_far q_aside q_wasFull q_undos q_was q_kept q_isKept : Nat) (c_typed : Int32) (c_rowMany : Int32) (c_thrown : Int32) (c_length : Int32) (c_at : Int32) (c_wrong : Int32) (c_outerMany : Int32) (c_walkedMany : Int32) (c_cameOut : Int32) (c_undoMany : Int32) (c_drawn : Int32) (c_now : Nat → Int32) (c_undos : Nat → Int32) (c_was : Nat → Int32) (x1 : Int32) (r_ : Int32) (w_thrown : Int32) (w_undoMany : Int32) (w_now : Nat → Int32) (w_undos : Nat → Int32) (w_was : Nat → Int32) (hf : fX8_grid c_thrown c_undoMany c_now c_undos c_was x1 = some (r_, w_thrown, w_undoMany, w_now, w_undos, w_was)) : MI l yX8_grid cX8_grid 3 .int (RM 7 163) D k [.ref q_this, .int x1] [oX8 q_this q_now q_text c_typed q_row c_rowMany c_thrown c_length c_at c_wrong q_read q_outerCell q_outerDoor c_outerMany q_walked c_walkedMany c_cameOut q_onWalks q_far q_aside q_wasFull q_undos q_was c_undoMany c_drawn q_kept q_isKept, aI k q_now 189 c_now, aI k q_undos 1512 c_undos, aI k q_was 189 c_was] r_ [oX8 q_this q_now q_text c_typed q_row c_rowMany w_thrown c_length c_at c_wrong q_read q_outerCell q_outerDoor c_outerMany q_walked c_walkedMany c_cameOut q_onWalks q_far q_aside q_wasFull q_undos q_was w_undoMany c_drawn q_kept q_isKept, aI k q_now 189 w_now, aI k q_undos 1512 w_undos, aI k q_was 189 w_was] := by
  refine mkMI' (own := "DoorWalkModel") (by decide) rfl (Nat.le_of_ble_eq_true rfl) ?_
  intro p e s m args below meth c Q A hret C
  refine ww_lv (lv' := [(0, .ref q_this), (1, .int x1)]) [0, 1] rfl ?_
  unfold fX8_grid at hf
  refine ww_aload_n (pc := 0) C dX8_grid_0 rfl 0 rfl ?_
  refine ww_iconst (pc := 1) C dX8_grid_1 kI_0 ?_
  refine pf8_5 (pc := 2) (ws' := [oX8 q_this q_now q_text c_typed q_row c_rowMany (0 : Int32) c_length c_at c_wrong q_read q_outerCell q_outerDoor c_outerMany q_walked c_walkedMany c_cameOut q_onWalks q_far q_aside q_wasFull q_undos q_was c_undoMany c_drawn q_kept q_isKept, aI k q_now 189 c_now, aI k q_undos 1512 c_undos, aI k q_was 189 c_was]) C kf_X8_61 0 rfl (Nat.le_of_ble_eq_true rfl) rfl dX8_grid_2 ?_
  refine ww_aload_n (pc := 5) C dX8_grid_5 rfl 0 rfl ?_
  refine ww_iload_n (pc := 6) C dX8_grid_6 rfl 1 rfl ?_
  obtain ⟨v1, h1, hf⟩ := bsome hf
  refine ww_callVi0 (pc := 7) (As := [.int x1]) (rest := []) C (tX8_refusesGrid l D k q_this q_now q_text q_row q_read q_outerCell q_outerDoor q_walked q_onWalks q_far q_aside q_wasFull q_undos q_was q_kept q_isKept c_typed c_rowMany (0 : Int32) c_length c_at c_wrong c_outerMany c_walkedMany c_cameOut c_undoMany c_drawn c_now x1 v1 h1) cv_X8_321 ⟨⟨by decide, by decide⟩, rfl, rfl⟩ 0 rfl rfl [0, 1] rfl rfl rfl rfl (Nat.le_of_ble_eq_true rfl) ⟨Nat.zero_le _, Nat.zero_le _⟩ dX8_grid_7 (fun hb1 => ?_)
  refine ww_istore_n (pc := 10) (lv' := [(2, .int v1), (0, .ref q_this), (1, .int x1)]) C dX8_grid_10 rfl (by decide) rfl ?_
  refine ww_iload_n (pc := 11) C dX8_grid_11 rfl 0 rfl ?_
  refine ww_if_ge (pc := 12) (tgt := 17) C dX8_grid_12 (by decide) (fun hc => ?_) (fun hc => ?_)
  · have hf := ifT hc hf
    refine ww_aload_n (pc := 17) C dX8_grid_17 rfl 1 rfl ?_
    obtain ⟨v2, v3, v4, h2, hf⟩ := bd3_some hf
    refine ww_callVv (pc := 18) (ws' := [oX8 q_this q_now q_text c_typed q_row c_rowMany (0 : Int32) c_length c_at c_wrong q_read q_outerCell q_outerDoor c_outerMany q_walked c_walkedMany c_cameOut q_onWalks q_far q_aside q_wasFull q_undos q_was v2 c_drawn q_kept q_isKept, aI k q_now 189 c_now, aI k q_undos 1512 v3, aI k q_was 189 v4]) (As := []) (rest := []) C (tX8_change l D k q_this q_now q_text q_row q_read q_outerCell q_outerDoor q_walked q_onWalks q_far q_aside q_wasFull q_undos q_was q_kept q_isKept c_typed c_rowMany (0 : Int32) c_length c_at c_wrong c_outerMany c_walkedMany c_cameOut c_undoMany c_drawn c_now c_undos c_was v2 v3 v4 h2) cv_X8_162 ⟨⟨by decide, by decide⟩, rfl, rfl⟩ 0 rfl rfl [0, 1, 2, 3] rfl rfl rfl rfl rfl rfl (Nat.le_of_ble_eq_true rfl) ⟨Nat.zero_le _, Nat.zero_le _⟩ dX8_grid_18 ?_
    refine ww_aload_n (pc := 21) C dX8_grid_21 rfl 1 rfl ?_
    refine ww_iload_n (pc := 22) C dX8_grid_22 rfl 2 rfl ?_
    obtain ⟨v5, h5, hf⟩ := bsome hf
    refine ww_callVv (pc := 23) (ws' := [oX8 q_this q_now q_text c_typed q_row c_rowMany (0 : Int32) c_length c_at c_wrong q_read q_outerCell q_outerDoor c_outerMany q_walked c_walkedMany c_cameOut q_onWalks q_far q_aside q_wasFull q_undos q_was v2 c_drawn q_kept q_isKept, aI k q_now 189 v5, aI k q_undos 1512 v3, aI k q_was 189 v4]) (As := [.int x1]) (rest := []) C (tX8_goGrid l D k q_this q_now q_text q_row q_read q_outerCell q_outerDoor q_walked q_onWalks q_far q_aside q_wasFull q_undos q_was q_kept q_isKept c_typed c_rowMany (0 : Int32) c_length c_at c_wrong c_outerMany c_walkedMany c_cameOut v2 c_drawn c_now x1 v5 h5) cv_X8_284 ⟨⟨by decide, by decide⟩, rfl, rfl⟩ 0 rfl rfl [0, 1] rfl rfl rfl rfl rfl rfl (Nat.le_of_ble_eq_true rfl) ⟨Nat.zero_le _, Nat.zero_le _⟩ dX8_grid_23 ?_
    refine ww_aload_n (pc := 26) C dX8_grid_26 rfl 1 rfl ?_
    obtain ⟨v6, h6, hf⟩ := bsome hf
    refine ww_callVi0 (pc := 27) (As := []) (rest := []) C (tX8_fullMany l D k q_this q_now q_text q_row q_read q_outerCell q_outerDoor q_walked q_onWalks q_far q_aside q_wasFull q_undos q_was q_kept q_isKept c_typed c_rowMany (0 : Int32) c_length c_at c_wrong c_outerMany c_walkedMany c_cameOut v2 c_drawn v5 v6 h6) cv_X8_226 ⟨⟨by decide, by decide⟩, rfl, rfl⟩ 0 rfl rfl [0, 1] rfl rfl rfl rfl (Nat.le_of_ble_eq_true rfl) ⟨Nat.zero_le _, Nat.zero_le _⟩ dX8_grid_27 (fun hb6 => ?_)
    obtain ⟨e0, e1, e2, e3, e4, e5⟩ := ij6 hf
    exact hret _ _ 30 _ dX8_grid_30 rfl e0 (by rw [← e1, ← e2, ← e3, ← e4, ← e5])
  · have hf := ifF hc hf
    refine ww_iload_n (pc := 15) C dX8_grid_15 rfl 0 rfl ?_
    obtain ⟨e0, e1, e2, e3, e4, e5⟩ := ij6 hf
    exact hret _ _ 16 _ dX8_grid_16 rfl e0 (by rw [← e1, ← e2, ← e3, ← e4, ← e5])
def fX8_refusesSwap_b32 (c_now : Nat → Int32) (n1 : Int32) (n2 : Int32) (n3 : Int32) (n4 : Int32) : Option Int32 := (fX8_place c_now n1 n2).bind fun v1 => (fX8_labelAt c_now v1).bind fun v2 => (fX8_place c_now n3 n4).bind fun v3 => (fX8_labelAt c_now v3).bind fun v4 => if v2 = v4 then some ((-2 : Int32)) else (fX8_canHave c_now n1 n2 v4).bind fun v5 => if v5 = 0 then some ((-4 : Int32)) else (fX8_canHave c_now n3 n4 v2).bind fun v6 => if v6 = 0 then some ((-4 : Int32)) else some ((0 : Int32))
def fX8_refusesSwap (c_now : Nat → Int32) (x1 : Int32) (x2 : Int32) (x3 : Int32) (x4 : Int32) : Option Int32 := (fX8_isPoint c_now x1 x2).bind fun v1 => if v1 = 0 then some ((-1 : Int32)) else (fX8_isPoint c_now x3 x4).bind fun v2 => if v2 = 0 then some ((-1 : Int32)) else if x1 = x3 then if x2 = x4 then some ((-1 : Int32)) else fX8_refusesSwap_b32 c_now x1 x2 x3 x4 else fX8_refusesSwap_b32 c_now x1 x2 x3 x4
set_option maxHeartbeats 4000000 in
set_option maxRecDepth 100000 in
theorem tX8_refusesSwap (l : Launch) (D : va_G) (k : Nat → ClassId) (q_this q_now q_text q_row q_read q_outerCell q_outerDoor q_walked q_onWalks q_far q_aside q_wasFull q_undos q_was q_kept q_isKept : Nat) (c_typed : Int32) (c_rowMany : Int32) (c_thrown : Int32) (c_length : Int32) (c_at : Int32) (c_wrong : Int32) (c_outerMany : Int32) (c_walkedMany : Int32) (c_cameOut : Int32) (c_undoMany : Int32) (c_drawn : Int32) (c_now : Nat → Int32) (x1 : Int32) (x2 : Int32) (x3 : Int32) (x4 : Int32) (r_ : Int32) (hf : fX8_refusesSwap c_now x1 x2 x3 x4 = some (r_)) : MI l yX8_refusesSwap cX8_refusesSwap 7 .int (RM 3 66) D k [.ref q_this, .int x1, .int x2, .int x3, .int x4] [oX8 q_this q_now q_text c_typed q_row c_rowMany c_thrown c_length c_at c_wrong q_read q_outerCell q_outerDoor c_outerMany q_walked c_walkedMany c_cameOut q_onWalks q_far q_aside q_wasFull q_undos q_was c_undoMany c_drawn q_kept q_isKept, aI k q_now 189 c_now] r_ [oX8 q_this q_now q_text c_typed q_row c_rowMany c_thrown c_length c_at c_wrong q_read q_outerCell q_outerDoor c_outerMany q_walked c_walkedMany c_cameOut q_onWalks q_far q_aside q_wasFull q_undos q_was c_undoMany c_drawn q_kept q_isKept, aI k q_now 189 c_now] := by
  refine mkMI' (own := "DoorWalkModel") (by decide) rfl (Nat.le_of_ble_eq_true rfl) ?_
  intro p e s m args below meth c Q A hret C
  refine ww_lv (lv' := [(0, .ref q_this), (1, .int x1), (2, .int x2), (3, .int x3), (4, .int x4)]) [0, 1, 2, 3, 4] rfl ?_
  have hJ32 : ∀ (n1 : Int32) (n2 : Int32) (n3 : Int32) (n4 : Int32), fX8_refusesSwap_b32 c_now n1 n2 n3 n4 = some (r_) → WW p l e (RM 3 66) s m args below meth c Q 7 D A 0 0 [oX8 q_this q_now q_text c_typed q_row c_rowMany c_thrown c_length c_at c_wrong q_read q_outerCell q_outerDoor c_outerMany q_walked c_walkedMany c_cameOut q_onWalks q_far q_aside q_wasFull q_undos q_was c_undoMany c_drawn q_kept q_isKept, aI k q_now 189 c_now] [(0, .ref q_this), (1, .int n1), (2, .int n2), (3, .int n3), (4, .int n4)] 32 [] := by
    intro n1 n2 n3 n4
    intro hf
    unfold fX8_refusesSwap_b32 at hf
    refine ww_aload_n (pc := 32) C dX8_refusesSwap_32 rfl 0 rfl ?_
    refine ww_aload_n (pc := 33) C dX8_refusesSwap_33 rfl 0 rfl ?_
    refine ww_iload_n (pc := 34) C dX8_refusesSwap_34 rfl 1 rfl ?_
    refine ww_iload_n (pc := 35) C dX8_refusesSwap_35 rfl 2 rfl ?_
    obtain ⟨v1, h1, hf⟩ := bsome hf
    refine ww_callVi0 (pc := 36) (As := [.int n1, .int n2]) (rest := [.ref q_this]) C (tX8_place l D k q_this q_now q_text q_row q_read q_outerCell q_outerDoor q_walked q_onWalks q_far q_aside q_wasFull q_undos q_was q_kept q_isKept c_typed c_rowMany c_thrown c_length c_at c_wrong c_outerMany c_walkedMany c_cameOut c_undoMany c_drawn c_now n1 n2 v1 h1) cv_X8_80 ⟨⟨by decide, by decide⟩, rfl, rfl⟩ 0 rfl rfl [0, 1] rfl rfl rfl rfl (Nat.le_of_ble_eq_true rfl) ⟨Nat.zero_le _, Nat.zero_le _⟩ dX8_refusesSwap_36 (fun hb1 => ?_)
    obtain ⟨v2, h2, hf⟩ := bsome hf
    refine ww_callVi0 (pc := 39) (As := [.int v1]) (rest := []) C (tX8_labelAt l D k q_this q_now q_text q_row q_read q_outerCell q_outerDoor q_walked q_onWalks q_far q_aside q_wasFull q_undos q_was q_kept q_isKept c_typed c_rowMany c_thrown c_length c_at c_wrong c_outerMany c_walkedMany c_cameOut c_undoMany c_drawn c_now v1 v2 h2) cv_X8_188 ⟨⟨by decide, by decide⟩, rfl, rfl⟩ 0 rfl rfl [0, 1] rfl rfl rfl rfl (Nat.le_of_ble_eq_true rfl) ⟨Nat.zero_le _, Nat.zero_le _⟩ dX8_refusesSwap_39 (fun hb2 => ?_)
    refine ww_istore (pc := 42) (lv' := [(5, .int v2), (0, .ref q_this), (1, .int n1), (2, .int n2), (3, .int n3), (4, .int n4)]) C dX8_refusesSwap_42 (by decide) rfl ?_
    refine ww_aload_n (pc := 44) C dX8_refusesSwap_44 rfl 1 rfl ?_
    refine ww_aload_n (pc := 45) C dX8_refusesSwap_45 rfl 1 rfl ?_
    refine ww_iload_n (pc := 46) C dX8_refusesSwap_46 rfl 4 rfl ?_
    refine ww_iload (pc := 47) C dX8_refusesSwap_47 5 rfl ?_
    obtain ⟨v3, h3, hf⟩ := bsome hf
    refine ww_callVi0 (pc := 49) (As := [.int n3, .int n4]) (rest := [.ref q_this]) C (tX8_place l D k q_this q_now q_text q_row q_read q_outerCell q_outerDoor q_walked q_onWalks q_far q_aside q_wasFull q_undos q_was q_kept q_isKept c_typed c_rowMany c_thrown c_length c_at c_wrong c_outerMany c_walkedMany c_cameOut c_undoMany c_drawn c_now n3 n4 v3 h3) cv_X8_80 ⟨⟨by decide, by decide⟩, rfl, rfl⟩ 0 rfl rfl [0, 1] rfl rfl rfl rfl (Nat.le_of_ble_eq_true rfl) ⟨Nat.zero_le _, Nat.zero_le _⟩ dX8_refusesSwap_49 (fun hb3 => ?_)
    obtain ⟨v4, h4, hf⟩ := bsome hf
    refine ww_callVi0 (pc := 52) (As := [.int v3]) (rest := []) C (tX8_labelAt l D k q_this q_now q_text q_row q_read q_outerCell q_outerDoor q_walked q_onWalks q_far q_aside q_wasFull q_undos q_was q_kept q_isKept c_typed c_rowMany c_thrown c_length c_at c_wrong c_outerMany c_walkedMany c_cameOut c_undoMany c_drawn c_now v3 v4 h4) cv_X8_188 ⟨⟨by decide, by decide⟩, rfl, rfl⟩ 0 rfl rfl [0, 1] rfl rfl rfl rfl (Nat.le_of_ble_eq_true rfl) ⟨Nat.zero_le _, Nat.zero_le _⟩ dX8_refusesSwap_52 (fun hb4 => ?_)
    refine ww_istore (pc := 55) (lv' := [(6, .int v4), (5, .int v2), (0, .ref q_this), (1, .int n1), (2, .int n2), (3, .int n3), (4, .int n4)]) C dX8_refusesSwap_55 (by decide) rfl ?_
    refine ww_iload (pc := 57) C dX8_refusesSwap_57 1 rfl ?_
    refine ww_iload (pc := 59) C dX8_refusesSwap_59 0 rfl ?_
    refine ww_icmp_ne (pc := 61) (tgt := 69) C dX8_refusesSwap_61 (by decide) (fun hc => ?_) (fun hc => ?_)
    · have hf := ifF hc hf
      refine ww_aload_n (pc := 69) C dX8_refusesSwap_69 rfl 2 rfl ?_
      refine ww_iload_n (pc := 70) C dX8_refusesSwap_70 rfl 3 rfl ?_
      refine ww_iload_n (pc := 71) C dX8_refusesSwap_71 rfl 4 rfl ?_
      refine ww_iload (pc := 72) C dX8_refusesSwap_72 0 rfl ?_
      obtain ⟨v5, h5, hf⟩ := bsome hf
      refine ww_callVi0 (pc := 74) (As := [.int n1, .int n2, .int v4]) (rest := []) C (tX8_canHave l D k q_this q_now q_text q_row q_read q_outerCell q_outerDoor q_walked q_onWalks q_far q_aside q_wasFull q_undos q_was q_kept q_isKept c_typed c_rowMany c_thrown c_length c_at c_wrong c_outerMany c_walkedMany c_cameOut c_undoMany c_drawn c_now n1 n2 v4 v5 h5) cv_X8_111 ⟨⟨by decide, by decide⟩, rfl, rfl⟩ 0 rfl rfl [0, 1] rfl rfl rfl rfl (Nat.le_of_ble_eq_true rfl) ⟨Nat.zero_le _, Nat.zero_le _⟩ dX8_refusesSwap_74 (fun hb5 => ?_)
      refine ww_if_eq (pc := 77) (tgt := 96) C dX8_refusesSwap_77 (by decide) (fun hc => ?_) (fun hc => ?_)
      · have hf := ifT hc hf
        refine ww_bipush (pc := 96) C dX8_refusesSwap_96 kB_m4 ?_
        obtain e0 := ij1 hf
        exact hret _ _ 98 _ dX8_refusesSwap_98 rfl e0 rfl
      · have hf := ifF hc hf
        refine ww_aload_n (pc := 80) C dX8_refusesSwap_80 rfl 2 rfl ?_
        refine ww_iload_n (pc := 81) C dX8_refusesSwap_81 rfl 5 rfl ?_
        refine ww_iload (pc := 82) C dX8_refusesSwap_82 6 rfl ?_
        refine ww_iload (pc := 84) C dX8_refusesSwap_84 1 rfl ?_
        obtain ⟨v6, h6, hf⟩ := bsome hf
        refine ww_callVi0 (pc := 86) (As := [.int n3, .int n4, .int v2]) (rest := []) C (tX8_canHave l D k q_this q_now q_text q_row q_read q_outerCell q_outerDoor q_walked q_onWalks q_far q_aside q_wasFull q_undos q_was q_kept q_isKept c_typed c_rowMany c_thrown c_length c_at c_wrong c_outerMany c_walkedMany c_cameOut c_undoMany c_drawn c_now n3 n4 v2 v6 h6) cv_X8_111 ⟨⟨by decide, by decide⟩, rfl, rfl⟩ 0 rfl rfl [0, 1] rfl rfl rfl rfl (Nat.le_of_ble_eq_true rfl) ⟨Nat.zero_le _, Nat.zero_le _⟩ dX8_refusesSwap_86 (fun hb6 => ?_)
        refine ww_if_eq (pc := 89) (tgt := 96) C dX8_refusesSwap_89 (by decide) (fun hc => ?_) (fun hc => ?_)
        · have hf := ifT hc hf
          refine ww_bipush (pc := 96) C dX8_refusesSwap_96 kB_m4 ?_
          obtain e0 := ij1 hf
          exact hret _ _ 98 _ dX8_refusesSwap_98 rfl e0 rfl
        · have hf := ifF hc hf
          refine ww_iconst (pc := 92) C dX8_refusesSwap_92 kI_0 ?_
          refine ww_goto (pc := 93) (tgt := 98) C dX8_refusesSwap_93 (by decide) ?_
          obtain e0 := ij1 hf
          exact hret _ _ 98 _ dX8_refusesSwap_98 rfl e0 rfl
    · have hf := ifT hc hf
      refine ww_bipush (pc := 64) C dX8_refusesSwap_64 kB_m2 ?_
      refine ww_goto (pc := 66) (tgt := 98) C dX8_refusesSwap_66 (by decide) ?_
      obtain e0 := ij1 hf
      exact hret _ _ 98 _ dX8_refusesSwap_98 rfl e0 rfl
  unfold fX8_refusesSwap at hf
  refine ww_aload_n (pc := 0) C dX8_refusesSwap_0 rfl 0 rfl ?_
  refine ww_iload_n (pc := 1) C dX8_refusesSwap_1 rfl 1 rfl ?_
  refine ww_iload_n (pc := 2) C dX8_refusesSwap_2 rfl 2 rfl ?_
  obtain ⟨v1, h1, hf⟩ := bsome hf
  refine ww_callVi0 (pc := 3) (As := [.int x1, .int x2]) (rest := []) C (tX8_isPoint l D k q_this q_now q_text q_row q_read q_outerCell q_outerDoor q_walked q_onWalks q_far q_aside q_wasFull q_undos q_was q_kept q_isKept c_typed c_rowMany c_thrown c_length c_at c_wrong c_outerMany c_walkedMany c_cameOut c_undoMany c_drawn c_now x1 x2 v1 h1) cv_X8_219 ⟨⟨by decide, by decide⟩, rfl, rfl⟩ 0 rfl rfl [0, 1] rfl rfl rfl rfl (Nat.le_of_ble_eq_true rfl) ⟨Nat.zero_le _, Nat.zero_le _⟩ dX8_refusesSwap_3 (fun hb1 => ?_)
  refine ww_if_eq (pc := 6) (tgt := 30) C dX8_refusesSwap_6 (by decide) (fun hc => ?_) (fun hc => ?_)
  · have hf := ifT hc hf
    refine ww_iconst (pc := 30) C dX8_refusesSwap_30 kI_m1 ?_
    obtain e0 := ij1 hf
    exact hret _ _ 31 _ dX8_refusesSwap_31 rfl e0 rfl
  · have hf := ifF hc hf
    refine ww_aload_n (pc := 9) C dX8_refusesSwap_9 rfl 0 rfl ?_
    refine ww_iload_n (pc := 10) C dX8_refusesSwap_10 rfl 3 rfl ?_
    refine ww_iload (pc := 11) C dX8_refusesSwap_11 4 rfl ?_
    obtain ⟨v2, h2, hf⟩ := bsome hf
    refine ww_callVi0 (pc := 13) (As := [.int x3, .int x4]) (rest := []) C (tX8_isPoint l D k q_this q_now q_text q_row q_read q_outerCell q_outerDoor q_walked q_onWalks q_far q_aside q_wasFull q_undos q_was q_kept q_isKept c_typed c_rowMany c_thrown c_length c_at c_wrong c_outerMany c_walkedMany c_cameOut c_undoMany c_drawn c_now x3 x4 v2 h2) cv_X8_219 ⟨⟨by decide, by decide⟩, rfl, rfl⟩ 0 rfl rfl [0, 1] rfl rfl rfl rfl (Nat.le_of_ble_eq_true rfl) ⟨Nat.zero_le _, Nat.zero_le _⟩ dX8_refusesSwap_13 (fun hb2 => ?_)
    refine ww_if_eq (pc := 16) (tgt := 30) C dX8_refusesSwap_16 (by decide) (fun hc => ?_) (fun hc => ?_)
    · have hf := ifT hc hf
      refine ww_iconst (pc := 30) C dX8_refusesSwap_30 kI_m1 ?_
      obtain e0 := ij1 hf
      exact hret _ _ 31 _ dX8_refusesSwap_31 rfl e0 rfl
    · have hf := ifF hc hf
      refine ww_iload_n (pc := 19) C dX8_refusesSwap_19 rfl 1 rfl ?_
      refine ww_iload_n (pc := 20) C dX8_refusesSwap_20 rfl 3 rfl ?_
      refine ww_icmp_ne (pc := 21) (tgt := 32) C dX8_refusesSwap_21 (by decide) (fun hc => ?_) (fun hc => ?_)
      · have hf := ifF hc hf
        exact hJ32 x1 x2 x3 x4 hf
      · have hf := ifT hc hf
        refine ww_iload_n (pc := 24) C dX8_refusesSwap_24 rfl 2 rfl ?_
        refine ww_iload (pc := 25) C dX8_refusesSwap_25 4 rfl ?_
        refine ww_icmp_ne (pc := 27) (tgt := 32) C dX8_refusesSwap_27 (by decide) (fun hc => ?_) (fun hc => ?_)
        · have hf := ifF hc hf
          exact hJ32 x1 x2 x3 x4 hf
        · have hf := ifT hc hf
          refine ww_iconst (pc := 30) C dX8_refusesSwap_30 kI_m1 ?_
          obtain e0 := ij1 hf
          exact hret _ _ 31 _ dX8_refusesSwap_31 rfl e0 rfl
def fX8_goSwap (c_now : Nat → Int32) (x1 : Int32) (x2 : Int32) (x3 : Int32) (x4 : Int32) : Option ((Nat → Int32)) := (fX8_place c_now x1 x2).bind fun v1 => (fX8_labelAt c_now v1).bind fun v2 => (fX8_place c_now x1 x2).bind fun v3 => (fX8_place c_now x3 x4).bind fun v4 => (fX8_labelAt c_now v4).bind fun v5 => (ast 189 ((36 : Int32) + v3) c_now v5).bind fun v6 => (fX8_place v6 x3 x4).bind fun v7 => (ast 189 ((36 : Int32) + v7) v6 v2).bind fun v8 => (ast 189 (1 : Int32) v8 (0 : Int32)).bind fun v9 => some (v9)
set_option maxHeartbeats 4000000 in
set_option maxRecDepth 100000 in
theorem tX8_goSwap (l : Launch) (D : va_G) (k : Nat → ClassId) (q_this q_now q_text q_row q_read q_outerCell q_outerDoor q_walked q_onWalks q_far q_aside q_wasFull q_undos q_was q_kept q_isKept : Nat) (c_typed : Int32) (c_rowMany : Int32) (c_thrown : Int32) (c_length : Int32) (c_at : Int32) (c_wrong : Int32) (c_outerMany : Int32) (c_walkedMany : Int32) (c_cameOut : Int32) (c_undoMany : Int32) (c_drawn : Int32) (c_now : Nat → Int32) (x1 : Int32) (x2 : Int32) (x3 : Int32) (x4 : Int32) (w_now : Nat → Int32) (hf : fX8_goSwap c_now x1 x2 x3 x4 = some (w_now)) : MV l yX8_goSwap cX8_goSwap 6 (RM 2 42) D k [.ref q_this, .int x1, .int x2, .int x3, .int x4] [oX8 q_this q_now q_text c_typed q_row c_rowMany c_thrown c_length c_at c_wrong q_read q_outerCell q_outerDoor c_outerMany q_walked c_walkedMany c_cameOut q_onWalks q_far q_aside q_wasFull q_undos q_was c_undoMany c_drawn q_kept q_isKept, aI k q_now 189 c_now] [oX8 q_this q_now q_text c_typed q_row c_rowMany c_thrown c_length c_at c_wrong q_read q_outerCell q_outerDoor c_outerMany q_walked c_walkedMany c_cameOut q_onWalks q_far q_aside q_wasFull q_undos q_was c_undoMany c_drawn q_kept q_isKept, aI k q_now 189 w_now] := by
  refine mkMV' (own := "DoorWalkModel") (by decide) rfl (Nat.le_of_ble_eq_true rfl) ?_
  intro p e s m args below meth c Q A hret C
  refine ww_lv (lv' := [(0, .ref q_this), (1, .int x1), (2, .int x2), (3, .int x3), (4, .int x4)]) [0, 1, 2, 3, 4] rfl ?_
  unfold fX8_goSwap at hf
  refine ww_aload_n (pc := 0) C dX8_goSwap_0 rfl 0 rfl ?_
  refine ww_aload_n (pc := 1) C dX8_goSwap_1 rfl 0 rfl ?_
  refine ww_iload_n (pc := 2) C dX8_goSwap_2 rfl 1 rfl ?_
  refine ww_iload_n (pc := 3) C dX8_goSwap_3 rfl 2 rfl ?_
  obtain ⟨v1, h1, hf⟩ := bsome hf
  refine ww_callVi0 (pc := 4) (As := [.int x1, .int x2]) (rest := [.ref q_this]) C (tX8_place l D k q_this q_now q_text q_row q_read q_outerCell q_outerDoor q_walked q_onWalks q_far q_aside q_wasFull q_undos q_was q_kept q_isKept c_typed c_rowMany c_thrown c_length c_at c_wrong c_outerMany c_walkedMany c_cameOut c_undoMany c_drawn c_now x1 x2 v1 h1) cv_X8_80 ⟨⟨by decide, by decide⟩, rfl, rfl⟩ 0 rfl rfl [0, 1] rfl rfl rfl rfl (Nat.le_of_ble_eq_true rfl) ⟨Nat.zero_le _, Nat.zero_le _⟩ dX8_goSwap_4 (fun hb1 => ?_)
  obtain ⟨v2, h2, hf⟩ := bsome hf
  refine ww_callVi0 (pc := 7) (As := [.int v1]) (rest := []) C (tX8_labelAt l D k q_this q_now q_text q_row q_read q_outerCell q_outerDoor q_walked q_onWalks q_far q_aside q_wasFull q_undos q_was q_kept q_isKept c_typed c_rowMany c_thrown c_length c_at c_wrong c_outerMany c_walkedMany c_cameOut c_undoMany c_drawn c_now v1 v2 h2) cv_X8_188 ⟨⟨by decide, by decide⟩, rfl, rfl⟩ 0 rfl rfl [0, 1] rfl rfl rfl rfl (Nat.le_of_ble_eq_true rfl) ⟨Nat.zero_le _, Nat.zero_le _⟩ dX8_goSwap_7 (fun hb2 => ?_)
  refine ww_istore (pc := 10) (lv' := [(5, .int v2), (0, .ref q_this), (1, .int x1), (2, .int x2), (3, .int x3), (4, .int x4)]) C dX8_goSwap_10 (by decide) rfl ?_
  refine ww_aload_n (pc := 12) C dX8_goSwap_12 rfl 1 rfl ?_
  refine gf8_0 (pc := 13) C kf_X8_9 0 rfl rfl dX8_goSwap_13 ?_
  refine ww_bipush (pc := 16) C dX8_goSwap_16 kB_36 ?_
  refine ww_aload_n (pc := 18) C dX8_goSwap_18 rfl 1 rfl ?_
  refine ww_iload_n (pc := 19) C dX8_goSwap_19 rfl 2 rfl ?_
  refine ww_iload_n (pc := 20) C dX8_goSwap_20 rfl 3 rfl ?_
  obtain ⟨v3, h3, hf⟩ := bsome hf
  refine ww_callVi0 (pc := 21) (As := [.int x1, .int x2]) (rest := [.int (36 : Int32), .ref q_now]) C (tX8_place l D k q_this q_now q_text q_row q_read q_outerCell q_outerDoor q_walked q_onWalks q_far q_aside q_wasFull q_undos q_was q_kept q_isKept c_typed c_rowMany c_thrown c_length c_at c_wrong c_outerMany c_walkedMany c_cameOut c_undoMany c_drawn c_now x1 x2 v3 h3) cv_X8_80 ⟨⟨by decide, by decide⟩, rfl, rfl⟩ 0 rfl rfl [0, 1] rfl rfl rfl rfl (Nat.le_of_ble_eq_true rfl) ⟨Nat.zero_le _, Nat.zero_le _⟩ dX8_goSwap_21 (fun hb3 => ?_)
  refine ww_iadd (pc := 24) C dX8_goSwap_24  ?_
  refine ww_aload_n (pc := 25) C dX8_goSwap_25 rfl 1 rfl ?_
  refine ww_aload_n (pc := 26) C dX8_goSwap_26 rfl 1 rfl ?_
  refine ww_iload_n (pc := 27) C dX8_goSwap_27 rfl 4 rfl ?_
  refine ww_iload (pc := 28) C dX8_goSwap_28 5 rfl ?_
  obtain ⟨v4, h4, hf⟩ := bsome hf
  refine ww_callVi0 (pc := 30) (As := [.int x3, .int x4]) (rest := [.ref q_this, .int ((36 : Int32) + v3), .ref q_now]) C (tX8_place l D k q_this q_now q_text q_row q_read q_outerCell q_outerDoor q_walked q_onWalks q_far q_aside q_wasFull q_undos q_was q_kept q_isKept c_typed c_rowMany c_thrown c_length c_at c_wrong c_outerMany c_walkedMany c_cameOut c_undoMany c_drawn c_now x3 x4 v4 h4) cv_X8_80 ⟨⟨by decide, by decide⟩, rfl, rfl⟩ 0 rfl rfl [0, 1] rfl rfl rfl rfl (Nat.le_of_ble_eq_true rfl) ⟨Nat.zero_le _, Nat.zero_le _⟩ dX8_goSwap_30 (fun hb4 => ?_)
  obtain ⟨v5, h5, hf⟩ := bsome hf
  refine ww_callVi0 (pc := 33) (As := [.int v4]) (rest := [.int ((36 : Int32) + v3), .ref q_now]) C (tX8_labelAt l D k q_this q_now q_text q_row q_read q_outerCell q_outerDoor q_walked q_onWalks q_far q_aside q_wasFull q_undos q_was q_kept q_isKept c_typed c_rowMany c_thrown c_length c_at c_wrong c_outerMany c_walkedMany c_cameOut c_undoMany c_drawn c_now v4 v5 h5) cv_X8_188 ⟨⟨by decide, by decide⟩, rfl, rfl⟩ 0 rfl rfl [0, 1] rfl rfl rfl rfl (Nat.le_of_ble_eq_true rfl) ⟨Nat.zero_le _, Nat.zero_le _⟩ dX8_goSwap_33 (fun hb5 => ?_)
  obtain ⟨v6, h6, hf⟩ := bsome hf
  refine ww_iast (pc := 36) (ws' := [oX8 q_this q_now q_text c_typed q_row c_rowMany c_thrown c_length c_at c_wrong q_read q_outerCell q_outerDoor c_outerMany q_walked c_walkedMany c_cameOut q_onWalks q_far q_aside q_wasFull q_undos q_was c_undoMany c_drawn q_kept q_isKept, aI k q_now 189 v6]) C 1 rfl h6 rfl dX8_goSwap_36 ?_
  refine ww_aload_n (pc := 37) C dX8_goSwap_37 rfl 1 rfl ?_
  refine gf8_0 (pc := 38) C kf_X8_9 0 rfl rfl dX8_goSwap_38 ?_
  refine ww_bipush (pc := 41) C dX8_goSwap_41 kB_36 ?_
  refine ww_aload_n (pc := 43) C dX8_goSwap_43 rfl 1 rfl ?_
  refine ww_iload_n (pc := 44) C dX8_goSwap_44 rfl 4 rfl ?_
  refine ww_iload (pc := 45) C dX8_goSwap_45 5 rfl ?_
  obtain ⟨v7, h7, hf⟩ := bsome hf
  refine ww_callVi0 (pc := 47) (As := [.int x3, .int x4]) (rest := [.int (36 : Int32), .ref q_now]) C (tX8_place l D k q_this q_now q_text q_row q_read q_outerCell q_outerDoor q_walked q_onWalks q_far q_aside q_wasFull q_undos q_was q_kept q_isKept c_typed c_rowMany c_thrown c_length c_at c_wrong c_outerMany c_walkedMany c_cameOut c_undoMany c_drawn v6 x3 x4 v7 h7) cv_X8_80 ⟨⟨by decide, by decide⟩, rfl, rfl⟩ 0 rfl rfl [0, 1] rfl rfl rfl rfl (Nat.le_of_ble_eq_true rfl) ⟨Nat.zero_le _, Nat.zero_le _⟩ dX8_goSwap_47 (fun hb7 => ?_)
  refine ww_iadd (pc := 50) C dX8_goSwap_50  ?_
  refine ww_iload (pc := 51) C dX8_goSwap_51 0 rfl ?_
  obtain ⟨v8, h8, hf⟩ := bsome hf
  refine ww_iast (pc := 53) (ws' := [oX8 q_this q_now q_text c_typed q_row c_rowMany c_thrown c_length c_at c_wrong q_read q_outerCell q_outerDoor c_outerMany q_walked c_walkedMany c_cameOut q_onWalks q_far q_aside q_wasFull q_undos q_was c_undoMany c_drawn q_kept q_isKept, aI k q_now 189 v8]) C 1 rfl h8 rfl dX8_goSwap_53 ?_
  refine ww_aload_n (pc := 54) C dX8_goSwap_54 rfl 1 rfl ?_
  refine gf8_0 (pc := 55) C kf_X8_9 0 rfl rfl dX8_goSwap_55 ?_
  refine ww_iconst (pc := 58) C dX8_goSwap_58 kI_1 ?_
  refine ww_iconst (pc := 59) C dX8_goSwap_59 kI_0 ?_
  obtain ⟨v9, h9, hf⟩ := bsome hf
  refine ww_iast (pc := 60) (ws' := [oX8 q_this q_now q_text c_typed q_row c_rowMany c_thrown c_length c_at c_wrong q_read q_outerCell q_outerDoor c_outerMany q_walked c_walkedMany c_cameOut q_onWalks q_far q_aside q_wasFull q_undos q_was c_undoMany c_drawn q_kept q_isKept, aI k q_now 189 v9]) C 1 rfl h9 rfl dX8_goSwap_60 ?_
  obtain e0 := ij1 hf
  exact hret _ _ 61 dX8_goSwap_61 (by rw [← e0])
def fX8_swaps (c_thrown : Int32) (c_undoMany : Int32) (c_now : Nat → Int32) (c_undos : Nat → Int32) (c_was : Nat → Int32) (x1 : Int32) (x2 : Int32) (x3 : Int32) (x4 : Int32) : Option (Int32 × Int32 × Int32 × (Nat → Int32) × (Nat → Int32) × (Nat → Int32)) := (fX8_refusesSwap c_now x1 x2 x3 x4).bind fun v1 => if 0 ≤ v1 then bd3 (fX8_change c_now c_undoMany c_undos c_was) fun v2 v3 v4 => (fX8_goSwap c_now x1 x2 x3 x4).bind fun v5 => (fX8_fullMany v5).bind fun v6 => some (v6, (0 : Int32), v2, v5, v3, v4) else some (v1, (0 : Int32), c_undoMany, c_now, c_undos, c_was)
set_option maxHeartbeats 4000000 in
set_option maxRecDepth 100000 in
theorem tX8_swaps (l : Launch) (D : va_G) (k : Nat → ClassId) (q_this q_now q_text q_row q_read q_outerCell q_outerDoor q_walked q_onWalks q_far q_aside q_wasFull q_undos q_was q_kept q_isKept : Nat) (c_typed : Int32) (c_rowMany : Int32) (c_thrown : Int32) (c_length : Int32) (c_at : Int32) (c_wrong : Int32) (c_outerMany : Int32) (c_walkedMany : Int32) (c_cameOut : Int32) (c_undoMany : Int32) (c_drawn : Int32) (c_now : Nat → Int32) (c_undos : Nat → Int32) (c_was : Nat → Int32) (x1 : Int32) (x2 : Int32) (x3 : Int32) (x4 : Int32) (r_ : Int32) (w_thrown : Int32) (w_undoMany : Int32) (w_now : Nat → Int32) (w_undos : Nat → Int32) (w_was : Nat → Int32) (hf : fX8_swaps c_thrown c_undoMany c_now c_undos c_was x1 x2 x3 x4 = some (r_, w_thrown, w_undoMany, w_now, w_undos, w_was)) : MI l yX8_swaps cX8_swaps 6 .int (RM 7 152) D k [.ref q_this, .int x1, .int x2, .int x3, .int x4] [oX8 q_this q_now q_text c_typed q_row c_rowMany c_thrown c_length c_at c_wrong q_read q_outerCell q_outerDoor c_outerMany q_walked c_walkedMany c_cameOut q_onWalks q_far q_aside q_wasFull q_undos q_was c_undoMany c_drawn q_kept q_isKept, aI k q_now 189 c_now, aI k q_undos 1512 c_undos, aI k q_was 189 c_was] r_ [oX8 q_this q_now q_text c_typed q_row c_rowMany w_thrown c_length c_at c_wrong q_read q_outerCell q_outerDoor c_outerMany q_walked c_walkedMany c_cameOut q_onWalks q_far q_aside q_wasFull q_undos q_was w_undoMany c_drawn q_kept q_isKept, aI k q_now 189 w_now, aI k q_undos 1512 w_undos, aI k q_was 189 w_was] := by
  refine mkMI' (own := "DoorWalkModel") (by decide) rfl (Nat.le_of_ble_eq_true rfl) ?_
  intro p e s m args below meth c Q A hret C
  refine ww_lv (lv' := [(0, .ref q_this), (1, .int x1), (2, .int x2), (3, .int x3), (4, .int x4)]) [0, 1, 2, 3, 4] rfl ?_
  unfold fX8_swaps at hf
  refine ww_aload_n (pc := 0) C dX8_swaps_0 rfl 0 rfl ?_
  refine ww_iconst (pc := 1) C dX8_swaps_1 kI_0 ?_
  refine pf8_5 (pc := 2) (ws' := [oX8 q_this q_now q_text c_typed q_row c_rowMany (0 : Int32) c_length c_at c_wrong q_read q_outerCell q_outerDoor c_outerMany q_walked c_walkedMany c_cameOut q_onWalks q_far q_aside q_wasFull q_undos q_was c_undoMany c_drawn q_kept q_isKept, aI k q_now 189 c_now, aI k q_undos 1512 c_undos, aI k q_was 189 c_was]) C kf_X8_61 0 rfl (Nat.le_of_ble_eq_true rfl) rfl dX8_swaps_2 ?_
  refine ww_aload_n (pc := 5) C dX8_swaps_5 rfl 0 rfl ?_
  refine ww_iload_n (pc := 6) C dX8_swaps_6 rfl 1 rfl ?_
  refine ww_iload_n (pc := 7) C dX8_swaps_7 rfl 2 rfl ?_
  refine ww_iload_n (pc := 8) C dX8_swaps_8 rfl 3 rfl ?_
  refine ww_iload (pc := 9) C dX8_swaps_9 4 rfl ?_
  obtain ⟨v1, h1, hf⟩ := bsome hf
  refine ww_callVi0 (pc := 11) (As := [.int x1, .int x2, .int x3, .int x4]) (rest := []) C (tX8_refusesSwap l D k q_this q_now q_text q_row q_read q_outerCell q_outerDoor q_walked q_onWalks q_far q_aside q_wasFull q_undos q_was q_kept q_isKept c_typed c_rowMany (0 : Int32) c_length c_at c_wrong c_outerMany c_walkedMany c_cameOut c_undoMany c_drawn c_now x1 x2 x3 x4 v1 h1) cv_X8_324 ⟨⟨by decide, by decide⟩, rfl, rfl⟩ 0 rfl rfl [0, 1] rfl rfl rfl rfl (Nat.le_of_ble_eq_true rfl) ⟨Nat.zero_le _, Nat.zero_le _⟩ dX8_swaps_11 (fun hb1 => ?_)
  refine ww_istore (pc := 14) (lv' := [(5, .int v1), (0, .ref q_this), (1, .int x1), (2, .int x2), (3, .int x3), (4, .int x4)]) C dX8_swaps_14 (by decide) rfl ?_
  refine ww_iload (pc := 16) C dX8_swaps_16 0 rfl ?_
  refine ww_if_ge (pc := 18) (tgt := 24) C dX8_swaps_18 (by decide) (fun hc => ?_) (fun hc => ?_)
  · have hf := ifT hc hf
    refine ww_aload_n (pc := 24) C dX8_swaps_24 rfl 1 rfl ?_
    obtain ⟨v2, v3, v4, h2, hf⟩ := bd3_some hf
    refine ww_callVv (pc := 25) (ws' := [oX8 q_this q_now q_text c_typed q_row c_rowMany (0 : Int32) c_length c_at c_wrong q_read q_outerCell q_outerDoor c_outerMany q_walked c_walkedMany c_cameOut q_onWalks q_far q_aside q_wasFull q_undos q_was v2 c_drawn q_kept q_isKept, aI k q_now 189 c_now, aI k q_undos 1512 v3, aI k q_was 189 v4]) (As := []) (rest := []) C (tX8_change l D k q_this q_now q_text q_row q_read q_outerCell q_outerDoor q_walked q_onWalks q_far q_aside q_wasFull q_undos q_was q_kept q_isKept c_typed c_rowMany (0 : Int32) c_length c_at c_wrong c_outerMany c_walkedMany c_cameOut c_undoMany c_drawn c_now c_undos c_was v2 v3 v4 h2) cv_X8_162 ⟨⟨by decide, by decide⟩, rfl, rfl⟩ 0 rfl rfl [0, 1, 2, 3] rfl rfl rfl rfl rfl rfl (Nat.le_of_ble_eq_true rfl) ⟨Nat.zero_le _, Nat.zero_le _⟩ dX8_swaps_25 ?_
    refine ww_aload_n (pc := 28) C dX8_swaps_28 rfl 1 rfl ?_
    refine ww_iload_n (pc := 29) C dX8_swaps_29 rfl 2 rfl ?_
    refine ww_iload_n (pc := 30) C dX8_swaps_30 rfl 3 rfl ?_
    refine ww_iload_n (pc := 31) C dX8_swaps_31 rfl 4 rfl ?_
    refine ww_iload (pc := 32) C dX8_swaps_32 5 rfl ?_
    obtain ⟨v5, h5, hf⟩ := bsome hf
    refine ww_callVv (pc := 34) (ws' := [oX8 q_this q_now q_text c_typed q_row c_rowMany (0 : Int32) c_length c_at c_wrong q_read q_outerCell q_outerDoor c_outerMany q_walked c_walkedMany c_cameOut q_onWalks q_far q_aside q_wasFull q_undos q_was v2 c_drawn q_kept q_isKept, aI k q_now 189 v5, aI k q_undos 1512 v3, aI k q_was 189 v4]) (As := [.int x1, .int x2, .int x3, .int x4]) (rest := []) C (tX8_goSwap l D k q_this q_now q_text q_row q_read q_outerCell q_outerDoor q_walked q_onWalks q_far q_aside q_wasFull q_undos q_was q_kept q_isKept c_typed c_rowMany (0 : Int32) c_length c_at c_wrong c_outerMany c_walkedMany c_cameOut v2 c_drawn c_now x1 x2 x3 x4 v5 h5) cv_X8_327 ⟨⟨by decide, by decide⟩, rfl, rfl⟩ 0 rfl rfl [0, 1] rfl rfl rfl rfl rfl rfl (Nat.le_of_ble_eq_true rfl) ⟨Nat.zero_le _, Nat.zero_le _⟩ dX8_swaps_34 ?_
    refine ww_aload_n (pc := 37) C dX8_swaps_37 rfl 1 rfl ?_
    obtain ⟨v6, h6, hf⟩ := bsome hf
    refine ww_callVi0 (pc := 38) (As := []) (rest := []) C (tX8_fullMany l D k q_this q_now q_text q_row q_read q_outerCell q_outerDoor q_walked q_onWalks q_far q_aside q_wasFull q_undos q_was q_kept q_isKept c_typed c_rowMany (0 : Int32) c_length c_at c_wrong c_outerMany c_walkedMany c_cameOut v2 c_drawn v5 v6 h6) cv_X8_226 ⟨⟨by decide, by decide⟩, rfl, rfl⟩ 0 rfl rfl [0, 1] rfl rfl rfl rfl (Nat.le_of_ble_eq_true rfl) ⟨Nat.zero_le _, Nat.zero_le _⟩ dX8_swaps_38 (fun hb6 => ?_)
    obtain ⟨e0, e1, e2, e3, e4, e5⟩ := ij6 hf
    exact hret _ _ 41 _ dX8_swaps_41 rfl e0 (by rw [← e1, ← e2, ← e3, ← e4, ← e5])
  · have hf := ifF hc hf
    refine ww_iload (pc := 21) C dX8_swaps_21 0 rfl ?_
    obtain ⟨e0, e1, e2, e3, e4, e5⟩ := ij6 hf
    exact hret _ _ 23 _ dX8_swaps_23 rfl e0 (by rw [← e1, ← e2, ← e3, ← e4, ← e5])
def fX8_refusesAmount_b22 (c_now : Nat → Int32) (n1 : Int32) (n2 : Int32) (n3 : Int32) (s0 : Int32) (s1 : Int32) (s2 : Int32) : Option Int32 := (fX8_in s0 s1 (s2 - (1 : Int32))).bind fun v1 => if v1 = 0 then some ((-1 : Int32)) else (fX8_in n2 (0 : Int32) (2 : Int32)).bind fun v2 => if v2 = 0 then some ((-1 : Int32)) else (fX8_in n3 (0 : Int32) (9 : Int32)).bind fun v3 => if v3 = 0 then some ((-1 : Int32)) else (ald 189 (1 : Int32) c_now).bind fun v4 => if v4 = (1 : Int32) then (fX8_amount c_now n1 n2).bind fun v5 => if v5 = n3 then some ((-2 : Int32)) else some ((0 : Int32)) else some ((-3 : Int32))
def fX8_refusesAmount (c_now : Nat → Int32) (x1 : Int32) (x2 : Int32) (x3 : Int32) : Option Int32 := (ald 189 (1 : Int32) c_now).bind fun v1 => if v1 = (1 : Int32) then (ald 189 (2 : Int32) c_now).bind fun v2 => fX8_refusesAmount_b22 c_now x1 x2 x3 x1 (0 : Int32) v2 else fX8_refusesAmount_b22 c_now x1 x2 x3 x1 (0 : Int32) (4 : Int32)
set_option maxHeartbeats 4000000 in
set_option maxRecDepth 100000 in
theorem tX8_refusesAmount (l : Launch) (D : va_G) (k : Nat → ClassId) (q_this q_now q_text q_row q_read q_outerCell q_outerDoor q_walked q_onWalks q_far q_aside q_wasFull q_undos q_was q_kept q_isKept : Nat) (c_typed : Int32) (c_rowMany : Int32) (c_thrown : Int32) (c_length : Int32) (c_at : Int32) (c_wrong : Int32) (c_outerMany : Int32) (c_walkedMany : Int32) (c_cameOut : Int32) (c_undoMany : Int32) (c_drawn : Int32) (c_now : Nat → Int32) (x1 : Int32) (x2 : Int32) (x3 : Int32) (r_ : Int32) (hf : fX8_refusesAmount c_now x1 x2 x3 = some (r_)) : MI l yX8_refusesAmount cX8_refusesAmount 4 .int (RM 1 22) D k [.ref q_this, .int x1, .int x2, .int x3] [oX8 q_this q_now q_text c_typed q_row c_rowMany c_thrown c_length c_at c_wrong q_read q_outerCell q_outerDoor c_outerMany q_walked c_walkedMany c_cameOut q_onWalks q_far q_aside q_wasFull q_undos q_was c_undoMany c_drawn q_kept q_isKept, aI k q_now 189 c_now] r_ [oX8 q_this q_now q_text c_typed q_row c_rowMany c_thrown c_length c_at c_wrong q_read q_outerCell q_outerDoor c_outerMany q_walked c_walkedMany c_cameOut q_onWalks q_far q_aside q_wasFull q_undos q_was c_undoMany c_drawn q_kept q_isKept, aI k q_now 189 c_now] := by
  refine mkMI' (own := "DoorWalkModel") (by decide) rfl (Nat.le_of_ble_eq_true rfl) ?_
  intro p e s m args below meth c Q A hret C
  refine ww_lv (lv' := [(0, .ref q_this), (1, .int x1), (2, .int x2), (3, .int x3)]) [0, 1, 2, 3] rfl ?_
  have hJ22 : ∀ (n1 : Int32) (n2 : Int32) (n3 : Int32) (s0 : Int32) (s1 : Int32) (s2 : Int32), fX8_refusesAmount_b22 c_now n1 n2 n3 s0 s1 s2 = some (r_) → WW p l e (RM 1 22) s m args below meth c Q 4 D A 0 0 [oX8 q_this q_now q_text c_typed q_row c_rowMany c_thrown c_length c_at c_wrong q_read q_outerCell q_outerDoor c_outerMany q_walked c_walkedMany c_cameOut q_onWalks q_far q_aside q_wasFull q_undos q_was c_undoMany c_drawn q_kept q_isKept, aI k q_now 189 c_now] [(0, .ref q_this), (1, .int n1), (2, .int n2), (3, .int n3)] 22 [.int s2, .int s1, .int s0] := by
    intro n1 n2 n3 s0 s1 s2
    intro hf
    unfold fX8_refusesAmount_b22 at hf
    refine ww_iconst (pc := 22) C dX8_refusesAmount_22 kI_1 ?_
    refine ww_isub (pc := 23) C dX8_refusesAmount_23  ?_
    obtain ⟨v1, h1, hf⟩ := bsome hf
    refine ww_callSi0 (pc := 24) (As := [.int s0, .int s1, .int (s2 - (1 : Int32))]) (rest := []) C (tX8_in l D k s0 s1 (s2 - (1 : Int32)) v1 h1) cs_X8_72 ⟨⟨by decide, by decide⟩, rfl, rfl⟩ [] rfl rfl rfl rfl (Nat.le_of_ble_eq_true rfl) ⟨Nat.zero_le _, Nat.zero_le _⟩ dX8_refusesAmount_24 (fun hb1 => ?_)
    refine ww_if_eq (pc := 27) (tgt := 49) C dX8_refusesAmount_27 (by decide) (fun hc => ?_) (fun hc => ?_)
    · have hf := ifT hc hf
      refine ww_iconst (pc := 49) C dX8_refusesAmount_49 kI_m1 ?_
      obtain e0 := ij1 hf
      exact hret _ _ 50 _ dX8_refusesAmount_50 rfl e0 rfl
    · have hf := ifF hc hf
      refine ww_iload_n (pc := 30) C dX8_refusesAmount_30 rfl 2 rfl ?_
      refine ww_iconst (pc := 31) C dX8_refusesAmount_31 kI_0 ?_
      refine ww_iconst (pc := 32) C dX8_refusesAmount_32 kI_2 ?_
      obtain ⟨v2, h2, hf⟩ := bsome hf
      refine ww_callSi0 (pc := 33) (As := [.int n2, .int (0 : Int32), .int (2 : Int32)]) (rest := []) C (tX8_in l D k n2 (0 : Int32) (2 : Int32) v2 h2) cs_X8_72 ⟨⟨by decide, by decide⟩, rfl, rfl⟩ [] rfl rfl rfl rfl (Nat.le_of_ble_eq_true rfl) ⟨Nat.zero_le _, Nat.zero_le _⟩ dX8_refusesAmount_33 (fun hb2 => ?_)
      refine ww_if_eq (pc := 36) (tgt := 49) C dX8_refusesAmount_36 (by decide) (fun hc => ?_) (fun hc => ?_)
      · have hf := ifT hc hf
        refine ww_iconst (pc := 49) C dX8_refusesAmount_49 kI_m1 ?_
        obtain e0 := ij1 hf
        exact hret _ _ 50 _ dX8_refusesAmount_50 rfl e0 rfl
      · have hf := ifF hc hf
        refine ww_iload_n (pc := 39) C dX8_refusesAmount_39 rfl 3 rfl ?_
        refine ww_iconst (pc := 40) C dX8_refusesAmount_40 kI_0 ?_
        refine ww_bipush (pc := 41) C dX8_refusesAmount_41 kB_9 ?_
        obtain ⟨v3, h3, hf⟩ := bsome hf
        refine ww_callSi0 (pc := 43) (As := [.int n3, .int (0 : Int32), .int (9 : Int32)]) (rest := []) C (tX8_in l D k n3 (0 : Int32) (9 : Int32) v3 h3) cs_X8_72 ⟨⟨by decide, by decide⟩, rfl, rfl⟩ [] rfl rfl rfl rfl (Nat.le_of_ble_eq_true rfl) ⟨Nat.zero_le _, Nat.zero_le _⟩ dX8_refusesAmount_43 (fun hb3 => ?_)
        refine ww_if_ne (pc := 46) (tgt := 51) C dX8_refusesAmount_46 (by decide) (fun hc => ?_) (fun hc => ?_)
        · have hf := ifF hc hf
          refine ww_aload_n (pc := 51) C dX8_refusesAmount_51 rfl 0 rfl ?_
          refine gf8_0 (pc := 52) C kf_X8_9 0 rfl rfl dX8_refusesAmount_52 ?_
          refine ww_iconst (pc := 55) C dX8_refusesAmount_55 kI_1 ?_
          obtain ⟨v4, h4, hf⟩ := bsome hf
          refine ww_iald (pc := 56) C 1 rfl h4 dX8_refusesAmount_56 ?_
          refine ww_iconst (pc := 57) C dX8_refusesAmount_57 kI_1 ?_
          refine ww_icmp_eq (pc := 58) (tgt := 64) C dX8_refusesAmount_58 (by decide) (fun hc => ?_) (fun hc => ?_)
          · have hf := ifT hc hf
            refine ww_aload_n (pc := 64) C dX8_refusesAmount_64 rfl 0 rfl ?_
            refine ww_iload_n (pc := 65) C dX8_refusesAmount_65 rfl 1 rfl ?_
            refine ww_iload_n (pc := 66) C dX8_refusesAmount_66 rfl 2 rfl ?_
            obtain ⟨v5, h5, hf⟩ := bsome hf
            refine ww_callVi0 (pc := 67) (As := [.int n1, .int n2]) (rest := []) C (tX8_amount l D k q_this q_now q_text q_row q_read q_outerCell q_outerDoor q_walked q_onWalks q_far q_aside q_wasFull q_undos q_was q_kept q_isKept c_typed c_rowMany c_thrown c_length c_at c_wrong c_outerMany c_walkedMany c_cameOut c_undoMany c_drawn c_now n1 n2 v5 h5) cv_X8_91 ⟨⟨by decide, by decide⟩, rfl, rfl⟩ 0 rfl rfl [0, 1] rfl rfl rfl rfl (Nat.le_of_ble_eq_true rfl) ⟨Nat.zero_le _, Nat.zero_le _⟩ dX8_refusesAmount_67 (fun hb5 => ?_)
            refine ww_iload_n (pc := 70) C dX8_refusesAmount_70 rfl 3 rfl ?_
            refine ww_icmp_ne (pc := 71) (tgt := 79) C dX8_refusesAmount_71 (by decide) (fun hc => ?_) (fun hc => ?_)
            · have hf := ifF hc hf
              refine ww_iconst (pc := 79) C dX8_refusesAmount_79 kI_0 ?_
              obtain e0 := ij1 hf
              exact hret _ _ 80 _ dX8_refusesAmount_80 rfl e0 rfl
            · have hf := ifT hc hf
              refine ww_bipush (pc := 74) C dX8_refusesAmount_74 kB_m2 ?_
              refine ww_goto (pc := 76) (tgt := 80) C dX8_refusesAmount_76 (by decide) ?_
              obtain e0 := ij1 hf
              exact hret _ _ 80 _ dX8_refusesAmount_80 rfl e0 rfl
          · have hf := ifF hc hf
            refine ww_bipush (pc := 61) C dX8_refusesAmount_61 kB_m3 ?_
            obtain e0 := ij1 hf
            exact hret _ _ 63 _ dX8_refusesAmount_63 rfl e0 rfl
        · have hf := ifT hc hf
          refine ww_iconst (pc := 49) C dX8_refusesAmount_49 kI_m1 ?_
          obtain e0 := ij1 hf
          exact hret _ _ 50 _ dX8_refusesAmount_50 rfl e0 rfl
  unfold fX8_refusesAmount at hf
  refine ww_iload_n (pc := 0) C dX8_refusesAmount_0 rfl 1 rfl ?_
  refine ww_iconst (pc := 1) C dX8_refusesAmount_1 kI_0 ?_
  refine ww_aload_n (pc := 2) C dX8_refusesAmount_2 rfl 0 rfl ?_
  refine gf8_0 (pc := 3) C kf_X8_9 0 rfl rfl dX8_refusesAmount_3 ?_
  refine ww_iconst (pc := 6) C dX8_refusesAmount_6 kI_1 ?_
  obtain ⟨v1, h1, hf⟩ := bsome hf
  refine ww_iald (pc := 7) C 1 rfl h1 dX8_refusesAmount_7 ?_
  refine ww_iconst (pc := 8) C dX8_refusesAmount_8 kI_1 ?_
  refine ww_icmp_ne (pc := 9) (tgt := 21) C dX8_refusesAmount_9 (by decide) (fun hc => ?_) (fun hc => ?_)
  · have hf := ifF hc hf
    refine ww_iconst (pc := 21) C dX8_refusesAmount_21 kI_4 ?_
    exact hJ22 x1 x2 x3 x1 (0 : Int32) (4 : Int32) hf
  · have hf := ifT hc hf
    refine ww_aload_n (pc := 12) C dX8_refusesAmount_12 rfl 0 rfl ?_
    refine gf8_0 (pc := 13) C kf_X8_9 0 rfl rfl dX8_refusesAmount_13 ?_
    refine ww_iconst (pc := 16) C dX8_refusesAmount_16 kI_2 ?_
    obtain ⟨v2, h2, hf⟩ := bsome hf
    refine ww_iald (pc := 17) C 1 rfl h2 dX8_refusesAmount_17 ?_
    refine ww_goto (pc := 18) (tgt := 22) C dX8_refusesAmount_18 (by decide) ?_
    exact hJ22 x1 x2 x3 x1 (0 : Int32) v2 hf
def fX8_goAmount (c_now : Nat → Int32) (x1 : Int32) (x2 : Int32) (x3 : Int32) : Option ((Nat → Int32)) := (ast 189 (((3 : Int32) + ((3 : Int32) * x1)) + x2) c_now x3).bind fun v1 => (fX8_layRule v1).bind fun v2 => some (v2)
set_option maxHeartbeats 4000000 in
set_option maxRecDepth 100000 in
theorem tX8_goAmount (l : Launch) (D : va_G) (k : Nat → ClassId) (q_this q_now q_text q_row q_read q_outerCell q_outerDoor q_walked q_onWalks q_far q_aside q_wasFull q_undos q_was q_kept q_isKept : Nat) (c_typed : Int32) (c_rowMany : Int32) (c_thrown : Int32) (c_length : Int32) (c_at : Int32) (c_wrong : Int32) (c_outerMany : Int32) (c_walkedMany : Int32) (c_cameOut : Int32) (c_undoMany : Int32) (c_drawn : Int32) (c_now : Nat → Int32) (x1 : Int32) (x2 : Int32) (x3 : Int32) (w_now : Nat → Int32) (hf : fX8_goAmount c_now x1 x2 x3 = some (w_now)) : MV l yX8_goAmount cX8_goAmount 4 (RM 6 141) D k [.ref q_this, .int x1, .int x2, .int x3] [oX8 q_this q_now q_text c_typed q_row c_rowMany c_thrown c_length c_at c_wrong q_read q_outerCell q_outerDoor c_outerMany q_walked c_walkedMany c_cameOut q_onWalks q_far q_aside q_wasFull q_undos q_was c_undoMany c_drawn q_kept q_isKept, aI k q_now 189 c_now] [oX8 q_this q_now q_text c_typed q_row c_rowMany c_thrown c_length c_at c_wrong q_read q_outerCell q_outerDoor c_outerMany q_walked c_walkedMany c_cameOut q_onWalks q_far q_aside q_wasFull q_undos q_was c_undoMany c_drawn q_kept q_isKept, aI k q_now 189 w_now] := by
  refine mkMV' (own := "DoorWalkModel") (by decide) rfl (Nat.le_of_ble_eq_true rfl) ?_
  intro p e s m args below meth c Q A hret C
  refine ww_lv (lv' := [(0, .ref q_this), (1, .int x1), (2, .int x2), (3, .int x3)]) [0, 1, 2, 3] rfl ?_
  unfold fX8_goAmount at hf
  refine ww_aload_n (pc := 0) C dX8_goAmount_0 rfl 0 rfl ?_
  refine gf8_0 (pc := 1) C kf_X8_9 0 rfl rfl dX8_goAmount_1 ?_
  refine ww_iconst (pc := 4) C dX8_goAmount_4 kI_3 ?_
  refine ww_iconst (pc := 5) C dX8_goAmount_5 kI_3 ?_
  refine ww_iload_n (pc := 6) C dX8_goAmount_6 rfl 1 rfl ?_
  refine ww_imul (pc := 7) C dX8_goAmount_7  ?_
  refine ww_iadd (pc := 8) C dX8_goAmount_8  ?_
  refine ww_iload_n (pc := 9) C dX8_goAmount_9 rfl 2 rfl ?_
  refine ww_iadd (pc := 10) C dX8_goAmount_10  ?_
  refine ww_iload_n (pc := 11) C dX8_goAmount_11 rfl 3 rfl ?_
  obtain ⟨v1, h1, hf⟩ := bsome hf
  refine ww_iast (pc := 12) (ws' := [oX8 q_this q_now q_text c_typed q_row c_rowMany c_thrown c_length c_at c_wrong q_read q_outerCell q_outerDoor c_outerMany q_walked c_walkedMany c_cameOut q_onWalks q_far q_aside q_wasFull q_undos q_was c_undoMany c_drawn q_kept q_isKept, aI k q_now 189 v1]) C 1 rfl h1 rfl dX8_goAmount_12 ?_
  refine ww_aload_n (pc := 13) C dX8_goAmount_13 rfl 0 rfl ?_
  obtain ⟨v2, h2, hf⟩ := bsome hf
  refine ww_callVv (pc := 14) (ws' := [oX8 q_this q_now q_text c_typed q_row c_rowMany c_thrown c_length c_at c_wrong q_read q_outerCell q_outerDoor c_outerMany q_walked c_walkedMany c_cameOut q_onWalks q_far q_aside q_wasFull q_undos q_was c_undoMany c_drawn q_kept q_isKept, aI k q_now 189 v2]) (As := []) (rest := []) C (tX8_layRule l D k q_this q_now q_text q_row q_read q_outerCell q_outerDoor q_walked q_onWalks q_far q_aside q_wasFull q_undos q_was q_kept q_isKept c_typed c_rowMany c_thrown c_length c_at c_wrong c_outerMany c_walkedMany c_cameOut c_undoMany c_drawn v1 v2 h2) cv_X8_169 ⟨⟨by decide, by decide⟩, rfl, rfl⟩ 0 rfl rfl [0, 1] rfl rfl rfl rfl rfl rfl (Nat.le_of_ble_eq_true rfl) ⟨Nat.zero_le _, Nat.zero_le _⟩ dX8_goAmount_14 ?_
  obtain e0 := ij1 hf
  exact hret _ _ 17 dX8_goAmount_17 (by rw [← e0])
def fX8_amounts (c_thrown : Int32) (c_undoMany : Int32) (c_now : Nat → Int32) (c_undos : Nat → Int32) (c_was : Nat → Int32) (x1 : Int32) (x2 : Int32) (x3 : Int32) : Option (Int32 × Int32 × Int32 × (Nat → Int32) × (Nat → Int32) × (Nat → Int32)) := (fX8_refusesAmount c_now x1 x2 x3).bind fun v1 => if 0 ≤ v1 then bd3 (fX8_change c_now c_undoMany c_undos c_was) fun v2 v3 v4 => (fX8_amount c_now x1 x2).bind fun v5 => (fX8_goAmount c_now x1 x2 x3).bind fun v6 => some (v5, (0 : Int32), v2, v6, v3, v4) else some (v1, (0 : Int32), c_undoMany, c_now, c_undos, c_was)
set_option maxHeartbeats 4000000 in
set_option maxRecDepth 100000 in
theorem tX8_amounts (l : Launch) (D : va_G) (k : Nat → ClassId) (q_this q_now q_text q_row q_read q_outerCell q_outerDoor q_walked q_onWalks q_far q_aside q_wasFull q_undos q_was q_kept q_isKept : Nat) (c_typed : Int32) (c_rowMany : Int32) (c_thrown : Int32) (c_length : Int32) (c_at : Int32) (c_wrong : Int32) (c_outerMany : Int32) (c_walkedMany : Int32) (c_cameOut : Int32) (c_undoMany : Int32) (c_drawn : Int32) (c_now : Nat → Int32) (c_undos : Nat → Int32) (c_was : Nat → Int32) (x1 : Int32) (x2 : Int32) (x3 : Int32) (r_ : Int32) (w_thrown : Int32) (w_undoMany : Int32) (w_now : Nat → Int32) (w_undos : Nat → Int32) (w_was : Nat → Int32) (hf : fX8_amounts c_thrown c_undoMany c_now c_undos c_was x1 x2 x3 = some (r_, w_thrown, w_undoMany, w_now, w_undos, w_was)) : MI l yX8_amounts cX8_amounts 6 .int (RM 7 164) D k [.ref q_this, .int x1, .int x2, .int x3] [oX8 q_this q_now q_text c_typed q_row c_rowMany c_thrown c_length c_at c_wrong q_read q_outerCell q_outerDoor c_outerMany q_walked c_walkedMany c_cameOut q_onWalks q_far q_aside q_wasFull q_undos q_was c_undoMany c_drawn q_kept q_isKept, aI k q_now 189 c_now, aI k q_undos 1512 c_undos, aI k q_was 189 c_was] r_ [oX8 q_this q_now q_text c_typed q_row c_rowMany w_thrown c_length c_at c_wrong q_read q_outerCell q_outerDoor c_outerMany q_walked c_walkedMany c_cameOut q_onWalks q_far q_aside q_wasFull q_undos q_was w_undoMany c_drawn q_kept q_isKept, aI k q_now 189 w_now, aI k q_undos 1512 w_undos, aI k q_was 189 w_was] := by
  refine mkMI' (own := "DoorWalkModel") (by decide) rfl (Nat.le_of_ble_eq_true rfl) ?_
  intro p e s m args below meth c Q A hret C
  refine ww_lv (lv' := [(0, .ref q_this), (1, .int x1), (2, .int x2), (3, .int x3)]) [0, 1, 2, 3] rfl ?_
  unfold fX8_amounts at hf
  refine ww_aload_n (pc := 0) C dX8_amounts_0 rfl 0 rfl ?_
  refine ww_iconst (pc := 1) C dX8_amounts_1 kI_0 ?_
  refine pf8_5 (pc := 2) (ws' := [oX8 q_this q_now q_text c_typed q_row c_rowMany (0 : Int32) c_length c_at c_wrong q_read q_outerCell q_outerDoor c_outerMany q_walked c_walkedMany c_cameOut q_onWalks q_far q_aside q_wasFull q_undos q_was c_undoMany c_drawn q_kept q_isKept, aI k q_now 189 c_now, aI k q_undos 1512 c_undos, aI k q_was 189 c_was]) C kf_X8_61 0 rfl (Nat.le_of_ble_eq_true rfl) rfl dX8_amounts_2 ?_
  refine ww_aload_n (pc := 5) C dX8_amounts_5 rfl 0 rfl ?_
  refine ww_iload_n (pc := 6) C dX8_amounts_6 rfl 1 rfl ?_
  refine ww_iload_n (pc := 7) C dX8_amounts_7 rfl 2 rfl ?_
  refine ww_iload_n (pc := 8) C dX8_amounts_8 rfl 3 rfl ?_
  obtain ⟨v1, h1, hf⟩ := bsome hf
  refine ww_callVi0 (pc := 9) (As := [.int x1, .int x2, .int x3]) (rest := []) C (tX8_refusesAmount l D k q_this q_now q_text q_row q_read q_outerCell q_outerDoor q_walked q_onWalks q_far q_aside q_wasFull q_undos q_was q_kept q_isKept c_typed c_rowMany (0 : Int32) c_length c_at c_wrong c_outerMany c_walkedMany c_cameOut c_undoMany c_drawn c_now x1 x2 x3 v1 h1) cv_X8_331 ⟨⟨by decide, by decide⟩, rfl, rfl⟩ 0 rfl rfl [0, 1] rfl rfl rfl rfl (Nat.le_of_ble_eq_true rfl) ⟨Nat.zero_le _, Nat.zero_le _⟩ dX8_amounts_9 (fun hb1 => ?_)
  refine ww_istore (pc := 12) (lv' := [(4, .int v1), (0, .ref q_this), (1, .int x1), (2, .int x2), (3, .int x3)]) C dX8_amounts_12 (by decide) rfl ?_
  refine ww_iload (pc := 14) C dX8_amounts_14 0 rfl ?_
  refine ww_if_ge (pc := 16) (tgt := 22) C dX8_amounts_16 (by decide) (fun hc => ?_) (fun hc => ?_)
  · have hf := ifT hc hf
    refine ww_aload_n (pc := 22) C dX8_amounts_22 rfl 1 rfl ?_
    obtain ⟨v2, v3, v4, h2, hf⟩ := bd3_some hf
    refine ww_callVv (pc := 23) (ws' := [oX8 q_this q_now q_text c_typed q_row c_rowMany (0 : Int32) c_length c_at c_wrong q_read q_outerCell q_outerDoor c_outerMany q_walked c_walkedMany c_cameOut q_onWalks q_far q_aside q_wasFull q_undos q_was v2 c_drawn q_kept q_isKept, aI k q_now 189 c_now, aI k q_undos 1512 v3, aI k q_was 189 v4]) (As := []) (rest := []) C (tX8_change l D k q_this q_now q_text q_row q_read q_outerCell q_outerDoor q_walked q_onWalks q_far q_aside q_wasFull q_undos q_was q_kept q_isKept c_typed c_rowMany (0 : Int32) c_length c_at c_wrong c_outerMany c_walkedMany c_cameOut c_undoMany c_drawn c_now c_undos c_was v2 v3 v4 h2) cv_X8_162 ⟨⟨by decide, by decide⟩, rfl, rfl⟩ 0 rfl rfl [0, 1, 2, 3] rfl rfl rfl rfl rfl rfl (Nat.le_of_ble_eq_true rfl) ⟨Nat.zero_le _, Nat.zero_le _⟩ dX8_amounts_23 ?_
    refine ww_aload_n (pc := 26) C dX8_amounts_26 rfl 1 rfl ?_
    refine ww_iload_n (pc := 27) C dX8_amounts_27 rfl 2 rfl ?_
    refine ww_iload_n (pc := 28) C dX8_amounts_28 rfl 3 rfl ?_
    obtain ⟨v5, h5, hf⟩ := bsome hf
    refine ww_callVi0 (pc := 29) (As := [.int x1, .int x2]) (rest := []) C (tX8_amount l D k q_this q_now q_text q_row q_read q_outerCell q_outerDoor q_walked q_onWalks q_far q_aside q_wasFull q_undos q_was q_kept q_isKept c_typed c_rowMany (0 : Int32) c_length c_at c_wrong c_outerMany c_walkedMany c_cameOut v2 c_drawn c_now x1 x2 v5 h5) cv_X8_91 ⟨⟨by decide, by decide⟩, rfl, rfl⟩ 0 rfl rfl [0, 1] rfl rfl rfl rfl (Nat.le_of_ble_eq_true rfl) ⟨Nat.zero_le _, Nat.zero_le _⟩ dX8_amounts_29 (fun hb5 => ?_)
    refine ww_istore (pc := 32) (lv' := [(5, .int v5), (4, .int v1), (0, .ref q_this), (1, .int x1), (2, .int x2), (3, .int x3)]) C dX8_amounts_32 (by decide) rfl ?_
    refine ww_aload_n (pc := 34) C dX8_amounts_34 rfl 2 rfl ?_
    refine ww_iload_n (pc := 35) C dX8_amounts_35 rfl 3 rfl ?_
    refine ww_iload_n (pc := 36) C dX8_amounts_36 rfl 4 rfl ?_
    refine ww_iload_n (pc := 37) C dX8_amounts_37 rfl 5 rfl ?_
    obtain ⟨v6, h6, hf⟩ := bsome hf
    refine ww_callVv (pc := 38) (ws' := [oX8 q_this q_now q_text c_typed q_row c_rowMany (0 : Int32) c_length c_at c_wrong q_read q_outerCell q_outerDoor c_outerMany q_walked c_walkedMany c_cameOut q_onWalks q_far q_aside q_wasFull q_undos q_was v2 c_drawn q_kept q_isKept, aI k q_now 189 v6, aI k q_undos 1512 v3, aI k q_was 189 v4]) (As := [.int x1, .int x2, .int x3]) (rest := []) C (tX8_goAmount l D k q_this q_now q_text q_row q_read q_outerCell q_outerDoor q_walked q_onWalks q_far q_aside q_wasFull q_undos q_was q_kept q_isKept c_typed c_rowMany (0 : Int32) c_length c_at c_wrong c_outerMany c_walkedMany c_cameOut v2 c_drawn c_now x1 x2 x3 v6 h6) cv_X8_334 ⟨⟨by decide, by decide⟩, rfl, rfl⟩ 0 rfl rfl [0, 1] rfl rfl rfl rfl rfl rfl (Nat.le_of_ble_eq_true rfl) ⟨Nat.zero_le _, Nat.zero_le _⟩ dX8_amounts_38 ?_
    refine ww_iload (pc := 41) C dX8_amounts_41 0 rfl ?_
    obtain ⟨e0, e1, e2, e3, e4, e5⟩ := ij6 hf
    exact hret _ _ 43 _ dX8_amounts_43 rfl e0 (by rw [← e1, ← e2, ← e3, ← e4, ← e5])
  · have hf := ifF hc hf
    refine ww_iload (pc := 19) C dX8_amounts_19 0 rfl ?_
    obtain ⟨e0, e1, e2, e3, e4, e5⟩ := ij6 hf
    exact hret _ _ 21 _ dX8_amounts_21 rfl e0 (by rw [← e1, ← e2, ← e3, ← e4, ← e5])
def fX8_readAct_b124 (c_length : Int32) (c_text : Nat → Int32) (rc86 : Int32 → Int32 → (Nat → Int32) → Int32 → Int32 → Int32 → Int32 → Option (Int32 × Int32 × (Nat → Int32))) (c_at : Int32) (c_wrong : Int32) (c_read : Nat → Int32) (n1 : Int32) (n2 : Int32) (n3 : Int32) (n4 : Int32) (s1 : Int32) (s3 : Int32) : Option (Int32 × Int32 × (Nat → Int32)) := bd3 (fX8_digits c_length c_text c_at c_wrong s3) fun v1 v2 v3 => (ast 720 s1 c_read v1).bind fun v4 => (some (n4 + (1 : Int32))).bind fun v5 => rc86 v2 v3 v4 n1 n2 n3 v5
def fX8_readAct_b123 (c_length : Int32) (c_text : Nat → Int32) (rc86 : Int32 → Int32 → (Nat → Int32) → Int32 → Int32 → Int32 → Int32 → Option (Int32 × Int32 × (Nat → Int32))) (c_at : Int32) (c_wrong : Int32) (c_read : Nat → Int32) (n1 : Int32) (n2 : Int32) (n3 : Int32) (n4 : Int32) (s1 : Int32) : Option (Int32 × Int32 × (Nat → Int32)) := fX8_readAct_b124 c_length c_text rc86 c_at c_wrong c_read n1 n2 n3 n4 s1 (2 : Int32)
def fX8_readAct_b119 (c_length : Int32) (c_text : Nat → Int32) (rc86 : Int32 → Int32 → (Nat → Int32) → Int32 → Int32 → Int32 → Int32 → Option (Int32 × Int32 × (Nat → Int32))) (c_at : Int32) (c_wrong : Int32) (c_read : Nat → Int32) (n1 : Int32) (n2 : Int32) (n3 : Int32) (n4 : Int32) (s1 : Int32) : Option (Int32 × Int32 × (Nat → Int32)) := fX8_readAct_b124 c_length c_text rc86 c_at c_wrong c_read n1 n2 n3 n4 s1 (1 : Int32)
def fX8_readAct_b86 (c_length : Int32) (c_text : Nat → Int32) (rc86 : Int32 → Int32 → (Nat → Int32) → Int32 → Int32 → Int32 → Int32 → Option (Int32 × Int32 × (Nat → Int32))) (c_at : Int32) (c_wrong : Int32) (c_read : Nat → Int32) (n1 : Int32) (n2 : Int32) (n3 : Int32) (n4 : Int32) : Option (Int32 × Int32 × (Nat → Int32)) := if n3 < n4 then some (c_at, c_wrong, c_read) else if n2 = (97 : Int32) then fX8_readAct_b119 c_length c_text rc86 c_at c_wrong c_read n1 n2 n3 n4 (n1 + n4) else if n2 = (108 : Int32) then if n4 = (3 : Int32) then fX8_readAct_b119 c_length c_text rc86 c_at c_wrong c_read n1 n2 n3 n4 (n1 + n4) else fX8_readAct_b123 c_length c_text rc86 c_at c_wrong c_read n1 n2 n3 n4 (n1 + n4) else fX8_readAct_b123 c_length c_text rc86 c_at c_wrong c_read n1 n2 n3 n4 (n1 + n4)
def fX8_readAct_b82 (c_length : Int32) (c_text : Nat → Int32) (c_at : Int32) (c_wrong : Int32) (c_read : Nat → Int32) (n1 : Int32) (n2 : Int32) (s0 : Int32) : Option (Int32 × Int32 × (Nat → Int32)) := lfix (fX8_readAct_b86 c_length c_text) (fun _ _ _ _ _ _ _ => none) FU c_at c_wrong c_read n1 n2 s0 (1 : Int32)
def fX8_readAct_b67 (c_length : Int32) (c_text : Nat → Int32) (c_at : Int32) (c_wrong : Int32) (c_read : Nat → Int32) (n1 : Int32) (n2 : Int32) : Option (Int32 × Int32 × (Nat → Int32)) := fX8_readAct_b82 c_length c_text c_at c_wrong c_read n1 n2 (3 : Int32)
def fX8_readAct_b38 (c_length : Int32) (c_text : Nat → Int32) (c_at : Int32) (c_wrong : Int32) (c_read : Nat → Int32) (n1 : Int32) (n2 : Int32) : Option (Int32 × Int32 × (Nat → Int32)) := (some (c_at + (1 : Int32))).bind fun v1 => (ast 720 n1 c_read n2).bind fun v2 => if n2 = (108 : Int32) then fX8_readAct_b67 c_length c_text v1 c_wrong v2 n1 n2 else if n2 = (97 : Int32) then fX8_readAct_b67 c_length c_text v1 c_wrong v2 n1 n2 else if n2 = (103 : Int32) then fX8_readAct_b82 c_length c_text v1 c_wrong v2 n1 n2 (1 : Int32) else fX8_readAct_b82 c_length c_text v1 c_wrong v2 n1 n2 (4 : Int32)
def fX8_readAct (c_length : Int32) (c_text : Nat → Int32) (c_at : Int32) (c_wrong : Int32) (c_read : Nat → Int32) (x1 : Int32) : Option (Int32 × Int32 × (Nat → Int32)) := (fX8_here c_at c_length c_text).bind fun v1 => if v1 = (108 : Int32) then fX8_readAct_b38 c_length c_text c_at c_wrong c_read x1 v1 else if v1 = (103 : Int32) then fX8_readAct_b38 c_length c_text c_at c_wrong c_read x1 v1 else if v1 = (115 : Int32) then fX8_readAct_b38 c_length c_text c_at c_wrong c_read x1 v1 else if v1 = (97 : Int32) then fX8_readAct_b38 c_length c_text c_at c_wrong c_read x1 v1 else (fX8_fault c_wrong c_at).bind fun v2 => some (c_at, v2, c_read)
set_option maxHeartbeats 4000000 in
set_option maxRecDepth 100000 in
theorem tX8_readAct (l : Launch) (D : va_G) (k : Nat → ClassId) (q_this q_now q_text q_row q_read q_outerCell q_outerDoor q_walked q_onWalks q_far q_aside q_wasFull q_undos q_was q_kept q_isKept : Nat) (c_typed : Int32) (c_rowMany : Int32) (c_thrown : Int32) (c_length : Int32) (c_at : Int32) (c_wrong : Int32) (c_outerMany : Int32) (c_walkedMany : Int32) (c_cameOut : Int32) (c_undoMany : Int32) (c_drawn : Int32) (c_read : Nat → Int32) (c_text : Nat → Int32) (x1 : Int32) (w_at : Int32) (w_wrong : Int32) (w_read : Nat → Int32) (hf : fX8_readAct c_length c_text c_at c_wrong c_read x1 = some (w_at, w_wrong, w_read)) : MV l yX8_readAct cX8_readAct 5 (RM 4 86) D k [.ref q_this, .int x1] [oX8 q_this q_now q_text c_typed q_row c_rowMany c_thrown c_length c_at c_wrong q_read q_outerCell q_outerDoor c_outerMany q_walked c_walkedMany c_cameOut q_onWalks q_far q_aside q_wasFull q_undos q_was c_undoMany c_drawn q_kept q_isKept, aI k q_read 720 c_read, aB k q_text 80 c_text] [oX8 q_this q_now q_text c_typed q_row c_rowMany c_thrown c_length w_at w_wrong q_read q_outerCell q_outerDoor c_outerMany q_walked c_walkedMany c_cameOut q_onWalks q_far q_aside q_wasFull q_undos q_was c_undoMany c_drawn q_kept q_isKept, aI k q_read 720 w_read, aB k q_text 80 c_text] := by
  refine mkMV' (own := "DoorWalkModel") (by decide) rfl (Nat.le_of_ble_eq_true rfl) ?_
  intro p e s m args below meth c Q A hret C
  refine ww_lv (lv' := [(0, .ref q_this), (1, .int x1)]) [0, 1] rfl ?_
  have hL86 : ∀ (n : Nat) (c_at : Int32) (c_wrong : Int32) (c_read : Nat → Int32) (n1 : Int32) (n2 : Int32) (n3 : Int32) (n4 : Int32), lfix (fX8_readAct_b86 c_length c_text) (fun _ _ _ _ _ _ _ => none) n c_at c_wrong c_read n1 n2 n3 n4 = some (w_at, w_wrong, w_read) → WW p l e (RM 4 86) s m args below meth c Q 5 D A 0 0 [oX8 q_this q_now q_text c_typed q_row c_rowMany c_thrown c_length c_at c_wrong q_read q_outerCell q_outerDoor c_outerMany q_walked c_walkedMany c_cameOut q_onWalks q_far q_aside q_wasFull q_undos q_was c_undoMany c_drawn q_kept q_isKept, aI k q_read 720 c_read, aB k q_text 80 c_text] [(0, .ref q_this), (1, .int n1), (2, .int n2), (3, .int n3), (4, .int n4)] 86 [] := by
    intro n
    induction n with
    | zero => intro c_at c_wrong c_read n1 n2 n3 n4 hf; cases hf
    | succ n ih86 =>
      obtain ⟨rc86, hrc86⟩ : ∃ f9, f9 = lfix (fX8_readAct_b86 c_length c_text) (fun _ _ _ _ _ _ _ => none) n := ⟨_, rfl⟩
      rw [← hrc86] at ih86
      have hJ124 : ∀ (c_at : Int32) (c_wrong : Int32) (c_read : Nat → Int32) (n1 : Int32) (n2 : Int32) (n3 : Int32) (n4 : Int32) (s1 : Int32) (s3 : Int32), fX8_readAct_b124 c_length c_text rc86 c_at c_wrong c_read n1 n2 n3 n4 s1 s3 = some (w_at, w_wrong, w_read) → WW p l e (RM 4 86) s m args below meth c Q 5 D A 0 0 [oX8 q_this q_now q_text c_typed q_row c_rowMany c_thrown c_length c_at c_wrong q_read q_outerCell q_outerDoor c_outerMany q_walked c_walkedMany c_cameOut q_onWalks q_far q_aside q_wasFull q_undos q_was c_undoMany c_drawn q_kept q_isKept, aI k q_read 720 c_read, aB k q_text 80 c_text] [(0, .ref q_this), (1, .int n1), (2, .int n2), (3, .int n3), (4, .int n4)] 124 [.int s3, .ref q_this, .int s1, .ref q_read] := by
        intro c_at c_wrong c_read n1 n2 n3 n4 s1 s3
        intro hf
        unfold fX8_readAct_b124 at hf
        obtain ⟨v1, v2, v3, h1, hf⟩ := bd3_some hf
        refine ww_callVi (pc := 124) (ws' := [oX8 q_this q_now q_text c_typed q_row c_rowMany c_thrown c_length v2 v3 q_read q_outerCell q_outerDoor c_outerMany q_walked c_walkedMany c_cameOut q_onWalks q_far q_aside q_wasFull q_undos q_was c_undoMany c_drawn q_kept q_isKept, aI k q_read 720 c_read, aB k q_text 80 c_text]) (As := [.int s3]) (rest := [.int s1, .ref q_read]) C (tX8_digits l D k q_this q_now q_text q_row q_read q_outerCell q_outerDoor q_walked q_onWalks q_far q_aside q_wasFull q_undos q_was q_kept q_isKept c_typed c_rowMany c_thrown c_length c_at c_wrong c_outerMany c_walkedMany c_cameOut c_undoMany c_drawn c_text s3 v1 v2 v3 h1) cv_X8_156 ⟨⟨by decide, by decide⟩, rfl, rfl⟩ 0 rfl rfl [0, 2] rfl rfl rfl rfl rfl rfl (Nat.le_of_ble_eq_true rfl) ⟨Nat.zero_le _, Nat.zero_le _⟩ dX8_readAct_124 (fun hb1 => ?_)
        obtain ⟨v4, h4, hf⟩ := bsome hf
        refine ww_iast (pc := 127) (ws' := [oX8 q_this q_now q_text c_typed q_row c_rowMany c_thrown c_length v2 v3 q_read q_outerCell q_outerDoor c_outerMany q_walked c_walkedMany c_cameOut q_onWalks q_far q_aside q_wasFull q_undos q_was c_undoMany c_drawn q_kept q_isKept, aI k q_read 720 v4, aB k q_text 80 c_text]) C 1 rfl h4 rfl dX8_readAct_127 ?_
        obtain ⟨v5, h5, hf⟩ := bsome hf
        refine ww_iincN (pc := 128) (lv' := [(4, .int v5), (0, .ref q_this), (1, .int n1), (2, .int n2), (3, .int n3)]) (j := 4) C dX8_readAct_128 kI_1 rfl h5 (by decide) rfl ?_
        refine ww_goto (pc := 131) (tgt := 86) C dX8_readAct_131 (by decide) ?_
        exact ww_lv [1, 2, 3, 4, 0] rfl (ih86 v2 v3 v4 n1 n2 n3 v5 hf)
      have hJ123 : ∀ (c_at : Int32) (c_wrong : Int32) (c_read : Nat → Int32) (n1 : Int32) (n2 : Int32) (n3 : Int32) (n4 : Int32) (s1 : Int32), fX8_readAct_b123 c_length c_text rc86 c_at c_wrong c_read n1 n2 n3 n4 s1 = some (w_at, w_wrong, w_read) → WW p l e (RM 4 86) s m args below meth c Q 5 D A 0 0 [oX8 q_this q_now q_text c_typed q_row c_rowMany c_thrown c_length c_at c_wrong q_read q_outerCell q_outerDoor c_outerMany q_walked c_walkedMany c_cameOut q_onWalks q_far q_aside q_wasFull q_undos q_was c_undoMany c_drawn q_kept q_isKept, aI k q_read 720 c_read, aB k q_text 80 c_text] [(0, .ref q_this), (1, .int n1), (2, .int n2), (3, .int n3), (4, .int n4)] 123 [.ref q_this, .int s1, .ref q_read] := by
        intro c_at c_wrong c_read n1 n2 n3 n4 s1
        intro hf
        unfold fX8_readAct_b123 at hf
        refine ww_iconst (pc := 123) C dX8_readAct_123 kI_2 ?_
        exact hJ124 c_at c_wrong c_read n1 n2 n3 n4 s1 (2 : Int32) hf
      have hJ119 : ∀ (c_at : Int32) (c_wrong : Int32) (c_read : Nat → Int32) (n1 : Int32) (n2 : Int32) (n3 : Int32) (n4 : Int32) (s1 : Int32), fX8_readAct_b119 c_length c_text rc86 c_at c_wrong c_read n1 n2 n3 n4 s1 = some (w_at, w_wrong, w_read) → WW p l e (RM 4 86) s m args below meth c Q 5 D A 0 0 [oX8 q_this q_now q_text c_typed q_row c_rowMany c_thrown c_length c_at c_wrong q_read q_outerCell q_outerDoor c_outerMany q_walked c_walkedMany c_cameOut q_onWalks q_far q_aside q_wasFull q_undos q_was c_undoMany c_drawn q_kept q_isKept, aI k q_read 720 c_read, aB k q_text 80 c_text] [(0, .ref q_this), (1, .int n1), (2, .int n2), (3, .int n3), (4, .int n4)] 119 [.ref q_this, .int s1, .ref q_read] := by
        intro c_at c_wrong c_read n1 n2 n3 n4 s1
        intro hf
        unfold fX8_readAct_b119 at hf
        refine ww_iconst (pc := 119) C dX8_readAct_119 kI_1 ?_
        refine ww_goto (pc := 120) (tgt := 124) C dX8_readAct_120 (by decide) ?_
        exact hJ124 c_at c_wrong c_read n1 n2 n3 n4 s1 (1 : Int32) hf
      intro c_at c_wrong c_read n1 n2 n3 n4 hf
      have hf : fX8_readAct_b86 c_length c_text rc86 c_at c_wrong c_read n1 n2 n3 n4 = some (w_at, w_wrong, w_read) := by rw [hrc86]; exact hf
      unfold fX8_readAct_b86 at hf
      refine ww_iload (pc := 86) C dX8_readAct_86 4 rfl ?_
      refine ww_iload_n (pc := 88) C dX8_readAct_88 rfl 3 rfl ?_
      refine ww_icmp_gt (pc := 89) (tgt := 134) C dX8_readAct_89 (by decide) (fun hc => ?_) (fun hc => ?_)
      · have hf := ifT hc hf
        obtain ⟨e0, e1, e2⟩ := ij3 hf
        exact hret _ _ 134 dX8_readAct_134 (by rw [← e0, ← e1, ← e2])
      · have hf := ifF hc hf
        refine ww_aload_n (pc := 92) C dX8_readAct_92 rfl 0 rfl ?_
        refine gf8_9 (pc := 93) C kf_X8_21 0 rfl rfl dX8_readAct_93 ?_
        refine ww_iload_n (pc := 96) C dX8_readAct_96 rfl 1 rfl ?_
        refine ww_iload (pc := 97) C dX8_readAct_97 4 rfl ?_
        refine ww_iadd (pc := 99) C dX8_readAct_99  ?_
        refine ww_aload_n (pc := 100) C dX8_readAct_100 rfl 0 rfl ?_
        refine ww_iload_n (pc := 101) C dX8_readAct_101 rfl 2 rfl ?_
        refine ww_bipush (pc := 102) C dX8_readAct_102 kB_97 ?_
        refine ww_icmp_eq (pc := 104) (tgt := 119) C dX8_readAct_104 (by decide) (fun hc => ?_) (fun hc => ?_)
        · have hf := ifT hc hf
          exact hJ119 c_at c_wrong c_read n1 n2 n3 n4 (n1 + n4) hf
        · have hf := ifF hc hf
          refine ww_iload_n (pc := 107) C dX8_readAct_107 rfl 2 rfl ?_
          refine ww_bipush (pc := 108) C dX8_readAct_108 kB_108 ?_
          refine ww_icmp_ne (pc := 110) (tgt := 123) C dX8_readAct_110 (by decide) (fun hc => ?_) (fun hc => ?_)
          · have hf := ifF hc hf
            exact hJ123 c_at c_wrong c_read n1 n2 n3 n4 (n1 + n4) hf
          · have hf := ifT hc hf
            refine ww_iload (pc := 113) C dX8_readAct_113 4 rfl ?_
            refine ww_iconst (pc := 115) C dX8_readAct_115 kI_3 ?_
            refine ww_icmp_ne (pc := 116) (tgt := 123) C dX8_readAct_116 (by decide) (fun hc => ?_) (fun hc => ?_)
            · have hf := ifF hc hf
              exact hJ123 c_at c_wrong c_read n1 n2 n3 n4 (n1 + n4) hf
            · have hf := ifT hc hf
              exact hJ119 c_at c_wrong c_read n1 n2 n3 n4 (n1 + n4) hf
  have hJ82 : ∀ (c_at : Int32) (c_wrong : Int32) (c_read : Nat → Int32) (n1 : Int32) (n2 : Int32) (s0 : Int32), fX8_readAct_b82 c_length c_text c_at c_wrong c_read n1 n2 s0 = some (w_at, w_wrong, w_read) → WW p l e (RM 4 86) s m args below meth c Q 5 D A 0 0 [oX8 q_this q_now q_text c_typed q_row c_rowMany c_thrown c_length c_at c_wrong q_read q_outerCell q_outerDoor c_outerMany q_walked c_walkedMany c_cameOut q_onWalks q_far q_aside q_wasFull q_undos q_was c_undoMany c_drawn q_kept q_isKept, aI k q_read 720 c_read, aB k q_text 80 c_text] [(0, .ref q_this), (1, .int n1), (2, .int n2)] 82 [.int s0] := by
    intro c_at c_wrong c_read n1 n2 s0
    intro hf
    unfold fX8_readAct_b82 at hf
    refine ww_istore_n (pc := 82) (lv' := [(3, .int s0), (0, .ref q_this), (1, .int n1), (2, .int n2)]) C dX8_readAct_82 rfl (by decide) rfl ?_
    refine ww_iconst (pc := 83) C dX8_readAct_83 kI_1 ?_
    refine ww_istore (pc := 84) (lv' := [(4, .int (1 : Int32)), (3, .int s0), (0, .ref q_this), (1, .int n1), (2, .int n2)]) C dX8_readAct_84 (by decide) rfl ?_
    exact ww_lv [2, 3, 4, 1, 0] rfl (hL86 FU c_at c_wrong c_read n1 n2 s0 (1 : Int32) hf)
  have hJ67 : ∀ (c_at : Int32) (c_wrong : Int32) (c_read : Nat → Int32) (n1 : Int32) (n2 : Int32), fX8_readAct_b67 c_length c_text c_at c_wrong c_read n1 n2 = some (w_at, w_wrong, w_read) → WW p l e (RM 4 86) s m args below meth c Q 5 D A 0 0 [oX8 q_this q_now q_text c_typed q_row c_rowMany c_thrown c_length c_at c_wrong q_read q_outerCell q_outerDoor c_outerMany q_walked c_walkedMany c_cameOut q_onWalks q_far q_aside q_wasFull q_undos q_was c_undoMany c_drawn q_kept q_isKept, aI k q_read 720 c_read, aB k q_text 80 c_text] [(0, .ref q_this), (1, .int n1), (2, .int n2)] 67 [] := by
    intro c_at c_wrong c_read n1 n2
    intro hf
    unfold fX8_readAct_b67 at hf
    refine ww_iconst (pc := 67) C dX8_readAct_67 kI_3 ?_
    refine ww_goto (pc := 68) (tgt := 82) C dX8_readAct_68 (by decide) ?_
    exact hJ82 c_at c_wrong c_read n1 n2 (3 : Int32) hf
  have hJ38 : ∀ (c_at : Int32) (c_wrong : Int32) (c_read : Nat → Int32) (n1 : Int32) (n2 : Int32), fX8_readAct_b38 c_length c_text c_at c_wrong c_read n1 n2 = some (w_at, w_wrong, w_read) → WW p l e (RM 4 86) s m args below meth c Q 5 D A 0 0 [oX8 q_this q_now q_text c_typed q_row c_rowMany c_thrown c_length c_at c_wrong q_read q_outerCell q_outerDoor c_outerMany q_walked c_walkedMany c_cameOut q_onWalks q_far q_aside q_wasFull q_undos q_was c_undoMany c_drawn q_kept q_isKept, aI k q_read 720 c_read, aB k q_text 80 c_text] [(0, .ref q_this), (1, .int n1), (2, .int n2)] 38 [] := by
    intro c_at c_wrong c_read n1 n2
    intro hf
    unfold fX8_readAct_b38 at hf
    refine ww_aload_n (pc := 38) C dX8_readAct_38 rfl 0 rfl ?_
    refine ww_dup (pc := 39) C dX8_readAct_39 rfl ?_
    refine gf8_7 (pc := 40) C kf_X8_132 0 rfl rfl dX8_readAct_40 ?_
    refine ww_iconst (pc := 43) C dX8_readAct_43 kI_1 ?_
    refine ww_iadd (pc := 44) C dX8_readAct_44  ?_
    obtain ⟨v1, h1, hf⟩ := bsome hf
    refine ww_nmi h1 ?_
    refine pf8_7 (pc := 45) (ws' := [oX8 q_this q_now q_text c_typed q_row c_rowMany c_thrown c_length v1 c_wrong q_read q_outerCell q_outerDoor c_outerMany q_walked c_walkedMany c_cameOut q_onWalks q_far q_aside q_wasFull q_undos q_was c_undoMany c_drawn q_kept q_isKept, aI k q_read 720 c_read, aB k q_text 80 c_text]) C kf_X8_132 0 rfl (Nat.le_of_ble_eq_true rfl) rfl dX8_readAct_45 ?_
    refine ww_aload_n (pc := 48) C dX8_readAct_48 rfl 0 rfl ?_
    refine gf8_9 (pc := 49) C kf_X8_21 0 rfl rfl dX8_readAct_49 ?_
    refine ww_iload_n (pc := 52) C dX8_readAct_52 rfl 1 rfl ?_
    refine ww_iload_n (pc := 53) C dX8_readAct_53 rfl 2 rfl ?_
    obtain ⟨v2, h2, hf⟩ := bsome hf
    refine ww_iast (pc := 54) (ws' := [oX8 q_this q_now q_text c_typed q_row c_rowMany c_thrown c_length v1 c_wrong q_read q_outerCell q_outerDoor c_outerMany q_walked c_walkedMany c_cameOut q_onWalks q_far q_aside q_wasFull q_undos q_was c_undoMany c_drawn q_kept q_isKept, aI k q_read 720 v2, aB k q_text 80 c_text]) C 1 rfl h2 rfl dX8_readAct_54 ?_
    refine ww_iload_n (pc := 55) C dX8_readAct_55 rfl 2 rfl ?_
    refine ww_bipush (pc := 56) C dX8_readAct_56 kB_108 ?_
    refine ww_icmp_eq (pc := 58) (tgt := 67) C dX8_readAct_58 (by decide) (fun hc => ?_) (fun hc => ?_)
    · have hf := ifT hc hf
      exact hJ67 v1 c_wrong v2 n1 n2 hf
    · have hf := ifF hc hf
      refine ww_iload_n (pc := 61) C dX8_readAct_61 rfl 2 rfl ?_
      refine ww_bipush (pc := 62) C dX8_readAct_62 kB_97 ?_
      refine ww_icmp_ne (pc := 64) (tgt := 71) C dX8_readAct_64 (by decide) (fun hc => ?_) (fun hc => ?_)
      · have hf := ifF hc hf
        refine ww_iload_n (pc := 71) C dX8_readAct_71 rfl 2 rfl ?_
        refine ww_bipush (pc := 72) C dX8_readAct_72 kB_103 ?_
        refine ww_icmp_ne (pc := 74) (tgt := 81) C dX8_readAct_74 (by decide) (fun hc => ?_) (fun hc => ?_)
        · have hf := ifF hc hf
          refine ww_iconst (pc := 81) C dX8_readAct_81 kI_4 ?_
          exact hJ82 v1 c_wrong v2 n1 n2 (4 : Int32) hf
        · have hf := ifT hc hf
          refine ww_iconst (pc := 77) C dX8_readAct_77 kI_1 ?_
          refine ww_goto (pc := 78) (tgt := 82) C dX8_readAct_78 (by decide) ?_
          exact hJ82 v1 c_wrong v2 n1 n2 (1 : Int32) hf
      · have hf := ifT hc hf
        exact hJ67 v1 c_wrong v2 n1 n2 hf
  unfold fX8_readAct at hf
  refine ww_aload_n (pc := 0) C dX8_readAct_0 rfl 0 rfl ?_
  obtain ⟨v1, h1, hf⟩ := bsome hf
  refine ww_callVi0 (pc := 1) (As := []) (rest := []) C (tX8_here l D k q_this q_now q_text q_row q_read q_outerCell q_outerDoor q_walked q_onWalks q_far q_aside q_wasFull q_undos q_was q_kept q_isKept c_typed c_rowMany c_thrown c_length c_at c_wrong c_outerMany c_walkedMany c_cameOut c_undoMany c_drawn c_text v1 h1) cv_X8_142 ⟨⟨by decide, by decide⟩, rfl, rfl⟩ 0 rfl rfl [0, 2] rfl rfl rfl rfl (Nat.le_of_ble_eq_true rfl) ⟨Nat.zero_le _, Nat.zero_le _⟩ dX8_readAct_1 (fun hb1 => ?_)
  refine ww_istore_n (pc := 4) (lv' := [(2, .int v1), (0, .ref q_this), (1, .int x1)]) C dX8_readAct_4 rfl (by decide) rfl ?_
  refine ww_iload_n (pc := 5) C dX8_readAct_5 rfl 0 rfl ?_
  refine ww_bipush (pc := 6) C dX8_readAct_6 kB_108 ?_
  refine ww_icmp_eq (pc := 8) (tgt := 38) C dX8_readAct_8 (by decide) (fun hc => ?_) (fun hc => ?_)
  · have hf := ifT hc hf
    exact ww_lv [1, 2, 0] rfl (hJ38 c_at c_wrong c_read x1 v1 hf)
  · have hf := ifF hc hf
    refine ww_iload_n (pc := 11) C dX8_readAct_11 rfl 0 rfl ?_
    refine ww_bipush (pc := 12) C dX8_readAct_12 kB_103 ?_
    refine ww_icmp_eq (pc := 14) (tgt := 38) C dX8_readAct_14 (by decide) (fun hc => ?_) (fun hc => ?_)
    · have hf := ifT hc hf
      exact ww_lv [1, 2, 0] rfl (hJ38 c_at c_wrong c_read x1 v1 hf)
    · have hf := ifF hc hf
      refine ww_iload_n (pc := 17) C dX8_readAct_17 rfl 0 rfl ?_
      refine ww_bipush (pc := 18) C dX8_readAct_18 kB_115 ?_
      refine ww_icmp_eq (pc := 20) (tgt := 38) C dX8_readAct_20 (by decide) (fun hc => ?_) (fun hc => ?_)
      · have hf := ifT hc hf
        exact ww_lv [1, 2, 0] rfl (hJ38 c_at c_wrong c_read x1 v1 hf)
      · have hf := ifF hc hf
        refine ww_iload_n (pc := 23) C dX8_readAct_23 rfl 0 rfl ?_
        refine ww_bipush (pc := 24) C dX8_readAct_24 kB_97 ?_
        refine ww_icmp_eq (pc := 26) (tgt := 38) C dX8_readAct_26 (by decide) (fun hc => ?_) (fun hc => ?_)
        · have hf := ifT hc hf
          exact ww_lv [1, 2, 0] rfl (hJ38 c_at c_wrong c_read x1 v1 hf)
        · have hf := ifF hc hf
          refine ww_aload_n (pc := 29) C dX8_readAct_29 rfl 1 rfl ?_
          refine ww_aload_n (pc := 30) C dX8_readAct_30 rfl 1 rfl ?_
          refine gf8_7 (pc := 31) C kf_X8_132 0 rfl rfl dX8_readAct_31 ?_
          obtain ⟨v2, h2, hf⟩ := bsome hf
          refine ww_callVv (pc := 34) (ws' := [oX8 q_this q_now q_text c_typed q_row c_rowMany c_thrown c_length c_at v2 q_read q_outerCell q_outerDoor c_outerMany q_walked c_walkedMany c_cameOut q_onWalks q_far q_aside q_wasFull q_undos q_was c_undoMany c_drawn q_kept q_isKept, aI k q_read 720 c_read, aB k q_text 80 c_text]) (As := [.int c_at]) (rest := []) C (tX8_fault l D k q_this q_now q_text q_row q_read q_outerCell q_outerDoor q_walked q_onWalks q_far q_aside q_wasFull q_undos q_was q_kept q_isKept c_typed c_rowMany c_thrown c_length c_at c_wrong c_outerMany c_walkedMany c_cameOut c_undoMany c_drawn c_at v2 h2) cv_X8_145 ⟨⟨by decide, by decide⟩, rfl, rfl⟩ 0 rfl rfl [0] rfl rfl rfl rfl rfl rfl (Nat.le_of_ble_eq_true rfl) ⟨Nat.zero_le _, Nat.zero_le _⟩ dX8_readAct_34 ?_
          obtain ⟨e0, e1, e2⟩ := ij3 hf
          exact hret _ _ 37 dX8_readAct_37 (by rw [← e0, ← e1, ← e2])
def fX8_act (c_read : Nat → Int32) (c_now : Nat → Int32) (x1 : Int32) : Option (Int32 × (Nat → Int32)) := (ald 720 (x1 + (1 : Int32)) c_read).bind fun v1 => (ald 720 (x1 + (2 : Int32)) c_read).bind fun v2 => (ald 720 (x1 + (3 : Int32)) c_read).bind fun v3 => (ald 720 (x1 + (4 : Int32)) c_read).bind fun v4 => (ald 720 x1 c_read).bind fun v5 => if v5 = (103 : Int32) then (fX8_refusesGrid c_now v1).bind fun v8 => if 0 ≤ v8 then (fX8_goGrid c_now v1).bind fun v9 => some ((1 : Int32), v9) else some ((0 : Int32), c_now) else if v5 = (108 : Int32) then (fX8_refusesLay c_now v1 v2 v3).bind fun v10 => if 0 ≤ v10 then (fX8_goLay c_now v1 v2 v3).bind fun v11 => some ((1 : Int32), v11) else some ((0 : Int32), c_now) else if v5 = (115 : Int32) then (fX8_refusesSwap c_now v1 v2 v3 v4).bind fun v12 => if 0 ≤ v12 then (fX8_goSwap c_now v1 v2 v3 v4).bind fun v13 => some ((1 : Int32), v13) else some ((0 : Int32), c_now) else (fX8_refusesAmount c_now v1 v2 v3).bind fun v6 => if 0 ≤ v6 then (fX8_goAmount c_now v1 v2 v3).bind fun v7 => some ((1 : Int32), v7) else some ((0 : Int32), c_now)
set_option maxHeartbeats 4000000 in
set_option maxRecDepth 100000 in
theorem tX8_act (l : Launch) (D : va_G) (k : Nat → ClassId) (q_this q_now q_text q_row q_read q_outerCell q_outerDoor q_walked q_onWalks q_far q_aside q_wasFull q_undos q_was q_kept q_isKept : Nat) (c_typed : Int32) (c_rowMany : Int32) (c_thrown : Int32) (c_length : Int32) (c_at : Int32) (c_wrong : Int32) (c_outerMany : Int32) (c_walkedMany : Int32) (c_cameOut : Int32) (c_undoMany : Int32) (c_drawn : Int32) (c_now : Nat → Int32) (c_read : Nat → Int32) (x1 : Int32) (r_ : Int32) (w_now : Nat → Int32) (hf : fX8_act c_read c_now x1 = some (r_, w_now)) : MI l yX8_act cX8_act 6 .boolean (RM 7 164) D k [.ref q_this, .int x1] [oX8 q_this q_now q_text c_typed q_row c_rowMany c_thrown c_length c_at c_wrong q_read q_outerCell q_outerDoor c_outerMany q_walked c_walkedMany c_cameOut q_onWalks q_far q_aside q_wasFull q_undos q_was c_undoMany c_drawn q_kept q_isKept, aI k q_now 189 c_now, aI k q_read 720 c_read] r_ [oX8 q_this q_now q_text c_typed q_row c_rowMany c_thrown c_length c_at c_wrong q_read q_outerCell q_outerDoor c_outerMany q_walked c_walkedMany c_cameOut q_onWalks q_far q_aside q_wasFull q_undos q_was c_undoMany c_drawn q_kept q_isKept, aI k q_now 189 w_now, aI k q_read 720 c_read] := by
  refine mkMI' (own := "DoorWalkModel") (by decide) rfl (Nat.le_of_ble_eq_true rfl) ?_
  intro p e s m args below meth c Q A hret C
  refine ww_lv (lv' := [(0, .ref q_this), (1, .int x1)]) [0, 1] rfl ?_
  unfold fX8_act at hf
  refine ww_aload_n (pc := 0) C dX8_act_0 rfl 0 rfl ?_
  refine gf8_9 (pc := 1) C kf_X8_21 0 rfl rfl dX8_act_1 ?_
  refine ww_iload_n (pc := 4) C dX8_act_4 rfl 1 rfl ?_
  refine ww_iconst (pc := 5) C dX8_act_5 kI_1 ?_
  refine ww_iadd (pc := 6) C dX8_act_6  ?_
  obtain ⟨v1, h1, hf⟩ := bsome hf
  refine ww_iald (pc := 7) C 2 rfl h1 dX8_act_7 ?_
  refine ww_istore_n (pc := 8) (lv' := [(2, .int v1), (0, .ref q_this), (1, .int x1)]) C dX8_act_8 rfl (by decide) rfl ?_
  refine ww_aload_n (pc := 9) C dX8_act_9 rfl 1 rfl ?_
  refine gf8_9 (pc := 10) C kf_X8_21 0 rfl rfl dX8_act_10 ?_
  refine ww_iload_n (pc := 13) C dX8_act_13 rfl 2 rfl ?_
  refine ww_iconst (pc := 14) C dX8_act_14 kI_2 ?_
  refine ww_iadd (pc := 15) C dX8_act_15  ?_
  obtain ⟨v2, h2, hf⟩ := bsome hf
  refine ww_iald (pc := 16) C 2 rfl h2 dX8_act_16 ?_
  refine ww_istore_n (pc := 17) (lv' := [(3, .int v2), (2, .int v1), (0, .ref q_this), (1, .int x1)]) C dX8_act_17 rfl (by decide) rfl ?_
  refine ww_aload_n (pc := 18) C dX8_act_18 rfl 2 rfl ?_
  refine gf8_9 (pc := 19) C kf_X8_21 0 rfl rfl dX8_act_19 ?_
  refine ww_iload_n (pc := 22) C dX8_act_22 rfl 3 rfl ?_
  refine ww_iconst (pc := 23) C dX8_act_23 kI_3 ?_
  refine ww_iadd (pc := 24) C dX8_act_24  ?_
  obtain ⟨v3, h3, hf⟩ := bsome hf
  refine ww_iald (pc := 25) C 2 rfl h3 dX8_act_25 ?_
  refine ww_istore (pc := 26) (lv' := [(4, .int v3), (3, .int v2), (2, .int v1), (0, .ref q_this), (1, .int x1)]) C dX8_act_26 (by decide) rfl ?_
  refine ww_aload_n (pc := 28) C dX8_act_28 rfl 3 rfl ?_
  refine gf8_9 (pc := 29) C kf_X8_21 0 rfl rfl dX8_act_29 ?_
  refine ww_iload_n (pc := 32) C dX8_act_32 rfl 4 rfl ?_
  refine ww_iconst (pc := 33) C dX8_act_33 kI_4 ?_
  refine ww_iadd (pc := 34) C dX8_act_34  ?_
  obtain ⟨v4, h4, hf⟩ := bsome hf
  refine ww_iald (pc := 35) C 2 rfl h4 dX8_act_35 ?_
  refine ww_istore (pc := 36) (lv' := [(5, .int v4), (4, .int v3), (3, .int v2), (2, .int v1), (0, .ref q_this), (1, .int x1)]) C dX8_act_36 (by decide) rfl ?_
  refine ww_aload_n (pc := 38) C dX8_act_38 rfl 4 rfl ?_
  refine gf8_9 (pc := 39) C kf_X8_21 0 rfl rfl dX8_act_39 ?_
  refine ww_iload_n (pc := 42) C dX8_act_42 rfl 5 rfl ?_
  obtain ⟨v5, h5, hf⟩ := bsome hf
  refine ww_iald (pc := 43) C 2 rfl h5 dX8_act_43 ?_
  by_cases hs0 : v5 = (103 : Int32)
  · have hf := ifT hs0 hf
    refine ww_lookup (pc := 44) (off := 59) (tgt := 103) C dX8_act_44 (by decide) (by rw [hs0]; rfl) (by decide) ?_
    refine ww_aload_n (pc := 103) C dX8_act_103 rfl 4 rfl ?_
    refine ww_iload_n (pc := 104) C dX8_act_104 rfl 3 rfl ?_
    obtain ⟨v8, h8, hf⟩ := bsome hf
    refine ww_callVi0 (pc := 105) (As := [.int v1]) (rest := []) C (tX8_refusesGrid l D k q_this q_now q_text q_row q_read q_outerCell q_outerDoor q_walked q_onWalks q_far q_aside q_wasFull q_undos q_was q_kept q_isKept c_typed c_rowMany c_thrown c_length c_at c_wrong c_outerMany c_walkedMany c_cameOut c_undoMany c_drawn c_now v1 v8 h8) cv_X8_321 ⟨⟨by decide, by decide⟩, rfl, rfl⟩ 0 rfl rfl [0, 1] rfl rfl rfl rfl (Nat.le_of_ble_eq_true rfl) ⟨Nat.zero_le _, Nat.zero_le _⟩ dX8_act_105 (fun hb8 => ?_)
    refine ww_if_ge (pc := 108) (tgt := 113) C dX8_act_108 (by decide) (fun hc => ?_) (fun hc => ?_)
    · have hf := ifT hc hf
      refine ww_aload_n (pc := 113) C dX8_act_113 rfl 4 rfl ?_
      refine ww_iload_n (pc := 114) C dX8_act_114 rfl 3 rfl ?_
      obtain ⟨v9, h9, hf⟩ := bsome hf
      refine ww_callVv (pc := 115) (ws' := [oX8 q_this q_now q_text c_typed q_row c_rowMany c_thrown c_length c_at c_wrong q_read q_outerCell q_outerDoor c_outerMany q_walked c_walkedMany c_cameOut q_onWalks q_far q_aside q_wasFull q_undos q_was c_undoMany c_drawn q_kept q_isKept, aI k q_now 189 v9, aI k q_read 720 c_read]) (As := [.int v1]) (rest := []) C (tX8_goGrid l D k q_this q_now q_text q_row q_read q_outerCell q_outerDoor q_walked q_onWalks q_far q_aside q_wasFull q_undos q_was q_kept q_isKept c_typed c_rowMany c_thrown c_length c_at c_wrong c_outerMany c_walkedMany c_cameOut c_undoMany c_drawn c_now v1 v9 h9) cv_X8_284 ⟨⟨by decide, by decide⟩, rfl, rfl⟩ 0 rfl rfl [0, 1] rfl rfl rfl rfl rfl rfl (Nat.le_of_ble_eq_true rfl) ⟨Nat.zero_le _, Nat.zero_le _⟩ dX8_act_115 ?_
      refine ww_iconst (pc := 118) C dX8_act_118 kI_1 ?_
      obtain ⟨e0, e1⟩ := ij2 hf
      exact hret _ _ 119 _ dX8_act_119 (by decide) e0 (by rw [← e1])
    · have hf := ifF hc hf
      refine ww_iconst (pc := 111) C dX8_act_111 kI_0 ?_
      obtain ⟨e0, e1⟩ := ij2 hf
      exact hret _ _ 112 _ dX8_act_112 (by decide) e0 (by rw [← e1])
  · have hf := ifF hs0 hf
    by_cases hs1 : v5 = (108 : Int32)
    · have hf := ifT hs1 hf
      refine ww_lookup (pc := 44) (off := 36) (tgt := 80) C dX8_act_44 (by decide) (by rw [lv_osw hs0 (by decide)]; rw [hs1]; rfl) (by decide) ?_
      refine ww_aload_n (pc := 80) C dX8_act_80 rfl 4 rfl ?_
      refine ww_iload_n (pc := 81) C dX8_act_81 rfl 3 rfl ?_
      refine ww_iload_n (pc := 82) C dX8_act_82 rfl 2 rfl ?_
      refine ww_iload (pc := 83) C dX8_act_83 1 rfl ?_
      obtain ⟨v10, h10, hf⟩ := bsome hf
      refine ww_callVi0 (pc := 85) (As := [.int v1, .int v2, .int v3]) (rest := []) C (tX8_refusesLay l D k q_this q_now q_text q_row q_read q_outerCell q_outerDoor q_walked q_onWalks q_far q_aside q_wasFull q_undos q_was q_kept q_isKept c_typed c_rowMany c_thrown c_length c_at c_wrong c_outerMany c_walkedMany c_cameOut c_undoMany c_drawn c_now v1 v2 v3 v10 h10) cv_X8_315 ⟨⟨by decide, by decide⟩, rfl, rfl⟩ 0 rfl rfl [0, 1] rfl rfl rfl rfl (Nat.le_of_ble_eq_true rfl) ⟨Nat.zero_le _, Nat.zero_le _⟩ dX8_act_85 (fun hb10 => ?_)
      refine ww_if_ge (pc := 88) (tgt := 93) C dX8_act_88 (by decide) (fun hc => ?_) (fun hc => ?_)
      · have hf := ifT hc hf
        refine ww_aload_n (pc := 93) C dX8_act_93 rfl 4 rfl ?_
        refine ww_iload_n (pc := 94) C dX8_act_94 rfl 3 rfl ?_
        refine ww_iload_n (pc := 95) C dX8_act_95 rfl 2 rfl ?_
        refine ww_iload (pc := 96) C dX8_act_96 1 rfl ?_
        obtain ⟨v11, h11, hf⟩ := bsome hf
        refine ww_callVv (pc := 98) (ws' := [oX8 q_this q_now q_text c_typed q_row c_rowMany c_thrown c_length c_at c_wrong q_read q_outerCell q_outerDoor c_outerMany q_walked c_walkedMany c_cameOut q_onWalks q_far q_aside q_wasFull q_undos q_was c_undoMany c_drawn q_kept q_isKept, aI k q_now 189 v11, aI k q_read 720 c_read]) (As := [.int v1, .int v2, .int v3]) (rest := []) C (tX8_goLay l D k q_this q_now q_text q_row q_read q_outerCell q_outerDoor q_walked q_onWalks q_far q_aside q_wasFull q_undos q_was q_kept q_isKept c_typed c_rowMany c_thrown c_length c_at c_wrong c_outerMany c_walkedMany c_cameOut c_undoMany c_drawn c_now v1 v2 v3 v11 h11) cv_X8_318 ⟨⟨by decide, by decide⟩, rfl, rfl⟩ 0 rfl rfl [0, 1] rfl rfl rfl rfl rfl rfl (Nat.le_of_ble_eq_true rfl) ⟨Nat.zero_le _, Nat.zero_le _⟩ dX8_act_98 ?_
        refine ww_iconst (pc := 101) C dX8_act_101 kI_1 ?_
        obtain ⟨e0, e1⟩ := ij2 hf
        exact hret _ _ 102 _ dX8_act_102 (by decide) e0 (by rw [← e1])
      · have hf := ifF hc hf
        refine ww_iconst (pc := 91) C dX8_act_91 kI_0 ?_
        obtain ⟨e0, e1⟩ := ij2 hf
        exact hret _ _ 92 _ dX8_act_92 (by decide) e0 (by rw [← e1])
    · have hf := ifF hs1 hf
      by_cases hs2 : v5 = (115 : Int32)
      · have hf := ifT hs2 hf
        refine ww_lookup (pc := 44) (off := 76) (tgt := 120) C dX8_act_44 (by decide) (by rw [lv_osw hs0 (by decide)]; rw [lv_osw hs1 (by decide)]; rw [hs2]; rfl) (by decide) ?_
        refine ww_aload_n (pc := 120) C dX8_act_120 rfl 4 rfl ?_
        refine ww_iload_n (pc := 121) C dX8_act_121 rfl 3 rfl ?_
        refine ww_iload_n (pc := 122) C dX8_act_122 rfl 2 rfl ?_
        refine ww_iload (pc := 123) C dX8_act_123 1 rfl ?_
        refine ww_iload (pc := 125) C dX8_act_125 0 rfl ?_
        obtain ⟨v12, h12, hf⟩ := bsome hf
        refine ww_callVi0 (pc := 127) (As := [.int v1, .int v2, .int v3, .int v4]) (rest := []) C (tX8_refusesSwap l D k q_this q_now q_text q_row q_read q_outerCell q_outerDoor q_walked q_onWalks q_far q_aside q_wasFull q_undos q_was q_kept q_isKept c_typed c_rowMany c_thrown c_length c_at c_wrong c_outerMany c_walkedMany c_cameOut c_undoMany c_drawn c_now v1 v2 v3 v4 v12 h12) cv_X8_324 ⟨⟨by decide, by decide⟩, rfl, rfl⟩ 0 rfl rfl [0, 1] rfl rfl rfl rfl (Nat.le_of_ble_eq_true rfl) ⟨Nat.zero_le _, Nat.zero_le _⟩ dX8_act_127 (fun hb12 => ?_)
        refine ww_if_ge (pc := 130) (tgt := 135) C dX8_act_130 (by decide) (fun hc => ?_) (fun hc => ?_)
        · have hf := ifT hc hf
          refine ww_aload_n (pc := 135) C dX8_act_135 rfl 4 rfl ?_
          refine ww_iload_n (pc := 136) C dX8_act_136 rfl 3 rfl ?_
          refine ww_iload_n (pc := 137) C dX8_act_137 rfl 2 rfl ?_
          refine ww_iload (pc := 138) C dX8_act_138 1 rfl ?_
          refine ww_iload (pc := 140) C dX8_act_140 0 rfl ?_
          obtain ⟨v13, h13, hf⟩ := bsome hf
          refine ww_callVv (pc := 142) (ws' := [oX8 q_this q_now q_text c_typed q_row c_rowMany c_thrown c_length c_at c_wrong q_read q_outerCell q_outerDoor c_outerMany q_walked c_walkedMany c_cameOut q_onWalks q_far q_aside q_wasFull q_undos q_was c_undoMany c_drawn q_kept q_isKept, aI k q_now 189 v13, aI k q_read 720 c_read]) (As := [.int v1, .int v2, .int v3, .int v4]) (rest := []) C (tX8_goSwap l D k q_this q_now q_text q_row q_read q_outerCell q_outerDoor q_walked q_onWalks q_far q_aside q_wasFull q_undos q_was q_kept q_isKept c_typed c_rowMany c_thrown c_length c_at c_wrong c_outerMany c_walkedMany c_cameOut c_undoMany c_drawn c_now v1 v2 v3 v4 v13 h13) cv_X8_327 ⟨⟨by decide, by decide⟩, rfl, rfl⟩ 0 rfl rfl [0, 1] rfl rfl rfl rfl rfl rfl (Nat.le_of_ble_eq_true rfl) ⟨Nat.zero_le _, Nat.zero_le _⟩ dX8_act_142 ?_
          refine ww_iconst (pc := 145) C dX8_act_145 kI_1 ?_
          obtain ⟨e0, e1⟩ := ij2 hf
          exact hret _ _ 146 _ dX8_act_146 (by decide) e0 (by rw [← e1])
        · have hf := ifF hc hf
          refine ww_iconst (pc := 133) C dX8_act_133 kI_0 ?_
          obtain ⟨e0, e1⟩ := ij2 hf
          exact hret _ _ 134 _ dX8_act_134 (by decide) e0 (by rw [← e1])
      · have hf := ifF hs2 hf
        refine ww_lookup (pc := 44) (off := 103) (tgt := 147) C dX8_act_44 (by decide) (by rw [lv_osw hs0 (by decide)]; rw [lv_osw hs1 (by decide)]; rw [lv_osw hs2 (by decide)]; rfl) (by decide) ?_
        refine ww_aload_n (pc := 147) C dX8_act_147 rfl 4 rfl ?_
        refine ww_iload_n (pc := 148) C dX8_act_148 rfl 3 rfl ?_
        refine ww_iload_n (pc := 149) C dX8_act_149 rfl 2 rfl ?_
        refine ww_iload (pc := 150) C dX8_act_150 1 rfl ?_
        obtain ⟨v6, h6, hf⟩ := bsome hf
        refine ww_callVi0 (pc := 152) (As := [.int v1, .int v2, .int v3]) (rest := []) C (tX8_refusesAmount l D k q_this q_now q_text q_row q_read q_outerCell q_outerDoor q_walked q_onWalks q_far q_aside q_wasFull q_undos q_was q_kept q_isKept c_typed c_rowMany c_thrown c_length c_at c_wrong c_outerMany c_walkedMany c_cameOut c_undoMany c_drawn c_now v1 v2 v3 v6 h6) cv_X8_331 ⟨⟨by decide, by decide⟩, rfl, rfl⟩ 0 rfl rfl [0, 1] rfl rfl rfl rfl (Nat.le_of_ble_eq_true rfl) ⟨Nat.zero_le _, Nat.zero_le _⟩ dX8_act_152 (fun hb6 => ?_)
        refine ww_if_ge (pc := 155) (tgt := 160) C dX8_act_155 (by decide) (fun hc => ?_) (fun hc => ?_)
        · have hf := ifT hc hf
          refine ww_aload_n (pc := 160) C dX8_act_160 rfl 4 rfl ?_
          refine ww_iload_n (pc := 161) C dX8_act_161 rfl 3 rfl ?_
          refine ww_iload_n (pc := 162) C dX8_act_162 rfl 2 rfl ?_
          refine ww_iload (pc := 163) C dX8_act_163 1 rfl ?_
          obtain ⟨v7, h7, hf⟩ := bsome hf
          refine ww_callVv (pc := 165) (ws' := [oX8 q_this q_now q_text c_typed q_row c_rowMany c_thrown c_length c_at c_wrong q_read q_outerCell q_outerDoor c_outerMany q_walked c_walkedMany c_cameOut q_onWalks q_far q_aside q_wasFull q_undos q_was c_undoMany c_drawn q_kept q_isKept, aI k q_now 189 v7, aI k q_read 720 c_read]) (As := [.int v1, .int v2, .int v3]) (rest := []) C (tX8_goAmount l D k q_this q_now q_text q_row q_read q_outerCell q_outerDoor q_walked q_onWalks q_far q_aside q_wasFull q_undos q_was q_kept q_isKept c_typed c_rowMany c_thrown c_length c_at c_wrong c_outerMany c_walkedMany c_cameOut c_undoMany c_drawn c_now v1 v2 v3 v7 h7) cv_X8_334 ⟨⟨by decide, by decide⟩, rfl, rfl⟩ 0 rfl rfl [0, 1] rfl rfl rfl rfl rfl rfl (Nat.le_of_ble_eq_true rfl) ⟨Nat.zero_le _, Nat.zero_le _⟩ dX8_act_165 ?_
          refine ww_iconst (pc := 168) C dX8_act_168 kI_1 ?_
          obtain ⟨e0, e1⟩ := ij2 hf
          exact hret _ _ 169 _ dX8_act_169 (by decide) e0 (by rw [← e1])
        · have hf := ifF hc hf
          refine ww_iconst (pc := 158) C dX8_act_158 kI_0 ?_
          obtain ⟨e0, e1⟩ := ij2 hf
          exact hret _ _ 159 _ dX8_act_159 (by decide) e0 (by rw [← e1])
def fX8_day_b107 (c_text : Nat → Int32) (c_at : Int32) (c_length : Int32) (c_rowMany : Int32) (c_thrown : Int32) (c_typed : Int32) (c_undoMany : Int32) (c_wrong : Int32) (c_now : Nat → Int32) (c_read : Nat → Int32) (c_row : Nat → Int64) (c_undos : Nat → Int32) (c_was : Nat → Int32) (n2 : Int32) (s1 : Int64) : Option (Int32 × Int32 × Int32 × Int32 × Int32 × Int32 × Int32 × Int32 × (Nat → Int32) × (Nat → Int32) × (Nat → Int64) × (Nat → Int32) × (Nat → Int32)) := bd2 (fX8_tell c_rowMany c_row s1) fun v1 v2 => (fX8_fullMany c_now).bind fun v3 => bd2 (fX8_tell v1 v2 ((v3).toInt64)) fun v4 v5 => some (n2, c_at, c_length, v4, c_thrown, c_typed, c_undoMany, c_wrong, c_now, c_read, v5, c_undos, c_was)
def fX8_day_b91 (c_text : Nat → Int32) (c_at : Int32) (c_length : Int32) (c_rowMany : Int32) (c_thrown : Int32) (c_typed : Int32) (c_undoMany : Int32) (c_wrong : Int32) (c_now : Nat → Int32) (c_read : Nat → Int32) (c_row : Nat → Int64) (c_undos : Nat → Int32) (c_was : Nat → Int32) (n1 : Int32) (n2 : Int32) : Option (Int32 × Int32 × Int32 × Int32 × Int32 × Int32 × Int32 × Int32 × (Nat → Int32) × (Nat → Int32) × (Nat → Int64) × (Nat → Int32) × (Nat → Int32)) := if n1 ≤ n2 then fX8_day_b107 c_text c_at c_length (0 : Int32) c_thrown c_typed c_undoMany c_wrong c_now c_read c_row c_undos c_was n2 (0 : Int64) else fX8_day_b107 c_text c_at c_length (0 : Int32) c_thrown c_typed c_undoMany c_wrong c_now c_read c_row c_undos c_was n2 (1 : Int64)
def fX8_day_b83 (c_text : Nat → Int32) (c_at : Int32) (c_length : Int32) (c_rowMany : Int32) (c_thrown : Int32) (c_typed : Int32) (c_undoMany : Int32) (c_wrong : Int32) (c_now : Nat → Int32) (c_read : Nat → Int32) (c_row : Nat → Int64) (c_undos : Nat → Int32) (c_was : Nat → Int32) (n1 : Int32) (n2 : Int32) : Option (Int32 × Int32 × Int32 × Int32 × Int32 × Int32 × Int32 × Int32 × (Nat → Int32) × (Nat → Int32) × (Nat → Int64) × (Nat → Int32) × (Nat → Int32)) := if n2 ≤ 0 then fX8_day_b91 c_text c_at c_length c_rowMany c_thrown c_typed c_undoMany c_wrong c_now c_read c_row c_undos c_was n1 n2 else bd2 (fX8_note c_was c_undoMany c_undos) fun v1 v2 => fX8_day_b91 c_text c_at c_length c_rowMany c_thrown c_typed v1 c_wrong c_now c_read c_row v2 c_was n1 n2
def fX8_day_b62 (c_text : Nat → Int32) (rc62 : Int32 → Int32 → Int32 → Int32 → Int32 → Int32 → Int32 → (Nat → Int32) → (Nat → Int32) → (Nat → Int64) → (Nat → Int32) → (Nat → Int32) → Int32 → Int32 → Option (Int32 × Int32 × Int32 × Int32 × Int32 × Int32 × Int32 × Int32 × (Nat → Int32) × (Nat → Int32) × (Nat → Int64) × (Nat → Int32) × (Nat → Int32))) (c_at : Int32) (c_length : Int32) (c_rowMany : Int32) (c_thrown : Int32) (c_typed : Int32) (c_undoMany : Int32) (c_wrong : Int32) (c_now : Nat → Int32) (c_read : Nat → Int32) (c_row : Nat → Int64) (c_undos : Nat → Int32) (c_was : Nat → Int32) (n1 : Int32) (n2 : Int32) : Option (Int32 × Int32 × Int32 × Int32 × Int32 × Int32 × Int32 × Int32 × (Nat → Int32) × (Nat → Int32) × (Nat → Int64) × (Nat → Int32) × (Nat → Int32)) := if n1 ≤ n2 then fX8_day_b83 c_text c_at c_length c_rowMany c_thrown c_typed c_undoMany c_wrong c_now c_read c_row c_undos c_was n1 n2 else bd2 (fX8_act c_read c_now ((5 : Int32) * n2)) fun v1 v2 => if v1 = 0 then fX8_day_b83 c_text c_at c_length c_rowMany c_thrown c_typed c_undoMany c_wrong v2 c_read c_row c_undos c_was n1 n2 else (some (n2 + (1 : Int32))).bind fun v3 => rc62 c_at c_length c_rowMany c_thrown c_typed c_undoMany c_wrong v2 c_read c_row c_undos c_was n1 v3
def fX8_day_b42 (c_text : Nat → Int32) (c_at : Int32) (c_length : Int32) (c_rowMany : Int32) (c_thrown : Int32) (c_typed : Int32) (c_undoMany : Int32) (c_wrong : Int32) (c_now : Nat → Int32) (c_read : Nat → Int32) (c_row : Nat → Int64) (c_undos : Nat → Int32) (c_was : Nat → Int32) (n1 : Int32) : Option (Int32 × Int32 × Int32 × Int32 × Int32 × Int32 × Int32 × Int32 × (Nat → Int32) × (Nat → Int32) × (Nat → Int64) × (Nat → Int32) × (Nat → Int32)) := bd2 (fX8_wasRight c_at c_length c_wrong) fun v1 v2 => if v1 = 0 then some (((-1 : Int32) - v2), c_at, c_length, c_rowMany, c_thrown, c_typed, c_undoMany, v2, c_now, c_read, c_row, c_undos, c_was) else (fX8_lay c_now c_was).bind fun v3 => lfix (fX8_day_b62 c_text) (fun _ _ _ _ _ _ _ _ _ _ _ _ _ _ => none) FU c_at c_length c_rowMany c_thrown c_typed c_undoMany v2 c_now c_read c_row c_undos v3 n1 (0 : Int32)
def fX8_day_b11 (c_text : Nat → Int32) (rc11 : Int32 → Int32 → Int32 → Int32 → Int32 → Int32 → Int32 → (Nat → Int32) → (Nat → Int32) → (Nat → Int64) → (Nat → Int32) → (Nat → Int32) → Int32 → Option (Int32 × Int32 × Int32 × Int32 × Int32 × Int32 × Int32 × Int32 × (Nat → Int32) × (Nat → Int32) × (Nat → Int64) × (Nat → Int32) × (Nat → Int32))) (c_at : Int32) (c_length : Int32) (c_rowMany : Int32) (c_thrown : Int32) (c_typed : Int32) (c_undoMany : Int32) (c_wrong : Int32) (c_now : Nat → Int32) (c_read : Nat → Int32) (c_row : Nat → Int64) (c_undos : Nat → Int32) (c_was : Nat → Int32) (n1 : Int32) : Option (Int32 × Int32 × Int32 × Int32 × Int32 × Int32 × Int32 × Int32 × (Nat → Int32) × (Nat → Int32) × (Nat → Int64) × (Nat → Int32) × (Nat → Int32)) := (fX8_fine c_wrong).bind fun v1 => if v1 = 0 then fX8_day_b42 c_text c_at c_length c_rowMany c_thrown c_typed c_undoMany c_wrong c_now c_read c_row c_undos c_was n1 else if c_length ≤ c_at then fX8_day_b42 c_text c_at c_length c_rowMany c_thrown c_typed c_undoMany c_wrong c_now c_read c_row c_undos c_was n1 else bd3 (fX8_readAct c_length c_text c_at c_wrong c_read ((5 : Int32) * n1)) fun v2 v3 v4 => (some (n1 + (1 : Int32))).bind fun v5 => rc11 v2 c_length c_rowMany c_thrown c_typed c_undoMany v3 c_now v4 c_row c_undos c_was v5
def fX8_day (c_text : Nat → Int32) (c_at : Int32) (c_length : Int32) (c_rowMany : Int32) (c_thrown : Int32) (c_typed : Int32) (c_undoMany : Int32) (c_wrong : Int32) (c_now : Nat → Int32) (c_read : Nat → Int32) (c_row : Nat → Int64) (c_undos : Nat → Int32) (c_was : Nat → Int32) : Option (Int32 × Int32 × Int32 × Int32 × Int32 × Int32 × Int32 × Int32 × (Nat → Int32) × (Nat → Int32) × (Nat → Int64) × (Nat → Int32) × (Nat → Int32)) := bd4 (fX8_begin c_at c_length c_typed c_wrong) fun v1 v2 v3 v4 => lfix (fX8_day_b11 c_text) (fun _ _ _ _ _ _ _ _ _ _ _ _ _ => none) FU v1 v2 c_rowMany (0 : Int32) v3 c_undoMany v4 c_now c_read c_row c_undos c_was (0 : Int32)
set_option maxHeartbeats 4000000 in
set_option maxRecDepth 100000 in
theorem tX8_day (l : Launch) (D : va_G) (k : Nat → ClassId) (q_this q_now q_text q_row q_read q_outerCell q_outerDoor q_walked q_onWalks q_far q_aside q_wasFull q_undos q_was q_kept q_isKept : Nat) (c_typed : Int32) (c_rowMany : Int32) (c_thrown : Int32) (c_length : Int32) (c_at : Int32) (c_wrong : Int32) (c_outerMany : Int32) (c_walkedMany : Int32) (c_cameOut : Int32) (c_undoMany : Int32) (c_drawn : Int32) (c_now : Nat → Int32) (c_read : Nat → Int32) (c_row : Nat → Int64) (c_text : Nat → Int32) (c_undos : Nat → Int32) (c_was : Nat → Int32)  (r_ : Int32) (w_at : Int32) (w_length : Int32) (w_rowMany : Int32) (w_thrown : Int32) (w_typed : Int32) (w_undoMany : Int32) (w_wrong : Int32) (w_now : Nat → Int32) (w_read : Nat → Int32) (w_row : Nat → Int64) (w_undos : Nat → Int32) (w_was : Nat → Int32) (hf : fX8_day c_text c_at c_length c_rowMany c_thrown c_typed c_undoMany c_wrong c_now c_read c_row c_undos c_was = some (r_, w_at, w_length, w_rowMany, w_thrown, w_typed, w_undoMany, w_wrong, w_now, w_read, w_row, w_undos, w_was)) : MI l yX8_day cX8_day 3 .int (RM 8 189) D k [.ref q_this] [oX8 q_this q_now q_text c_typed q_row c_rowMany c_thrown c_length c_at c_wrong q_read q_outerCell q_outerDoor c_outerMany q_walked c_walkedMany c_cameOut q_onWalks q_far q_aside q_wasFull q_undos q_was c_undoMany c_drawn q_kept q_isKept, aI k q_now 189 c_now, aI k q_read 720 c_read, aJ k q_row 64 c_row, aB k q_text 80 c_text, aI k q_undos 1512 c_undos, aI k q_was 189 c_was] r_ [oX8 q_this q_now q_text w_typed q_row w_rowMany w_thrown w_length w_at w_wrong q_read q_outerCell q_outerDoor c_outerMany q_walked c_walkedMany c_cameOut q_onWalks q_far q_aside q_wasFull q_undos q_was w_undoMany c_drawn q_kept q_isKept, aI k q_now 189 w_now, aI k q_read 720 w_read, aJ k q_row 64 w_row, aB k q_text 80 c_text, aI k q_undos 1512 w_undos, aI k q_was 189 w_was] := by
  refine mkMI' (own := "DoorWalkModel") (by decide) rfl (Nat.le_of_ble_eq_true rfl) ?_
  intro p e s m args below meth c Q A hret C
  refine ww_lv (lv' := [(0, .ref q_this)]) [0] rfl ?_
  have hJ107 : ∀ (c_at : Int32) (c_length : Int32) (c_rowMany : Int32) (c_thrown : Int32) (c_typed : Int32) (c_undoMany : Int32) (c_wrong : Int32) (c_now : Nat → Int32) (c_read : Nat → Int32) (c_row : Nat → Int64) (c_undos : Nat → Int32) (c_was : Nat → Int32) (n2 : Int32) (s1 : Int64), fX8_day_b107 c_text c_at c_length c_rowMany c_thrown c_typed c_undoMany c_wrong c_now c_read c_row c_undos c_was n2 s1 = some (r_, w_at, w_length, w_rowMany, w_thrown, w_typed, w_undoMany, w_wrong, w_now, w_read, w_row, w_undos, w_was) → WW p l e (RM 8 189) s m args below meth c Q 3 D A 0 0 [oX8 q_this q_now q_text c_typed q_row c_rowMany c_thrown c_length c_at c_wrong q_read q_outerCell q_outerDoor c_outerMany q_walked c_walkedMany c_cameOut q_onWalks q_far q_aside q_wasFull q_undos q_was c_undoMany c_drawn q_kept q_isKept, aI k q_now 189 c_now, aI k q_read 720 c_read, aJ k q_row 64 c_row, aB k q_text 80 c_text, aI k q_undos 1512 c_undos, aI k q_was 189 c_was] [(0, .ref q_this), (2, .int n2)] 107 [.long s1, .ref q_this] := by
    intro c_at c_length c_rowMany c_thrown c_typed c_undoMany c_wrong c_now c_read c_row c_undos c_was n2 s1
    intro hf
    unfold fX8_day_b107 at hf
    obtain ⟨v1, v2, h1, hf⟩ := bd2_some hf
    refine ww_callVv (pc := 107) (ws' := [oX8 q_this q_now q_text c_typed q_row v1 c_thrown c_length c_at c_wrong q_read q_outerCell q_outerDoor c_outerMany q_walked c_walkedMany c_cameOut q_onWalks q_far q_aside q_wasFull q_undos q_was c_undoMany c_drawn q_kept q_isKept, aI k q_now 189 c_now, aI k q_read 720 c_read, aJ k q_row 64 v2, aB k q_text 80 c_text, aI k q_undos 1512 c_undos, aI k q_was 189 c_was]) (As := [.long s1]) (rest := []) C (tX8_tell l D k q_this q_now q_text q_row q_read q_outerCell q_outerDoor q_walked q_onWalks q_far q_aside q_wasFull q_undos q_was q_kept q_isKept c_typed c_rowMany c_thrown c_length c_at c_wrong c_outerMany c_walkedMany c_cameOut c_undoMany c_drawn c_row s1 v1 v2 h1) cv_X8_182 ⟨⟨by decide, by decide⟩, rfl, rfl⟩ 0 rfl rfl [0, 3] rfl rfl rfl rfl rfl rfl (Nat.le_of_ble_eq_true rfl) ⟨Nat.zero_le _, Nat.zero_le _⟩ dX8_day_107 ?_
    refine ww_aload_n (pc := 110) C dX8_day_110 rfl 0 rfl ?_
    refine ww_aload_n (pc := 111) C dX8_day_111 rfl 0 rfl ?_
    obtain ⟨v3, h3, hf⟩ := bsome hf
    refine ww_callVi0 (pc := 112) (As := []) (rest := [.ref q_this]) C (tX8_fullMany l D k q_this q_now q_text q_row q_read q_outerCell q_outerDoor q_walked q_onWalks q_far q_aside q_wasFull q_undos q_was q_kept q_isKept c_typed v1 c_thrown c_length c_at c_wrong c_outerMany c_walkedMany c_cameOut c_undoMany c_drawn c_now v3 h3) cv_X8_226 ⟨⟨by decide, by decide⟩, rfl, rfl⟩ 0 rfl rfl [0, 1] rfl rfl rfl rfl (Nat.le_of_ble_eq_true rfl) ⟨Nat.zero_le _, Nat.zero_le _⟩ dX8_day_112 (fun hb3 => ?_)
    refine ww_i2l (pc := 115) C dX8_day_115  ?_
    obtain ⟨v4, v5, h4, hf⟩ := bd2_some hf
    refine ww_callVv (pc := 116) (ws' := [oX8 q_this q_now q_text c_typed q_row v4 c_thrown c_length c_at c_wrong q_read q_outerCell q_outerDoor c_outerMany q_walked c_walkedMany c_cameOut q_onWalks q_far q_aside q_wasFull q_undos q_was c_undoMany c_drawn q_kept q_isKept, aI k q_now 189 c_now, aI k q_read 720 c_read, aJ k q_row 64 v5, aB k q_text 80 c_text, aI k q_undos 1512 c_undos, aI k q_was 189 c_was]) (As := [.long ((v3).toInt64)]) (rest := []) C (tX8_tell l D k q_this q_now q_text q_row q_read q_outerCell q_outerDoor q_walked q_onWalks q_far q_aside q_wasFull q_undos q_was q_kept q_isKept c_typed v1 c_thrown c_length c_at c_wrong c_outerMany c_walkedMany c_cameOut c_undoMany c_drawn v2 ((v3).toInt64) v4 v5 h4) cv_X8_182 ⟨⟨by decide, by decide⟩, rfl, rfl⟩ 0 rfl rfl [0, 3] rfl rfl rfl rfl rfl rfl (Nat.le_of_ble_eq_true rfl) ⟨Nat.zero_le _, Nat.zero_le _⟩ dX8_day_116 ?_
    refine ww_iload_n (pc := 119) C dX8_day_119 rfl 1 rfl ?_
    obtain ⟨e0, e1, e2, e3, e4, e5, e6, e7, e8, e9, e10, e11, e12⟩ := ij13 hf
    exact hret _ _ 120 _ dX8_day_120 rfl e0 (by rw [← e1, ← e2, ← e3, ← e4, ← e5, ← e6, ← e7, ← e8, ← e9, ← e10, ← e11, ← e12])
  have hJ91 : ∀ (c_at : Int32) (c_length : Int32) (c_rowMany : Int32) (c_thrown : Int32) (c_typed : Int32) (c_undoMany : Int32) (c_wrong : Int32) (c_now : Nat → Int32) (c_read : Nat → Int32) (c_row : Nat → Int64) (c_undos : Nat → Int32) (c_was : Nat → Int32) (n1 : Int32) (n2 : Int32), fX8_day_b91 c_text c_at c_length c_rowMany c_thrown c_typed c_undoMany c_wrong c_now c_read c_row c_undos c_was n1 n2 = some (r_, w_at, w_length, w_rowMany, w_thrown, w_typed, w_undoMany, w_wrong, w_now, w_read, w_row, w_undos, w_was) → WW p l e (RM 8 189) s m args below meth c Q 3 D A 0 0 [oX8 q_this q_now q_text c_typed q_row c_rowMany c_thrown c_length c_at c_wrong q_read q_outerCell q_outerDoor c_outerMany q_walked c_walkedMany c_cameOut q_onWalks q_far q_aside q_wasFull q_undos q_was c_undoMany c_drawn q_kept q_isKept, aI k q_now 189 c_now, aI k q_read 720 c_read, aJ k q_row 64 c_row, aB k q_text 80 c_text, aI k q_undos 1512 c_undos, aI k q_was 189 c_was] [(0, .ref q_this), (1, .int n1), (2, .int n2)] 91 [] := by
    intro c_at c_length c_rowMany c_thrown c_typed c_undoMany c_wrong c_now c_read c_row c_undos c_was n1 n2
    intro hf
    unfold fX8_day_b91 at hf
    refine ww_aload_n (pc := 91) C dX8_day_91 rfl 0 rfl ?_
    refine ww_iconst (pc := 92) C dX8_day_92 kI_0 ?_
    refine pf8_4 (pc := 93) (ws' := [oX8 q_this q_now q_text c_typed q_row (0 : Int32) c_thrown c_length c_at c_wrong q_read q_outerCell q_outerDoor c_outerMany q_walked c_walkedMany c_cameOut q_onWalks q_far q_aside q_wasFull q_undos q_was c_undoMany c_drawn q_kept q_isKept, aI k q_now 189 c_now, aI k q_read 720 c_read, aJ k q_row 64 c_row, aB k q_text 80 c_text, aI k q_undos 1512 c_undos, aI k q_was 189 c_was]) C kf_X8_65 0 rfl (Nat.le_of_ble_eq_true rfl) rfl dX8_day_93 ?_
    refine ww_aload_n (pc := 96) C dX8_day_96 rfl 0 rfl ?_
    refine ww_iload_n (pc := 97) C dX8_day_97 rfl 2 rfl ?_
    refine ww_iload_n (pc := 98) C dX8_day_98 rfl 1 rfl ?_
    refine ww_icmp_ge (pc := 99) (tgt := 106) C dX8_day_99 (by decide) (fun hc => ?_) (fun hc => ?_)
    · have hf := ifT hc hf
      refine ww_lconst (pc := 106) C dX8_day_106 kL_0 ?_
      exact ww_lv [0, 2] rfl (hJ107 c_at c_length (0 : Int32) c_thrown c_typed c_undoMany c_wrong c_now c_read c_row c_undos c_was n2 (0 : Int64) hf)
    · have hf := ifF hc hf
      refine ww_lconst (pc := 102) C dX8_day_102 kL_1 ?_
      refine ww_goto (pc := 103) (tgt := 107) C dX8_day_103 (by decide) ?_
      exact ww_lv [0, 2] rfl (hJ107 c_at c_length (0 : Int32) c_thrown c_typed c_undoMany c_wrong c_now c_read c_row c_undos c_was n2 (1 : Int64) hf)
  have hJ83 : ∀ (c_at : Int32) (c_length : Int32) (c_rowMany : Int32) (c_thrown : Int32) (c_typed : Int32) (c_undoMany : Int32) (c_wrong : Int32) (c_now : Nat → Int32) (c_read : Nat → Int32) (c_row : Nat → Int64) (c_undos : Nat → Int32) (c_was : Nat → Int32) (n1 : Int32) (n2 : Int32), fX8_day_b83 c_text c_at c_length c_rowMany c_thrown c_typed c_undoMany c_wrong c_now c_read c_row c_undos c_was n1 n2 = some (r_, w_at, w_length, w_rowMany, w_thrown, w_typed, w_undoMany, w_wrong, w_now, w_read, w_row, w_undos, w_was) → WW p l e (RM 8 189) s m args below meth c Q 3 D A 0 0 [oX8 q_this q_now q_text c_typed q_row c_rowMany c_thrown c_length c_at c_wrong q_read q_outerCell q_outerDoor c_outerMany q_walked c_walkedMany c_cameOut q_onWalks q_far q_aside q_wasFull q_undos q_was c_undoMany c_drawn q_kept q_isKept, aI k q_now 189 c_now, aI k q_read 720 c_read, aJ k q_row 64 c_row, aB k q_text 80 c_text, aI k q_undos 1512 c_undos, aI k q_was 189 c_was] [(0, .ref q_this), (1, .int n1), (2, .int n2)] 83 [] := by
    intro c_at c_length c_rowMany c_thrown c_typed c_undoMany c_wrong c_now c_read c_row c_undos c_was n1 n2
    intro hf
    unfold fX8_day_b83 at hf
    refine ww_iload_n (pc := 83) C dX8_day_83 rfl 2 rfl ?_
    refine ww_if_le (pc := 84) (tgt := 91) C dX8_day_84 (by decide) (fun hc => ?_) (fun hc => ?_)
    · have hf := ifT hc hf
      exact hJ91 c_at c_length c_rowMany c_thrown c_typed c_undoMany c_wrong c_now c_read c_row c_undos c_was n1 n2 hf
    · have hf := ifF hc hf
      refine ww_aload_n (pc := 87) C dX8_day_87 rfl 0 rfl ?_
      obtain ⟨v1, v2, h1, hf⟩ := bd2_some hf
      refine ww_callVv (pc := 88) (ws' := [oX8 q_this q_now q_text c_typed q_row c_rowMany c_thrown c_length c_at c_wrong q_read q_outerCell q_outerDoor c_outerMany q_walked c_walkedMany c_cameOut q_onWalks q_far q_aside q_wasFull q_undos q_was v1 c_drawn q_kept q_isKept, aI k q_now 189 c_now, aI k q_read 720 c_read, aJ k q_row 64 c_row, aB k q_text 80 c_text, aI k q_undos 1512 v2, aI k q_was 189 c_was]) (As := []) (rest := []) C (tX8_note l D k q_this q_now q_text q_row q_read q_outerCell q_outerDoor q_walked q_onWalks q_far q_aside q_wasFull q_undos q_was q_kept q_isKept c_typed c_rowMany c_thrown c_length c_at c_wrong c_outerMany c_walkedMany c_cameOut c_undoMany c_drawn c_undos c_was v1 v2 h1) cv_X8_312 ⟨⟨by decide, by decide⟩, rfl, rfl⟩ 0 rfl rfl [0, 5, 6] rfl rfl rfl rfl rfl rfl (Nat.le_of_ble_eq_true rfl) ⟨Nat.zero_le _, Nat.zero_le _⟩ dX8_day_88 ?_
      exact hJ91 c_at c_length c_rowMany c_thrown c_typed v1 c_wrong c_now c_read c_row v2 c_was n1 n2 hf
  have hL62 : ∀ (n : Nat) (c_at : Int32) (c_length : Int32) (c_rowMany : Int32) (c_thrown : Int32) (c_typed : Int32) (c_undoMany : Int32) (c_wrong : Int32) (c_now : Nat → Int32) (c_read : Nat → Int32) (c_row : Nat → Int64) (c_undos : Nat → Int32) (c_was : Nat → Int32) (n1 : Int32) (n2 : Int32), lfix (fX8_day_b62 c_text) (fun _ _ _ _ _ _ _ _ _ _ _ _ _ _ => none) n c_at c_length c_rowMany c_thrown c_typed c_undoMany c_wrong c_now c_read c_row c_undos c_was n1 n2 = some (r_, w_at, w_length, w_rowMany, w_thrown, w_typed, w_undoMany, w_wrong, w_now, w_read, w_row, w_undos, w_was) → WW p l e (RM 8 189) s m args below meth c Q 3 D A 0 0 [oX8 q_this q_now q_text c_typed q_row c_rowMany c_thrown c_length c_at c_wrong q_read q_outerCell q_outerDoor c_outerMany q_walked c_walkedMany c_cameOut q_onWalks q_far q_aside q_wasFull q_undos q_was c_undoMany c_drawn q_kept q_isKept, aI k q_now 189 c_now, aI k q_read 720 c_read, aJ k q_row 64 c_row, aB k q_text 80 c_text, aI k q_undos 1512 c_undos, aI k q_was 189 c_was] [(0, .ref q_this), (1, .int n1), (2, .int n2)] 62 [] := by
    intro n
    induction n with
    | zero => intro c_at c_length c_rowMany c_thrown c_typed c_undoMany c_wrong c_now c_read c_row c_undos c_was n1 n2 hf; cases hf
    | succ n ih62 =>
      obtain ⟨rc62, hrc62⟩ : ∃ f9, f9 = lfix (fX8_day_b62 c_text) (fun _ _ _ _ _ _ _ _ _ _ _ _ _ _ => none) n := ⟨_, rfl⟩
      rw [← hrc62] at ih62
      intro c_at c_length c_rowMany c_thrown c_typed c_undoMany c_wrong c_now c_read c_row c_undos c_was n1 n2 hf
      have hf : fX8_day_b62 c_text rc62 c_at c_length c_rowMany c_thrown c_typed c_undoMany c_wrong c_now c_read c_row c_undos c_was n1 n2 = some (r_, w_at, w_length, w_rowMany, w_thrown, w_typed, w_undoMany, w_wrong, w_now, w_read, w_row, w_undos, w_was) := by rw [hrc62]; exact hf
      unfold fX8_day_b62 at hf
      refine ww_iload_n (pc := 62) C dX8_day_62 rfl 2 rfl ?_
      refine ww_iload_n (pc := 63) C dX8_day_63 rfl 1 rfl ?_
      refine ww_icmp_ge (pc := 64) (tgt := 83) C dX8_day_64 (by decide) (fun hc => ?_) (fun hc => ?_)
      · have hf := ifT hc hf
        exact hJ83 c_at c_length c_rowMany c_thrown c_typed c_undoMany c_wrong c_now c_read c_row c_undos c_was n1 n2 hf
      · have hf := ifF hc hf
        refine ww_aload_n (pc := 67) C dX8_day_67 rfl 0 rfl ?_
        refine ww_iconst (pc := 68) C dX8_day_68 kI_5 ?_
        refine ww_iload_n (pc := 69) C dX8_day_69 rfl 2 rfl ?_
        refine ww_imul (pc := 70) C dX8_day_70  ?_
        obtain ⟨v1, v2, h1, hf⟩ := bd2_some hf
        refine ww_callVi (pc := 71) (ws' := [oX8 q_this q_now q_text c_typed q_row c_rowMany c_thrown c_length c_at c_wrong q_read q_outerCell q_outerDoor c_outerMany q_walked c_walkedMany c_cameOut q_onWalks q_far q_aside q_wasFull q_undos q_was c_undoMany c_drawn q_kept q_isKept, aI k q_now 189 v2, aI k q_read 720 c_read, aJ k q_row 64 c_row, aB k q_text 80 c_text, aI k q_undos 1512 c_undos, aI k q_was 189 c_was]) (As := [.int ((5 : Int32) * n2)]) (rest := []) C (tX8_act l D k q_this q_now q_text q_row q_read q_outerCell q_outerDoor q_walked q_onWalks q_far q_aside q_wasFull q_undos q_was q_kept q_isKept c_typed c_rowMany c_thrown c_length c_at c_wrong c_outerMany c_walkedMany c_cameOut c_undoMany c_drawn c_now c_read ((5 : Int32) * n2) v1 v2 h1) cv_X8_340 ⟨⟨by decide, by decide⟩, rfl, rfl⟩ 0 rfl rfl [0, 1, 2] rfl rfl rfl rfl rfl rfl (Nat.le_of_ble_eq_true rfl) ⟨Nat.zero_le _, Nat.zero_le _⟩ dX8_day_71 (fun hb1 => ?_)
        refine ww_if_eq (pc := 74) (tgt := 83) C dX8_day_74 (by decide) (fun hc => ?_) (fun hc => ?_)
        · have hf := ifT hc hf
          exact hJ83 c_at c_length c_rowMany c_thrown c_typed c_undoMany c_wrong v2 c_read c_row c_undos c_was n1 n2 hf
        · have hf := ifF hc hf
          obtain ⟨v3, h3, hf⟩ := bsome hf
          refine ww_iincN (pc := 77) (lv' := [(2, .int v3), (0, .ref q_this), (1, .int n1)]) (j := 2) C dX8_day_77 kI_1 rfl h3 (by decide) rfl ?_
          refine ww_goto (pc := 80) (tgt := 62) C dX8_day_80 (by decide) ?_
          exact ww_lv [1, 2, 0] rfl (ih62 c_at c_length c_rowMany c_thrown c_typed c_undoMany c_wrong v2 c_read c_row c_undos c_was n1 v3 hf)
  have hJ42 : ∀ (c_at : Int32) (c_length : Int32) (c_rowMany : Int32) (c_thrown : Int32) (c_typed : Int32) (c_undoMany : Int32) (c_wrong : Int32) (c_now : Nat → Int32) (c_read : Nat → Int32) (c_row : Nat → Int64) (c_undos : Nat → Int32) (c_was : Nat → Int32) (n1 : Int32), fX8_day_b42 c_text c_at c_length c_rowMany c_thrown c_typed c_undoMany c_wrong c_now c_read c_row c_undos c_was n1 = some (r_, w_at, w_length, w_rowMany, w_thrown, w_typed, w_undoMany, w_wrong, w_now, w_read, w_row, w_undos, w_was) → WW p l e (RM 8 189) s m args below meth c Q 3 D A 0 0 [oX8 q_this q_now q_text c_typed q_row c_rowMany c_thrown c_length c_at c_wrong q_read q_outerCell q_outerDoor c_outerMany q_walked c_walkedMany c_cameOut q_onWalks q_far q_aside q_wasFull q_undos q_was c_undoMany c_drawn q_kept q_isKept, aI k q_now 189 c_now, aI k q_read 720 c_read, aJ k q_row 64 c_row, aB k q_text 80 c_text, aI k q_undos 1512 c_undos, aI k q_was 189 c_was] [(0, .ref q_this), (1, .int n1)] 42 [] := by
    intro c_at c_length c_rowMany c_thrown c_typed c_undoMany c_wrong c_now c_read c_row c_undos c_was n1
    intro hf
    unfold fX8_day_b42 at hf
    refine ww_aload_n (pc := 42) C dX8_day_42 rfl 0 rfl ?_
    obtain ⟨v1, v2, h1, hf⟩ := bd2_some hf
    refine ww_callVi (pc := 43) (ws' := [oX8 q_this q_now q_text c_typed q_row c_rowMany c_thrown c_length c_at v2 q_read q_outerCell q_outerDoor c_outerMany q_walked c_walkedMany c_cameOut q_onWalks q_far q_aside q_wasFull q_undos q_was c_undoMany c_drawn q_kept q_isKept, aI k q_now 189 c_now, aI k q_read 720 c_read, aJ k q_row 64 c_row, aB k q_text 80 c_text, aI k q_undos 1512 c_undos, aI k q_was 189 c_was]) (As := []) (rest := []) C (tX8_wasRight l D k q_this q_now q_text q_row q_read q_outerCell q_outerDoor q_walked q_onWalks q_far q_aside q_wasFull q_undos q_was q_kept q_isKept c_typed c_rowMany c_thrown c_length c_at c_wrong c_outerMany c_walkedMany c_cameOut c_undoMany c_drawn v1 v2 h1) cv_X8_159 ⟨⟨by decide, by decide⟩, rfl, rfl⟩ 0 rfl rfl [0] rfl rfl rfl rfl rfl rfl (Nat.le_of_ble_eq_true rfl) ⟨Nat.zero_le _, Nat.zero_le _⟩ dX8_day_43 (fun hb1 => ?_)
    refine ww_if_ne (pc := 46) (tgt := 56) C dX8_day_46 (by decide) (fun hc => ?_) (fun hc => ?_)
    · have hf := ifF hc hf
      refine ww_aload_n (pc := 56) C dX8_day_56 rfl 0 rfl ?_
      obtain ⟨v3, h3, hf⟩ := bsome hf
      refine ww_callVv (pc := 57) (ws' := [oX8 q_this q_now q_text c_typed q_row c_rowMany c_thrown c_length c_at v2 q_read q_outerCell q_outerDoor c_outerMany q_walked c_walkedMany c_cameOut q_onWalks q_far q_aside q_wasFull q_undos q_was c_undoMany c_drawn q_kept q_isKept, aI k q_now 189 c_now, aI k q_read 720 c_read, aJ k q_row 64 c_row, aB k q_text 80 c_text, aI k q_undos 1512 c_undos, aI k q_was 189 v3]) (As := []) (rest := []) C (tX8_lay l D k q_this q_now q_text q_row q_read q_outerCell q_outerDoor q_walked q_onWalks q_far q_aside q_wasFull q_undos q_was q_kept q_isKept c_typed c_rowMany c_thrown c_length c_at v2 c_outerMany c_walkedMany c_cameOut c_undoMany c_drawn c_now c_was v3 h3) cv_X8_309 ⟨⟨by decide, by decide⟩, rfl, rfl⟩ 0 rfl rfl [0, 1, 6] rfl rfl rfl rfl rfl rfl (Nat.le_of_ble_eq_true rfl) ⟨Nat.zero_le _, Nat.zero_le _⟩ dX8_day_57 ?_
      refine ww_iconst (pc := 60) C dX8_day_60 kI_0 ?_
      refine ww_istore_n (pc := 61) (lv' := [(2, .int (0 : Int32)), (0, .ref q_this), (1, .int n1)]) C dX8_day_61 rfl (by decide) rfl ?_
      exact ww_lv [1, 2, 0] rfl (hL62 FU c_at c_length c_rowMany c_thrown c_typed c_undoMany v2 c_now c_read c_row c_undos v3 n1 (0 : Int32) hf)
    · have hf := ifT hc hf
      refine ww_iconst (pc := 49) C dX8_day_49 kI_m1 ?_
      refine ww_aload_n (pc := 50) C dX8_day_50 rfl 0 rfl ?_
      refine gf8_8 (pc := 51) C kf_X8_135 0 rfl rfl dX8_day_51 ?_
      refine ww_isub (pc := 54) C dX8_day_54  ?_
      obtain ⟨e0, e1, e2, e3, e4, e5, e6, e7, e8, e9, e10, e11, e12⟩ := ij13 hf
      exact hret _ _ 55 _ dX8_day_55 rfl e0 (by rw [← e1, ← e2, ← e3, ← e4, ← e5, ← e6, ← e7, ← e8, ← e9, ← e10, ← e11, ← e12])
  have hL11 : ∀ (n : Nat) (c_at : Int32) (c_length : Int32) (c_rowMany : Int32) (c_thrown : Int32) (c_typed : Int32) (c_undoMany : Int32) (c_wrong : Int32) (c_now : Nat → Int32) (c_read : Nat → Int32) (c_row : Nat → Int64) (c_undos : Nat → Int32) (c_was : Nat → Int32) (n1 : Int32), lfix (fX8_day_b11 c_text) (fun _ _ _ _ _ _ _ _ _ _ _ _ _ => none) n c_at c_length c_rowMany c_thrown c_typed c_undoMany c_wrong c_now c_read c_row c_undos c_was n1 = some (r_, w_at, w_length, w_rowMany, w_thrown, w_typed, w_undoMany, w_wrong, w_now, w_read, w_row, w_undos, w_was) → WW p l e (RM 8 189) s m args below meth c Q 3 D A 0 0 [oX8 q_this q_now q_text c_typed q_row c_rowMany c_thrown c_length c_at c_wrong q_read q_outerCell q_outerDoor c_outerMany q_walked c_walkedMany c_cameOut q_onWalks q_far q_aside q_wasFull q_undos q_was c_undoMany c_drawn q_kept q_isKept, aI k q_now 189 c_now, aI k q_read 720 c_read, aJ k q_row 64 c_row, aB k q_text 80 c_text, aI k q_undos 1512 c_undos, aI k q_was 189 c_was] [(0, .ref q_this), (1, .int n1)] 11 [] := by
    intro n
    induction n with
    | zero => intro c_at c_length c_rowMany c_thrown c_typed c_undoMany c_wrong c_now c_read c_row c_undos c_was n1 hf; cases hf
    | succ n ih11 =>
      obtain ⟨rc11, hrc11⟩ : ∃ f9, f9 = lfix (fX8_day_b11 c_text) (fun _ _ _ _ _ _ _ _ _ _ _ _ _ => none) n := ⟨_, rfl⟩
      rw [← hrc11] at ih11
      intro c_at c_length c_rowMany c_thrown c_typed c_undoMany c_wrong c_now c_read c_row c_undos c_was n1 hf
      have hf : fX8_day_b11 c_text rc11 c_at c_length c_rowMany c_thrown c_typed c_undoMany c_wrong c_now c_read c_row c_undos c_was n1 = some (r_, w_at, w_length, w_rowMany, w_thrown, w_typed, w_undoMany, w_wrong, w_now, w_read, w_row, w_undos, w_was) := by rw [hrc11]; exact hf
      unfold fX8_day_b11 at hf
      refine ww_aload_n (pc := 11) C dX8_day_11 rfl 0 rfl ?_
      obtain ⟨v1, h1, hf⟩ := bsome hf
      refine ww_callVi0 (pc := 12) (As := []) (rest := []) C (tX8_fine l D k q_this q_now q_text q_row q_read q_outerCell q_outerDoor q_walked q_onWalks q_far q_aside q_wasFull q_undos q_was q_kept q_isKept c_typed c_rowMany c_thrown c_length c_at c_wrong c_outerMany c_walkedMany c_cameOut c_undoMany c_drawn v1 h1) cv_X8_138 ⟨⟨by decide, by decide⟩, rfl, rfl⟩ 0 rfl rfl [0] rfl rfl rfl rfl (Nat.le_of_ble_eq_true rfl) ⟨Nat.zero_le _, Nat.zero_le _⟩ dX8_day_12 (fun hb1 => ?_)
      refine ww_if_eq (pc := 15) (tgt := 42) C dX8_day_15 (by decide) (fun hc => ?_) (fun hc => ?_)
      · have hf := ifT hc hf
        exact hJ42 c_at c_length c_rowMany c_thrown c_typed c_undoMany c_wrong c_now c_read c_row c_undos c_was n1 hf
      · have hf := ifF hc hf
        refine ww_aload_n (pc := 18) C dX8_day_18 rfl 0 rfl ?_
        refine gf8_7 (pc := 19) C kf_X8_132 0 rfl rfl dX8_day_19 ?_
        refine ww_aload_n (pc := 22) C dX8_day_22 rfl 0 rfl ?_
        refine gf8_6 (pc := 23) C kf_X8_129 0 rfl rfl dX8_day_23 ?_
        refine ww_icmp_ge (pc := 26) (tgt := 42) C dX8_day_26 (by decide) (fun hc => ?_) (fun hc => ?_)
        · have hf := ifT hc hf
          exact hJ42 c_at c_length c_rowMany c_thrown c_typed c_undoMany c_wrong c_now c_read c_row c_undos c_was n1 hf
        · have hf := ifF hc hf
          refine ww_aload_n (pc := 29) C dX8_day_29 rfl 0 rfl ?_
          refine ww_iconst (pc := 30) C dX8_day_30 kI_5 ?_
          refine ww_iload_n (pc := 31) C dX8_day_31 rfl 1 rfl ?_
          refine ww_imul (pc := 32) C dX8_day_32  ?_
          obtain ⟨v2, v3, v4, h2, hf⟩ := bd3_some hf
          refine ww_callVv (pc := 33) (ws' := [oX8 q_this q_now q_text c_typed q_row c_rowMany c_thrown c_length v2 v3 q_read q_outerCell q_outerDoor c_outerMany q_walked c_walkedMany c_cameOut q_onWalks q_far q_aside q_wasFull q_undos q_was c_undoMany c_drawn q_kept q_isKept, aI k q_now 189 c_now, aI k q_read 720 v4, aJ k q_row 64 c_row, aB k q_text 80 c_text, aI k q_undos 1512 c_undos, aI k q_was 189 c_was]) (As := [.int ((5 : Int32) * n1)]) (rest := []) C (tX8_readAct l D k q_this q_now q_text q_row q_read q_outerCell q_outerDoor q_walked q_onWalks q_far q_aside q_wasFull q_undos q_was q_kept q_isKept c_typed c_rowMany c_thrown c_length c_at c_wrong c_outerMany c_walkedMany c_cameOut c_undoMany c_drawn c_read c_text ((5 : Int32) * n1) v2 v3 v4 h2) cv_X8_337 ⟨⟨by decide, by decide⟩, rfl, rfl⟩ 0 rfl rfl [0, 2, 4] rfl rfl rfl rfl rfl rfl (Nat.le_of_ble_eq_true rfl) ⟨Nat.zero_le _, Nat.zero_le _⟩ dX8_day_33 ?_
          obtain ⟨v5, h5, hf⟩ := bsome hf
          refine ww_iincN (pc := 36) (lv' := [(1, .int v5), (0, .ref q_this)]) (j := 1) C dX8_day_36 kI_1 rfl h5 (by decide) rfl ?_
          refine ww_goto (pc := 39) (tgt := 11) C dX8_day_39 (by decide) ?_
          exact ww_lv [1, 0] rfl (ih11 v2 c_length c_rowMany c_thrown c_typed c_undoMany v3 c_now v4 c_row c_undos c_was v5 hf)
  unfold fX8_day at hf
  refine ww_aload_n (pc := 0) C dX8_day_0 rfl 0 rfl ?_
  refine ww_iconst (pc := 1) C dX8_day_1 kI_0 ?_
  refine pf8_5 (pc := 2) (ws' := [oX8 q_this q_now q_text c_typed q_row c_rowMany (0 : Int32) c_length c_at c_wrong q_read q_outerCell q_outerDoor c_outerMany q_walked c_walkedMany c_cameOut q_onWalks q_far q_aside q_wasFull q_undos q_was c_undoMany c_drawn q_kept q_isKept, aI k q_now 189 c_now, aI k q_read 720 c_read, aJ k q_row 64 c_row, aB k q_text 80 c_text, aI k q_undos 1512 c_undos, aI k q_was 189 c_was]) C kf_X8_61 0 rfl (Nat.le_of_ble_eq_true rfl) rfl dX8_day_2 ?_
  refine ww_aload_n (pc := 5) C dX8_day_5 rfl 0 rfl ?_
  obtain ⟨v1, v2, v3, v4, h1, hf⟩ := bd4_some hf
  refine ww_callVv (pc := 6) (ws' := [oX8 q_this q_now q_text v3 q_row c_rowMany (0 : Int32) v2 v1 v4 q_read q_outerCell q_outerDoor c_outerMany q_walked c_walkedMany c_cameOut q_onWalks q_far q_aside q_wasFull q_undos q_was c_undoMany c_drawn q_kept q_isKept, aI k q_now 189 c_now, aI k q_read 720 c_read, aJ k q_row 64 c_row, aB k q_text 80 c_text, aI k q_undos 1512 c_undos, aI k q_was 189 c_was]) (As := []) (rest := []) C (tX8_begin l D k q_this q_now q_text q_row q_read q_outerCell q_outerDoor q_walked q_onWalks q_far q_aside q_wasFull q_undos q_was q_kept q_isKept c_typed c_rowMany (0 : Int32) c_length c_at c_wrong c_outerMany c_walkedMany c_cameOut c_undoMany c_drawn v1 v2 v3 v4 h1) cv_X8_153 ⟨⟨by decide, by decide⟩, rfl, rfl⟩ 0 rfl rfl [0] rfl rfl rfl rfl rfl rfl (Nat.le_of_ble_eq_true rfl) ⟨Nat.zero_le _, Nat.zero_le _⟩ dX8_day_6 ?_
  refine ww_iconst (pc := 9) C dX8_day_9 kI_0 ?_
  refine ww_istore_n (pc := 10) (lv' := [(1, .int (0 : Int32)), (0, .ref q_this)]) C dX8_day_10 rfl (by decide) rfl ?_
  exact ww_lv [1, 0] rfl (hL11 FU v1 v2 c_rowMany (0 : Int32) v3 c_undoMany v4 c_now c_read c_row c_undos c_was (0 : Int32) hf)
def fX8_undo_b26 (c_undos : Nat → Int32) (rc26 : Int32 → Int32 → (Nat → Int32) → Int32 → Option (Int32 × Int32 × Int32 × (Nat → Int32))) (c_thrown : Int32) (c_undoMany : Int32) (c_now : Nat → Int32) (n1 : Int32) : Option (Int32 × Int32 × Int32 × (Nat → Int32)) := if (189 : Int32) ≤ n1 then some (c_undoMany, c_thrown, c_undoMany, c_now) else (ald 1512 (((189 : Int32) * c_undoMany) + n1) c_undos).bind fun v1 => (ast 189 n1 c_now v1).bind fun v2 => (some (n1 + (1 : Int32))).bind fun v3 => rc26 c_thrown c_undoMany v2 v3
def fX8_undo (c_undos : Nat → Int32) (c_thrown : Int32) (c_undoMany : Int32) (c_now : Nat → Int32) : Option (Int32 × Int32 × Int32 × (Nat → Int32)) := if c_undoMany = 0 then some ((-1 : Int32), (0 : Int32), c_undoMany, c_now) else (some (c_undoMany - (1 : Int32))).bind fun v1 => lfix (fX8_undo_b26 c_undos) (fun _ _ _ _ => none) FU (0 : Int32) v1 c_now (0 : Int32)
set_option maxHeartbeats 4000000 in
set_option maxRecDepth 100000 in
theorem tX8_undo (l : Launch) (D : va_G) (k : Nat → ClassId) (q_this q_now q_text q_row q_read q_outerCell q_outerDoor q_walked q_onWalks q_far q_aside q_wasFull q_undos q_was q_kept q_isKept : Nat) (c_typed : Int32) (c_rowMany : Int32) (c_thrown : Int32) (c_length : Int32) (c_at : Int32) (c_wrong : Int32) (c_outerMany : Int32) (c_walkedMany : Int32) (c_cameOut : Int32) (c_undoMany : Int32) (c_drawn : Int32) (c_now : Nat → Int32) (c_undos : Nat → Int32)  (r_ : Int32) (w_thrown : Int32) (w_undoMany : Int32) (w_now : Nat → Int32) (hf : fX8_undo c_undos c_thrown c_undoMany c_now = some (r_, w_thrown, w_undoMany, w_now)) : MI l yX8_undo cX8_undo 2 .int (RM 0 0) D k [.ref q_this] [oX8 q_this q_now q_text c_typed q_row c_rowMany c_thrown c_length c_at c_wrong q_read q_outerCell q_outerDoor c_outerMany q_walked c_walkedMany c_cameOut q_onWalks q_far q_aside q_wasFull q_undos q_was c_undoMany c_drawn q_kept q_isKept, aI k q_now 189 c_now, aI k q_undos 1512 c_undos] r_ [oX8 q_this q_now q_text c_typed q_row c_rowMany w_thrown c_length c_at c_wrong q_read q_outerCell q_outerDoor c_outerMany q_walked c_walkedMany c_cameOut q_onWalks q_far q_aside q_wasFull q_undos q_was w_undoMany c_drawn q_kept q_isKept, aI k q_now 189 w_now, aI k q_undos 1512 c_undos] := by
  refine mkMI' (own := "DoorWalkModel") (by decide) rfl (Nat.le_of_ble_eq_true rfl) ?_
  intro p e s m args below meth c Q A hret C
  refine ww_lv (lv' := [(0, .ref q_this)]) [0] rfl ?_
  have hL26 : ∀ (n : Nat) (c_thrown : Int32) (c_undoMany : Int32) (c_now : Nat → Int32) (n1 : Int32), lfix (fX8_undo_b26 c_undos) (fun _ _ _ _ => none) n c_thrown c_undoMany c_now n1 = some (r_, w_thrown, w_undoMany, w_now) → WW p l e (RM 0 0) s m args below meth c Q 2 D A 0 0 [oX8 q_this q_now q_text c_typed q_row c_rowMany c_thrown c_length c_at c_wrong q_read q_outerCell q_outerDoor c_outerMany q_walked c_walkedMany c_cameOut q_onWalks q_far q_aside q_wasFull q_undos q_was c_undoMany c_drawn q_kept q_isKept, aI k q_now 189 c_now, aI k q_undos 1512 c_undos] [(0, .ref q_this), (1, .int n1)] 26 [] := by
    intro n
    induction n with
    | zero => intro c_thrown c_undoMany c_now n1 hf; cases hf
    | succ n ih26 =>
      obtain ⟨rc26, hrc26⟩ : ∃ f9, f9 = lfix (fX8_undo_b26 c_undos) (fun _ _ _ _ => none) n := ⟨_, rfl⟩
      rw [← hrc26] at ih26
      intro c_thrown c_undoMany c_now n1 hf
      have hf : fX8_undo_b26 c_undos rc26 c_thrown c_undoMany c_now n1 = some (r_, w_thrown, w_undoMany, w_now) := by rw [hrc26]; exact hf
      unfold fX8_undo_b26 at hf
      refine ww_iload_n (pc := 26) C dX8_undo_26 rfl 1 rfl ?_
      refine ww_sipush (pc := 27) C dX8_undo_27 kS_189 ?_
      refine ww_icmp_ge (pc := 30) (tgt := 60) C dX8_undo_30 (by decide) (fun hc => ?_) (fun hc => ?_)
      · have hf := ifT hc hf
        refine ww_aload_n (pc := 60) C dX8_undo_60 rfl 0 rfl ?_
        refine gf8_22 (pc := 61) C kf_X8_306 0 rfl rfl dX8_undo_61 ?_
        obtain ⟨e0, e1, e2, e3⟩ := ij4 hf
        exact hret _ _ 64 _ dX8_undo_64 rfl e0 (by rw [← e1, ← e2, ← e3])
      · have hf := ifF hc hf
        refine ww_aload_n (pc := 33) C dX8_undo_33 rfl 0 rfl ?_
        refine gf8_0 (pc := 34) C kf_X8_9 0 rfl rfl dX8_undo_34 ?_
        refine ww_iload_n (pc := 37) C dX8_undo_37 rfl 1 rfl ?_
        refine ww_aload_n (pc := 38) C dX8_undo_38 rfl 0 rfl ?_
        refine gf8_20 (pc := 39) C kf_X8_46 0 rfl rfl dX8_undo_39 ?_
        refine ww_sipush (pc := 42) C dX8_undo_42 kS_189 ?_
        refine ww_aload_n (pc := 45) C dX8_undo_45 rfl 0 rfl ?_
        refine gf8_22 (pc := 46) C kf_X8_306 0 rfl rfl dX8_undo_46 ?_
        refine ww_imul (pc := 49) C dX8_undo_49  ?_
        refine ww_iload_n (pc := 50) C dX8_undo_50 rfl 1 rfl ?_
        refine ww_iadd (pc := 51) C dX8_undo_51  ?_
        obtain ⟨v1, h1, hf⟩ := bsome hf
        refine ww_iald (pc := 52) C 2 rfl h1 dX8_undo_52 ?_
        obtain ⟨v2, h2, hf⟩ := bsome hf
        refine ww_iast (pc := 53) (ws' := [oX8 q_this q_now q_text c_typed q_row c_rowMany c_thrown c_length c_at c_wrong q_read q_outerCell q_outerDoor c_outerMany q_walked c_walkedMany c_cameOut q_onWalks q_far q_aside q_wasFull q_undos q_was c_undoMany c_drawn q_kept q_isKept, aI k q_now 189 v2, aI k q_undos 1512 c_undos]) C 1 rfl h2 rfl dX8_undo_53 ?_
        obtain ⟨v3, h3, hf⟩ := bsome hf
        refine ww_iincN (pc := 54) (lv' := [(1, .int v3), (0, .ref q_this)]) (j := 1) C dX8_undo_54 kI_1 rfl h3 (by decide) rfl ?_
        refine ww_goto (pc := 57) (tgt := 26) C dX8_undo_57 (by decide) ?_
        exact ww_lv [1, 0] rfl (ih26 c_thrown c_undoMany v2 v3 hf)
  unfold fX8_undo at hf
  refine ww_aload_n (pc := 0) C dX8_undo_0 rfl 0 rfl ?_
  refine ww_iconst (pc := 1) C dX8_undo_1 kI_0 ?_
  refine pf8_5 (pc := 2) (ws' := [oX8 q_this q_now q_text c_typed q_row c_rowMany (0 : Int32) c_length c_at c_wrong q_read q_outerCell q_outerDoor c_outerMany q_walked c_walkedMany c_cameOut q_onWalks q_far q_aside q_wasFull q_undos q_was c_undoMany c_drawn q_kept q_isKept, aI k q_now 189 c_now, aI k q_undos 1512 c_undos]) C kf_X8_61 0 rfl (Nat.le_of_ble_eq_true rfl) rfl dX8_undo_2 ?_
  refine ww_aload_n (pc := 5) C dX8_undo_5 rfl 0 rfl ?_
  refine gf8_22 (pc := 6) C kf_X8_306 0 rfl rfl dX8_undo_6 ?_
  refine ww_if_ne (pc := 9) (tgt := 14) C dX8_undo_9 (by decide) (fun hc => ?_) (fun hc => ?_)
  · have hf := ifF hc hf
    refine ww_aload_n (pc := 14) C dX8_undo_14 rfl 0 rfl ?_
    refine ww_dup (pc := 15) C dX8_undo_15 rfl ?_
    refine gf8_22 (pc := 16) C kf_X8_306 0 rfl rfl dX8_undo_16 ?_
    refine ww_iconst (pc := 19) C dX8_undo_19 kI_1 ?_
    refine ww_isub (pc := 20) C dX8_undo_20  ?_
    obtain ⟨v1, h1, hf⟩ := bsome hf
    refine ww_nmi h1 ?_
    refine pf8_22 (pc := 21) (ws' := [oX8 q_this q_now q_text c_typed q_row c_rowMany (0 : Int32) c_length c_at c_wrong q_read q_outerCell q_outerDoor c_outerMany q_walked c_walkedMany c_cameOut q_onWalks q_far q_aside q_wasFull q_undos q_was v1 c_drawn q_kept q_isKept, aI k q_now 189 c_now, aI k q_undos 1512 c_undos]) C kf_X8_306 0 rfl (Nat.le_of_ble_eq_true rfl) rfl dX8_undo_21 ?_
    refine ww_iconst (pc := 24) C dX8_undo_24 kI_0 ?_
    refine ww_istore_n (pc := 25) (lv' := [(1, .int (0 : Int32)), (0, .ref q_this)]) C dX8_undo_25 rfl (by decide) rfl ?_
    exact ww_lv [1, 0] rfl (hL26 FU (0 : Int32) v1 c_now (0 : Int32) hf)
  · have hf := ifT hc hf
    refine ww_iconst (pc := 12) C dX8_undo_12 kI_m1 ?_
    obtain ⟨e0, e1, e2, e3⟩ := ij4 hf
    exact hret _ _ 13 _ dX8_undo_13 rfl e0 (by rw [← e1, ← e2, ← e3])
def fX8_draw (c_drawn : Int32) (x1 : Int32) : Option (Int32 × Int32) := (some ((c_drawn * (1103515245 : Int32)) + (12345 : Int32))).bind fun v1 => (rmI (((v1).toUInt32 >>> (((16 : Int32)).toUInt32 &&& Int32.toUInt32 31)).toInt32) x1).bind fun v2 => some (v2, v1)
set_option maxHeartbeats 4000000 in
set_option maxRecDepth 100000 in
theorem tX8_draw (l : Launch) (D : va_G) (k : Nat → ClassId) (q_this q_now q_text q_row q_read q_outerCell q_outerDoor q_walked q_onWalks q_far q_aside q_wasFull q_undos q_was q_kept q_isKept : Nat) (c_typed : Int32) (c_rowMany : Int32) (c_thrown : Int32) (c_length : Int32) (c_at : Int32) (c_wrong : Int32) (c_outerMany : Int32) (c_walkedMany : Int32) (c_cameOut : Int32) (c_undoMany : Int32) (c_drawn : Int32) (x1 : Int32) (r_ : Int32) (w_drawn : Int32) (hf : fX8_draw c_drawn x1 = some (r_, w_drawn)) : MI l yX8_draw cX8_draw 2 .int (RM 0 0) D k [.ref q_this, .int x1] [oX8 q_this q_now q_text c_typed q_row c_rowMany c_thrown c_length c_at c_wrong q_read q_outerCell q_outerDoor c_outerMany q_walked c_walkedMany c_cameOut q_onWalks q_far q_aside q_wasFull q_undos q_was c_undoMany c_drawn q_kept q_isKept] r_ [oX8 q_this q_now q_text c_typed q_row c_rowMany c_thrown c_length c_at c_wrong q_read q_outerCell q_outerDoor c_outerMany q_walked c_walkedMany c_cameOut q_onWalks q_far q_aside q_wasFull q_undos q_was c_undoMany w_drawn q_kept q_isKept] := by
  refine mkMI' (own := "DoorWalkModel") (by decide) rfl (Nat.le_of_ble_eq_true rfl) ?_
  intro p e s m args below meth c Q A hret C
  refine ww_lv (lv' := [(0, .ref q_this), (1, .int x1)]) [0, 1] rfl ?_
  unfold fX8_draw at hf
  refine ww_aload_n (pc := 0) C dX8_draw_0 rfl 0 rfl ?_
  refine ww_aload_n (pc := 1) C dX8_draw_1 rfl 0 rfl ?_
  refine gf8_23 (pc := 2) C kf_X8_343 0 rfl rfl dX8_draw_2 ?_
  refine ww_ldcw (pc := 5) C dX8_draw_5 kc_X8_346 ?_
  refine ww_imul (pc := 8) C dX8_draw_8  ?_
  refine ww_sipush (pc := 9) C dX8_draw_9 kS_12345 ?_
  refine ww_iadd (pc := 12) C dX8_draw_12  ?_
  obtain ⟨v1, h1, hf⟩ := bsome hf
  refine ww_nmi h1 ?_
  refine pf8_23 (pc := 13) (ws' := [oX8 q_this q_now q_text c_typed q_row c_rowMany c_thrown c_length c_at c_wrong q_read q_outerCell q_outerDoor c_outerMany q_walked c_walkedMany c_cameOut q_onWalks q_far q_aside q_wasFull q_undos q_was c_undoMany v1 q_kept q_isKept]) C kf_X8_343 0 rfl (Nat.le_of_ble_eq_true rfl) rfl dX8_draw_13 ?_
  refine ww_aload_n (pc := 16) C dX8_draw_16 rfl 0 rfl ?_
  refine gf8_23 (pc := 17) C kf_X8_343 0 rfl rfl dX8_draw_17 ?_
  refine ww_bipush (pc := 20) C dX8_draw_20 kB_16 ?_
  refine ww_iushr (pc := 22) C dX8_draw_22 rfl ?_
  refine ww_iload_n (pc := 23) C dX8_draw_23 rfl 1 rfl ?_
  obtain ⟨v2, h2, hf⟩ := bsome hf
  refine ww_irem (pc := 24) C dX8_draw_24 h2 ?_
  obtain ⟨e0, e1⟩ := ij2 hf
  exact hret _ _ 25 _ dX8_draw_25 rfl e0 (by rw [← e1])
def fX8_years_b117 (rc117 : Int32 → Int32 → Int32 → Int32 → (Nat → Int32) → (Nat → Int32) → (Nat → Int32) → (Nat → Int32) → (Nat → Int64) → Int32 → Int32 → Option (Int32 × Int32 × Int32 × Int32 × Int32 × (Nat → Int32) × (Nat → Int32) × (Nat → Int32) × (Nat → Int32) × (Nat → Int64))) (c_drawn : Int32) (c_outerMany : Int32) (c_rowMany : Int32) (c_thrown : Int32) (c_aside : Nat → Int32) (c_now : Nat → Int32) (c_outerCell : Nat → Int32) (c_outerDoor : Nat → Int32) (c_row : Nat → Int64) (n3 : Int32) (n4 : Int32) : Option (Int32 × Int32 × Int32 × Int32 × Int32 × (Nat → Int32) × (Nat → Int32) × (Nat → Int32) × (Nat → Int32) × (Nat → Int64)) := if (3 : Int32) ≤ n4 then (fX8_comesBack c_aside c_now).bind fun v1 => some (n3, c_drawn, c_outerMany, c_rowMany, c_thrown, c_aside, v1, c_outerCell, c_outerDoor, c_row) else bd3 (fX8_layOuter c_now c_outerMany c_outerCell c_outerDoor n4) fun v2 v3 v4 => bd2 (fX8_tell c_rowMany c_row ((v2).toInt64)) fun v5 v6 => (some (n4 + (1 : Int32))).bind fun v7 => rc117 c_drawn v2 v5 c_thrown c_aside c_now v3 v4 v6 n3 v7
def fX8_years_b28 (rc28 : Int32 → Int32 → Int32 → Int32 → (Nat → Int32) → (Nat → Int32) → (Nat → Int32) → (Nat → Int32) → (Nat → Int64) → Int32 → Int32 → Option (Int32 × Int32 × Int32 × Int32 × Int32 × (Nat → Int32) × (Nat → Int32) × (Nat → Int32) × (Nat → Int32) × (Nat → Int64))) (c_drawn : Int32) (c_outerMany : Int32) (c_rowMany : Int32) (c_thrown : Int32) (c_aside : Nat → Int32) (c_now : Nat → Int32) (c_outerCell : Nat → Int32) (c_outerDoor : Nat → Int32) (c_row : Nat → Int64) (n2 : Int32) (n3 : Int32) : Option (Int32 × Int32 × Int32 × Int32 × Int32 × (Nat → Int32) × (Nat → Int32) × (Nat → Int32) × (Nat → Int32) × (Nat → Int64)) := if n2 ≤ n3 then (fX8_fullMany c_now).bind fun v1 => (fX8_turns c_now).bind fun v2 => bd2 (fX8_tell (0 : Int32) c_row ((v2).toInt64)) fun v3 v4 => lfix (fX8_years_b117) (fun _ _ _ _ _ _ _ _ _ _ _ => none) FU c_drawn c_outerMany v3 c_thrown c_aside c_now c_outerCell c_outerDoor v4 v1 (0 : Int32) else (fX8_points c_now).bind fun v5 => bd2 (fX8_draw c_drawn v5) fun v6 v7 => bd2 (fX8_draw v7 (3 : Int32)) fun v8 v9 => (fX8_iOf c_now v6).bind fun v10 => (fX8_jOf c_now v6).bind fun v11 => (fX8_refusesLay c_now v10 v11 v8).bind fun v12 => if v12 = 0 then (fX8_iOf c_now v6).bind fun v14 => (fX8_jOf c_now v6).bind fun v15 => (fX8_goLay c_now v14 v15 v8).bind fun v16 => (some (n3 + (1 : Int32))).bind fun v17 => rc28 v9 c_outerMany c_rowMany c_thrown c_aside v16 c_outerCell c_outerDoor c_row n2 v17 else (some (n3 + (1 : Int32))).bind fun v13 => rc28 v9 c_outerMany c_rowMany c_thrown c_aside c_now c_outerCell c_outerDoor c_row n2 v13
def fX8_years (c_drawn : Int32) (c_outerMany : Int32) (c_rowMany : Int32) (c_thrown : Int32) (c_aside : Nat → Int32) (c_now : Nat → Int32) (c_outerCell : Nat → Int32) (c_outerDoor : Nat → Int32) (c_row : Nat → Int64) (x1 : Int32) (x2 : Int32) : Option (Int32 × Int32 × Int32 × Int32 × Int32 × (Nat → Int32) × (Nat → Int32) × (Nat → Int32) × (Nat → Int32) × (Nat → Int64)) := (fX8_in x2 (1 : Int32) (40 : Int32)).bind fun v1 => if v1 = 0 then some ((-1 : Int32), c_drawn, c_outerMany, c_rowMany, (0 : Int32), c_aside, c_now, c_outerCell, c_outerDoor, c_row) else (fX8_layAside c_now c_aside).bind fun v2 => lfix (fX8_years_b28) (fun _ _ _ _ _ _ _ _ _ _ _ => none) FU x1 c_outerMany c_rowMany (0 : Int32) v2 c_now c_outerCell c_outerDoor c_row x2 (0 : Int32)
set_option maxHeartbeats 4000000 in
set_option maxRecDepth 100000 in
theorem tX8_years (l : Launch) (D : va_G) (k : Nat → ClassId) (q_this q_now q_text q_row q_read q_outerCell q_outerDoor q_walked q_onWalks q_far q_aside q_wasFull q_undos q_was q_kept q_isKept : Nat) (c_typed : Int32) (c_rowMany : Int32) (c_thrown : Int32) (c_length : Int32) (c_at : Int32) (c_wrong : Int32) (c_outerMany : Int32) (c_walkedMany : Int32) (c_cameOut : Int32) (c_undoMany : Int32) (c_drawn : Int32) (c_aside : Nat → Int32) (c_now : Nat → Int32) (c_outerCell : Nat → Int32) (c_outerDoor : Nat → Int32) (c_row : Nat → Int64) (x1 : Int32) (x2 : Int32) (r_ : Int32) (w_drawn : Int32) (w_outerMany : Int32) (w_rowMany : Int32) (w_thrown : Int32) (w_aside : Nat → Int32) (w_now : Nat → Int32) (w_outerCell : Nat → Int32) (w_outerDoor : Nat → Int32) (w_row : Nat → Int64) (hf : fX8_years c_drawn c_outerMany c_rowMany c_thrown c_aside c_now c_outerCell c_outerDoor c_row x1 x2 = some (r_, w_drawn, w_outerMany, w_rowMany, w_thrown, w_aside, w_now, w_outerCell, w_outerDoor, w_row)) : MI l yX8_years cX8_years 6 .int (RM 8 173) D k [.ref q_this, .int x1, .int x2] [oX8 q_this q_now q_text c_typed q_row c_rowMany c_thrown c_length c_at c_wrong q_read q_outerCell q_outerDoor c_outerMany q_walked c_walkedMany c_cameOut q_onWalks q_far q_aside q_wasFull q_undos q_was c_undoMany c_drawn q_kept q_isKept, aI k q_aside 189 c_aside, aI k q_now 189 c_now, aI k q_outerCell 16 c_outerCell, aI k q_outerDoor 16 c_outerDoor, aJ k q_row 64 c_row] r_ [oX8 q_this q_now q_text c_typed q_row w_rowMany w_thrown c_length c_at c_wrong q_read q_outerCell q_outerDoor w_outerMany q_walked c_walkedMany c_cameOut q_onWalks q_far q_aside q_wasFull q_undos q_was c_undoMany w_drawn q_kept q_isKept, aI k q_aside 189 w_aside, aI k q_now 189 w_now, aI k q_outerCell 16 w_outerCell, aI k q_outerDoor 16 w_outerDoor, aJ k q_row 64 w_row] := by
  refine mkMI' (own := "DoorWalkModel") (by decide) rfl (Nat.le_of_ble_eq_true rfl) ?_
  intro p e s m args below meth c Q A hret C
  refine ww_lv (lv' := [(0, .ref q_this), (1, .int x1), (2, .int x2)]) [0, 1, 2] rfl ?_
  have hL117 : ∀ (n : Nat) (c_drawn : Int32) (c_outerMany : Int32) (c_rowMany : Int32) (c_thrown : Int32) (c_aside : Nat → Int32) (c_now : Nat → Int32) (c_outerCell : Nat → Int32) (c_outerDoor : Nat → Int32) (c_row : Nat → Int64) (n3 : Int32) (n4 : Int32), lfix (fX8_years_b117) (fun _ _ _ _ _ _ _ _ _ _ _ => none) n c_drawn c_outerMany c_rowMany c_thrown c_aside c_now c_outerCell c_outerDoor c_row n3 n4 = some (r_, w_drawn, w_outerMany, w_rowMany, w_thrown, w_aside, w_now, w_outerCell, w_outerDoor, w_row) → WW p l e (RM 8 173) s m args below meth c Q 6 D A 0 0 [oX8 q_this q_now q_text c_typed q_row c_rowMany c_thrown c_length c_at c_wrong q_read q_outerCell q_outerDoor c_outerMany q_walked c_walkedMany c_cameOut q_onWalks q_far q_aside q_wasFull q_undos q_was c_undoMany c_drawn q_kept q_isKept, aI k q_aside 189 c_aside, aI k q_now 189 c_now, aI k q_outerCell 16 c_outerCell, aI k q_outerDoor 16 c_outerDoor, aJ k q_row 64 c_row] [(0, .ref q_this), (3, .int n3), (4, .int n4)] 117 [] := by
    intro n
    induction n with
    | zero => intro c_drawn c_outerMany c_rowMany c_thrown c_aside c_now c_outerCell c_outerDoor c_row n3 n4 hf; cases hf
    | succ n ih117 =>
      obtain ⟨rc117, hrc117⟩ : ∃ f9, f9 = lfix (fX8_years_b117) (fun _ _ _ _ _ _ _ _ _ _ _ => none) n := ⟨_, rfl⟩
      rw [← hrc117] at ih117
      intro c_drawn c_outerMany c_rowMany c_thrown c_aside c_now c_outerCell c_outerDoor c_row n3 n4 hf
      have hf : fX8_years_b117 rc117 c_drawn c_outerMany c_rowMany c_thrown c_aside c_now c_outerCell c_outerDoor c_row n3 n4 = some (r_, w_drawn, w_outerMany, w_rowMany, w_thrown, w_aside, w_now, w_outerCell, w_outerDoor, w_row) := by rw [hrc117]; exact hf
      unfold fX8_years_b117 at hf
      refine ww_iload (pc := 117) C dX8_years_117 2 rfl ?_
      refine ww_iconst (pc := 119) C dX8_years_119 kI_3 ?_
      refine ww_icmp_ge (pc := 120) (tgt := 144) C dX8_years_120 (by decide) (fun hc => ?_) (fun hc => ?_)
      · have hf := ifT hc hf
        refine ww_aload_n (pc := 144) C dX8_years_144 rfl 0 rfl ?_
        obtain ⟨v1, h1, hf⟩ := bsome hf
        refine ww_callVv (pc := 145) (ws' := [oX8 q_this q_now q_text c_typed q_row c_rowMany c_thrown c_length c_at c_wrong q_read q_outerCell q_outerDoor c_outerMany q_walked c_walkedMany c_cameOut q_onWalks q_far q_aside q_wasFull q_undos q_was c_undoMany c_drawn q_kept q_isKept, aI k q_aside 189 c_aside, aI k q_now 189 v1, aI k q_outerCell 16 c_outerCell, aI k q_outerDoor 16 c_outerDoor, aJ k q_row 64 c_row]) (As := []) (rest := []) C (tX8_comesBack l D k q_this q_now q_text q_row q_read q_outerCell q_outerDoor q_walked q_onWalks q_far q_aside q_wasFull q_undos q_was q_kept q_isKept c_typed c_rowMany c_thrown c_length c_at c_wrong c_outerMany c_walkedMany c_cameOut c_undoMany c_drawn c_aside c_now v1 h1) cv_X8_287 ⟨⟨by decide, by decide⟩, rfl, rfl⟩ 0 rfl rfl [0, 1, 2] rfl rfl rfl rfl rfl rfl (Nat.le_of_ble_eq_true rfl) ⟨Nat.zero_le _, Nat.zero_le _⟩ dX8_years_145 ?_
        refine ww_iload_n (pc := 148) C dX8_years_148 rfl 1 rfl ?_
        obtain ⟨e0, e1, e2, e3, e4, e5, e6, e7, e8, e9⟩ := ij10 hf
        exact hret _ _ 149 _ dX8_years_149 rfl e0 (by rw [← e1, ← e2, ← e3, ← e4, ← e5, ← e6, ← e7, ← e8, ← e9])
      · have hf := ifF hc hf
        refine ww_aload_n (pc := 123) C dX8_years_123 rfl 0 rfl ?_
        refine ww_iload (pc := 124) C dX8_years_124 2 rfl ?_
        obtain ⟨v2, v3, v4, h2, hf⟩ := bd3_some hf
        refine ww_callVv (pc := 126) (ws' := [oX8 q_this q_now q_text c_typed q_row c_rowMany c_thrown c_length c_at c_wrong q_read q_outerCell q_outerDoor v2 q_walked c_walkedMany c_cameOut q_onWalks q_far q_aside q_wasFull q_undos q_was c_undoMany c_drawn q_kept q_isKept, aI k q_aside 189 c_aside, aI k q_now 189 c_now, aI k q_outerCell 16 v3, aI k q_outerDoor 16 v4, aJ k q_row 64 c_row]) (As := [.int n4]) (rest := []) C (tX8_layOuter l D k q_this q_now q_text q_row q_read q_outerCell q_outerDoor q_walked q_onWalks q_far q_aside q_wasFull q_undos q_was q_kept q_isKept c_typed c_rowMany c_thrown c_length c_at c_wrong c_outerMany c_walkedMany c_cameOut c_undoMany c_drawn c_now c_outerCell c_outerDoor n4 v2 v3 v4 h2) cv_X8_247 ⟨⟨by decide, by decide⟩, rfl, rfl⟩ 0 rfl rfl [0, 2, 3, 4] rfl rfl rfl rfl rfl rfl (Nat.le_of_ble_eq_true rfl) ⟨Nat.zero_le _, Nat.zero_le _⟩ dX8_years_126 ?_
        refine ww_aload_n (pc := 129) C dX8_years_129 rfl 0 rfl ?_
        refine ww_aload_n (pc := 130) C dX8_years_130 rfl 0 rfl ?_
        refine gf8_12 (pc := 131) C kf_X8_241 0 rfl rfl dX8_years_131 ?_
        refine ww_i2l (pc := 134) C dX8_years_134  ?_
        obtain ⟨v5, v6, h5, hf⟩ := bd2_some hf
        refine ww_callVv (pc := 135) (ws' := [oX8 q_this q_now q_text c_typed q_row v5 c_thrown c_length c_at c_wrong q_read q_outerCell q_outerDoor v2 q_walked c_walkedMany c_cameOut q_onWalks q_far q_aside q_wasFull q_undos q_was c_undoMany c_drawn q_kept q_isKept, aI k q_aside 189 c_aside, aI k q_now 189 c_now, aI k q_outerCell 16 v3, aI k q_outerDoor 16 v4, aJ k q_row 64 v6]) (As := [.long ((v2).toInt64)]) (rest := []) C (tX8_tell l D k q_this q_now q_text q_row q_read q_outerCell q_outerDoor q_walked q_onWalks q_far q_aside q_wasFull q_undos q_was q_kept q_isKept c_typed c_rowMany c_thrown c_length c_at c_wrong v2 c_walkedMany c_cameOut c_undoMany c_drawn c_row ((v2).toInt64) v5 v6 h5) cv_X8_182 ⟨⟨by decide, by decide⟩, rfl, rfl⟩ 0 rfl rfl [0, 5] rfl rfl rfl rfl rfl rfl (Nat.le_of_ble_eq_true rfl) ⟨Nat.zero_le _, Nat.zero_le _⟩ dX8_years_135 ?_
        obtain ⟨v7, h7, hf⟩ := bsome hf
        refine ww_iincN (pc := 138) (lv' := [(4, .int v7), (0, .ref q_this), (3, .int n3)]) (j := 2) C dX8_years_138 kI_1 rfl h7 (by decide) rfl ?_
        refine ww_goto (pc := 141) (tgt := 117) C dX8_years_141 (by decide) ?_
        exact ww_lv [1, 2, 0] rfl (ih117 c_drawn v2 v5 c_thrown c_aside c_now v3 v4 v6 n3 v7 hf)
  have hL28 : ∀ (n : Nat) (c_drawn : Int32) (c_outerMany : Int32) (c_rowMany : Int32) (c_thrown : Int32) (c_aside : Nat → Int32) (c_now : Nat → Int32) (c_outerCell : Nat → Int32) (c_outerDoor : Nat → Int32) (c_row : Nat → Int64) (n2 : Int32) (n3 : Int32), lfix (fX8_years_b28) (fun _ _ _ _ _ _ _ _ _ _ _ => none) n c_drawn c_outerMany c_rowMany c_thrown c_aside c_now c_outerCell c_outerDoor c_row n2 n3 = some (r_, w_drawn, w_outerMany, w_rowMany, w_thrown, w_aside, w_now, w_outerCell, w_outerDoor, w_row) → WW p l e (RM 8 173) s m args below meth c Q 6 D A 0 0 [oX8 q_this q_now q_text c_typed q_row c_rowMany c_thrown c_length c_at c_wrong q_read q_outerCell q_outerDoor c_outerMany q_walked c_walkedMany c_cameOut q_onWalks q_far q_aside q_wasFull q_undos q_was c_undoMany c_drawn q_kept q_isKept, aI k q_aside 189 c_aside, aI k q_now 189 c_now, aI k q_outerCell 16 c_outerCell, aI k q_outerDoor 16 c_outerDoor, aJ k q_row 64 c_row] [(0, .ref q_this), (2, .int n2), (3, .int n3)] 28 [] := by
    intro n
    induction n with
    | zero => intro c_drawn c_outerMany c_rowMany c_thrown c_aside c_now c_outerCell c_outerDoor c_row n2 n3 hf; cases hf
    | succ n ih28 =>
      obtain ⟨rc28, hrc28⟩ : ∃ f9, f9 = lfix (fX8_years_b28) (fun _ _ _ _ _ _ _ _ _ _ _ => none) n := ⟨_, rfl⟩
      rw [← hrc28] at ih28
      intro c_drawn c_outerMany c_rowMany c_thrown c_aside c_now c_outerCell c_outerDoor c_row n2 n3 hf
      have hf : fX8_years_b28 rc28 c_drawn c_outerMany c_rowMany c_thrown c_aside c_now c_outerCell c_outerDoor c_row n2 n3 = some (r_, w_drawn, w_outerMany, w_rowMany, w_thrown, w_aside, w_now, w_outerCell, w_outerDoor, w_row) := by rw [hrc28]; exact hf
      unfold fX8_years_b28 at hf
      refine ww_iload_n (pc := 28) C dX8_years_28 rfl 2 rfl ?_
      refine ww_iload_n (pc := 29) C dX8_years_29 rfl 1 rfl ?_
      refine ww_icmp_ge (pc := 30) (tgt := 95) C dX8_years_30 (by decide) (fun hc => ?_) (fun hc => ?_)
      · have hf := ifT hc hf
        refine ww_aload_n (pc := 95) C dX8_years_95 rfl 0 rfl ?_
        obtain ⟨v1, h1, hf⟩ := bsome hf
        refine ww_callVi0 (pc := 96) (As := []) (rest := []) C (tX8_fullMany l D k q_this q_now q_text q_row q_read q_outerCell q_outerDoor q_walked q_onWalks q_far q_aside q_wasFull q_undos q_was q_kept q_isKept c_typed c_rowMany c_thrown c_length c_at c_wrong c_outerMany c_walkedMany c_cameOut c_undoMany c_drawn c_now v1 h1) cv_X8_226 ⟨⟨by decide, by decide⟩, rfl, rfl⟩ 0 rfl rfl [0, 2] rfl rfl rfl rfl (Nat.le_of_ble_eq_true rfl) ⟨Nat.zero_le _, Nat.zero_le _⟩ dX8_years_96 (fun hb1 => ?_)
        refine ww_istore_n (pc := 99) (lv' := [(3, .int v1), (0, .ref q_this), (2, .int n2)]) C dX8_years_99 rfl (by decide) rfl ?_
        refine ww_aload_n (pc := 100) C dX8_years_100 rfl 1 rfl ?_
        refine ww_iconst (pc := 101) C dX8_years_101 kI_0 ?_
        refine pf8_4 (pc := 102) (ws' := [oX8 q_this q_now q_text c_typed q_row (0 : Int32) c_thrown c_length c_at c_wrong q_read q_outerCell q_outerDoor c_outerMany q_walked c_walkedMany c_cameOut q_onWalks q_far q_aside q_wasFull q_undos q_was c_undoMany c_drawn q_kept q_isKept, aI k q_aside 189 c_aside, aI k q_now 189 c_now, aI k q_outerCell 16 c_outerCell, aI k q_outerDoor 16 c_outerDoor, aJ k q_row 64 c_row]) C kf_X8_65 0 rfl (Nat.le_of_ble_eq_true rfl) rfl dX8_years_102 ?_
        refine ww_aload_n (pc := 105) C dX8_years_105 rfl 1 rfl ?_
        refine ww_aload_n (pc := 106) C dX8_years_106 rfl 1 rfl ?_
        obtain ⟨v2, h2, hf⟩ := bsome hf
        refine ww_callVi0 (pc := 107) (As := []) (rest := [.ref q_this]) C (tX8_turns l D k q_this q_now q_text q_row q_read q_outerCell q_outerDoor q_walked q_onWalks q_far q_aside q_wasFull q_undos q_was q_kept q_isKept c_typed (0 : Int32) c_thrown c_length c_at c_wrong c_outerMany c_walkedMany c_cameOut c_undoMany c_drawn c_now v2 h2) cv_X8_229 ⟨⟨by decide, by decide⟩, rfl, rfl⟩ 0 rfl rfl [0, 2] rfl rfl rfl rfl (Nat.le_of_ble_eq_true rfl) ⟨Nat.zero_le _, Nat.zero_le _⟩ dX8_years_107 (fun hb2 => ?_)
        refine ww_i2l (pc := 110) C dX8_years_110  ?_
        obtain ⟨v3, v4, h3, hf⟩ := bd2_some hf
        refine ww_callVv (pc := 111) (ws' := [oX8 q_this q_now q_text c_typed q_row v3 c_thrown c_length c_at c_wrong q_read q_outerCell q_outerDoor c_outerMany q_walked c_walkedMany c_cameOut q_onWalks q_far q_aside q_wasFull q_undos q_was c_undoMany c_drawn q_kept q_isKept, aI k q_aside 189 c_aside, aI k q_now 189 c_now, aI k q_outerCell 16 c_outerCell, aI k q_outerDoor 16 c_outerDoor, aJ k q_row 64 v4]) (As := [.long ((v2).toInt64)]) (rest := []) C (tX8_tell l D k q_this q_now q_text q_row q_read q_outerCell q_outerDoor q_walked q_onWalks q_far q_aside q_wasFull q_undos q_was q_kept q_isKept c_typed (0 : Int32) c_thrown c_length c_at c_wrong c_outerMany c_walkedMany c_cameOut c_undoMany c_drawn c_row ((v2).toInt64) v3 v4 h3) cv_X8_182 ⟨⟨by decide, by decide⟩, rfl, rfl⟩ 0 rfl rfl [0, 5] rfl rfl rfl rfl rfl rfl (Nat.le_of_ble_eq_true rfl) ⟨Nat.zero_le _, Nat.zero_le _⟩ dX8_years_111 ?_
        refine ww_iconst (pc := 114) C dX8_years_114 kI_0 ?_
        refine ww_istore (pc := 115) (lv' := [(4, .int (0 : Int32)), (3, .int v1), (0, .ref q_this), (2, .int n2)]) C dX8_years_115 (by decide) rfl ?_
        exact ww_lv [2, 1, 0] rfl (hL117 FU c_drawn c_outerMany v3 c_thrown c_aside c_now c_outerCell c_outerDoor v4 v1 (0 : Int32) hf)
      · have hf := ifF hc hf
        refine ww_aload_n (pc := 33) C dX8_years_33 rfl 0 rfl ?_
        refine ww_aload_n (pc := 34) C dX8_years_34 rfl 0 rfl ?_
        obtain ⟨v5, h5, hf⟩ := bsome hf
        refine ww_callVi0 (pc := 35) (As := []) (rest := [.ref q_this]) C (tX8_points l D k q_this q_now q_text q_row q_read q_outerCell q_outerDoor q_walked q_onWalks q_far q_aside q_wasFull q_undos q_was q_kept q_isKept c_typed c_rowMany c_thrown c_length c_at c_wrong c_outerMany c_walkedMany c_cameOut c_undoMany c_drawn c_now v5 h5) cv_X8_172 ⟨⟨by decide, by decide⟩, rfl, rfl⟩ 0 rfl rfl [0, 2] rfl rfl rfl rfl (Nat.le_of_ble_eq_true rfl) ⟨Nat.zero_le _, Nat.zero_le _⟩ dX8_years_35 (fun hb5 => ?_)
        obtain ⟨v6, v7, h6, hf⟩ := bd2_some hf
        refine ww_callVi (pc := 38) (ws' := [oX8 q_this q_now q_text c_typed q_row c_rowMany c_thrown c_length c_at c_wrong q_read q_outerCell q_outerDoor c_outerMany q_walked c_walkedMany c_cameOut q_onWalks q_far q_aside q_wasFull q_undos q_was c_undoMany v7 q_kept q_isKept, aI k q_aside 189 c_aside, aI k q_now 189 c_now, aI k q_outerCell 16 c_outerCell, aI k q_outerDoor 16 c_outerDoor, aJ k q_row 64 c_row]) (As := [.int v5]) (rest := []) C (tX8_draw l D k q_this q_now q_text q_row q_read q_outerCell q_outerDoor q_walked q_onWalks q_far q_aside q_wasFull q_undos q_was q_kept q_isKept c_typed c_rowMany c_thrown c_length c_at c_wrong c_outerMany c_walkedMany c_cameOut c_undoMany c_drawn v5 v6 v7 h6) cv_X8_347 ⟨⟨by decide, by decide⟩, rfl, rfl⟩ 0 rfl rfl [0] rfl rfl rfl rfl rfl rfl (Nat.le_of_ble_eq_true rfl) ⟨Nat.zero_le _, Nat.zero_le _⟩ dX8_years_38 (fun hb6 => ?_)
        refine ww_istore (pc := 41) (lv' := [(4, .int v6), (0, .ref q_this), (2, .int n2), (3, .int n3)]) C dX8_years_41 (by decide) rfl ?_
        refine ww_aload_n (pc := 43) C dX8_years_43 rfl 1 rfl ?_
        refine ww_iconst (pc := 44) C dX8_years_44 kI_3 ?_
        obtain ⟨v8, v9, h8, hf⟩ := bd2_some hf
        refine ww_callVi (pc := 45) (ws' := [oX8 q_this q_now q_text c_typed q_row c_rowMany c_thrown c_length c_at c_wrong q_read q_outerCell q_outerDoor c_outerMany q_walked c_walkedMany c_cameOut q_onWalks q_far q_aside q_wasFull q_undos q_was c_undoMany v9 q_kept q_isKept, aI k q_aside 189 c_aside, aI k q_now 189 c_now, aI k q_outerCell 16 c_outerCell, aI k q_outerDoor 16 c_outerDoor, aJ k q_row 64 c_row]) (As := [.int (3 : Int32)]) (rest := []) C (tX8_draw l D k q_this q_now q_text q_row q_read q_outerCell q_outerDoor q_walked q_onWalks q_far q_aside q_wasFull q_undos q_was q_kept q_isKept c_typed c_rowMany c_thrown c_length c_at c_wrong c_outerMany c_walkedMany c_cameOut c_undoMany v7 (3 : Int32) v8 v9 h8) cv_X8_347 ⟨⟨by decide, by decide⟩, rfl, rfl⟩ 0 rfl rfl [0] rfl rfl rfl rfl rfl rfl (Nat.le_of_ble_eq_true rfl) ⟨Nat.zero_le _, Nat.zero_le _⟩ dX8_years_45 (fun hb8 => ?_)
        refine ww_istore (pc := 48) (lv' := [(5, .int v8), (4, .int v6), (0, .ref q_this), (2, .int n2), (3, .int n3)]) C dX8_years_48 (by decide) rfl ?_
        refine ww_aload_n (pc := 50) C dX8_years_50 rfl 2 rfl ?_
        refine ww_aload_n (pc := 51) C dX8_years_51 rfl 2 rfl ?_
        refine ww_iload (pc := 52) C dX8_years_52 1 rfl ?_
        obtain ⟨v10, h10, hf⟩ := bsome hf
        refine ww_callVi0 (pc := 54) (As := [.int v6]) (rest := [.ref q_this]) C (tX8_iOf l D k q_this q_now q_text q_row q_read q_outerCell q_outerDoor q_walked q_onWalks q_far q_aside q_wasFull q_undos q_was q_kept q_isKept c_typed c_rowMany c_thrown c_length c_at c_wrong c_outerMany c_walkedMany c_cameOut c_undoMany v9 c_now v6 v10 h10) cv_X8_84 ⟨⟨by decide, by decide⟩, rfl, rfl⟩ 0 rfl rfl [0, 2] rfl rfl rfl rfl (Nat.le_of_ble_eq_true rfl) ⟨Nat.zero_le _, Nat.zero_le _⟩ dX8_years_54 (fun hb10 => ?_)
        refine ww_aload_n (pc := 57) C dX8_years_57 rfl 2 rfl ?_
        refine ww_iload (pc := 58) C dX8_years_58 1 rfl ?_
        obtain ⟨v11, h11, hf⟩ := bsome hf
        refine ww_callVi0 (pc := 60) (As := [.int v6]) (rest := [.int v10, .ref q_this]) C (tX8_jOf l D k q_this q_now q_text q_row q_read q_outerCell q_outerDoor q_walked q_onWalks q_far q_aside q_wasFull q_undos q_was q_kept q_isKept c_typed c_rowMany c_thrown c_length c_at c_wrong c_outerMany c_walkedMany c_cameOut c_undoMany v9 c_now v6 v11 h11) cv_X8_179 ⟨⟨by decide, by decide⟩, rfl, rfl⟩ 0 rfl rfl [0, 2] rfl rfl rfl rfl (Nat.le_of_ble_eq_true rfl) ⟨Nat.zero_le _, Nat.zero_le _⟩ dX8_years_60 (fun hb11 => ?_)
        refine ww_iload (pc := 63) C dX8_years_63 0 rfl ?_
        obtain ⟨v12, h12, hf⟩ := bsome hf
        refine ww_callVi0 (pc := 65) (As := [.int v10, .int v11, .int v8]) (rest := []) C (tX8_refusesLay l D k q_this q_now q_text q_row q_read q_outerCell q_outerDoor q_walked q_onWalks q_far q_aside q_wasFull q_undos q_was q_kept q_isKept c_typed c_rowMany c_thrown c_length c_at c_wrong c_outerMany c_walkedMany c_cameOut c_undoMany v9 c_now v10 v11 v8 v12 h12) cv_X8_315 ⟨⟨by decide, by decide⟩, rfl, rfl⟩ 0 rfl rfl [0, 2] rfl rfl rfl rfl (Nat.le_of_ble_eq_true rfl) ⟨Nat.zero_le _, Nat.zero_le _⟩ dX8_years_65 (fun hb12 => ?_)
        refine ww_if_ne (pc := 68) (tgt := 89) C dX8_years_68 (by decide) (fun hc => ?_) (fun hc => ?_)
        · have hf := ifF hc hf
          obtain ⟨v13, h13, hf⟩ := bsome hf
          refine ww_iincN (pc := 89) (lv' := [(3, .int v13), (5, .int v8), (4, .int v6), (0, .ref q_this), (2, .int n2)]) (j := 4) C dX8_years_89 kI_1 rfl h13 (by decide) rfl ?_
          refine ww_goto (pc := 92) (tgt := 28) C dX8_years_92 (by decide) ?_
          exact ww_lv [3, 4, 0] rfl (ih28 v9 c_outerMany c_rowMany c_thrown c_aside c_now c_outerCell c_outerDoor c_row n2 v13 hf)
        · have hf := ifT hc hf
          refine ww_aload_n (pc := 71) C dX8_years_71 rfl 2 rfl ?_
          refine ww_aload_n (pc := 72) C dX8_years_72 rfl 2 rfl ?_
          refine ww_iload (pc := 73) C dX8_years_73 1 rfl ?_
          obtain ⟨v14, h14, hf⟩ := bsome hf
          refine ww_callVi0 (pc := 75) (As := [.int v6]) (rest := [.ref q_this]) C (tX8_iOf l D k q_this q_now q_text q_row q_read q_outerCell q_outerDoor q_walked q_onWalks q_far q_aside q_wasFull q_undos q_was q_kept q_isKept c_typed c_rowMany c_thrown c_length c_at c_wrong c_outerMany c_walkedMany c_cameOut c_undoMany v9 c_now v6 v14 h14) cv_X8_84 ⟨⟨by decide, by decide⟩, rfl, rfl⟩ 0 rfl rfl [0, 2] rfl rfl rfl rfl (Nat.le_of_ble_eq_true rfl) ⟨Nat.zero_le _, Nat.zero_le _⟩ dX8_years_75 (fun hb14 => ?_)
          refine ww_aload_n (pc := 78) C dX8_years_78 rfl 2 rfl ?_
          refine ww_iload (pc := 79) C dX8_years_79 1 rfl ?_
          obtain ⟨v15, h15, hf⟩ := bsome hf
          refine ww_callVi0 (pc := 81) (As := [.int v6]) (rest := [.int v14, .ref q_this]) C (tX8_jOf l D k q_this q_now q_text q_row q_read q_outerCell q_outerDoor q_walked q_onWalks q_far q_aside q_wasFull q_undos q_was q_kept q_isKept c_typed c_rowMany c_thrown c_length c_at c_wrong c_outerMany c_walkedMany c_cameOut c_undoMany v9 c_now v6 v15 h15) cv_X8_179 ⟨⟨by decide, by decide⟩, rfl, rfl⟩ 0 rfl rfl [0, 2] rfl rfl rfl rfl (Nat.le_of_ble_eq_true rfl) ⟨Nat.zero_le _, Nat.zero_le _⟩ dX8_years_81 (fun hb15 => ?_)
          refine ww_iload (pc := 84) C dX8_years_84 0 rfl ?_
          obtain ⟨v16, h16, hf⟩ := bsome hf
          refine ww_callVv (pc := 86) (ws' := [oX8 q_this q_now q_text c_typed q_row c_rowMany c_thrown c_length c_at c_wrong q_read q_outerCell q_outerDoor c_outerMany q_walked c_walkedMany c_cameOut q_onWalks q_far q_aside q_wasFull q_undos q_was c_undoMany v9 q_kept q_isKept, aI k q_aside 189 c_aside, aI k q_now 189 v16, aI k q_outerCell 16 c_outerCell, aI k q_outerDoor 16 c_outerDoor, aJ k q_row 64 c_row]) (As := [.int v14, .int v15, .int v8]) (rest := []) C (tX8_goLay l D k q_this q_now q_text q_row q_read q_outerCell q_outerDoor q_walked q_onWalks q_far q_aside q_wasFull q_undos q_was q_kept q_isKept c_typed c_rowMany c_thrown c_length c_at c_wrong c_outerMany c_walkedMany c_cameOut c_undoMany v9 c_now v14 v15 v8 v16 h16) cv_X8_318 ⟨⟨by decide, by decide⟩, rfl, rfl⟩ 0 rfl rfl [0, 2] rfl rfl rfl rfl rfl rfl (Nat.le_of_ble_eq_true rfl) ⟨Nat.zero_le _, Nat.zero_le _⟩ dX8_years_86 ?_
          obtain ⟨v17, h17, hf⟩ := bsome hf
          refine ww_iincN (pc := 89) (lv' := [(3, .int v17), (5, .int v8), (4, .int v6), (0, .ref q_this), (2, .int n2)]) (j := 4) C dX8_years_89 kI_1 rfl h17 (by decide) rfl ?_
          refine ww_goto (pc := 92) (tgt := 28) C dX8_years_92 (by decide) ?_
          exact ww_lv [3, 4, 0] rfl (ih28 v9 c_outerMany c_rowMany c_thrown c_aside v16 c_outerCell c_outerDoor c_row n2 v17 hf)
  unfold fX8_years at hf
  refine ww_aload_n (pc := 0) C dX8_years_0 rfl 0 rfl ?_
  refine ww_iconst (pc := 1) C dX8_years_1 kI_0 ?_
  refine pf8_5 (pc := 2) (ws' := [oX8 q_this q_now q_text c_typed q_row c_rowMany (0 : Int32) c_length c_at c_wrong q_read q_outerCell q_outerDoor c_outerMany q_walked c_walkedMany c_cameOut q_onWalks q_far q_aside q_wasFull q_undos q_was c_undoMany c_drawn q_kept q_isKept, aI k q_aside 189 c_aside, aI k q_now 189 c_now, aI k q_outerCell 16 c_outerCell, aI k q_outerDoor 16 c_outerDoor, aJ k q_row 64 c_row]) C kf_X8_61 0 rfl (Nat.le_of_ble_eq_true rfl) rfl dX8_years_2 ?_
  refine ww_iload_n (pc := 5) C dX8_years_5 rfl 2 rfl ?_
  refine ww_iconst (pc := 6) C dX8_years_6 kI_1 ?_
  refine ww_bipush (pc := 7) C dX8_years_7 kB_40 ?_
  obtain ⟨v1, h1, hf⟩ := bsome hf
  refine ww_callSi0 (pc := 9) (As := [.int x2, .int (1 : Int32), .int (40 : Int32)]) (rest := []) C (tX8_in l D k x2 (1 : Int32) (40 : Int32) v1 h1) cs_X8_72 ⟨⟨by decide, by decide⟩, rfl, rfl⟩ [] rfl rfl rfl rfl (Nat.le_of_ble_eq_true rfl) ⟨Nat.zero_le _, Nat.zero_le _⟩ dX8_years_9 (fun hb1 => ?_)
  refine ww_if_ne (pc := 12) (tgt := 17) C dX8_years_12 (by decide) (fun hc => ?_) (fun hc => ?_)
  · have hf := ifF hc hf
    refine ww_aload_n (pc := 17) C dX8_years_17 rfl 0 rfl ?_
    refine ww_iload_n (pc := 18) C dX8_years_18 rfl 1 rfl ?_
    refine pf8_23 (pc := 19) (ws' := [oX8 q_this q_now q_text c_typed q_row c_rowMany (0 : Int32) c_length c_at c_wrong q_read q_outerCell q_outerDoor c_outerMany q_walked c_walkedMany c_cameOut q_onWalks q_far q_aside q_wasFull q_undos q_was c_undoMany x1 q_kept q_isKept, aI k q_aside 189 c_aside, aI k q_now 189 c_now, aI k q_outerCell 16 c_outerCell, aI k q_outerDoor 16 c_outerDoor, aJ k q_row 64 c_row]) C kf_X8_343 0 rfl (Nat.le_of_ble_eq_true rfl) rfl dX8_years_19 ?_
    refine ww_aload_n (pc := 22) C dX8_years_22 rfl 0 rfl ?_
    obtain ⟨v2, h2, hf⟩ := bsome hf
    refine ww_callVv (pc := 23) (ws' := [oX8 q_this q_now q_text c_typed q_row c_rowMany (0 : Int32) c_length c_at c_wrong q_read q_outerCell q_outerDoor c_outerMany q_walked c_walkedMany c_cameOut q_onWalks q_far q_aside q_wasFull q_undos q_was c_undoMany x1 q_kept q_isKept, aI k q_aside 189 v2, aI k q_now 189 c_now, aI k q_outerCell 16 c_outerCell, aI k q_outerDoor 16 c_outerDoor, aJ k q_row 64 c_row]) (As := []) (rest := []) C (tX8_layAside l D k q_this q_now q_text q_row q_read q_outerCell q_outerDoor q_walked q_onWalks q_far q_aside q_wasFull q_undos q_was q_kept q_isKept c_typed c_rowMany (0 : Int32) c_length c_at c_wrong c_outerMany c_walkedMany c_cameOut c_undoMany x1 c_aside c_now v2 h2) cv_X8_281 ⟨⟨by decide, by decide⟩, rfl, rfl⟩ 0 rfl rfl [0, 1, 2] rfl rfl rfl rfl rfl rfl (Nat.le_of_ble_eq_true rfl) ⟨Nat.zero_le _, Nat.zero_le _⟩ dX8_years_23 ?_
    refine ww_iconst (pc := 26) C dX8_years_26 kI_0 ?_
    refine ww_istore_n (pc := 27) (lv' := [(3, .int (0 : Int32)), (0, .ref q_this), (1, .int x1), (2, .int x2)]) C dX8_years_27 rfl (by decide) rfl ?_
    exact ww_lv [1, 3, 0] rfl (hL28 FU x1 c_outerMany c_rowMany (0 : Int32) v2 c_now c_outerCell c_outerDoor c_row x2 (0 : Int32) hf)
  · have hf := ifT hc hf
    refine ww_iconst (pc := 15) C dX8_years_15 kI_m1 ?_
    obtain ⟨e0, e1, e2, e3, e4, e5, e6, e7, e8, e9⟩ := ij10 hf
    exact hret _ _ 16 _ dX8_years_16 rfl e0 (by rw [← e1, ← e2, ← e3, ← e4, ← e5, ← e6, ← e7, ← e8, ← e9])
def fX8_keep_b25 (c_now : Nat → Int32) (rc25 : Int32 → (Nat → Int32) → (Nat → Int32) → Int32 → Int32 → Option (Int32 × Int32 × (Nat → Int32) × (Nat → Int32))) (c_thrown : Int32) (c_isKept : Nat → Int32) (c_kept : Nat → Int32) (n1 : Int32) (n2 : Int32) : Option (Int32 × Int32 × (Nat → Int32) × (Nat → Int32)) := if (189 : Int32) ≤ n2 then some ((1 : Int32), c_thrown, c_isKept, c_kept) else (ald 189 n2 c_now).bind fun v1 => (ast 378 (((189 : Int32) * n1) + n2) c_kept v1).bind fun v2 => (some (n2 + (1 : Int32))).bind fun v3 => rc25 c_thrown c_isKept v2 n1 v3
def fX8_keep (c_now : Nat → Int32) (c_thrown : Int32) (c_isKept : Nat → Int32) (c_kept : Nat → Int32) (x1 : Int32) : Option (Int32 × Int32 × (Nat → Int32) × (Nat → Int32)) := (fX8_in x1 (0 : Int32) (1 : Int32)).bind fun v1 => if v1 = 0 then some ((0 : Int32), (0 : Int32), c_isKept, c_kept) else (astZ 2 x1 c_isKept (1 : Int32)).bind fun v2 => lfix (fX8_keep_b25 c_now) (fun _ _ _ _ _ => none) FU (0 : Int32) v2 c_kept x1 (0 : Int32)
set_option maxHeartbeats 4000000 in
set_option maxRecDepth 100000 in
theorem tX8_keep (l : Launch) (D : va_G) (k : Nat → ClassId) (q_this q_now q_text q_row q_read q_outerCell q_outerDoor q_walked q_onWalks q_far q_aside q_wasFull q_undos q_was q_kept q_isKept : Nat) (c_typed : Int32) (c_rowMany : Int32) (c_thrown : Int32) (c_length : Int32) (c_at : Int32) (c_wrong : Int32) (c_outerMany : Int32) (c_walkedMany : Int32) (c_cameOut : Int32) (c_undoMany : Int32) (c_drawn : Int32) (c_isKept : Nat → Int32) (c_kept : Nat → Int32) (c_now : Nat → Int32) (x1 : Int32) (r_ : Int32) (w_thrown : Int32) (w_isKept : Nat → Int32) (w_kept : Nat → Int32) (hf : fX8_keep c_now c_thrown c_isKept c_kept x1 = some (r_, w_thrown, w_isKept, w_kept)) : MI l yX8_keep cX8_keep 3 .boolean (RM 1 22) D k [.ref q_this, .int x1] [oX8 q_this q_now q_text c_typed q_row c_rowMany c_thrown c_length c_at c_wrong q_read q_outerCell q_outerDoor c_outerMany q_walked c_walkedMany c_cameOut q_onWalks q_far q_aside q_wasFull q_undos q_was c_undoMany c_drawn q_kept q_isKept, aZ k q_isKept 2 c_isKept, aI k q_kept 378 c_kept, aI k q_now 189 c_now] r_ [oX8 q_this q_now q_text c_typed q_row c_rowMany w_thrown c_length c_at c_wrong q_read q_outerCell q_outerDoor c_outerMany q_walked c_walkedMany c_cameOut q_onWalks q_far q_aside q_wasFull q_undos q_was c_undoMany c_drawn q_kept q_isKept, aZ k q_isKept 2 w_isKept, aI k q_kept 378 w_kept, aI k q_now 189 c_now] := by
  refine mkMI' (own := "DoorWalkModel") (by decide) rfl (Nat.le_of_ble_eq_true rfl) ?_
  intro p e s m args below meth c Q A hret C
  refine ww_lv (lv' := [(0, .ref q_this), (1, .int x1)]) [0, 1] rfl ?_
  have hL25 : ∀ (n : Nat) (c_thrown : Int32) (c_isKept : Nat → Int32) (c_kept : Nat → Int32) (n1 : Int32) (n2 : Int32), lfix (fX8_keep_b25 c_now) (fun _ _ _ _ _ => none) n c_thrown c_isKept c_kept n1 n2 = some (r_, w_thrown, w_isKept, w_kept) → WW p l e (RM 1 22) s m args below meth c Q 3 D A 0 0 [oX8 q_this q_now q_text c_typed q_row c_rowMany c_thrown c_length c_at c_wrong q_read q_outerCell q_outerDoor c_outerMany q_walked c_walkedMany c_cameOut q_onWalks q_far q_aside q_wasFull q_undos q_was c_undoMany c_drawn q_kept q_isKept, aZ k q_isKept 2 c_isKept, aI k q_kept 378 c_kept, aI k q_now 189 c_now] [(0, .ref q_this), (1, .int n1), (2, .int n2)] 25 [] := by
    intro n
    induction n with
    | zero => intro c_thrown c_isKept c_kept n1 n2 hf; cases hf
    | succ n ih25 =>
      obtain ⟨rc25, hrc25⟩ : ∃ f9, f9 = lfix (fX8_keep_b25 c_now) (fun _ _ _ _ _ => none) n := ⟨_, rfl⟩
      rw [← hrc25] at ih25
      intro c_thrown c_isKept c_kept n1 n2 hf
      have hf : fX8_keep_b25 c_now rc25 c_thrown c_isKept c_kept n1 n2 = some (r_, w_thrown, w_isKept, w_kept) := by rw [hrc25]; exact hf
      unfold fX8_keep_b25 at hf
      refine ww_iload_n (pc := 25) C dX8_keep_25 rfl 2 rfl ?_
      refine ww_sipush (pc := 26) C dX8_keep_26 kS_189 ?_
      refine ww_icmp_ge (pc := 29) (tgt := 56) C dX8_keep_29 (by decide) (fun hc => ?_) (fun hc => ?_)
      · have hf := ifT hc hf
        refine ww_iconst (pc := 56) C dX8_keep_56 kI_1 ?_
        obtain ⟨e0, e1, e2, e3⟩ := ij4 hf
        exact hret _ _ 57 _ dX8_keep_57 (by decide) e0 (by rw [← e1, ← e2, ← e3])
      · have hf := ifF hc hf
        refine ww_aload_n (pc := 32) C dX8_keep_32 rfl 0 rfl ?_
        refine gf8_24 (pc := 33) C kf_X8_52 0 rfl rfl dX8_keep_33 ?_
        refine ww_sipush (pc := 36) C dX8_keep_36 kS_189 ?_
        refine ww_iload_n (pc := 39) C dX8_keep_39 rfl 1 rfl ?_
        refine ww_imul (pc := 40) C dX8_keep_40  ?_
        refine ww_iload_n (pc := 41) C dX8_keep_41 rfl 2 rfl ?_
        refine ww_iadd (pc := 42) C dX8_keep_42  ?_
        refine ww_aload_n (pc := 43) C dX8_keep_43 rfl 0 rfl ?_
        refine gf8_0 (pc := 44) C kf_X8_9 0 rfl rfl dX8_keep_44 ?_
        refine ww_iload_n (pc := 47) C dX8_keep_47 rfl 2 rfl ?_
        obtain ⟨v1, h1, hf⟩ := bsome hf
        refine ww_iald (pc := 48) C 3 rfl h1 dX8_keep_48 ?_
        obtain ⟨v2, h2, hf⟩ := bsome hf
        refine ww_iast (pc := 49) (ws' := [oX8 q_this q_now q_text c_typed q_row c_rowMany c_thrown c_length c_at c_wrong q_read q_outerCell q_outerDoor c_outerMany q_walked c_walkedMany c_cameOut q_onWalks q_far q_aside q_wasFull q_undos q_was c_undoMany c_drawn q_kept q_isKept, aZ k q_isKept 2 c_isKept, aI k q_kept 378 v2, aI k q_now 189 c_now]) C 2 rfl h2 rfl dX8_keep_49 ?_
        obtain ⟨v3, h3, hf⟩ := bsome hf
        refine ww_iincN (pc := 50) (lv' := [(2, .int v3), (0, .ref q_this), (1, .int n1)]) (j := 2) C dX8_keep_50 kI_1 rfl h3 (by decide) rfl ?_
        refine ww_goto (pc := 53) (tgt := 25) C dX8_keep_53 (by decide) ?_
        exact ww_lv [1, 2, 0] rfl (ih25 c_thrown c_isKept v2 n1 v3 hf)
  unfold fX8_keep at hf
  refine ww_aload_n (pc := 0) C dX8_keep_0 rfl 0 rfl ?_
  refine ww_iconst (pc := 1) C dX8_keep_1 kI_0 ?_
  refine pf8_5 (pc := 2) (ws' := [oX8 q_this q_now q_text c_typed q_row c_rowMany (0 : Int32) c_length c_at c_wrong q_read q_outerCell q_outerDoor c_outerMany q_walked c_walkedMany c_cameOut q_onWalks q_far q_aside q_wasFull q_undos q_was c_undoMany c_drawn q_kept q_isKept, aZ k q_isKept 2 c_isKept, aI k q_kept 378 c_kept, aI k q_now 189 c_now]) C kf_X8_61 0 rfl (Nat.le_of_ble_eq_true rfl) rfl dX8_keep_2 ?_
  refine ww_iload_n (pc := 5) C dX8_keep_5 rfl 1 rfl ?_
  refine ww_iconst (pc := 6) C dX8_keep_6 kI_0 ?_
  refine ww_iconst (pc := 7) C dX8_keep_7 kI_1 ?_
  obtain ⟨v1, h1, hf⟩ := bsome hf
  refine ww_callSi0 (pc := 8) (As := [.int x1, .int (0 : Int32), .int (1 : Int32)]) (rest := []) C (tX8_in l D k x1 (0 : Int32) (1 : Int32) v1 h1) cs_X8_72 ⟨⟨by decide, by decide⟩, rfl, rfl⟩ [] rfl rfl rfl rfl (Nat.le_of_ble_eq_true rfl) ⟨Nat.zero_le _, Nat.zero_le _⟩ dX8_keep_8 (fun hb1 => ?_)
  refine ww_if_ne (pc := 11) (tgt := 16) C dX8_keep_11 (by decide) (fun hc => ?_) (fun hc => ?_)
  · have hf := ifF hc hf
    refine ww_aload_n (pc := 16) C dX8_keep_16 rfl 0 rfl ?_
    refine gf8_25 (pc := 17) C kf_X8_55 0 rfl rfl dX8_keep_17 ?_
    refine ww_iload_n (pc := 20) C dX8_keep_20 rfl 1 rfl ?_
    refine ww_iconst (pc := 21) C dX8_keep_21 kI_1 ?_
    obtain ⟨v2, h2, hf⟩ := bsome hf
    refine ww_zast (pc := 22) (ws' := [oX8 q_this q_now q_text c_typed q_row c_rowMany (0 : Int32) c_length c_at c_wrong q_read q_outerCell q_outerDoor c_outerMany q_walked c_walkedMany c_cameOut q_onWalks q_far q_aside q_wasFull q_undos q_was c_undoMany c_drawn q_kept q_isKept, aZ k q_isKept 2 v2, aI k q_kept 378 c_kept, aI k q_now 189 c_now]) C 1 rfl h2 rfl dX8_keep_22 ?_
    refine ww_iconst (pc := 23) C dX8_keep_23 kI_0 ?_
    refine ww_istore_n (pc := 24) (lv' := [(2, .int (0 : Int32)), (0, .ref q_this), (1, .int x1)]) C dX8_keep_24 rfl (by decide) rfl ?_
    exact ww_lv [1, 2, 0] rfl (hL25 FU (0 : Int32) v2 c_kept x1 (0 : Int32) hf)
  · have hf := ifT hc hf
    refine ww_iconst (pc := 14) C dX8_keep_14 kI_0 ?_
    obtain ⟨e0, e1, e2, e3⟩ := ij4 hf
    exact hret _ _ 15 _ dX8_keep_15 (by decide) e0 (by rw [← e1, ← e2, ← e3])
def fX8_again_b27 (c_isKept : Nat → Int32) (c_kept : Nat → Int32) (rc27 : Int32 → Int32 → (Nat → Int32) → Int32 → Int32 → Option (Int32 × Int32 × Int32 × (Nat → Int32))) (c_thrown : Int32) (c_undoMany : Int32) (c_now : Nat → Int32) (n1 : Int32) (n2 : Int32) : Option (Int32 × Int32 × Int32 × (Nat → Int32)) := if (189 : Int32) ≤ n2 then some ((1 : Int32), c_thrown, (0 : Int32), c_now) else (ald 378 (((189 : Int32) * n1) + n2) c_kept).bind fun v1 => (ast 189 n2 c_now v1).bind fun v2 => (some (n2 + (1 : Int32))).bind fun v3 => rc27 c_thrown c_undoMany v2 n1 v3
def fX8_again (c_isKept : Nat → Int32) (c_kept : Nat → Int32) (c_thrown : Int32) (c_undoMany : Int32) (c_now : Nat → Int32) (x1 : Int32) : Option (Int32 × Int32 × Int32 × (Nat → Int32)) := (fX8_in x1 (0 : Int32) (1 : Int32)).bind fun v1 => if v1 = 0 then some ((0 : Int32), (0 : Int32), c_undoMany, c_now) else (ald 2 x1 c_isKept).bind fun v2 => if v2 = 0 then some ((0 : Int32), (0 : Int32), c_undoMany, c_now) else lfix (fX8_again_b27 c_isKept c_kept) (fun _ _ _ _ _ => none) FU (0 : Int32) c_undoMany c_now x1 (0 : Int32)
set_option maxHeartbeats 4000000 in
set_option maxRecDepth 100000 in
theorem tX8_again (l : Launch) (D : va_G) (k : Nat → ClassId) (q_this q_now q_text q_row q_read q_outerCell q_outerDoor q_walked q_onWalks q_far q_aside q_wasFull q_undos q_was q_kept q_isKept : Nat) (c_typed : Int32) (c_rowMany : Int32) (c_thrown : Int32) (c_length : Int32) (c_at : Int32) (c_wrong : Int32) (c_outerMany : Int32) (c_walkedMany : Int32) (c_cameOut : Int32) (c_undoMany : Int32) (c_drawn : Int32) (c_isKept : Nat → Int32) (c_kept : Nat → Int32) (c_now : Nat → Int32) (x1 : Int32) (r_ : Int32) (w_thrown : Int32) (w_undoMany : Int32) (w_now : Nat → Int32) (hf : fX8_again c_isKept c_kept c_thrown c_undoMany c_now x1 = some (r_, w_thrown, w_undoMany, w_now)) : MI l yX8_again cX8_again 3 .boolean (RM 1 22) D k [.ref q_this, .int x1] [oX8 q_this q_now q_text c_typed q_row c_rowMany c_thrown c_length c_at c_wrong q_read q_outerCell q_outerDoor c_outerMany q_walked c_walkedMany c_cameOut q_onWalks q_far q_aside q_wasFull q_undos q_was c_undoMany c_drawn q_kept q_isKept, aZ k q_isKept 2 c_isKept, aI k q_kept 378 c_kept, aI k q_now 189 c_now] r_ [oX8 q_this q_now q_text c_typed q_row c_rowMany w_thrown c_length c_at c_wrong q_read q_outerCell q_outerDoor c_outerMany q_walked c_walkedMany c_cameOut q_onWalks q_far q_aside q_wasFull q_undos q_was w_undoMany c_drawn q_kept q_isKept, aZ k q_isKept 2 c_isKept, aI k q_kept 378 c_kept, aI k q_now 189 w_now] := by
  refine mkMI' (own := "DoorWalkModel") (by decide) rfl (Nat.le_of_ble_eq_true rfl) ?_
  intro p e s m args below meth c Q A hret C
  refine ww_lv (lv' := [(0, .ref q_this), (1, .int x1)]) [0, 1] rfl ?_
  have hL27 : ∀ (n : Nat) (c_thrown : Int32) (c_undoMany : Int32) (c_now : Nat → Int32) (n1 : Int32) (n2 : Int32), lfix (fX8_again_b27 c_isKept c_kept) (fun _ _ _ _ _ => none) n c_thrown c_undoMany c_now n1 n2 = some (r_, w_thrown, w_undoMany, w_now) → WW p l e (RM 1 22) s m args below meth c Q 3 D A 0 0 [oX8 q_this q_now q_text c_typed q_row c_rowMany c_thrown c_length c_at c_wrong q_read q_outerCell q_outerDoor c_outerMany q_walked c_walkedMany c_cameOut q_onWalks q_far q_aside q_wasFull q_undos q_was c_undoMany c_drawn q_kept q_isKept, aZ k q_isKept 2 c_isKept, aI k q_kept 378 c_kept, aI k q_now 189 c_now] [(0, .ref q_this), (1, .int n1), (2, .int n2)] 27 [] := by
    intro n
    induction n with
    | zero => intro c_thrown c_undoMany c_now n1 n2 hf; cases hf
    | succ n ih27 =>
      obtain ⟨rc27, hrc27⟩ : ∃ f9, f9 = lfix (fX8_again_b27 c_isKept c_kept) (fun _ _ _ _ _ => none) n := ⟨_, rfl⟩
      rw [← hrc27] at ih27
      intro c_thrown c_undoMany c_now n1 n2 hf
      have hf : fX8_again_b27 c_isKept c_kept rc27 c_thrown c_undoMany c_now n1 n2 = some (r_, w_thrown, w_undoMany, w_now) := by rw [hrc27]; exact hf
      unfold fX8_again_b27 at hf
      refine ww_iload_n (pc := 27) C dX8_again_27 rfl 2 rfl ?_
      refine ww_sipush (pc := 28) C dX8_again_28 kS_189 ?_
      refine ww_icmp_ge (pc := 31) (tgt := 58) C dX8_again_31 (by decide) (fun hc => ?_) (fun hc => ?_)
      · have hf := ifT hc hf
        refine ww_aload_n (pc := 58) C dX8_again_58 rfl 0 rfl ?_
        refine ww_iconst (pc := 59) C dX8_again_59 kI_0 ?_
        refine pf8_22 (pc := 60) (ws' := [oX8 q_this q_now q_text c_typed q_row c_rowMany c_thrown c_length c_at c_wrong q_read q_outerCell q_outerDoor c_outerMany q_walked c_walkedMany c_cameOut q_onWalks q_far q_aside q_wasFull q_undos q_was (0 : Int32) c_drawn q_kept q_isKept, aZ k q_isKept 2 c_isKept, aI k q_kept 378 c_kept, aI k q_now 189 c_now]) C kf_X8_306 0 rfl (Nat.le_of_ble_eq_true rfl) rfl dX8_again_60 ?_
        refine ww_iconst (pc := 63) C dX8_again_63 kI_1 ?_
        obtain ⟨e0, e1, e2, e3⟩ := ij4 hf
        exact hret _ _ 64 _ dX8_again_64 (by decide) e0 (by rw [← e1, ← e2, ← e3])
      · have hf := ifF hc hf
        refine ww_aload_n (pc := 34) C dX8_again_34 rfl 0 rfl ?_
        refine gf8_0 (pc := 35) C kf_X8_9 0 rfl rfl dX8_again_35 ?_
        refine ww_iload_n (pc := 38) C dX8_again_38 rfl 2 rfl ?_
        refine ww_aload_n (pc := 39) C dX8_again_39 rfl 0 rfl ?_
        refine gf8_24 (pc := 40) C kf_X8_52 0 rfl rfl dX8_again_40 ?_
        refine ww_sipush (pc := 43) C dX8_again_43 kS_189 ?_
        refine ww_iload_n (pc := 46) C dX8_again_46 rfl 1 rfl ?_
        refine ww_imul (pc := 47) C dX8_again_47  ?_
        refine ww_iload_n (pc := 48) C dX8_again_48 rfl 2 rfl ?_
        refine ww_iadd (pc := 49) C dX8_again_49  ?_
        obtain ⟨v1, h1, hf⟩ := bsome hf
        refine ww_iald (pc := 50) C 2 rfl h1 dX8_again_50 ?_
        obtain ⟨v2, h2, hf⟩ := bsome hf
        refine ww_iast (pc := 51) (ws' := [oX8 q_this q_now q_text c_typed q_row c_rowMany c_thrown c_length c_at c_wrong q_read q_outerCell q_outerDoor c_outerMany q_walked c_walkedMany c_cameOut q_onWalks q_far q_aside q_wasFull q_undos q_was c_undoMany c_drawn q_kept q_isKept, aZ k q_isKept 2 c_isKept, aI k q_kept 378 c_kept, aI k q_now 189 v2]) C 3 rfl h2 rfl dX8_again_51 ?_
        obtain ⟨v3, h3, hf⟩ := bsome hf
        refine ww_iincN (pc := 52) (lv' := [(2, .int v3), (0, .ref q_this), (1, .int n1)]) (j := 2) C dX8_again_52 kI_1 rfl h3 (by decide) rfl ?_
        refine ww_goto (pc := 55) (tgt := 27) C dX8_again_55 (by decide) ?_
        exact ww_lv [1, 2, 0] rfl (ih27 c_thrown c_undoMany v2 n1 v3 hf)
  unfold fX8_again at hf
  refine ww_aload_n (pc := 0) C dX8_again_0 rfl 0 rfl ?_
  refine ww_iconst (pc := 1) C dX8_again_1 kI_0 ?_
  refine pf8_5 (pc := 2) (ws' := [oX8 q_this q_now q_text c_typed q_row c_rowMany (0 : Int32) c_length c_at c_wrong q_read q_outerCell q_outerDoor c_outerMany q_walked c_walkedMany c_cameOut q_onWalks q_far q_aside q_wasFull q_undos q_was c_undoMany c_drawn q_kept q_isKept, aZ k q_isKept 2 c_isKept, aI k q_kept 378 c_kept, aI k q_now 189 c_now]) C kf_X8_61 0 rfl (Nat.le_of_ble_eq_true rfl) rfl dX8_again_2 ?_
  refine ww_iload_n (pc := 5) C dX8_again_5 rfl 1 rfl ?_
  refine ww_iconst (pc := 6) C dX8_again_6 kI_0 ?_
  refine ww_iconst (pc := 7) C dX8_again_7 kI_1 ?_
  obtain ⟨v1, h1, hf⟩ := bsome hf
  refine ww_callSi0 (pc := 8) (As := [.int x1, .int (0 : Int32), .int (1 : Int32)]) (rest := []) C (tX8_in l D k x1 (0 : Int32) (1 : Int32) v1 h1) cs_X8_72 ⟨⟨by decide, by decide⟩, rfl, rfl⟩ [] rfl rfl rfl rfl (Nat.le_of_ble_eq_true rfl) ⟨Nat.zero_le _, Nat.zero_le _⟩ dX8_again_8 (fun hb1 => ?_)
  refine ww_if_eq (pc := 11) (tgt := 23) C dX8_again_11 (by decide) (fun hc => ?_) (fun hc => ?_)
  · have hf := ifT hc hf
    refine ww_iconst (pc := 23) C dX8_again_23 kI_0 ?_
    obtain ⟨e0, e1, e2, e3⟩ := ij4 hf
    exact hret _ _ 24 _ dX8_again_24 (by decide) e0 (by rw [← e1, ← e2, ← e3])
  · have hf := ifF hc hf
    refine ww_aload_n (pc := 14) C dX8_again_14 rfl 0 rfl ?_
    refine gf8_25 (pc := 15) C kf_X8_55 0 rfl rfl dX8_again_15 ?_
    refine ww_iload_n (pc := 18) C dX8_again_18 rfl 1 rfl ?_
    obtain ⟨v2, h2, hf⟩ := bsome hf
    refine ww_zald (pc := 19) C 1 rfl h2 dX8_again_19 ?_
    refine ww_if_ne (pc := 20) (tgt := 25) C dX8_again_20 (by decide) (fun hc => ?_) (fun hc => ?_)
    · have hf := ifF hc hf
      refine ww_iconst (pc := 25) C dX8_again_25 kI_0 ?_
      refine ww_istore_n (pc := 26) (lv' := [(2, .int (0 : Int32)), (0, .ref q_this), (1, .int x1)]) C dX8_again_26 rfl (by decide) rfl ?_
      exact ww_lv [1, 2, 0] rfl (hL27 FU (0 : Int32) c_undoMany c_now x1 (0 : Int32) hf)
    · have hf := ifT hc hf
      refine ww_iconst (pc := 23) C dX8_again_23 kI_0 ?_
      obtain ⟨e0, e1, e2, e3⟩ := ij4 hf
      exact hret _ _ 24 _ dX8_again_24 (by decide) e0 (by rw [← e1, ← e2, ← e3])
def fX8_count (c_rowMany : Int32) (c_typed : Int32) (c_undoMany : Int32) (c_now : Nat → Int32) (c_thrown : Int32) (x1 : Int32) : Option (Int32 × Int32) := if x1 = (0 : Int32) then (fX8_n c_now).bind fun v1 => some (v1, (0 : Int32)) else if x1 = (1 : Int32) then (fX8_points c_now).bind fun v2 => some (v2, (0 : Int32)) else if x1 = (2 : Int32) then (fX8_n c_now).bind fun v3 => (fX8_n c_now).bind fun v4 => some ((v3 * v4), (0 : Int32)) else if x1 = (3 : Int32) then (ald 189 (1 : Int32) c_now).bind fun v5 => some (v5, (0 : Int32)) else if x1 = (4 : Int32) then (ald 189 (1 : Int32) c_now).bind fun v6 => if v6 = (1 : Int32) then (ald 189 (2 : Int32) c_now).bind fun v7 => some (v7, (0 : Int32)) else some ((0 : Int32), (0 : Int32)) else if x1 = (5 : Int32) then (fX8_fullMany c_now).bind fun v8 => some (v8, (0 : Int32)) else if x1 = (6 : Int32) then some (c_undoMany, (0 : Int32)) else if x1 = (7 : Int32) then some (c_rowMany, (0 : Int32)) else if x1 = (8 : Int32) then some (c_typed, (0 : Int32)) else some ((-1 : Int32), (0 : Int32))
set_option maxHeartbeats 4000000 in
set_option maxRecDepth 100000 in
theorem tX8_count (l : Launch) (D : va_G) (k : Nat → ClassId) (q_this q_now q_text q_row q_read q_outerCell q_outerDoor q_walked q_onWalks q_far q_aside q_wasFull q_undos q_was q_kept q_isKept : Nat) (c_typed : Int32) (c_rowMany : Int32) (c_thrown : Int32) (c_length : Int32) (c_at : Int32) (c_wrong : Int32) (c_outerMany : Int32) (c_walkedMany : Int32) (c_cameOut : Int32) (c_undoMany : Int32) (c_drawn : Int32) (c_now : Nat → Int32) (x1 : Int32) (r_ : Int32) (w_thrown : Int32) (hf : fX8_count c_rowMany c_typed c_undoMany c_now c_thrown x1 = some (r_, w_thrown)) : MI l yX8_count cX8_count 2 .int (RM 7 152) D k [.ref q_this, .int x1] [oX8 q_this q_now q_text c_typed q_row c_rowMany c_thrown c_length c_at c_wrong q_read q_outerCell q_outerDoor c_outerMany q_walked c_walkedMany c_cameOut q_onWalks q_far q_aside q_wasFull q_undos q_was c_undoMany c_drawn q_kept q_isKept, aI k q_now 189 c_now] r_ [oX8 q_this q_now q_text c_typed q_row c_rowMany w_thrown c_length c_at c_wrong q_read q_outerCell q_outerDoor c_outerMany q_walked c_walkedMany c_cameOut q_onWalks q_far q_aside q_wasFull q_undos q_was c_undoMany c_drawn q_kept q_isKept, aI k q_now 189 c_now] := by
  refine mkMI' (own := "DoorWalkModel") (by decide) rfl (Nat.le_of_ble_eq_true rfl) ?_
  intro p e s m args below meth c Q A hret C
  refine ww_lv (lv' := [(0, .ref q_this), (1, .int x1)]) [0, 1] rfl ?_
  unfold fX8_count at hf
  refine ww_aload_n (pc := 0) C dX8_count_0 rfl 0 rfl ?_
  refine ww_iconst (pc := 1) C dX8_count_1 kI_0 ?_
  refine pf8_5 (pc := 2) (ws' := [oX8 q_this q_now q_text c_typed q_row c_rowMany (0 : Int32) c_length c_at c_wrong q_read q_outerCell q_outerDoor c_outerMany q_walked c_walkedMany c_cameOut q_onWalks q_far q_aside q_wasFull q_undos q_was c_undoMany c_drawn q_kept q_isKept, aI k q_now 189 c_now]) C kf_X8_61 0 rfl (Nat.le_of_ble_eq_true rfl) rfl dX8_count_2 ?_
  refine ww_iload_n (pc := 5) C dX8_count_5 rfl 1 rfl ?_
  by_cases hs0 : x1 = (0 : Int32)
  · have hf := ifT hs0 hf
    refine ww_tableIn (pc := 6) (off := 50) (tgt := 56) C dX8_count_6 (by rw [hs0]; decide) (by rw [hs0]; decide) (by rw [hs0]; rfl) (by decide) ?_
    refine ww_aload_n (pc := 56) C dX8_count_56 rfl 0 rfl ?_
    obtain ⟨v1, h1, hf⟩ := bsome hf
    refine ww_callVi0 (pc := 57) (As := []) (rest := []) C (tX8_n l D k q_this q_now q_text q_row q_read q_outerCell q_outerDoor q_walked q_onWalks q_far q_aside q_wasFull q_undos q_was q_kept q_isKept c_typed c_rowMany (0 : Int32) c_length c_at c_wrong c_outerMany c_walkedMany c_cameOut c_undoMany c_drawn c_now v1 h1) cv_X8_68 ⟨⟨by decide, by decide⟩, rfl, rfl⟩ 0 rfl rfl [0, 1] rfl rfl rfl rfl (Nat.le_of_ble_eq_true rfl) ⟨Nat.zero_le _, Nat.zero_le _⟩ dX8_count_57 (fun hb1 => ?_)
    obtain ⟨e0, e1⟩ := ij2 hf
    exact hret _ _ 60 _ dX8_count_60 rfl e0 (by rw [← e1])
  · have hf := ifF hs0 hf
    by_cases hs1 : x1 = (1 : Int32)
    · have hf := ifT hs1 hf
      refine ww_tableIn (pc := 6) (off := 55) (tgt := 61) C dX8_count_6 (by rw [hs1]; decide) (by rw [hs1]; decide) (by rw [hs1]; rfl) (by decide) ?_
      refine ww_aload_n (pc := 61) C dX8_count_61 rfl 0 rfl ?_
      obtain ⟨v2, h2, hf⟩ := bsome hf
      refine ww_callVi0 (pc := 62) (As := []) (rest := []) C (tX8_points l D k q_this q_now q_text q_row q_read q_outerCell q_outerDoor q_walked q_onWalks q_far q_aside q_wasFull q_undos q_was q_kept q_isKept c_typed c_rowMany (0 : Int32) c_length c_at c_wrong c_outerMany c_walkedMany c_cameOut c_undoMany c_drawn c_now v2 h2) cv_X8_172 ⟨⟨by decide, by decide⟩, rfl, rfl⟩ 0 rfl rfl [0, 1] rfl rfl rfl rfl (Nat.le_of_ble_eq_true rfl) ⟨Nat.zero_le _, Nat.zero_le _⟩ dX8_count_62 (fun hb2 => ?_)
      obtain ⟨e0, e1⟩ := ij2 hf
      exact hret _ _ 65 _ dX8_count_65 rfl e0 (by rw [← e1])
    · have hf := ifF hs1 hf
      by_cases hs2 : x1 = (2 : Int32)
      · have hf := ifT hs2 hf
        refine ww_tableIn (pc := 6) (off := 60) (tgt := 66) C dX8_count_6 (by rw [hs2]; decide) (by rw [hs2]; decide) (by rw [hs2]; rfl) (by decide) ?_
        refine ww_aload_n (pc := 66) C dX8_count_66 rfl 0 rfl ?_
        obtain ⟨v3, h3, hf⟩ := bsome hf
        refine ww_callVi0 (pc := 67) (As := []) (rest := []) C (tX8_n l D k q_this q_now q_text q_row q_read q_outerCell q_outerDoor q_walked q_onWalks q_far q_aside q_wasFull q_undos q_was q_kept q_isKept c_typed c_rowMany (0 : Int32) c_length c_at c_wrong c_outerMany c_walkedMany c_cameOut c_undoMany c_drawn c_now v3 h3) cv_X8_68 ⟨⟨by decide, by decide⟩, rfl, rfl⟩ 0 rfl rfl [0, 1] rfl rfl rfl rfl (Nat.le_of_ble_eq_true rfl) ⟨Nat.zero_le _, Nat.zero_le _⟩ dX8_count_67 (fun hb3 => ?_)
        refine ww_aload_n (pc := 70) C dX8_count_70 rfl 0 rfl ?_
        obtain ⟨v4, h4, hf⟩ := bsome hf
        refine ww_callVi0 (pc := 71) (As := []) (rest := [.int v3]) C (tX8_n l D k q_this q_now q_text q_row q_read q_outerCell q_outerDoor q_walked q_onWalks q_far q_aside q_wasFull q_undos q_was q_kept q_isKept c_typed c_rowMany (0 : Int32) c_length c_at c_wrong c_outerMany c_walkedMany c_cameOut c_undoMany c_drawn c_now v4 h4) cv_X8_68 ⟨⟨by decide, by decide⟩, rfl, rfl⟩ 0 rfl rfl [0, 1] rfl rfl rfl rfl (Nat.le_of_ble_eq_true rfl) ⟨Nat.zero_le _, Nat.zero_le _⟩ dX8_count_71 (fun hb4 => ?_)
        refine ww_imul (pc := 74) C dX8_count_74  ?_
        obtain ⟨e0, e1⟩ := ij2 hf
        exact hret _ _ 75 _ dX8_count_75 rfl e0 (by rw [← e1])
      · have hf := ifF hs2 hf
        by_cases hs3 : x1 = (3 : Int32)
        · have hf := ifT hs3 hf
          refine ww_tableIn (pc := 6) (off := 70) (tgt := 76) C dX8_count_6 (by rw [hs3]; decide) (by rw [hs3]; decide) (by rw [hs3]; rfl) (by decide) ?_
          refine ww_aload_n (pc := 76) C dX8_count_76 rfl 0 rfl ?_
          refine gf8_0 (pc := 77) C kf_X8_9 0 rfl rfl dX8_count_77 ?_
          refine ww_iconst (pc := 80) C dX8_count_80 kI_1 ?_
          obtain ⟨v5, h5, hf⟩ := bsome hf
          refine ww_iald (pc := 81) C 1 rfl h5 dX8_count_81 ?_
          obtain ⟨e0, e1⟩ := ij2 hf
          exact hret _ _ 82 _ dX8_count_82 rfl e0 (by rw [← e1])
        · have hf := ifF hs3 hf
          by_cases hs4 : x1 = (4 : Int32)
          · have hf := ifT hs4 hf
            refine ww_tableIn (pc := 6) (off := 77) (tgt := 83) C dX8_count_6 (by rw [hs4]; decide) (by rw [hs4]; decide) (by rw [hs4]; rfl) (by decide) ?_
            refine ww_aload_n (pc := 83) C dX8_count_83 rfl 0 rfl ?_
            refine gf8_0 (pc := 84) C kf_X8_9 0 rfl rfl dX8_count_84 ?_
            refine ww_iconst (pc := 87) C dX8_count_87 kI_1 ?_
            obtain ⟨v6, h6, hf⟩ := bsome hf
            refine ww_iald (pc := 88) C 1 rfl h6 dX8_count_88 ?_
            refine ww_iconst (pc := 89) C dX8_count_89 kI_1 ?_
            refine ww_icmp_ne (pc := 90) (tgt := 102) C dX8_count_90 (by decide) (fun hc => ?_) (fun hc => ?_)
            · have hf := ifF hc hf
              refine ww_iconst (pc := 102) C dX8_count_102 kI_0 ?_
              obtain ⟨e0, e1⟩ := ij2 hf
              exact hret _ _ 103 _ dX8_count_103 rfl e0 (by rw [← e1])
            · have hf := ifT hc hf
              refine ww_aload_n (pc := 93) C dX8_count_93 rfl 0 rfl ?_
              refine gf8_0 (pc := 94) C kf_X8_9 0 rfl rfl dX8_count_94 ?_
              refine ww_iconst (pc := 97) C dX8_count_97 kI_2 ?_
              obtain ⟨v7, h7, hf⟩ := bsome hf
              refine ww_iald (pc := 98) C 1 rfl h7 dX8_count_98 ?_
              refine ww_goto (pc := 99) (tgt := 103) C dX8_count_99 (by decide) ?_
              obtain ⟨e0, e1⟩ := ij2 hf
              exact hret _ _ 103 _ dX8_count_103 rfl e0 (by rw [← e1])
          · have hf := ifF hs4 hf
            by_cases hs5 : x1 = (5 : Int32)
            · have hf := ifT hs5 hf
              refine ww_tableIn (pc := 6) (off := 98) (tgt := 104) C dX8_count_6 (by rw [hs5]; decide) (by rw [hs5]; decide) (by rw [hs5]; rfl) (by decide) ?_
              refine ww_aload_n (pc := 104) C dX8_count_104 rfl 0 rfl ?_
              obtain ⟨v8, h8, hf⟩ := bsome hf
              refine ww_callVi0 (pc := 105) (As := []) (rest := []) C (tX8_fullMany l D k q_this q_now q_text q_row q_read q_outerCell q_outerDoor q_walked q_onWalks q_far q_aside q_wasFull q_undos q_was q_kept q_isKept c_typed c_rowMany (0 : Int32) c_length c_at c_wrong c_outerMany c_walkedMany c_cameOut c_undoMany c_drawn c_now v8 h8) cv_X8_226 ⟨⟨by decide, by decide⟩, rfl, rfl⟩ 0 rfl rfl [0, 1] rfl rfl rfl rfl (Nat.le_of_ble_eq_true rfl) ⟨Nat.zero_le _, Nat.zero_le _⟩ dX8_count_105 (fun hb8 => ?_)
              obtain ⟨e0, e1⟩ := ij2 hf
              exact hret _ _ 108 _ dX8_count_108 rfl e0 (by rw [← e1])
            · have hf := ifF hs5 hf
              by_cases hs6 : x1 = (6 : Int32)
              · have hf := ifT hs6 hf
                refine ww_tableIn (pc := 6) (off := 103) (tgt := 109) C dX8_count_6 (by rw [hs6]; decide) (by rw [hs6]; decide) (by rw [hs6]; rfl) (by decide) ?_
                refine ww_aload_n (pc := 109) C dX8_count_109 rfl 0 rfl ?_
                refine gf8_22 (pc := 110) C kf_X8_306 0 rfl rfl dX8_count_110 ?_
                obtain ⟨e0, e1⟩ := ij2 hf
                exact hret _ _ 113 _ dX8_count_113 rfl e0 (by rw [← e1])
              · have hf := ifF hs6 hf
                by_cases hs7 : x1 = (7 : Int32)
                · have hf := ifT hs7 hf
                  refine ww_tableIn (pc := 6) (off := 108) (tgt := 114) C dX8_count_6 (by rw [hs7]; decide) (by rw [hs7]; decide) (by rw [hs7]; rfl) (by decide) ?_
                  refine ww_aload_n (pc := 114) C dX8_count_114 rfl 0 rfl ?_
                  refine gf8_4 (pc := 115) C kf_X8_65 0 rfl rfl dX8_count_115 ?_
                  obtain ⟨e0, e1⟩ := ij2 hf
                  exact hret _ _ 118 _ dX8_count_118 rfl e0 (by rw [← e1])
                · have hf := ifF hs7 hf
                  by_cases hs8 : x1 = (8 : Int32)
                  · have hf := ifT hs8 hf
                    refine ww_tableIn (pc := 6) (off := 113) (tgt := 119) C dX8_count_6 (by rw [hs8]; decide) (by rw [hs8]; decide) (by rw [hs8]; rfl) (by decide) ?_
                    refine ww_aload_n (pc := 119) C dX8_count_119 rfl 0 rfl ?_
                    refine gf8_2 (pc := 120) C kf_X8_126 0 rfl rfl dX8_count_120 ?_
                    obtain ⟨e0, e1⟩ := ij2 hf
                    exact hret _ _ 123 _ dX8_count_123 rfl e0 (by rw [← e1])
                  · have hf := ifF hs8 hf
                    refine ww_tableOut (pc := 6) (tgt := 124) C dX8_count_6 (by have g0 := lv_neT (a := 0) hs0 (by decide); have g1 := lv_neT (a := 1) hs1 (by decide); have g2 := lv_neT (a := 2) hs2 (by decide); have g3 := lv_neT (a := 3) hs3 (by decide); have g4 := lv_neT (a := 4) hs4 (by decide); have g5 := lv_neT (a := 5) hs5 (by decide); have g6 := lv_neT (a := 6) hs6 (by decide); have g7 := lv_neT (a := 7) hs7 (by decide); have g8 := lv_neT (a := 8) hs8 (by decide); omega) (by decide) ?_
                    refine ww_iconst (pc := 124) C dX8_count_124 kI_m1 ?_
                    obtain ⟨e0, e1⟩ := ij2 hf
                    exact hret _ _ 125 _ dX8_count_125 rfl e0 (by rw [← e1])
